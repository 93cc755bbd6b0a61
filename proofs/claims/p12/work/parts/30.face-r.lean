/-! ===== contracts of the reference: the face, where no list changes ===== -/
/-- what asking leaves: all but the number of the refusal, and rows that are in no list -/
def rSm (ρ ρ1 : RS) : Prop := (∀ k : Nat, k ≠ 0 → rI ρ1 k = rI ρ k) ∧ (∀ t : Nat, rZ ρ1 t = rZ ρ t) ∧ (∀ t : Nat, ¬ rFr ρ t → rV ρ1 t = rV ρ t) ∧ rF ρ1 = rF ρ
theorem rSm.rfl' {ρ : RS} : rSm ρ ρ := ⟨fun _ _ => rfl, fun _ => rfl, fun _ _ => rfl, rfl⟩
theorem rSm.in0 {ρ s : RS} {v : Int32} (h : rSm ρ s) : rSm ρ (rin s 0 v) := ⟨fun k hk => (if_neg hk).trans (h.1 k hk), h.2.1, h.2.2.1, h.2.2.2⟩
theorem rFr_cg {ρ ρ1 : RS} (h : ∀ t : Nat, rZ ρ1 t = rZ ρ t) (t : Nat) : rFr ρ1 t ↔ rFr ρ t := by
  unfold rFr
  rw [h 210, h 211, h 212, h 215, h 216]
theorem rSm.trans {ρ ρ1 ρ2 : RS} (h1 : rSm ρ ρ1) (h2 : rSm ρ1 ρ2) : rSm ρ ρ2 := ⟨fun k hk => (h2.1 k hk).trans (h1.1 k hk), fun t => (h2.2.1 t).trans (h1.2.1 t), fun t ht => (h2.2.2.1 t (fun q => ht ((rFr_cg h1.2.1 t).mp q))).trans (h1.2.2.1 t ht), h2.2.2.2.trans h1.2.2.2⟩
/-- a lamp put up and taken away again -/
theorem rSm.la {s : RS} {own : Bool} {mc : Int32} {f : Nat → Int32} (hz : rZ s 210 ≤ 6) : rSm s (rls (rAdd (rar s (300 + rZ s 210) f) 210) 210 own mc (rZ s 210)) := by
  refine ⟨fun _ _ => rfl, fun t => ?_, fun t ht => ?_, rfl⟩
  · show (if t = 210 then rZ s 210 else if t = 210 then rZ s 210 + 1 else rZ s t) = rZ s t
    by_cases q : t = 210
    · rw [if_pos q, q]
    · rw [if_neg q, if_neg q]
  · show (if t = 300 + rZ s 210 then f else rV s t) = rV s t
    refine if_neg (fun q => ht ?_)
    subst q
    unfold rFr
    refine ⟨by omega, by omega, fun _ => by omega, fun h => absurd h (by omega), fun h => absurd h (by omega), fun h => absurd h (by omega), fun h => absurd h (by omega), fun h => absurd h (by omega), fun h => absurd h (by omega), fun h => absurd h (by omega)⟩
abbrev OKR (ρ : RS) (c : Int32) : Prop := 0 ≤ c ∧ c ≤ Int32.ofNat (rZ ρ 201) - 1
abbrev OKG (ρ : RS) (g : Int32) : Prop := 0 ≤ g ∧ g ≤ Int32.ofNat (rZ ρ 212) - 1
abbrev OKm (m : Int32) : Prop := 0 ≤ m ∧ m ≤ 239
abbrev rkd (ρ : RS) (c : Int32) : Int32 := rV ρ 201 (Int32.toNatClampNeg c)
/-- refused: why, by which number -/
abbrev roNo (c : Prop) (n : Int32) (ρ ρ1 : RS) : Prop := c ∧ rI ρ1 0 = n ∧ rSm ρ ρ1
theorem rif {c : Prop} [Decidable c] (h : (if c then (1 : Int32) else 0) = 0) : ¬ c := (yif0' c).mp h
abbrev roLay (cell kind : Int32) (r : Option Value) (ρ ρ1 : RS) : Prop := (OKR ρ cell ∧ (0 ≤ kind ∧ kind ≤ 3) ∧ (kind = 1 → rfree ρ cell) ∧ r = some (.int (rkd ρ cell)) ∧ ρ1 = rar (rin ρ 0 0) 201 (upd (rV ρ 201) (Int32.toNatClampNeg cell) kind)) ∨ roNo (¬ OKR ρ cell) 1 ρ ρ1 ∨ roNo (OKR ρ cell ∧ ¬ (0 ≤ kind ∧ kind ≤ 3)) 2 ρ ρ1 ∨ roNo (OKR ρ cell ∧ (0 ≤ kind ∧ kind ≤ 3) ∧ ¬ (kind = 1 → rfree ρ cell)) 3 ρ ρ1
abbrev rgt (ρ : RS) (c : Nat) : Bool := decide (rV ρ 201 c = 3)
abbrev roGates (from_ to : Int32) (r : Option Value) (ρ ρ1 : RS) : Prop := ((OKm from_ ∧ OKm to) ∧ r = some (.int (Int32.ofNat (cnt (rgt ρ) (rZ ρ 201)))) ∧ ρ1 = rin (rin (rin ρ 0 0) 3 from_) 4 to) ∨ roNo (¬ (OKm from_ ∧ OKm to)) 1 ρ ρ1
abbrev roLight (lamp isLit : Int32) (_r : Option Value) (ρ ρ1 : RS) : Prop := ((0 ≤ lamp ∧ lamp ≤ Int32.ofNat (rZ ρ 210) - 1) ∧ ρ1 = rar (rin ρ 0 0) (300 + (Int32.toNatClampNeg lamp)) (upd (rV ρ (300 + (Int32.toNatClampNeg lamp))) (Int32.toNatClampNeg 2) (if isLit = 0 then 0 else 1))) ∨ roNo (¬ (0 ≤ lamp ∧ lamp ≤ Int32.ofNat (rZ ρ 210) - 1)) 1 ρ ρ1
abbrev roKey (key guard : Int32) (r : Option Value) (ρ ρ1 : RS) : Prop := (((0 ≤ key ∧ key ≤ 5) ∧ (guard = -1 ∨ OKG ρ guard)) ∧ r = some (.int (rV ρ 203 (Int32.toNatClampNeg key))) ∧ ρ1 = rar (rin ρ 0 0) 203 (upd (rV ρ 203) (Int32.toNatClampNeg key) guard)) ∨ roNo (¬ ((0 ≤ key ∧ key ≤ 5) ∧ (guard = -1 ∨ OKG ρ guard))) 1 ρ ρ1
theorem yf3 {ρ : RS} {f : Nat → Int32} {c r o : Int32} (h : rcell ρ c) : rcell ρ (upd (upd (upd f (Int32.toNatClampNeg 0) c) (Int32.toNatClampNeg 1) r) (Int32.toNatClampNeg 2) o 0) := by
  rw [pk_un (by decide), pk_un (by decide)]
  exact (show upd f (Int32.toNatClampNeg 0) c 0 = c from pk_us) ▸ h
theorem kR_n {t : Nat} (h1 : 200 ≤ t) (h2 : t < 600) : ¬ kR t := fun h => by
  rcases h with h | h <;> omega
theorem atR.setIb {aC : Nat → ClassId} {ic : Int32 → Nat} {de : Nat} {ad : Nat → Nat} {G : AH} {ρ : RS} {b k : Nat} {v : Int32} {e1 : va_E} (h : atR aC ic de ad G ρ) (hb : ad 200 = b) (he : e1 = rMod ad (rin ρ k v)) (hr : rb (rin ρ k v)) : atR aC ic de ad (yup G b (200, e1)) (rin ρ k v) := by
  subst hb
  exact h.setI he hr
theorem rFe {ρ : RS} {t n i : Nat} {v : Int32} : rF (rfd ρ t i v) t n = if n = i then v else rF ρ t n := by
  show (if t = t ∧ n = i then v else rF ρ t n) = _
  by_cases c : n = i
  · rw [if_pos ⟨rfl, c⟩, if_pos c]
  · rw [if_neg (fun q => c q.2), if_neg c]
theorem rGd_3 {ad : Nat → Nat} {ρ : RS} {k : Nat} {v : Int32} : (.inr (14, [.int (rF ρ (360 + k) 0), .int (rF ρ (360 + k) 1), .int (rF ρ (360 + k) 2), .ref (ad (380 + k)), .int v, .int (rF ρ (360 + k) 4)]) : va_E) = rGd ad (rfd ρ (360 + k) 3 v) k := by
  simp only [rGd, rFe]
  rfl
theorem rGd_4 {ad : Nat → Nat} {ρ : RS} {k : Nat} {v : Int32} : (.inr (14, [.int (rF ρ (360 + k) 0), .int (rF ρ (360 + k) 1), .int (rF ρ (360 + k) 2), .ref (ad (380 + k)), .int (rF ρ (360 + k) 3), .int v]) : va_E) = rGd ad (rfd ρ (360 + k) 4 v) k := by
  simp only [rGd, rFe]
  rfl
theorem rIn_2 {ad : Nat → Nat} {ρ : RS} {k : Nat} {v : Int32} : (.inr (15, [.int (rF ρ (420 + k) 0), .int (rF ρ (420 + k) 1), .ref (ad (440 + k)), .int v, .int (rF ρ (420 + k) 3)]) : va_E) = rIn ad (rfd ρ (420 + k) 2 v) k := by
  simp only [rIn, rFe]
  rfl
theorem rIn_3 {ad : Nat → Nat} {ρ : RS} {k : Nat} {v : Int32} : (.inr (15, [.int (rF ρ (420 + k) 0), .int (rF ρ (420 + k) 1), .ref (ad (440 + k)), .int (rF ρ (420 + k) 2), .int v]) : va_E) = rIn ad (rfd ρ (420 + k) 3 v) k := by
  simp only [rIn, rFe]
  rfl
theorem yKey {f : Nat → Int32} {N : Nat} (h : ∀ i, i < 6 → f i = -1 ∨ (0 ≤ (f i).toInt ∧ (f i).toInt < (N : Int))) {k v : Int32} (hv : v = -1 ∨ (0 ≤ v.toInt ∧ v.toInt < (N : Int))) : ∀ i, i < 6 → upd f (Int32.toNatClampNeg k) v i = -1 ∨ (0 ≤ (upd f (Int32.toNatClampNeg k) v i).toInt ∧ (upd f (Int32.toNatClampNeg k) v i).toInt < (N : Int)) := by
  intro i hi
  by_cases e : i = Int32.toNatClampNeg k
  · rw [e, pk_us]
    exact hv
  · rw [pk_un e]
    exact h i hi

theorem rgt_init {ρ : RS} : (0 : Int32) = Int32.ofNat (cnt (rgt ρ) (0 : Int32).toInt.toNat) ∧ (0 : Int32).toInt ≤ (rZ ρ 201 : Int) := by
  have e0 : (0 : Int32).toInt = 0 := by decide
  rw [e0]
  exact ⟨rfl, by omega⟩
theorem rgt_step {ρ s : RS} {many len i a from_ to : Int32} (h : many = Int32.ofNat (cnt (rgt ρ) i.toInt.toNat) ∧ i.toInt ≤ (rZ ρ 201 : Int)) (hs : s = rin (rin (rin ρ 0 0) 3 from_) 4 to) (hl : len = Int32.ofNat (rZ s 201)) (n64 : rZ s 201 ≤ 64) (h0 : 0 ≤ i.toInt) (c : ¬ len ≤ i) (ha : (¬ rV s 201 (Int32.toNatClampNeg i) = 3 ∧ a = 0) ∨ (rV s 201 (Int32.toNatClampNeg i) = 3 ∧ a = 1)) : many + a = Int32.ofNat (cnt (rgt ρ) (i + 1).toInt.toNat) ∧ (i + 1).toInt ≤ (rZ ρ 201 : Int) := by
  have e1 : (1 : Int32).toInt = 1 := by decide
  obtain ⟨hm, h64⟩ := h
  rw [hl, yle, yofNat (by omega)] at c
  have e : (i + 1).toInt = i.toInt + 1 := by rw [yadd (by omega) (by omega), e1]
  have en : (i + 1).toInt.toNat = i.toInt.toNat + 1 := by omega
  have hv : rV s 201 = rV ρ 201 := by rw [hs]
  have hz : rZ s 201 = rZ ρ 201 := by rw [hs]
  have ek : Int32.toNatClampNeg i = i.toInt.toNat := rfl
  rw [hv, ek] at ha
  refine ⟨?_, by omega⟩
  rw [en, hm]
  have hc := cnt_le (rgt ρ) i.toInt.toNat
  have ec : cnt (rgt ρ) (i.toInt.toNat + 1) = cnt (rgt ρ) i.toInt.toNat + (if rgt ρ i.toInt.toNat then 1 else 0) := rfl
  rw [ec]
  rcases ha with ⟨ha, rfl⟩ | ⟨ha, rfl⟩
  · rw [if_neg (by rw [decide_eq_true_eq]; exact ha)]
    exact Int32.add_zero _
  · rw [if_pos (decide_eq_true ha)]
    refine (Int32.toInt_inj.mp ?_).symm
    rw [yofNat (by omega), yadd (by rw [yofNat (by omega), e1]; omega) (by rw [yofNat (by omega), e1]; omega), yofNat (by omega), e1]
    omega
theorem rgt_stop {ρ s : RS} {many len i from_ to : Int32} (h : many = Int32.ofNat (cnt (rgt ρ) i.toInt.toNat) ∧ i.toInt ≤ (rZ ρ 201 : Int)) (hs : s = rin (rin (rin ρ 0 0) 3 from_) 4 to) (hl : len = Int32.ofNat (rZ s 201)) (n64 : rZ s 201 ≤ 64) (h0 : 0 ≤ i.toInt) (c : len ≤ i) : many = Int32.ofNat (cnt (rgt ρ) (rZ ρ 201)) := by
  have hz : rZ s 201 = rZ ρ 201 := by rw [hs]
  rw [hl, yle, yofNat (by omega)] at c
  have e : i.toInt.toNat = rZ ρ 201 := by omega
  rw [h.1, e]
/-- what answering and forcing leave -/
def rAn (ρ ρ1 : RS) : Prop := (∀ k : Nat, k ≠ 0 → k ≠ 8 → rI ρ1 k = rI ρ k) ∧ (∀ t : Nat, rZ ρ1 t = rZ ρ t) ∧ (∀ t : Nat, ¬ rFr ρ t → rV ρ1 t = rV ρ t) ∧ ∀ t n : Nat, (n < 2 ∨ (n = 2 ∧ t < 420)) → rF ρ1 t n = rF ρ t n
theorem rAn.sm {ρ s : RS} (h : rSm ρ s) : rAn ρ s := ⟨fun k q _ => h.1 k q, h.2.1, h.2.2.1, fun t n _ => congrFun (congrFun h.2.2.2 t) n⟩
theorem rAn.in {ρ s : RS} {k : Nat} {v : Int32} (h : rAn ρ s) (hk : k = 0 ∨ k = 8) : rAn ρ (rin s k v) := ⟨fun j q0 q8 => (if_neg (by omega)).trans (h.1 j q0 q8), h.2.1, h.2.2.1, h.2.2.2⟩
theorem rAn.fd {ρ s : RS} {t i : Nat} {v : Int32} (h : rAn ρ s) (hi : 3 ≤ i ∨ (i = 2 ∧ 420 ≤ t)) : rAn ρ (rfd s t i v) := ⟨h.1, h.2.1, h.2.2.1, fun j n q => (if_neg (fun z => by omega)).trans (h.2.2.2 j n q)⟩
abbrev OKI (ρ : RS) (g : Int32) : Prop := 0 ≤ g ∧ g ≤ Int32.ofNat (rZ ρ 215) - 1
abbrev roPlace (guard minute : Int32) (r : Option Value) (ρ ρ1 : RS) : Prop := ((OKG ρ guard ∧ OKm minute) ∧ r = some (.int (rpl ρ (Int32.toNatClampNeg guard) minute)) ∧ rI ρ1 0 = 0 ∧ rSm ρ ρ1) ∨ roNo (¬ OKG ρ guard) 1 ρ ρ1 ∨ roNo (OKG ρ guard ∧ ¬ OKm minute) 2 ρ ρ1
abbrev roWhere (intruder minute : Int32) (r : Option Value) (ρ ρ1 : RS) : Prop := ((OKI ρ intruder ∧ OKm minute) ∧ r = some (.int (rwh ρ (Int32.toNatClampNeg intruder) (Int32.toNatClampNeg minute))) ∧ rI ρ1 0 = 0 ∧ rSm ρ ρ1) ∨ roNo (¬ OKI ρ intruder) 1 ρ ρ1 ∨ roNo (OKI ρ intruder ∧ ¬ OKm minute) 2 ρ ρ1
set_option maxHeartbeats 4000000 in
set_option maxRecDepth 100000 in
theorem m_X12_no {l : Launch} {S0 : State} {A0 : Array Value} {D : va_G} {aC : Nat → ClassId} {ic : Int32 → Nat} {de : Nat} {ad : Nat → Nat} {G : AH} {ρ : RS} (hS : yS l S0 A0 D aC) (hI : yIc S0 ic de) (hX : atR aC ic de ad G ρ) (which : Int32) : yM l S0 D yX12_no cX12_no 2 (some .int) 16 0 0 [.ref (ad 200), .int which] G (fun r G1 => r = some (.int 0) ∧ atR aC ic de ad G1 (rin ρ 0 which) ∧ yTg kR G G1) (fun _ _ => False) := by
  refine yM.ofK K_X12_no rfl (by decide) (Nat.le_of_ble_eq_true rfl) ?_
  refine y_blk 2 tq_X12_no (z := (2, [(0, .ref (ad 200)), (1, .int which)], [.int which, .ref (ad 200)])) rfl ?_
  refine y_put hS tq_X12_no rfl fp_X12_51_X12 hX.m (by omega) rfl rfl (Nat.le_of_ble_eq_true rfl) ?_
  have hX2 : atR aC ic de ad (yup G (ad 200) (200, .inr (16, [.int which, .int (rI ρ 1), .int (rI ρ 2), .ref (ad 201), .int (rI ρ 3), .int (rI ρ 4), .ref (ad 210), .ref (ad 211), .ref (ad 212), .ref (ad 213), .int (rI ρ 5), .int (rI ρ 6), .int (rI ρ 7), .ref (ad 202), .ref (ad 214), .int (rI ρ 8), .ref (ad 203), .ref (ad 215), .ref (ad 216), .int (rI ρ 9)]))) ((rin ρ 0 which)) := atR.setIb hX rfl rfl (hX.2.setI (by decide))
  have kt2 : yTg kR G (yup G (ad 200) (200, .inr (16, [.int which, .int (rI ρ 1), .int (rI ρ 2), .ref (ad 201), .int (rI ρ 3), .int (rI ρ 4), .ref (ad 210), .ref (ad 211), .ref (ad 212), .ref (ad 213), .int (rI ρ 5), .int (rI ρ 6), .int (rI ρ 7), .ref (ad 202), .ref (ad 214), .int (rI ρ 8), .ref (ad 203), .ref (ad 215), .ref (ad 216), .int (rI ρ 9)]))) := ((yTg.rfl' (f := kR) (G := G))).trans (yTg.up hX.m (kR_n (by omega) (by omega)))
  show Y l S0 D K_X12_no 16 0 0 (fun r G1 => r = some (.int 0) ∧ atR aC ic de ad G1 (rin ρ 0 which) ∧ yTg kR G G1) (fun _ _ => False) (2 + 3) [(0, .ref (ad 200)), (1, .int which)] [] (yup G (ad 200) (200, .inr (16, [.int which, .int (rI ρ 1), .int (rI ρ 2), .ref (ad 201), .int (rI ρ 3), .int (rI ρ 4), .ref (ad 210), .ref (ad 211), .ref (ad 212), .ref (ad 213), .int (rI ρ 5), .int (rI ρ 6), .int (rI ρ 7), .ref (ad 202), .ref (ad 214), .int (rI ρ 8), .ref (ad 203), .ref (ad 215), .ref (ad 216), .int (rI ρ 9)]))) 0 0
  generalize yup G (ad 200) (200, .inr (16, [.int which, .int (rI ρ 1), .int (rI ρ 2), .ref (ad 201), .int (rI ρ 3), .int (rI ρ 4), .ref (ad 210), .ref (ad 211), .ref (ad 212), .ref (ad 213), .int (rI ρ 5), .int (rI ρ 6), .int (rI ρ 7), .ref (ad 202), .ref (ad 214), .int (rI ρ 8), .ref (ad 203), .ref (ad 215), .ref (ad 216), .int (rI ρ 9)])) = G2 at hX2 kt2 ⊢
  refine y_blk 1 tq_X12_no (z := (6, [(0, .ref (ad 200)), (1, .int which)], [.int 0])) rfl ?_
  exact y_iret tq_X12_no rfl rfl (⟨rfl, hX2, kt2⟩)
set_option maxHeartbeats 4000000 in
set_option maxRecDepth 100000 in
theorem m_X12_knock {l : Launch} {S0 : State} {A0 : Array Value} {D : va_G} {aC : Nat → ClassId} {ic : Int32 → Nat} {de : Nat} {ad : Nat → Nat} {G : AH} {ρ : RS} (hS : yS l S0 A0 D aC) (hI : yIc S0 ic de) (hX : atR aC ic de ad G ρ) : yM l S0 D yX12_knock cX12_knock 1 (some .int) 16 0 0 [.ref (ad 200)] G (fun r G1 => r = some (.int ((rI ρ 9) + 1)) ∧ atR aC ic de ad G1 (rin (rin ρ 0 0) 9 ((rI ρ 9) + 1)) ∧ yTg kR G G1) (fun _ _ => False) := by
  refine yM.ofK K_X12_knock rfl (by decide) (Nat.le_of_ble_eq_true rfl) ?_
  refine y_blk 2 tq_X12_knock (z := (2, [(0, .ref (ad 200))], [.int 0, .ref (ad 200)])) rfl ?_
  refine y_put hS tq_X12_knock rfl fp_X12_51_X12 hX.m (by omega) rfl rfl (Nat.le_of_ble_eq_true rfl) ?_
  have hX2 : atR aC ic de ad (yup G (ad 200) (200, .inr (16, [.int 0, .int (rI ρ 1), .int (rI ρ 2), .ref (ad 201), .int (rI ρ 3), .int (rI ρ 4), .ref (ad 210), .ref (ad 211), .ref (ad 212), .ref (ad 213), .int (rI ρ 5), .int (rI ρ 6), .int (rI ρ 7), .ref (ad 202), .ref (ad 214), .int (rI ρ 8), .ref (ad 203), .ref (ad 215), .ref (ad 216), .int (rI ρ 9)]))) ((rin ρ 0 0)) := atR.setIb hX rfl rfl (hX.2.setI (by decide))
  have kt2 : yTg kR G (yup G (ad 200) (200, .inr (16, [.int 0, .int (rI ρ 1), .int (rI ρ 2), .ref (ad 201), .int (rI ρ 3), .int (rI ρ 4), .ref (ad 210), .ref (ad 211), .ref (ad 212), .ref (ad 213), .int (rI ρ 5), .int (rI ρ 6), .int (rI ρ 7), .ref (ad 202), .ref (ad 214), .int (rI ρ 8), .ref (ad 203), .ref (ad 215), .ref (ad 216), .int (rI ρ 9)]))) := ((yTg.rfl' (f := kR) (G := G))).trans (yTg.up hX.m (kR_n (by omega) (by omega)))
  show Y l S0 D K_X12_knock 16 0 0 (fun r G1 => r = some (.int ((rI ρ 9) + 1)) ∧ atR aC ic de ad G1 (rin (rin ρ 0 0) 9 ((rI ρ 9) + 1)) ∧ yTg kR G G1) (fun _ _ => False) (2 + 3) [(0, .ref (ad 200))] [] (yup G (ad 200) (200, .inr (16, [.int 0, .int (rI ρ 1), .int (rI ρ 2), .ref (ad 201), .int (rI ρ 3), .int (rI ρ 4), .ref (ad 210), .ref (ad 211), .ref (ad 212), .ref (ad 213), .int (rI ρ 5), .int (rI ρ 6), .int (rI ρ 7), .ref (ad 202), .ref (ad 214), .int (rI ρ 8), .ref (ad 203), .ref (ad 215), .ref (ad 216), .int (rI ρ 9)]))) 0 0
  generalize yup G (ad 200) (200, .inr (16, [.int 0, .int (rI ρ 1), .int (rI ρ 2), .ref (ad 201), .int (rI ρ 3), .int (rI ρ 4), .ref (ad 210), .ref (ad 211), .ref (ad 212), .ref (ad 213), .int (rI ρ 5), .int (rI ρ 6), .int (rI ρ 7), .ref (ad 202), .ref (ad 214), .int (rI ρ 8), .ref (ad 203), .ref (ad 215), .ref (ad 216), .int (rI ρ 9)])) = G2 at hX2 kt2 ⊢
  refine y_blk 2 tq_X12_knock (z := (7, [(0, .ref (ad 200))], [.ref (ad 200), .ref (ad 200)])) rfl ?_
  refine y_get hS tq_X12_knock (v := .int (rI ((rin ρ 0 0)) 9)) rfl fg_X12_294_X12 hX2.m rfl ?_
  refine y_blk 2 tq_X12_knock (z := (12, [(0, .ref (ad 200))], [.int ((rI ((rin ρ 0 0)) 9) + 1), .ref (ad 200)])) rfl ?_
  refine y_put hS tq_X12_knock rfl fp_X12_294_X12 hX2.m (by omega) rfl rfl (Nat.le_of_ble_eq_true rfl) ?_
  have hX12 : atR aC ic de ad (yup G2 (ad 200) (200, .inr (16, [.int (rI ((rin ρ 0 0)) 0), .int (rI ((rin ρ 0 0)) 1), .int (rI ((rin ρ 0 0)) 2), .ref (ad 201), .int (rI ((rin ρ 0 0)) 3), .int (rI ((rin ρ 0 0)) 4), .ref (ad 210), .ref (ad 211), .ref (ad 212), .ref (ad 213), .int (rI ((rin ρ 0 0)) 5), .int (rI ((rin ρ 0 0)) 6), .int (rI ((rin ρ 0 0)) 7), .ref (ad 202), .ref (ad 214), .int (rI ((rin ρ 0 0)) 8), .ref (ad 203), .ref (ad 215), .ref (ad 216), .int ((rI ((rin ρ 0 0)) 9) + 1)]))) ((rin ((rin ρ 0 0)) 9 ((rI ((rin ρ 0 0)) 9) + 1))) := atR.setIb hX2 rfl rfl (hX2.2.setI (by decide))
  have kt12 : yTg kR G (yup G2 (ad 200) (200, .inr (16, [.int (rI ((rin ρ 0 0)) 0), .int (rI ((rin ρ 0 0)) 1), .int (rI ((rin ρ 0 0)) 2), .ref (ad 201), .int (rI ((rin ρ 0 0)) 3), .int (rI ((rin ρ 0 0)) 4), .ref (ad 210), .ref (ad 211), .ref (ad 212), .ref (ad 213), .int (rI ((rin ρ 0 0)) 5), .int (rI ((rin ρ 0 0)) 6), .int (rI ((rin ρ 0 0)) 7), .ref (ad 202), .ref (ad 214), .int (rI ((rin ρ 0 0)) 8), .ref (ad 203), .ref (ad 215), .ref (ad 216), .int ((rI ((rin ρ 0 0)) 9) + 1)]))) := (kt2).trans (yTg.up hX2.m (kR_n (by omega) (by omega)))
  show Y l S0 D K_X12_knock 16 0 0 (fun r G1 => r = some (.int ((rI ρ 9) + 1)) ∧ atR aC ic de ad G1 (rin (rin ρ 0 0) 9 ((rI ρ 9) + 1)) ∧ yTg kR G G1) (fun _ _ => False) (12 + 3) [(0, .ref (ad 200))] [] (yup G2 (ad 200) (200, .inr (16, [.int (rI ((rin ρ 0 0)) 0), .int (rI ((rin ρ 0 0)) 1), .int (rI ((rin ρ 0 0)) 2), .ref (ad 201), .int (rI ((rin ρ 0 0)) 3), .int (rI ((rin ρ 0 0)) 4), .ref (ad 210), .ref (ad 211), .ref (ad 212), .ref (ad 213), .int (rI ((rin ρ 0 0)) 5), .int (rI ((rin ρ 0 0)) 6), .int (rI ((rin ρ 0 0)) 7), .ref (ad 202), .ref (ad 214), .int (rI ((rin ρ 0 0)) 8), .ref (ad 203), .ref (ad 215), .ref (ad 216), .int ((rI ((rin ρ 0 0)) 9) + 1)]))) 0 0
  generalize yup G2 (ad 200) (200, .inr (16, [.int (rI ((rin ρ 0 0)) 0), .int (rI ((rin ρ 0 0)) 1), .int (rI ((rin ρ 0 0)) 2), .ref (ad 201), .int (rI ((rin ρ 0 0)) 3), .int (rI ((rin ρ 0 0)) 4), .ref (ad 210), .ref (ad 211), .ref (ad 212), .ref (ad 213), .int (rI ((rin ρ 0 0)) 5), .int (rI ((rin ρ 0 0)) 6), .int (rI ((rin ρ 0 0)) 7), .ref (ad 202), .ref (ad 214), .int (rI ((rin ρ 0 0)) 8), .ref (ad 203), .ref (ad 215), .ref (ad 216), .int ((rI ((rin ρ 0 0)) 9) + 1)])) = G12 at hX12 kt12 ⊢
  refine y_blk 1 tq_X12_knock (z := (16, [(0, .ref (ad 200))], [.ref (ad 200)])) rfl ?_
  refine y_get hS tq_X12_knock (v := .int (rI ((rin ((rin ρ 0 0)) 9 ((rI ((rin ρ 0 0)) 9) + 1))) 9)) rfl fg_X12_294_X12 hX12.m rfl ?_
  refine y_blk 0 tq_X12_knock (z := (19, [(0, .ref (ad 200))], [.int (rI ((rin ((rin ρ 0 0)) 9 ((rI ((rin ρ 0 0)) 9) + 1))) 9)])) rfl ?_
  exact y_iret tq_X12_knock rfl rfl (⟨rfl, hX12, kt12⟩)
set_option maxHeartbeats 4000000 in
set_option maxRecDepth 100000 in
theorem m_X12_place {l : Launch} {S0 : State} {A0 : Array Value} {D : va_G} {aC : Nat → ClassId} {ic : Int32 → Nat} {de : Nat} {ad : Nat → Nat} {G : AH} {ρ : RS} (hS : yS l S0 A0 D aC) (hI : yIc S0 ic de) (hX : atR aC ic de ad G ρ) (guard : Int32) (minute : Int32) : yM l S0 D yX12_place cX12_place 3 (some .int) 19 0 0 [.ref (ad 200), .int guard, .int minute] G (fun r G1 => (∃ v : Int32, r = some (.int v)) ∧ ∃ (ad1 : Nat → Nat) (ρ1 : RS), atR aC ic de ad1 G1 ρ1 ∧ ad1 200 = ad 200 ∧ yTg kR G G1 ∧ roPlace guard minute r ρ ρ1) (fun _ _ => False) := by
  refine yM.ofK K_X12_place rfl (by decide) (Nat.le_of_ble_eq_true rfl) ?_
  refine y_blk 2 tq_X12_place (z := (2, [(0, .ref (ad 200)), (1, .int guard), (2, .int minute)], [.int 0, .ref (ad 200)])) rfl ?_
  refine y_put hS tq_X12_place rfl fp_X12_51_X12 hX.m (by omega) rfl rfl (Nat.le_of_ble_eq_true rfl) ?_
  have hX2 : atR aC ic de ad (yup G (ad 200) (200, .inr (16, [.int 0, .int (rI ρ 1), .int (rI ρ 2), .ref (ad 201), .int (rI ρ 3), .int (rI ρ 4), .ref (ad 210), .ref (ad 211), .ref (ad 212), .ref (ad 213), .int (rI ρ 5), .int (rI ρ 6), .int (rI ρ 7), .ref (ad 202), .ref (ad 214), .int (rI ρ 8), .ref (ad 203), .ref (ad 215), .ref (ad 216), .int (rI ρ 9)]))) ((rin ρ 0 0)) := atR.setIb hX rfl rfl (hX.2.setI (by decide))
  have kt2 : yTg kR G (yup G (ad 200) (200, .inr (16, [.int 0, .int (rI ρ 1), .int (rI ρ 2), .ref (ad 201), .int (rI ρ 3), .int (rI ρ 4), .ref (ad 210), .ref (ad 211), .ref (ad 212), .ref (ad 213), .int (rI ρ 5), .int (rI ρ 6), .int (rI ρ 7), .ref (ad 202), .ref (ad 214), .int (rI ρ 8), .ref (ad 203), .ref (ad 215), .ref (ad 216), .int (rI ρ 9)]))) := ((yTg.rfl' (f := kR) (G := G))).trans (yTg.up hX.m (kR_n (by omega) (by omega)))
  show Y l S0 D K_X12_place 19 0 0 (fun r G1 => (∃ v : Int32, r = some (.int v)) ∧ ∃ (ad1 : Nat → Nat) (ρ1 : RS), atR aC ic de ad1 G1 ρ1 ∧ ad1 200 = ad 200 ∧ yTg kR G G1 ∧ roPlace guard minute r ρ ρ1) (fun _ _ => False) (2 + 3) [(0, .ref (ad 200)), (1, .int guard), (2, .int minute)] [] (yup G (ad 200) (200, .inr (16, [.int 0, .int (rI ρ 1), .int (rI ρ 2), .ref (ad 201), .int (rI ρ 3), .int (rI ρ 4), .ref (ad 210), .ref (ad 211), .ref (ad 212), .ref (ad 213), .int (rI ρ 5), .int (rI ρ 6), .int (rI ρ 7), .ref (ad 202), .ref (ad 214), .int (rI ρ 8), .ref (ad 203), .ref (ad 215), .ref (ad 216), .int (rI ρ 9)]))) 0 0
  generalize yup G (ad 200) (200, .inr (16, [.int 0, .int (rI ρ 1), .int (rI ρ 2), .ref (ad 201), .int (rI ρ 3), .int (rI ρ 4), .ref (ad 210), .ref (ad 211), .ref (ad 212), .ref (ad 213), .int (rI ρ 5), .int (rI ρ 6), .int (rI ρ 7), .ref (ad 202), .ref (ad 214), .int (rI ρ 8), .ref (ad 203), .ref (ad 215), .ref (ad 216), .int (rI ρ 9)])) = G2 at hX2 kt2 ⊢
  refine y_blk 2 tq_X12_place (z := (7, [(0, .ref (ad 200)), (1, .int guard), (2, .int minute)], [.int guard, .ref (ad 200)])) rfl ?_
  refine y_callV hS tq_X12_place rfl (As := [.int guard]) rfl cv_X12_176 hX2.m (m_X12_isGuard hS hI hX2 guard) rfl (by decide) (Nat.le_of_ble_eq_true rfl) (fun r7 Gc7 q7 => ?_) (fun E9 G9 h9 => h9.elim)
  obtain ⟨rfl, eG7⟩ := q7
  have eG7 := eG7.symm
  subst eG7
  refine y_blk 0 tq_X12_place (z := (10, [(0, .ref (ad 200)), (1, .int guard), (2, .int minute)], [.int (if 0 ≤ guard ∧ guard ≤ (Int32.ofNat (rZ ((rin ρ 0 0)) 212)) - 1 then 1 else 0)])) rfl ?_
  refine y_if_ne tq_X12_place 19 rfl rfl (fun c10 => ?_) (fun c10 => ?_)
  · skip
    have hq10 := yif1 c10
    have hn10 := yinN (n := rZ ((rin ρ 0 0)) 212) (by have := hX2.2.le10 212 (by decide); omega) hq10
    have ha10 := hn10.1
    have hb10 := hn10.2
    refine y_blk 1 tq_X12_place (z := (20, [(0, .ref (ad 200)), (1, .int guard), (2, .int minute)], [.int minute])) rfl ?_
    refine y_callS hS tq_X12_place rfl (As := [.int minute]) rfl cs_X12_163 (m_X12_isMinute hS minute) rfl (by decide) (Nat.le_of_ble_eq_true rfl) (fun r20 Gc20 q20 => ?_) (fun E9 G9 h9 => h9.elim)
    obtain ⟨rfl, eG20⟩ := q20
    have eG20 := eG20.symm
    subst eG20
    refine y_blk 0 tq_X12_place (z := (23, [(0, .ref (ad 200)), (1, .int guard), (2, .int minute)], [.int (if 0 ≤ minute ∧ minute ≤ 239 then 1 else 0)])) rfl ?_
    refine y_if_ne tq_X12_place 32 rfl rfl (fun c23 => ?_) (fun c23 => ?_)
    · skip
      have hq23 := yif1 c23
      simp only [yle, yl_m1, yl_0, yl_1, yl_2, yl_3, yl_4, yl_5, yl_6, yl_7, yl_8, yl_9, yl_10, yl_11, yl_12, yl_60, yl_90, yl_239, yl_240] at hq23
      have ha23 := hq23.1
      have hb23 := hq23.2
      refine y_blk 1 tq_X12_place (z := (33, [(0, .ref (ad 200)), (1, .int guard), (2, .int minute)], [.ref (ad 200)])) rfl ?_
      refine y_get hS tq_X12_place (v := .ref (ad 212)) rfl fg_X12_27_X12 hX2.m rfl ?_
      refine y_blk 1 tq_X12_place (z := (37, [(0, .ref (ad 200)), (1, .int guard), (2, .int minute)], [.int guard, .ref (ad 212)])) rfl ?_
      refine y_callF hS tq_X12_place rfl (As := [.int guard]) rfl cf_X12_80 (Or.inl ⟨_, (hX2.ls 212 (by decide)).1⟩) (m_Rgu hS hX2 (by assumption) (by assumption)) rfl (by decide) (Nat.le_of_ble_eq_true rfl) (fun r37 Gc37 q37 => ?_) (fun _ _ h9 => h9.elim)
      obtain ⟨rfl, eG37⟩ := q37
      have eG37 := eG37.symm
      subst eG37
      have d37 : (Int32.toNatClampNeg guard) < rZ ((rin ρ 0 0)) 212 := yIx (by assumption) (by assumption)
      refine y_blk 0 tq_X12_place (z := (42, [(0, .ref (ad 200)), (1, .int guard), (2, .int minute)], [.ref (ad (360 + (Int32.toNatClampNeg guard)))])) rfl ?_
      refine y_castG hS tq_X12_place rfl kc_X12_84 (Or.inl ⟨_, (hX2.gu (by assumption))⟩) ?_
      refine y_blk 1 tq_X12_place (z := (46, [(0, .ref (ad 200)), (1, .int guard), (2, .int minute)], [.int minute, .ref (ad (360 + (Int32.toNatClampNeg guard)))])) rfl ?_
      refine y_callV hS tq_X12_place rfl (As := [.int minute]) rfl cv_X12_124 (hX2.gu (by assumption)) (m_X10_place hS hI hX2 (k := (Int32.toNatClampNeg guard)) (by assumption) minute) rfl (by decide) (Nat.le_of_ble_eq_true rfl) (fun r46 Gc46 q46 => ?_) (fun E9 G9 h9 => h9.elim)
      obtain ⟨⟨x46, hr_x46, rfl⟩, eG46⟩ := q46
      have eG46 := eG46.symm
      subst eG46
      refine y_blk 0 tq_X12_place (z := (49, [(0, .ref (ad 200)), (1, .int guard), (2, .int minute)], [.int x46])) rfl ?_
      exact y_iret tq_X12_place rfl rfl (⟨⟨_, rfl⟩, ad, _, hX2, rfl, kt2, Or.inl (⟨⟨yif1 c10, yif1 c23⟩, congrArg (fun z => some (Value.int z)) hr_x46.2, rfl, (rSm.in0 rSm.rfl')⟩)⟩)
    · skip
      refine y_blk 2 tq_X12_place (z := (28, [(0, .ref (ad 200)), (1, .int guard), (2, .int minute)], [.int 2, .ref (ad 200)])) rfl ?_
      refine y_callV hS tq_X12_place rfl (As := [.int 2]) rfl cv_X12_140 hX2.m (m_X12_no hS hI hX2 2) rfl (by decide) (Nat.le_of_ble_eq_true rfl) (fun r28 Gc28 q28 => ?_) (fun E9 G9 h9 => h9.elim)
      obtain ⟨rfl, hX28, kt28_⟩ := q28
      have kt28 := (kt2).trans kt28_
      refine y_blk 0 tq_X12_place (z := (31, [(0, .ref (ad 200)), (1, .int guard), (2, .int minute)], [.int 0])) rfl ?_
      exact y_iret tq_X12_place rfl rfl (⟨⟨_, rfl⟩, ad, _, hX28, rfl, kt28, Or.inr (Or.inr (⟨⟨yif1 c10, rif c23⟩, rfl, (rSm.in0 (rSm.in0 rSm.rfl'))⟩))⟩)
  · skip
    refine y_blk 2 tq_X12_place (z := (15, [(0, .ref (ad 200)), (1, .int guard), (2, .int minute)], [.int 1, .ref (ad 200)])) rfl ?_
    refine y_callV hS tq_X12_place rfl (As := [.int 1]) rfl cv_X12_140 hX2.m (m_X12_no hS hI hX2 1) rfl (by decide) (Nat.le_of_ble_eq_true rfl) (fun r15 Gc15 q15 => ?_) (fun E9 G9 h9 => h9.elim)
    obtain ⟨rfl, hX15, kt15_⟩ := q15
    have kt15 := (kt2).trans kt15_
    refine y_blk 0 tq_X12_place (z := (18, [(0, .ref (ad 200)), (1, .int guard), (2, .int minute)], [.int 0])) rfl ?_
    exact y_iret tq_X12_place rfl rfl (⟨⟨_, rfl⟩, ad, _, hX15, rfl, kt15, Or.inr (Or.inl (⟨rif c10, rfl, (rSm.in0 (rSm.in0 rSm.rfl'))⟩))⟩)
set_option maxHeartbeats 4000000 in
set_option maxRecDepth 100000 in
theorem m_X12_sees_ {l : Launch} {S0 : State} {A0 : Array Value} {D : va_G} {aC : Nat → ClassId} {ic : Int32 → Nat} {de : Nat} {ad : Nat → Nat} {G : AH} {ρ : RS} (hS : yS l S0 A0 D aC) (hI : yIc S0 ic de) (hX : atR aC ic de ad G ρ) (guard : Int32) (cell : Int32) (minute : Int32) : yM l S0 D yX12_sees_ cX12_sees_ 4 (some .boolean) 21 0 0 [.ref (ad 200), .int guard, .int cell, .int minute] G (fun r G1 => (∃ v : Int32, (v = 0 ∨ v = 1) ∧ r = some (.int v)) ∧ ∃ (ad1 : Nat → Nat) (ρ1 : RS), atR aC ic de ad1 G1 ρ1 ∧ ad1 200 = ad 200 ∧ yTg kR G G1 ∧ rSm ρ ρ1) (fun _ _ => False) := by
  refine yM.ofK K_X12_sees_ rfl (by decide) (Nat.le_of_ble_eq_true rfl) ?_
  refine y_blk 2 tq_X12_sees_ (z := (2, [(0, .ref (ad 200)), (1, .int guard), (2, .int cell), (3, .int minute)], [.int 0, .ref (ad 200)])) rfl ?_
  refine y_put hS tq_X12_sees_ rfl fp_X12_51_X12 hX.m (by omega) rfl rfl (Nat.le_of_ble_eq_true rfl) ?_
  have hX2 : atR aC ic de ad (yup G (ad 200) (200, .inr (16, [.int 0, .int (rI ρ 1), .int (rI ρ 2), .ref (ad 201), .int (rI ρ 3), .int (rI ρ 4), .ref (ad 210), .ref (ad 211), .ref (ad 212), .ref (ad 213), .int (rI ρ 5), .int (rI ρ 6), .int (rI ρ 7), .ref (ad 202), .ref (ad 214), .int (rI ρ 8), .ref (ad 203), .ref (ad 215), .ref (ad 216), .int (rI ρ 9)]))) ((rin ρ 0 0)) := atR.setIb hX rfl rfl (hX.2.setI (by decide))
  have kt2 : yTg kR G (yup G (ad 200) (200, .inr (16, [.int 0, .int (rI ρ 1), .int (rI ρ 2), .ref (ad 201), .int (rI ρ 3), .int (rI ρ 4), .ref (ad 210), .ref (ad 211), .ref (ad 212), .ref (ad 213), .int (rI ρ 5), .int (rI ρ 6), .int (rI ρ 7), .ref (ad 202), .ref (ad 214), .int (rI ρ 8), .ref (ad 203), .ref (ad 215), .ref (ad 216), .int (rI ρ 9)]))) := ((yTg.rfl' (f := kR) (G := G))).trans (yTg.up hX.m (kR_n (by omega) (by omega)))
  show Y l S0 D K_X12_sees_ 21 0 0 (fun r G1 => (∃ v : Int32, (v = 0 ∨ v = 1) ∧ r = some (.int v)) ∧ ∃ (ad1 : Nat → Nat) (ρ1 : RS), atR aC ic de ad1 G1 ρ1 ∧ ad1 200 = ad 200 ∧ yTg kR G G1 ∧ rSm ρ ρ1) (fun _ _ => False) (2 + 3) [(0, .ref (ad 200)), (1, .int guard), (2, .int cell), (3, .int minute)] [] (yup G (ad 200) (200, .inr (16, [.int 0, .int (rI ρ 1), .int (rI ρ 2), .ref (ad 201), .int (rI ρ 3), .int (rI ρ 4), .ref (ad 210), .ref (ad 211), .ref (ad 212), .ref (ad 213), .int (rI ρ 5), .int (rI ρ 6), .int (rI ρ 7), .ref (ad 202), .ref (ad 214), .int (rI ρ 8), .ref (ad 203), .ref (ad 215), .ref (ad 216), .int (rI ρ 9)]))) 0 0
  generalize yup G (ad 200) (200, .inr (16, [.int 0, .int (rI ρ 1), .int (rI ρ 2), .ref (ad 201), .int (rI ρ 3), .int (rI ρ 4), .ref (ad 210), .ref (ad 211), .ref (ad 212), .ref (ad 213), .int (rI ρ 5), .int (rI ρ 6), .int (rI ρ 7), .ref (ad 202), .ref (ad 214), .int (rI ρ 8), .ref (ad 203), .ref (ad 215), .ref (ad 216), .int (rI ρ 9)])) = G2 at hX2 kt2 ⊢
  refine y_blk 2 tq_X12_sees_ (z := (7, [(0, .ref (ad 200)), (1, .int guard), (2, .int cell), (3, .int minute)], [.int (-1), .int guard])) rfl ?_
  refine y_icmp_eq tq_X12_sees_ 18 rfl rfl (fun c7 => ?_) (fun c7 => ?_)
  · skip
    refine y_blk 2 tq_X12_sees_ (z := (20, [(0, .ref (ad 200)), (1, .int guard), (2, .int cell), (3, .int minute)], [.int cell, .ref (ad 200)])) rfl ?_
    refine y_callV hS tq_X12_sees_ rfl (As := [.int cell]) rfl cv_X12_157 hX2.m (m_X12_isCell hS hI hX2 cell) rfl (by decide) (Nat.le_of_ble_eq_true rfl) (fun r20 Gc20 q20 => ?_) (fun E9 G9 h9 => h9.elim)
    obtain ⟨rfl, eG20⟩ := q20
    have eG20 := eG20.symm
    subst eG20
    refine y_blk 0 tq_X12_sees_ (z := (23, [(0, .ref (ad 200)), (1, .int guard), (2, .int cell), (3, .int minute)], [.int (if 0 ≤ cell ∧ cell ≤ (Int32.ofNat (rZ ((rin ρ 0 0)) 201)) - 1 then 1 else 0)])) rfl ?_
    refine y_if_ne tq_X12_sees_ 40 rfl rfl (fun c23 => ?_) (fun c23 => ?_)
    · skip
      have hq23 := yif1 c23
      have hn23 := yinN (n := rZ ((rin ρ 0 0)) 201) (by have := hX2.2.n64; omega) hq23
      have ha23 := hn23.1
      have hb23 := hn23.2
      refine y_blk 1 tq_X12_sees_ (z := (41, [(0, .ref (ad 200)), (1, .int guard), (2, .int cell), (3, .int minute)], [.int minute])) rfl ?_
      refine y_callS hS tq_X12_sees_ rfl (As := [.int minute]) rfl cs_X12_163 (m_X12_isMinute hS minute) rfl (by decide) (Nat.le_of_ble_eq_true rfl) (fun r41 Gc41 q41 => ?_) (fun E9 G9 h9 => h9.elim)
      obtain ⟨rfl, eG41⟩ := q41
      have eG41 := eG41.symm
      subst eG41
      refine y_blk 0 tq_X12_sees_ (z := (44, [(0, .ref (ad 200)), (1, .int guard), (2, .int cell), (3, .int minute)], [.int (if 0 ≤ minute ∧ minute ≤ 239 then 1 else 0)])) rfl ?_
      refine y_if_ne tq_X12_sees_ 61 rfl rfl (fun c44 => ?_) (fun c44 => ?_)
      · skip
        have hq44 := yif1 c44
        simp only [yle, yl_m1, yl_0, yl_1, yl_2, yl_3, yl_4, yl_5, yl_6, yl_7, yl_8, yl_9, yl_10, yl_11, yl_12, yl_60, yl_90, yl_239, yl_240] at hq44
        have ha44 := hq44.1
        have hb44 := hq44.2
        refine y_blk 2 tq_X12_sees_ (z := (63, [(0, .ref (ad 200)), (1, .int guard), (2, .int cell), (3, .int minute)], [.int (-1), .int guard])) rfl ?_
        refine y_icmp_ne tq_X12_sees_ 75 rfl rfl (fun c63 => ?_) (fun c63 => ?_)
        · skip
          refine y_blk 3 tq_X12_sees_ (z := (78, [(0, .ref (ad 200)), (1, .int guard), (2, .int cell), (3, .int minute)], [.int minute, .int cell, .ref (ad 200)])) rfl ?_
          refine y_callV hS tq_X12_sees_ rfl (As := [.int cell, .int minute]) rfl cv_X12_186 hX2.m (m_X12_seers hS hI hX2 cell minute (by first | (with_reducible assumption) | (with_reducible exact hX2.lac (by assumption)) | (with_reducible exact hX2.poc (by assumption)) | (with_reducible exact hX2.wac (by assumption) (by assumption) (by omega)) | assumption | exact hX2.lac (by assumption) | exact hX2.poc (by assumption) | exact hX2.wac (by assumption) (by assumption) (by omega))) rfl (by decide) (Nat.le_of_ble_eq_true rfl) (fun r78 Gc78 q78 => ?_) (fun E9 G9 h9 => h9.elim)
          obtain ⟨⟨x78, rfl⟩, eG78⟩ := q78
          have eG78 := eG78.symm
          subst eG78
          refine y_blk 5 tq_X12_sees_ (z := (86, [(0, .ref (ad 200)), (1, .int guard), (2, .int cell), (3, .int minute)], [.int 1, .int ((x78 >>> (guard &&& 31)) &&& 1)])) rfl ?_
          refine y_icmp_ne tq_X12_sees_ 93 rfl rfl (fun c86 => ?_) (fun c86 => ?_)
          · skip
            refine y_blk 1 tq_X12_sees_ (z := (94, [(0, .ref (ad 200)), (1, .int guard), (2, .int cell), (3, .int minute)], [.int 0])) rfl ?_
            exact y_zret tq_X12_sees_ rfl rfl (rfl) (⟨⟨_, (Or.inl rfl), rfl⟩, ad, _, hX2, rfl, kt2, (rSm.in0 rSm.rfl')⟩)
          · skip
            refine y_blk 2 tq_X12_sees_ (z := (94, [(0, .ref (ad 200)), (1, .int guard), (2, .int cell), (3, .int minute)], [.int 1])) rfl ?_
            exact y_zret tq_X12_sees_ rfl rfl (rfl) (⟨⟨_, (Or.inr rfl), rfl⟩, ad, _, hX2, rfl, kt2, (rSm.in0 rSm.rfl')⟩)
        · skip
          refine y_blk 3 tq_X12_sees_ (z := (69, [(0, .ref (ad 200)), (1, .int guard), (2, .int cell), (3, .int minute)], [.int minute, .int cell, .ref (ad 200)])) rfl ?_
          refine y_callV hS tq_X12_sees_ rfl (As := [.int cell, .int minute]) rfl cv_X12_183 hX2.m (m_X12_isWatched hS hI hX2 cell minute (by first | (with_reducible assumption) | (with_reducible exact hX2.lac (by assumption)) | (with_reducible exact hX2.poc (by assumption)) | (with_reducible exact hX2.wac (by assumption) (by assumption) (by omega)) | assumption | exact hX2.lac (by assumption) | exact hX2.poc (by assumption) | exact hX2.wac (by assumption) (by assumption) (by omega))) rfl (by decide) (Nat.le_of_ble_eq_true rfl) (fun r69 Gc69 q69 => ?_) (fun E9 G9 h9 => h9.elim)
          obtain ⟨⟨x69, hb_x69, rfl⟩, eG69⟩ := q69
          have eG69 := eG69.symm
          subst eG69
          refine y_blk 1 tq_X12_sees_ (z := (94, [(0, .ref (ad 200)), (1, .int guard), (2, .int cell), (3, .int minute)], [.int x69])) rfl ?_
          exact y_zret tq_X12_sees_ rfl rfl (y01 hb_x69) (⟨⟨_, hb_x69, rfl⟩, ad, _, hX2, rfl, kt2, (rSm.in0 rSm.rfl')⟩)
      · skip
        refine y_blk 2 tq_X12_sees_ (z := (49, [(0, .ref (ad 200)), (1, .int guard), (2, .int cell), (3, .int minute)], [.int 2, .ref (ad 200)])) rfl ?_
        refine y_callV hS tq_X12_sees_ rfl (As := [.int 2]) rfl cv_X12_140 hX2.m (m_X12_no hS hI hX2 2) rfl (by decide) (Nat.le_of_ble_eq_true rfl) (fun r49 Gc49 q49 => ?_) (fun E9 G9 h9 => h9.elim)
        obtain ⟨rfl, hX49, kt49_⟩ := q49
        have kt49 := (kt2).trans kt49_
        refine y_blk 0 tq_X12_sees_ (z := (52, [(0, .ref (ad 200)), (1, .int guard), (2, .int cell), (3, .int minute)], [.int 0])) rfl ?_
        refine y_if_le tq_X12_sees_ 59 rfl rfl (fun c52 => ?_) (fun c52 => ?_)
        · skip
          refine y_blk 1 tq_X12_sees_ (z := (60, [(0, .ref (ad 200)), (1, .int guard), (2, .int cell), (3, .int minute)], [.int 0])) rfl ?_
          exact y_zret tq_X12_sees_ rfl rfl (rfl) (⟨⟨_, (Or.inl rfl), rfl⟩, ad, _, hX49, rfl, kt49, (rSm.in0 (rSm.in0 rSm.rfl'))⟩)
        · skip
          refine y_blk 2 tq_X12_sees_ (z := (60, [(0, .ref (ad 200)), (1, .int guard), (2, .int cell), (3, .int minute)], [.int 1])) rfl ?_
          exact y_zret tq_X12_sees_ rfl rfl (rfl) (⟨⟨_, (Or.inr rfl), rfl⟩, ad, _, hX49, rfl, kt49, (rSm.in0 (rSm.in0 rSm.rfl'))⟩)
    · skip
      refine y_blk 2 tq_X12_sees_ (z := (28, [(0, .ref (ad 200)), (1, .int guard), (2, .int cell), (3, .int minute)], [.int 1, .ref (ad 200)])) rfl ?_
      refine y_callV hS tq_X12_sees_ rfl (As := [.int 1]) rfl cv_X12_140 hX2.m (m_X12_no hS hI hX2 1) rfl (by decide) (Nat.le_of_ble_eq_true rfl) (fun r28 Gc28 q28 => ?_) (fun E9 G9 h9 => h9.elim)
      obtain ⟨rfl, hX28, kt28_⟩ := q28
      have kt28 := (kt2).trans kt28_
      refine y_blk 0 tq_X12_sees_ (z := (31, [(0, .ref (ad 200)), (1, .int guard), (2, .int cell), (3, .int minute)], [.int 0])) rfl ?_
      refine y_if_le tq_X12_sees_ 38 rfl rfl (fun c31 => ?_) (fun c31 => ?_)
      · skip
        refine y_blk 1 tq_X12_sees_ (z := (39, [(0, .ref (ad 200)), (1, .int guard), (2, .int cell), (3, .int minute)], [.int 0])) rfl ?_
        exact y_zret tq_X12_sees_ rfl rfl (rfl) (⟨⟨_, (Or.inl rfl), rfl⟩, ad, _, hX28, rfl, kt28, (rSm.in0 (rSm.in0 rSm.rfl'))⟩)
      · skip
        refine y_blk 2 tq_X12_sees_ (z := (39, [(0, .ref (ad 200)), (1, .int guard), (2, .int cell), (3, .int minute)], [.int 1])) rfl ?_
        exact y_zret tq_X12_sees_ rfl rfl (rfl) (⟨⟨_, (Or.inr rfl), rfl⟩, ad, _, hX28, rfl, kt28, (rSm.in0 (rSm.in0 rSm.rfl'))⟩)
  · skip
    refine y_blk 2 tq_X12_sees_ (z := (12, [(0, .ref (ad 200)), (1, .int guard), (2, .int cell), (3, .int minute)], [.int guard, .ref (ad 200)])) rfl ?_
    refine y_callV hS tq_X12_sees_ rfl (As := [.int guard]) rfl cv_X12_176 hX2.m (m_X12_isGuard hS hI hX2 guard) rfl (by decide) (Nat.le_of_ble_eq_true rfl) (fun r12 Gc12 q12 => ?_) (fun E9 G9 h9 => h9.elim)
    obtain ⟨rfl, eG12⟩ := q12
    have eG12 := eG12.symm
    subst eG12
    refine y_blk 0 tq_X12_sees_ (z := (15, [(0, .ref (ad 200)), (1, .int guard), (2, .int cell), (3, .int minute)], [.int (if 0 ≤ guard ∧ guard ≤ (Int32.ofNat (rZ ((rin ρ 0 0)) 212)) - 1 then 1 else 0)])) rfl ?_
    refine y_if_eq tq_X12_sees_ 26 rfl rfl (fun c15 => ?_) (fun c15 => ?_)
    · skip
      refine y_blk 2 tq_X12_sees_ (z := (28, [(0, .ref (ad 200)), (1, .int guard), (2, .int cell), (3, .int minute)], [.int 1, .ref (ad 200)])) rfl ?_
      refine y_callV hS tq_X12_sees_ rfl (As := [.int 1]) rfl cv_X12_140 hX2.m (m_X12_no hS hI hX2 1) rfl (by decide) (Nat.le_of_ble_eq_true rfl) (fun r28 Gc28 q28 => ?_) (fun E9 G9 h9 => h9.elim)
      obtain ⟨rfl, hX28, kt28_⟩ := q28
      have kt28 := (kt2).trans kt28_
      refine y_blk 0 tq_X12_sees_ (z := (31, [(0, .ref (ad 200)), (1, .int guard), (2, .int cell), (3, .int minute)], [.int 0])) rfl ?_
      refine y_if_le tq_X12_sees_ 38 rfl rfl (fun c31 => ?_) (fun c31 => ?_)
      · skip
        refine y_blk 1 tq_X12_sees_ (z := (39, [(0, .ref (ad 200)), (1, .int guard), (2, .int cell), (3, .int minute)], [.int 0])) rfl ?_
        exact y_zret tq_X12_sees_ rfl rfl (rfl) (⟨⟨_, (Or.inl rfl), rfl⟩, ad, _, hX28, rfl, kt28, (rSm.in0 (rSm.in0 rSm.rfl'))⟩)
      · skip
        refine y_blk 2 tq_X12_sees_ (z := (39, [(0, .ref (ad 200)), (1, .int guard), (2, .int cell), (3, .int minute)], [.int 1])) rfl ?_
        exact y_zret tq_X12_sees_ rfl rfl (rfl) (⟨⟨_, (Or.inr rfl), rfl⟩, ad, _, hX28, rfl, kt28, (rSm.in0 (rSm.in0 rSm.rfl'))⟩)
    · skip
      have hq15 := yif1 c15
      have hn15 := yinN (n := rZ ((rin ρ 0 0)) 212) (by have := hX2.2.le10 212 (by decide); omega) hq15
      have ha15 := hn15.1
      have hb15 := hn15.2
      refine y_blk 2 tq_X12_sees_ (z := (20, [(0, .ref (ad 200)), (1, .int guard), (2, .int cell), (3, .int minute)], [.int cell, .ref (ad 200)])) rfl ?_
      refine y_callV hS tq_X12_sees_ rfl (As := [.int cell]) rfl cv_X12_157 hX2.m (m_X12_isCell hS hI hX2 cell) rfl (by decide) (Nat.le_of_ble_eq_true rfl) (fun r20 Gc20 q20 => ?_) (fun E9 G9 h9 => h9.elim)
      obtain ⟨rfl, eG20⟩ := q20
      have eG20 := eG20.symm
      subst eG20
      refine y_blk 0 tq_X12_sees_ (z := (23, [(0, .ref (ad 200)), (1, .int guard), (2, .int cell), (3, .int minute)], [.int (if 0 ≤ cell ∧ cell ≤ (Int32.ofNat (rZ ((rin ρ 0 0)) 201)) - 1 then 1 else 0)])) rfl ?_
      refine y_if_ne tq_X12_sees_ 40 rfl rfl (fun c23 => ?_) (fun c23 => ?_)
      · skip
        have hq23 := yif1 c23
        have hn23 := yinN (n := rZ ((rin ρ 0 0)) 201) (by have := hX2.2.n64; omega) hq23
        have ha23 := hn23.1
        have hb23 := hn23.2
        refine y_blk 1 tq_X12_sees_ (z := (41, [(0, .ref (ad 200)), (1, .int guard), (2, .int cell), (3, .int minute)], [.int minute])) rfl ?_
        refine y_callS hS tq_X12_sees_ rfl (As := [.int minute]) rfl cs_X12_163 (m_X12_isMinute hS minute) rfl (by decide) (Nat.le_of_ble_eq_true rfl) (fun r41 Gc41 q41 => ?_) (fun E9 G9 h9 => h9.elim)
        obtain ⟨rfl, eG41⟩ := q41
        have eG41 := eG41.symm
        subst eG41
        refine y_blk 0 tq_X12_sees_ (z := (44, [(0, .ref (ad 200)), (1, .int guard), (2, .int cell), (3, .int minute)], [.int (if 0 ≤ minute ∧ minute ≤ 239 then 1 else 0)])) rfl ?_
        refine y_if_ne tq_X12_sees_ 61 rfl rfl (fun c44 => ?_) (fun c44 => ?_)
        · skip
          have hq44 := yif1 c44
          simp only [yle, yl_m1, yl_0, yl_1, yl_2, yl_3, yl_4, yl_5, yl_6, yl_7, yl_8, yl_9, yl_10, yl_11, yl_12, yl_60, yl_90, yl_239, yl_240] at hq44
          have ha44 := hq44.1
          have hb44 := hq44.2
          refine y_blk 2 tq_X12_sees_ (z := (63, [(0, .ref (ad 200)), (1, .int guard), (2, .int cell), (3, .int minute)], [.int (-1), .int guard])) rfl ?_
          refine y_icmp_ne tq_X12_sees_ 75 rfl rfl (fun c63 => ?_) (fun c63 => ?_)
          · skip
            refine y_blk 3 tq_X12_sees_ (z := (78, [(0, .ref (ad 200)), (1, .int guard), (2, .int cell), (3, .int minute)], [.int minute, .int cell, .ref (ad 200)])) rfl ?_
            refine y_callV hS tq_X12_sees_ rfl (As := [.int cell, .int minute]) rfl cv_X12_186 hX2.m (m_X12_seers hS hI hX2 cell minute (by first | (with_reducible assumption) | (with_reducible exact hX2.lac (by assumption)) | (with_reducible exact hX2.poc (by assumption)) | (with_reducible exact hX2.wac (by assumption) (by assumption) (by omega)) | assumption | exact hX2.lac (by assumption) | exact hX2.poc (by assumption) | exact hX2.wac (by assumption) (by assumption) (by omega))) rfl (by decide) (Nat.le_of_ble_eq_true rfl) (fun r78 Gc78 q78 => ?_) (fun E9 G9 h9 => h9.elim)
            obtain ⟨⟨x78, rfl⟩, eG78⟩ := q78
            have eG78 := eG78.symm
            subst eG78
            refine y_blk 5 tq_X12_sees_ (z := (86, [(0, .ref (ad 200)), (1, .int guard), (2, .int cell), (3, .int minute)], [.int 1, .int ((x78 >>> (guard &&& 31)) &&& 1)])) rfl ?_
            refine y_icmp_ne tq_X12_sees_ 93 rfl rfl (fun c86 => ?_) (fun c86 => ?_)
            · skip
              refine y_blk 1 tq_X12_sees_ (z := (94, [(0, .ref (ad 200)), (1, .int guard), (2, .int cell), (3, .int minute)], [.int 0])) rfl ?_
              exact y_zret tq_X12_sees_ rfl rfl (rfl) (⟨⟨_, (Or.inl rfl), rfl⟩, ad, _, hX2, rfl, kt2, (rSm.in0 rSm.rfl')⟩)
            · skip
              refine y_blk 2 tq_X12_sees_ (z := (94, [(0, .ref (ad 200)), (1, .int guard), (2, .int cell), (3, .int minute)], [.int 1])) rfl ?_
              exact y_zret tq_X12_sees_ rfl rfl (rfl) (⟨⟨_, (Or.inr rfl), rfl⟩, ad, _, hX2, rfl, kt2, (rSm.in0 rSm.rfl')⟩)
          · skip
            refine y_blk 3 tq_X12_sees_ (z := (69, [(0, .ref (ad 200)), (1, .int guard), (2, .int cell), (3, .int minute)], [.int minute, .int cell, .ref (ad 200)])) rfl ?_
            refine y_callV hS tq_X12_sees_ rfl (As := [.int cell, .int minute]) rfl cv_X12_183 hX2.m (m_X12_isWatched hS hI hX2 cell minute (by first | (with_reducible assumption) | (with_reducible exact hX2.lac (by assumption)) | (with_reducible exact hX2.poc (by assumption)) | (with_reducible exact hX2.wac (by assumption) (by assumption) (by omega)) | assumption | exact hX2.lac (by assumption) | exact hX2.poc (by assumption) | exact hX2.wac (by assumption) (by assumption) (by omega))) rfl (by decide) (Nat.le_of_ble_eq_true rfl) (fun r69 Gc69 q69 => ?_) (fun E9 G9 h9 => h9.elim)
            obtain ⟨⟨x69, hb_x69, rfl⟩, eG69⟩ := q69
            have eG69 := eG69.symm
            subst eG69
            refine y_blk 1 tq_X12_sees_ (z := (94, [(0, .ref (ad 200)), (1, .int guard), (2, .int cell), (3, .int minute)], [.int x69])) rfl ?_
            exact y_zret tq_X12_sees_ rfl rfl (y01 hb_x69) (⟨⟨_, hb_x69, rfl⟩, ad, _, hX2, rfl, kt2, (rSm.in0 rSm.rfl')⟩)
        · skip
          refine y_blk 2 tq_X12_sees_ (z := (49, [(0, .ref (ad 200)), (1, .int guard), (2, .int cell), (3, .int minute)], [.int 2, .ref (ad 200)])) rfl ?_
          refine y_callV hS tq_X12_sees_ rfl (As := [.int 2]) rfl cv_X12_140 hX2.m (m_X12_no hS hI hX2 2) rfl (by decide) (Nat.le_of_ble_eq_true rfl) (fun r49 Gc49 q49 => ?_) (fun E9 G9 h9 => h9.elim)
          obtain ⟨rfl, hX49, kt49_⟩ := q49
          have kt49 := (kt2).trans kt49_
          refine y_blk 0 tq_X12_sees_ (z := (52, [(0, .ref (ad 200)), (1, .int guard), (2, .int cell), (3, .int minute)], [.int 0])) rfl ?_
          refine y_if_le tq_X12_sees_ 59 rfl rfl (fun c52 => ?_) (fun c52 => ?_)
          · skip
            refine y_blk 1 tq_X12_sees_ (z := (60, [(0, .ref (ad 200)), (1, .int guard), (2, .int cell), (3, .int minute)], [.int 0])) rfl ?_
            exact y_zret tq_X12_sees_ rfl rfl (rfl) (⟨⟨_, (Or.inl rfl), rfl⟩, ad, _, hX49, rfl, kt49, (rSm.in0 (rSm.in0 rSm.rfl'))⟩)
          · skip
            refine y_blk 2 tq_X12_sees_ (z := (60, [(0, .ref (ad 200)), (1, .int guard), (2, .int cell), (3, .int minute)], [.int 1])) rfl ?_
            exact y_zret tq_X12_sees_ rfl rfl (rfl) (⟨⟨_, (Or.inr rfl), rfl⟩, ad, _, hX49, rfl, kt49, (rSm.in0 (rSm.in0 rSm.rfl'))⟩)
      · skip
        refine y_blk 2 tq_X12_sees_ (z := (28, [(0, .ref (ad 200)), (1, .int guard), (2, .int cell), (3, .int minute)], [.int 1, .ref (ad 200)])) rfl ?_
        refine y_callV hS tq_X12_sees_ rfl (As := [.int 1]) rfl cv_X12_140 hX2.m (m_X12_no hS hI hX2 1) rfl (by decide) (Nat.le_of_ble_eq_true rfl) (fun r28 Gc28 q28 => ?_) (fun E9 G9 h9 => h9.elim)
        obtain ⟨rfl, hX28, kt28_⟩ := q28
        have kt28 := (kt2).trans kt28_
        refine y_blk 0 tq_X12_sees_ (z := (31, [(0, .ref (ad 200)), (1, .int guard), (2, .int cell), (3, .int minute)], [.int 0])) rfl ?_
        refine y_if_le tq_X12_sees_ 38 rfl rfl (fun c31 => ?_) (fun c31 => ?_)
        · skip
          refine y_blk 1 tq_X12_sees_ (z := (39, [(0, .ref (ad 200)), (1, .int guard), (2, .int cell), (3, .int minute)], [.int 0])) rfl ?_
          exact y_zret tq_X12_sees_ rfl rfl (rfl) (⟨⟨_, (Or.inl rfl), rfl⟩, ad, _, hX28, rfl, kt28, (rSm.in0 (rSm.in0 rSm.rfl'))⟩)
        · skip
          refine y_blk 2 tq_X12_sees_ (z := (39, [(0, .ref (ad 200)), (1, .int guard), (2, .int cell), (3, .int minute)], [.int 1])) rfl ?_
          exact y_zret tq_X12_sees_ rfl rfl (rfl) (⟨⟨_, (Or.inr rfl), rfl⟩, ad, _, hX28, rfl, kt28, (rSm.in0 (rSm.in0 rSm.rfl'))⟩)
set_option maxHeartbeats 4000000 in
set_option maxRecDepth 100000 in
theorem m_X12_ofCell {l : Launch} {S0 : State} {A0 : Array Value} {D : va_G} {aC : Nat → ClassId} {ic : Int32 → Nat} {de : Nat} {ad : Nat → Nat} {G : AH} {ρ : RS} (hS : yS l S0 A0 D aC) (hI : yIc S0 ic de) (hX : atR aC ic de ad G ρ) (cell : Int32) (minute : Int32) (what : Int32) : yM l S0 D yX12_ofCell cX12_ofCell 4 (some .int) 22 0 0 [.ref (ad 200), .int cell, .int minute, .int what] G (fun r G1 => (∃ v : Int32, r = some (.int v)) ∧ ∃ (ad1 : Nat → Nat) (ρ1 : RS), atR aC ic de ad1 G1 ρ1 ∧ ad1 200 = ad 200 ∧ yTg kR G G1 ∧ rSm ρ ρ1) (fun _ _ => False) := by
  refine yM.ofK K_X12_ofCell rfl (by decide) (Nat.le_of_ble_eq_true rfl) ?_
  refine y_blk 2 tq_X12_ofCell (z := (2, [(0, .ref (ad 200)), (1, .int cell), (2, .int minute), (3, .int what)], [.int 0, .ref (ad 200)])) rfl ?_
  refine y_put hS tq_X12_ofCell rfl fp_X12_51_X12 hX.m (by omega) rfl rfl (Nat.le_of_ble_eq_true rfl) ?_
  have hX2 : atR aC ic de ad (yup G (ad 200) (200, .inr (16, [.int 0, .int (rI ρ 1), .int (rI ρ 2), .ref (ad 201), .int (rI ρ 3), .int (rI ρ 4), .ref (ad 210), .ref (ad 211), .ref (ad 212), .ref (ad 213), .int (rI ρ 5), .int (rI ρ 6), .int (rI ρ 7), .ref (ad 202), .ref (ad 214), .int (rI ρ 8), .ref (ad 203), .ref (ad 215), .ref (ad 216), .int (rI ρ 9)]))) ((rin ρ 0 0)) := atR.setIb hX rfl rfl (hX.2.setI (by decide))
  have kt2 : yTg kR G (yup G (ad 200) (200, .inr (16, [.int 0, .int (rI ρ 1), .int (rI ρ 2), .ref (ad 201), .int (rI ρ 3), .int (rI ρ 4), .ref (ad 210), .ref (ad 211), .ref (ad 212), .ref (ad 213), .int (rI ρ 5), .int (rI ρ 6), .int (rI ρ 7), .ref (ad 202), .ref (ad 214), .int (rI ρ 8), .ref (ad 203), .ref (ad 215), .ref (ad 216), .int (rI ρ 9)]))) := ((yTg.rfl' (f := kR) (G := G))).trans (yTg.up hX.m (kR_n (by omega) (by omega)))
  show Y l S0 D K_X12_ofCell 22 0 0 (fun r G1 => (∃ v : Int32, r = some (.int v)) ∧ ∃ (ad1 : Nat → Nat) (ρ1 : RS), atR aC ic de ad1 G1 ρ1 ∧ ad1 200 = ad 200 ∧ yTg kR G G1 ∧ rSm ρ ρ1) (fun _ _ => False) (2 + 3) [(0, .ref (ad 200)), (1, .int cell), (2, .int minute), (3, .int what)] [] (yup G (ad 200) (200, .inr (16, [.int 0, .int (rI ρ 1), .int (rI ρ 2), .ref (ad 201), .int (rI ρ 3), .int (rI ρ 4), .ref (ad 210), .ref (ad 211), .ref (ad 212), .ref (ad 213), .int (rI ρ 5), .int (rI ρ 6), .int (rI ρ 7), .ref (ad 202), .ref (ad 214), .int (rI ρ 8), .ref (ad 203), .ref (ad 215), .ref (ad 216), .int (rI ρ 9)]))) 0 0
  generalize yup G (ad 200) (200, .inr (16, [.int 0, .int (rI ρ 1), .int (rI ρ 2), .ref (ad 201), .int (rI ρ 3), .int (rI ρ 4), .ref (ad 210), .ref (ad 211), .ref (ad 212), .ref (ad 213), .int (rI ρ 5), .int (rI ρ 6), .int (rI ρ 7), .ref (ad 202), .ref (ad 214), .int (rI ρ 8), .ref (ad 203), .ref (ad 215), .ref (ad 216), .int (rI ρ 9)])) = G2 at hX2 kt2 ⊢
  refine y_blk 2 tq_X12_ofCell (z := (7, [(0, .ref (ad 200)), (1, .int cell), (2, .int minute), (3, .int what)], [.int cell, .ref (ad 200)])) rfl ?_
  refine y_callV hS tq_X12_ofCell rfl (As := [.int cell]) rfl cv_X12_157 hX2.m (m_X12_isCell hS hI hX2 cell) rfl (by decide) (Nat.le_of_ble_eq_true rfl) (fun r7 Gc7 q7 => ?_) (fun E9 G9 h9 => h9.elim)
  obtain ⟨rfl, eG7⟩ := q7
  have eG7 := eG7.symm
  subst eG7
  refine y_blk 0 tq_X12_ofCell (z := (10, [(0, .ref (ad 200)), (1, .int cell), (2, .int minute), (3, .int what)], [.int (if 0 ≤ cell ∧ cell ≤ (Int32.ofNat (rZ ((rin ρ 0 0)) 201)) - 1 then 1 else 0)])) rfl ?_
  refine y_if_ne tq_X12_ofCell 19 rfl rfl (fun c10 => ?_) (fun c10 => ?_)
  · skip
    have hq10 := yif1 c10
    have hn10 := yinN (n := rZ ((rin ρ 0 0)) 201) (by have := hX2.2.n64; omega) hq10
    have ha10 := hn10.1
    have hb10 := hn10.2
    refine y_blk 1 tq_X12_ofCell (z := (20, [(0, .ref (ad 200)), (1, .int cell), (2, .int minute), (3, .int what)], [.int minute])) rfl ?_
    refine y_callS hS tq_X12_ofCell rfl (As := [.int minute]) rfl cs_X12_163 (m_X12_isMinute hS minute) rfl (by decide) (Nat.le_of_ble_eq_true rfl) (fun r20 Gc20 q20 => ?_) (fun E9 G9 h9 => h9.elim)
    obtain ⟨rfl, eG20⟩ := q20
    have eG20 := eG20.symm
    subst eG20
    refine y_blk 0 tq_X12_ofCell (z := (23, [(0, .ref (ad 200)), (1, .int cell), (2, .int minute), (3, .int what)], [.int (if 0 ≤ minute ∧ minute ≤ 239 then 1 else 0)])) rfl ?_
    refine y_if_eq tq_X12_ofCell 35 rfl rfl (fun c23 => ?_) (fun c23 => ?_)
    · skip
      refine y_blk 2 tq_X12_ofCell (z := (37, [(0, .ref (ad 200)), (1, .int cell), (2, .int minute), (3, .int what)], [.int 2, .ref (ad 200)])) rfl ?_
      refine y_callV hS tq_X12_ofCell rfl (As := [.int 2]) rfl cv_X12_140 hX2.m (m_X12_no hS hI hX2 2) rfl (by decide) (Nat.le_of_ble_eq_true rfl) (fun r37 Gc37 q37 => ?_) (fun E9 G9 h9 => h9.elim)
      obtain ⟨rfl, hX37, kt37_⟩ := q37
      have kt37 := (kt2).trans kt37_
      refine y_blk 0 tq_X12_ofCell (z := (40, [(0, .ref (ad 200)), (1, .int cell), (2, .int minute), (3, .int what)], [.int 0])) rfl ?_
      exact y_iret tq_X12_ofCell rfl rfl (⟨⟨_, rfl⟩, ad, _, hX37, rfl, kt37, (rSm.in0 (rSm.in0 rSm.rfl'))⟩)
    · skip
      have hq23 := yif1 c23
      simp only [yle, yl_m1, yl_0, yl_1, yl_2, yl_3, yl_4, yl_5, yl_6, yl_7, yl_8, yl_9, yl_10, yl_11, yl_12, yl_60, yl_90, yl_239, yl_240] at hq23
      have ha23 := hq23.1
      have hb23 := hq23.2
      refine y_blk 3 tq_X12_ofCell (z := (29, [(0, .ref (ad 200)), (1, .int cell), (2, .int minute), (3, .int what)], [.int 4, .int 0, .int what])) rfl ?_
      refine y_callS hS tq_X12_ofCell rfl (As := [.int what, .int 0, .int 4]) rfl cs_X12_54 (m_X12_in hS what 0 4) rfl (by decide) (Nat.le_of_ble_eq_true rfl) (fun r29 Gc29 q29 => ?_) (fun E9 G9 h9 => h9.elim)
      obtain ⟨rfl, eG29⟩ := q29
      have eG29 := eG29.symm
      subst eG29
      refine y_blk 0 tq_X12_ofCell (z := (32, [(0, .ref (ad 200)), (1, .int cell), (2, .int minute), (3, .int what)], [.int (if 0 ≤ what ∧ what ≤ 4 then 1 else 0)])) rfl ?_
      refine y_if_ne tq_X12_ofCell 41 rfl rfl (fun c32 => ?_) (fun c32 => ?_)
      · skip
        have hq32 := yif1 c32
        simp only [yle, yl_m1, yl_0, yl_1, yl_2, yl_3, yl_4, yl_5, yl_6, yl_7, yl_8, yl_9, yl_10, yl_11, yl_12, yl_60, yl_90, yl_239, yl_240] at hq32
        have ha32 := hq32.1
        have hb32 := hq32.2
        refine y_blk 4 tq_X12_ofCell (z := (45, [(0, .ref (ad 200)), (1, .int cell), (2, .int minute), (3, .int what)], [.int what, .int minute, .int cell, .ref (ad 200)])) rfl ?_
        refine y_callV hS tq_X12_ofCell rfl (As := [.int cell, .int minute, .int what]) rfl cv_X12_195 hX2.m (m_X12_cellNow hS hI hX2 cell minute what (by first | (with_reducible assumption) | (with_reducible exact hX2.lac (by assumption)) | (with_reducible exact hX2.poc (by assumption)) | (with_reducible exact hX2.wac (by assumption) (by assumption) (by omega)) | assumption | exact hX2.lac (by assumption) | exact hX2.poc (by assumption) | exact hX2.wac (by assumption) (by assumption) (by omega))) rfl (by decide) (Nat.le_of_ble_eq_true rfl) (fun r45 Gc45 q45 => ?_) (fun E9 G9 h9 => h9.elim)
        obtain ⟨⟨x45, rfl⟩, eG45⟩ := q45
        have eG45 := eG45.symm
        subst eG45
        refine y_blk 0 tq_X12_ofCell (z := (48, [(0, .ref (ad 200)), (1, .int cell), (2, .int minute), (3, .int what)], [.int x45])) rfl ?_
        exact y_iret tq_X12_ofCell rfl rfl (⟨⟨_, rfl⟩, ad, _, hX2, rfl, kt2, (rSm.in0 rSm.rfl')⟩)
      · skip
        refine y_blk 2 tq_X12_ofCell (z := (37, [(0, .ref (ad 200)), (1, .int cell), (2, .int minute), (3, .int what)], [.int 2, .ref (ad 200)])) rfl ?_
        refine y_callV hS tq_X12_ofCell rfl (As := [.int 2]) rfl cv_X12_140 hX2.m (m_X12_no hS hI hX2 2) rfl (by decide) (Nat.le_of_ble_eq_true rfl) (fun r37 Gc37 q37 => ?_) (fun E9 G9 h9 => h9.elim)
        obtain ⟨rfl, hX37, kt37_⟩ := q37
        have kt37 := (kt2).trans kt37_
        refine y_blk 0 tq_X12_ofCell (z := (40, [(0, .ref (ad 200)), (1, .int cell), (2, .int minute), (3, .int what)], [.int 0])) rfl ?_
        exact y_iret tq_X12_ofCell rfl rfl (⟨⟨_, rfl⟩, ad, _, hX37, rfl, kt37, (rSm.in0 (rSm.in0 rSm.rfl'))⟩)
  · skip
    refine y_blk 2 tq_X12_ofCell (z := (15, [(0, .ref (ad 200)), (1, .int cell), (2, .int minute), (3, .int what)], [.int 1, .ref (ad 200)])) rfl ?_
    refine y_callV hS tq_X12_ofCell rfl (As := [.int 1]) rfl cv_X12_140 hX2.m (m_X12_no hS hI hX2 1) rfl (by decide) (Nat.le_of_ble_eq_true rfl) (fun r15 Gc15 q15 => ?_) (fun E9 G9 h9 => h9.elim)
    obtain ⟨rfl, hX15, kt15_⟩ := q15
    have kt15 := (kt2).trans kt15_
    refine y_blk 0 tq_X12_ofCell (z := (18, [(0, .ref (ad 200)), (1, .int cell), (2, .int minute), (3, .int what)], [.int 0])) rfl ?_
    exact y_iret tq_X12_ofCell rfl rfl (⟨⟨_, rfl⟩, ad, _, hX15, rfl, kt15, (rSm.in0 (rSm.in0 rSm.rfl'))⟩)
set_option maxHeartbeats 4000000 in
set_option maxRecDepth 100000 in
theorem m_X12_ofMinute {l : Launch} {S0 : State} {A0 : Array Value} {D : va_G} {aC : Nat → ClassId} {ic : Int32 → Nat} {de : Nat} {ad : Nat → Nat} {G : AH} {ρ : RS} (hS : yS l S0 A0 D aC) (hI : yIc S0 ic de) (hX : atR aC ic de ad G ρ) (minute : Int32) (what : Int32) : yM l S0 D yX12_ofMinute cX12_ofMinute 3 (some .int) 22 0 0 [.ref (ad 200), .int minute, .int what] G (fun r G1 => (∃ v : Int32, r = some (.int v)) ∧ ∃ (ad1 : Nat → Nat) (ρ1 : RS), atR aC ic de ad1 G1 ρ1 ∧ ad1 200 = ad 200 ∧ yTg kR G G1 ∧ rSm ρ ρ1) (fun _ _ => False) := by
  refine yM.ofK K_X12_ofMinute rfl (by decide) (Nat.le_of_ble_eq_true rfl) ?_
  refine y_blk 2 tq_X12_ofMinute (z := (2, [(0, .ref (ad 200)), (1, .int minute), (2, .int what)], [.int 0, .ref (ad 200)])) rfl ?_
  refine y_put hS tq_X12_ofMinute rfl fp_X12_51_X12 hX.m (by omega) rfl rfl (Nat.le_of_ble_eq_true rfl) ?_
  have hX2 : atR aC ic de ad (yup G (ad 200) (200, .inr (16, [.int 0, .int (rI ρ 1), .int (rI ρ 2), .ref (ad 201), .int (rI ρ 3), .int (rI ρ 4), .ref (ad 210), .ref (ad 211), .ref (ad 212), .ref (ad 213), .int (rI ρ 5), .int (rI ρ 6), .int (rI ρ 7), .ref (ad 202), .ref (ad 214), .int (rI ρ 8), .ref (ad 203), .ref (ad 215), .ref (ad 216), .int (rI ρ 9)]))) ((rin ρ 0 0)) := atR.setIb hX rfl rfl (hX.2.setI (by decide))
  have kt2 : yTg kR G (yup G (ad 200) (200, .inr (16, [.int 0, .int (rI ρ 1), .int (rI ρ 2), .ref (ad 201), .int (rI ρ 3), .int (rI ρ 4), .ref (ad 210), .ref (ad 211), .ref (ad 212), .ref (ad 213), .int (rI ρ 5), .int (rI ρ 6), .int (rI ρ 7), .ref (ad 202), .ref (ad 214), .int (rI ρ 8), .ref (ad 203), .ref (ad 215), .ref (ad 216), .int (rI ρ 9)]))) := ((yTg.rfl' (f := kR) (G := G))).trans (yTg.up hX.m (kR_n (by omega) (by omega)))
  show Y l S0 D K_X12_ofMinute 22 0 0 (fun r G1 => (∃ v : Int32, r = some (.int v)) ∧ ∃ (ad1 : Nat → Nat) (ρ1 : RS), atR aC ic de ad1 G1 ρ1 ∧ ad1 200 = ad 200 ∧ yTg kR G G1 ∧ rSm ρ ρ1) (fun _ _ => False) (2 + 3) [(0, .ref (ad 200)), (1, .int minute), (2, .int what)] [] (yup G (ad 200) (200, .inr (16, [.int 0, .int (rI ρ 1), .int (rI ρ 2), .ref (ad 201), .int (rI ρ 3), .int (rI ρ 4), .ref (ad 210), .ref (ad 211), .ref (ad 212), .ref (ad 213), .int (rI ρ 5), .int (rI ρ 6), .int (rI ρ 7), .ref (ad 202), .ref (ad 214), .int (rI ρ 8), .ref (ad 203), .ref (ad 215), .ref (ad 216), .int (rI ρ 9)]))) 0 0
  generalize yup G (ad 200) (200, .inr (16, [.int 0, .int (rI ρ 1), .int (rI ρ 2), .ref (ad 201), .int (rI ρ 3), .int (rI ρ 4), .ref (ad 210), .ref (ad 211), .ref (ad 212), .ref (ad 213), .int (rI ρ 5), .int (rI ρ 6), .int (rI ρ 7), .ref (ad 202), .ref (ad 214), .int (rI ρ 8), .ref (ad 203), .ref (ad 215), .ref (ad 216), .int (rI ρ 9)])) = G2 at hX2 kt2 ⊢
  refine y_blk 1 tq_X12_ofMinute (z := (6, [(0, .ref (ad 200)), (1, .int minute), (2, .int what)], [.int minute])) rfl ?_
  refine y_callS hS tq_X12_ofMinute rfl (As := [.int minute]) rfl cs_X12_163 (m_X12_isMinute hS minute) rfl (by decide) (Nat.le_of_ble_eq_true rfl) (fun r6 Gc6 q6 => ?_) (fun E9 G9 h9 => h9.elim)
  obtain ⟨rfl, eG6⟩ := q6
  have eG6 := eG6.symm
  subst eG6
  refine y_blk 0 tq_X12_ofMinute (z := (9, [(0, .ref (ad 200)), (1, .int minute), (2, .int what)], [.int (if 0 ≤ minute ∧ minute ≤ 239 then 1 else 0)])) rfl ?_
  refine y_if_eq tq_X12_ofMinute 22 rfl rfl (fun c9 => ?_) (fun c9 => ?_)
  · skip
    refine y_blk 2 tq_X12_ofMinute (z := (24, [(0, .ref (ad 200)), (1, .int minute), (2, .int what)], [.int 1, .ref (ad 200)])) rfl ?_
    refine y_callV hS tq_X12_ofMinute rfl (As := [.int 1]) rfl cv_X12_140 hX2.m (m_X12_no hS hI hX2 1) rfl (by decide) (Nat.le_of_ble_eq_true rfl) (fun r24 Gc24 q24 => ?_) (fun E9 G9 h9 => h9.elim)
    obtain ⟨rfl, hX24, kt24_⟩ := q24
    have kt24 := (kt2).trans kt24_
    refine y_blk 0 tq_X12_ofMinute (z := (27, [(0, .ref (ad 200)), (1, .int minute), (2, .int what)], [.int 0])) rfl ?_
    exact y_iret tq_X12_ofMinute rfl rfl (⟨⟨_, rfl⟩, ad, _, hX24, rfl, kt24, (rSm.in0 (rSm.in0 rSm.rfl'))⟩)
  · skip
    have hq9 := yif1 c9
    simp only [yle, yl_m1, yl_0, yl_1, yl_2, yl_3, yl_4, yl_5, yl_6, yl_7, yl_8, yl_9, yl_10, yl_11, yl_12, yl_60, yl_90, yl_239, yl_240] at hq9
    have ha9 := hq9.1
    have hb9 := hq9.2
    refine y_blk 3 tq_X12_ofMinute (z := (16, [(0, .ref (ad 200)), (1, .int minute), (2, .int what)], [.int 6, .int 0, .int what])) rfl ?_
    refine y_callS hS tq_X12_ofMinute rfl (As := [.int what, .int 0, .int 6]) rfl cs_X12_54 (m_X12_in hS what 0 6) rfl (by decide) (Nat.le_of_ble_eq_true rfl) (fun r16 Gc16 q16 => ?_) (fun E9 G9 h9 => h9.elim)
    obtain ⟨rfl, eG16⟩ := q16
    have eG16 := eG16.symm
    subst eG16
    refine y_blk 0 tq_X12_ofMinute (z := (19, [(0, .ref (ad 200)), (1, .int minute), (2, .int what)], [.int (if 0 ≤ what ∧ what ≤ 6 then 1 else 0)])) rfl ?_
    refine y_if_ne tq_X12_ofMinute 28 rfl rfl (fun c19 => ?_) (fun c19 => ?_)
    · skip
      have hq19 := yif1 c19
      simp only [yle, yl_m1, yl_0, yl_1, yl_2, yl_3, yl_4, yl_5, yl_6, yl_7, yl_8, yl_9, yl_10, yl_11, yl_12, yl_60, yl_90, yl_239, yl_240] at hq19
      have ha19 := hq19.1
      have hb19 := hq19.2
      refine y_blk 3 tq_X12_ofMinute (z := (31, [(0, .ref (ad 200)), (1, .int minute), (2, .int what)], [.int what, .int minute, .ref (ad 200)])) rfl ?_
      refine y_callV hS tq_X12_ofMinute rfl (As := [.int minute, .int what]) rfl cv_X12_205 hX2.m (m_X12_minuteNow hS hI hX2 minute what) rfl (by decide) (Nat.le_of_ble_eq_true rfl) (fun r31 Gc31 q31 => ?_) (fun E9 G9 h9 => h9.elim)
      obtain ⟨⟨x31, rfl⟩, eG31⟩ := q31
      have eG31 := eG31.symm
      subst eG31
      refine y_blk 0 tq_X12_ofMinute (z := (34, [(0, .ref (ad 200)), (1, .int minute), (2, .int what)], [.int x31])) rfl ?_
      exact y_iret tq_X12_ofMinute rfl rfl (⟨⟨_, rfl⟩, ad, _, hX2, rfl, kt2, (rSm.in0 rSm.rfl')⟩)
    · skip
      refine y_blk 2 tq_X12_ofMinute (z := (24, [(0, .ref (ad 200)), (1, .int minute), (2, .int what)], [.int 1, .ref (ad 200)])) rfl ?_
      refine y_callV hS tq_X12_ofMinute rfl (As := [.int 1]) rfl cv_X12_140 hX2.m (m_X12_no hS hI hX2 1) rfl (by decide) (Nat.le_of_ble_eq_true rfl) (fun r24 Gc24 q24 => ?_) (fun E9 G9 h9 => h9.elim)
      obtain ⟨rfl, hX24, kt24_⟩ := q24
      have kt24 := (kt2).trans kt24_
      refine y_blk 0 tq_X12_ofMinute (z := (27, [(0, .ref (ad 200)), (1, .int minute), (2, .int what)], [.int 0])) rfl ?_
      exact y_iret tq_X12_ofMinute rfl rfl (⟨⟨_, rfl⟩, ad, _, hX24, rfl, kt24, (rSm.in0 (rSm.in0 rSm.rfl'))⟩)
set_option maxHeartbeats 4000000 in
set_option maxRecDepth 100000 in
theorem m_X12_empty {l : Launch} {S0 : State} {A0 : Array Value} {D : va_G} {aC : Nat → ClassId} {ic : Int32 → Nat} {de : Nat} {ad : Nat → Nat} {G : AH} {ρ : RS} (hS : yS l S0 A0 D aC) (hI : yIc S0 ic de) (hX : atR aC ic de ad G ρ) (post : Int32) (isFirst : Int32) : yM l S0 D yX12_empty cX12_empty 3 (some .int) 22 0 0 [.ref (ad 200), .int post, .int isFirst] G (fun r G1 => (∃ v : Int32, r = some (.int v)) ∧ ∃ (ad1 : Nat → Nat) (ρ1 : RS), atR aC ic de ad1 G1 ρ1 ∧ ad1 200 = ad 200 ∧ yTg kR G G1 ∧ rSm ρ ρ1) (fun _ _ => False) := by
  refine yM.ofK K_X12_empty rfl (by decide) (Nat.le_of_ble_eq_true rfl) ?_
  refine y_blk 2 tq_X12_empty (z := (2, [(0, .ref (ad 200)), (1, .int post), (2, .int isFirst)], [.int 0, .ref (ad 200)])) rfl ?_
  refine y_put hS tq_X12_empty rfl fp_X12_51_X12 hX.m (by omega) rfl rfl (Nat.le_of_ble_eq_true rfl) ?_
  have hX2 : atR aC ic de ad (yup G (ad 200) (200, .inr (16, [.int 0, .int (rI ρ 1), .int (rI ρ 2), .ref (ad 201), .int (rI ρ 3), .int (rI ρ 4), .ref (ad 210), .ref (ad 211), .ref (ad 212), .ref (ad 213), .int (rI ρ 5), .int (rI ρ 6), .int (rI ρ 7), .ref (ad 202), .ref (ad 214), .int (rI ρ 8), .ref (ad 203), .ref (ad 215), .ref (ad 216), .int (rI ρ 9)]))) ((rin ρ 0 0)) := atR.setIb hX rfl rfl (hX.2.setI (by decide))
  have kt2 : yTg kR G (yup G (ad 200) (200, .inr (16, [.int 0, .int (rI ρ 1), .int (rI ρ 2), .ref (ad 201), .int (rI ρ 3), .int (rI ρ 4), .ref (ad 210), .ref (ad 211), .ref (ad 212), .ref (ad 213), .int (rI ρ 5), .int (rI ρ 6), .int (rI ρ 7), .ref (ad 202), .ref (ad 214), .int (rI ρ 8), .ref (ad 203), .ref (ad 215), .ref (ad 216), .int (rI ρ 9)]))) := ((yTg.rfl' (f := kR) (G := G))).trans (yTg.up hX.m (kR_n (by omega) (by omega)))
  show Y l S0 D K_X12_empty 22 0 0 (fun r G1 => (∃ v : Int32, r = some (.int v)) ∧ ∃ (ad1 : Nat → Nat) (ρ1 : RS), atR aC ic de ad1 G1 ρ1 ∧ ad1 200 = ad 200 ∧ yTg kR G G1 ∧ rSm ρ ρ1) (fun _ _ => False) (2 + 3) [(0, .ref (ad 200)), (1, .int post), (2, .int isFirst)] [] (yup G (ad 200) (200, .inr (16, [.int 0, .int (rI ρ 1), .int (rI ρ 2), .ref (ad 201), .int (rI ρ 3), .int (rI ρ 4), .ref (ad 210), .ref (ad 211), .ref (ad 212), .ref (ad 213), .int (rI ρ 5), .int (rI ρ 6), .int (rI ρ 7), .ref (ad 202), .ref (ad 214), .int (rI ρ 8), .ref (ad 203), .ref (ad 215), .ref (ad 216), .int (rI ρ 9)]))) 0 0
  generalize yup G (ad 200) (200, .inr (16, [.int 0, .int (rI ρ 1), .int (rI ρ 2), .ref (ad 201), .int (rI ρ 3), .int (rI ρ 4), .ref (ad 210), .ref (ad 211), .ref (ad 212), .ref (ad 213), .int (rI ρ 5), .int (rI ρ 6), .int (rI ρ 7), .ref (ad 202), .ref (ad 214), .int (rI ρ 8), .ref (ad 203), .ref (ad 215), .ref (ad 216), .int (rI ρ 9)])) = G2 at hX2 kt2 ⊢
  refine y_blk 3 tq_X12_empty (z := (8, [(0, .ref (ad 200)), (1, .int post), (2, .int isFirst)], [.ref (ad 200), .int 0, .int post])) rfl ?_
  refine y_get hS tq_X12_empty (v := .ref (ad 213)) rfl fg_X12_30_X12 hX2.m rfl ?_
  refine y_blk 0 tq_X12_empty (z := (11, [(0, .ref (ad 200)), (1, .int post), (2, .int isFirst)], [.ref (ad 213), .int 0, .int post])) rfl ?_
  refine y_callF hS tq_X12_empty rfl (As := []) rfl cf_X12_58 (Or.inl ⟨_, (hX2.ls 213 (by decide)).1⟩) (m_Jsize hS (hX2.ls 213 (by decide))) rfl (by decide) (Nat.le_of_ble_eq_true rfl) (fun r11 Gc11 q11 => ?_) (fun _ _ h9 => h9.elim)
  obtain ⟨rfl, eG11⟩ := q11
  have eG11 := eG11.symm
  subst eG11
  refine y_blk 2 tq_X12_empty (z := (18, [(0, .ref (ad 200)), (1, .int post), (2, .int isFirst)], [.int ((Int32.ofNat (rZ ((rin ρ 0 0)) 213)) - 1), .int 0, .int post])) rfl ?_
  refine y_callS hS tq_X12_empty rfl (As := [.int post, .int 0, .int ((Int32.ofNat (rZ ((rin ρ 0 0)) 213)) - 1)]) rfl cs_X12_54 (m_X12_in hS post 0 ((Int32.ofNat (rZ ((rin ρ 0 0)) 213)) - 1)) rfl (by decide) (Nat.le_of_ble_eq_true rfl) (fun r18 Gc18 q18 => ?_) (fun E9 G9 h9 => h9.elim)
  obtain ⟨rfl, eG18⟩ := q18
  have eG18 := eG18.symm
  subst eG18
  refine y_blk 0 tq_X12_empty (z := (21, [(0, .ref (ad 200)), (1, .int post), (2, .int isFirst)], [.int (if 0 ≤ post ∧ post ≤ ((Int32.ofNat (rZ ((rin ρ 0 0)) 213)) - 1) then 1 else 0)])) rfl ?_
  refine y_if_ne tq_X12_empty 30 rfl rfl (fun c21 => ?_) (fun c21 => ?_)
  · skip
    have hq21 := yif1 c21
    have hn21 := yinN (n := rZ ((rin ρ 0 0)) 213) (by have := hX2.2.le10 213 (by decide); omega) hq21
    have ha21 := hn21.1
    have hb21 := hn21.2
    refine y_blk 3 tq_X12_empty (z := (33, [(0, .ref (ad 200)), (1, .int post), (2, .int isFirst)], [.int isFirst, .int post, .ref (ad 200)])) rfl ?_
    refine y_callV hS tq_X12_empty rfl (As := [.int post, .int isFirst]) rfl cv_X12_208 hX2.m (m_X12_emptyNow hS hI hX2 post isFirst (by assumption) (by assumption)) rfl (by decide) (Nat.le_of_ble_eq_true rfl) (fun r33 Gc33 q33 => ?_) (fun E9 G9 h9 => h9.elim)
    obtain ⟨⟨x33, rfl⟩, eG33⟩ := q33
    have eG33 := eG33.symm
    subst eG33
    refine y_blk 0 tq_X12_empty (z := (36, [(0, .ref (ad 200)), (1, .int post), (2, .int isFirst)], [.int x33])) rfl ?_
    exact y_iret tq_X12_empty rfl rfl (⟨⟨_, rfl⟩, ad, _, hX2, rfl, kt2, (rSm.in0 rSm.rfl')⟩)
  · skip
    refine y_blk 2 tq_X12_empty (z := (26, [(0, .ref (ad 200)), (1, .int post), (2, .int isFirst)], [.int 1, .ref (ad 200)])) rfl ?_
    refine y_callV hS tq_X12_empty rfl (As := [.int 1]) rfl cv_X12_140 hX2.m (m_X12_no hS hI hX2 1) rfl (by decide) (Nat.le_of_ble_eq_true rfl) (fun r26 Gc26 q26 => ?_) (fun E9 G9 h9 => h9.elim)
    obtain ⟨rfl, hX26, kt26_⟩ := q26
    have kt26 := (kt2).trans kt26_
    refine y_blk 0 tq_X12_empty (z := (29, [(0, .ref (ad 200)), (1, .int post), (2, .int isFirst)], [.int 0])) rfl ?_
    exact y_iret tq_X12_empty rfl rfl (⟨⟨_, rfl⟩, ad, _, hX26, rfl, kt26, (rSm.in0 (rSm.in0 rSm.rfl'))⟩)
set_option maxHeartbeats 4000000 in
set_option maxRecDepth 100000 in
theorem m_X12_lapse {l : Launch} {S0 : State} {A0 : Array Value} {D : va_G} {aC : Nat → ClassId} {ic : Int32 → Nat} {de : Nat} {ad : Nat → Nat} {G : AH} {ρ : RS} (hS : yS l S0 A0 D aC) (hI : yIc S0 ic de) (hX : atR aC ic de ad G ρ) (cell : Int32) (from_ : Int32) (to : Int32) : yM l S0 D yX12_lapse cX12_lapse 5 (some .int) 21 0 0 [.ref (ad 200), .int cell, .int from_, .int to] G (fun r G1 => (∃ v : Int32, r = some (.int v)) ∧ ∃ (ad1 : Nat → Nat) (ρ1 : RS), atR aC ic de ad1 G1 ρ1 ∧ ad1 200 = ad 200 ∧ yTg kR G G1 ∧ rSm ρ ρ1) (fun _ _ => False) := by
  refine yM.ofK K_X12_lapse rfl (by decide) (Nat.le_of_ble_eq_true rfl) ?_
  have J46 : ∀ (n46 : Nat) (v46_4 : Int32) (G46 : AH) (s46 : RS) (hX46 : atR aC ic de ad G46 s46) (kt46 : yTg kR G G46) (r946 : rSm ρ s46) (hc_ : rcell s46 cell) (ht_ : to.toInt < 1000), ((to : Int32).toInt + 1 - v46_4.toInt).toNat = n46 → Y l S0 D K_X12_lapse 21 0 0 (fun r G1 => (∃ v : Int32, r = some (.int v)) ∧ ∃ (ad1 : Nat → Nat) (ρ1 : RS), atR aC ic de ad1 G1 ρ1 ∧ ad1 200 = ad 200 ∧ yTg kR G G1 ∧ rSm ρ ρ1) (fun _ _ => False) 46 [(0, .ref (ad 200)), (1, .int cell), (2, .int from_), (3, .int to), (4, .int v46_4)] [] G46 0 0 := by
    intro n46
    induction n46 using Nat.strongRecOn with
    | _ n46 ih46 =>
    intro v46_4 G46 s46 hX46 kt46 r946 hc_ ht_ hn46
    subst hn46
    refine y_blk 2 tq_X12_lapse (z := (49, [(0, .ref (ad 200)), (1, .int cell), (2, .int from_), (3, .int to), (4, .int v46_4)], [.int to, .int v46_4])) rfl ?_
    refine y_icmp_gt tq_X12_lapse 71 rfl rfl (fun c49 => ?_) (fun c49 => ?_)
    · skip
      refine y_blk 1 tq_X12_lapse (z := (72, [(0, .ref (ad 200)), (1, .int cell), (2, .int from_), (3, .int to), (4, .int v46_4)], [.int (-1)])) rfl ?_
      exact y_iret tq_X12_lapse rfl rfl (⟨⟨_, rfl⟩, ad, _, hX46, rfl, kt46, r946⟩)
    · skip
      refine y_blk 3 tq_X12_lapse (z := (56, [(0, .ref (ad 200)), (1, .int cell), (2, .int from_), (3, .int to), (4, .int v46_4)], [.int v46_4, .int cell, .ref (ad 200)])) rfl ?_
      refine y_callV hS tq_X12_lapse rfl (As := [.int cell, .int v46_4]) rfl cv_X12_183 hX46.m (m_X12_isWatched hS hI hX46 cell v46_4 (by first | (with_reducible assumption) | (with_reducible exact hX46.lac (by assumption)) | (with_reducible exact hX46.poc (by assumption)) | (with_reducible exact hX46.wac (by assumption) (by assumption) (by omega)) | assumption | exact hX46.lac (by assumption) | exact hX46.poc (by assumption) | exact hX46.wac (by assumption) (by assumption) (by omega))) rfl (by decide) (Nat.le_of_ble_eq_true rfl) (fun r56 Gc56 q56 => ?_) (fun E9 G9 h9 => h9.elim)
      obtain ⟨⟨x56, hb_x56, rfl⟩, eG56⟩ := q56
      have eG56 := eG56.symm
      subst eG56
      refine y_blk 0 tq_X12_lapse (z := (59, [(0, .ref (ad 200)), (1, .int cell), (2, .int from_), (3, .int to), (4, .int v46_4)], [.int x56])) rfl ?_
      refine y_if_ne tq_X12_lapse 65 rfl rfl (fun c59 => ?_) (fun c59 => ?_)
      · skip
        refine y_blk 2 tq_X12_lapse (z := (46, [(4, .int (v46_4 + 1)), (0, .ref (ad 200)), (1, .int cell), (2, .int from_), (3, .int to)], [])) rfl ?_
        refine y_pick (L2 := [(0, .ref (ad 200)), (1, .int cell), (2, .int from_), (3, .int to), (4, .int (v46_4 + 1))]) [1, 2, 3, 4, 0] rfl ?_
        exact ih46 _ (by exact ydec2 c49 (by omega)) (v46_4 + 1) G46 s46 hX46 kt46 r946 (by assumption) (by omega) rfl
      · skip
        refine y_blk 1 tq_X12_lapse (z := (64, [(0, .ref (ad 200)), (1, .int cell), (2, .int from_), (3, .int to), (4, .int v46_4)], [.int v46_4])) rfl ?_
        exact y_iret tq_X12_lapse rfl rfl (⟨⟨_, rfl⟩, ad, _, hX46, rfl, kt46, r946⟩)
  refine y_blk 2 tq_X12_lapse (z := (2, [(0, .ref (ad 200)), (1, .int cell), (2, .int from_), (3, .int to)], [.int 0, .ref (ad 200)])) rfl ?_
  refine y_put hS tq_X12_lapse rfl fp_X12_51_X12 hX.m (by omega) rfl rfl (Nat.le_of_ble_eq_true rfl) ?_
  have hX2 : atR aC ic de ad (yup G (ad 200) (200, .inr (16, [.int 0, .int (rI ρ 1), .int (rI ρ 2), .ref (ad 201), .int (rI ρ 3), .int (rI ρ 4), .ref (ad 210), .ref (ad 211), .ref (ad 212), .ref (ad 213), .int (rI ρ 5), .int (rI ρ 6), .int (rI ρ 7), .ref (ad 202), .ref (ad 214), .int (rI ρ 8), .ref (ad 203), .ref (ad 215), .ref (ad 216), .int (rI ρ 9)]))) ((rin ρ 0 0)) := atR.setIb hX rfl rfl (hX.2.setI (by decide))
  have kt2 : yTg kR G (yup G (ad 200) (200, .inr (16, [.int 0, .int (rI ρ 1), .int (rI ρ 2), .ref (ad 201), .int (rI ρ 3), .int (rI ρ 4), .ref (ad 210), .ref (ad 211), .ref (ad 212), .ref (ad 213), .int (rI ρ 5), .int (rI ρ 6), .int (rI ρ 7), .ref (ad 202), .ref (ad 214), .int (rI ρ 8), .ref (ad 203), .ref (ad 215), .ref (ad 216), .int (rI ρ 9)]))) := ((yTg.rfl' (f := kR) (G := G))).trans (yTg.up hX.m (kR_n (by omega) (by omega)))
  show Y l S0 D K_X12_lapse 21 0 0 (fun r G1 => (∃ v : Int32, r = some (.int v)) ∧ ∃ (ad1 : Nat → Nat) (ρ1 : RS), atR aC ic de ad1 G1 ρ1 ∧ ad1 200 = ad 200 ∧ yTg kR G G1 ∧ rSm ρ ρ1) (fun _ _ => False) (2 + 3) [(0, .ref (ad 200)), (1, .int cell), (2, .int from_), (3, .int to)] [] (yup G (ad 200) (200, .inr (16, [.int 0, .int (rI ρ 1), .int (rI ρ 2), .ref (ad 201), .int (rI ρ 3), .int (rI ρ 4), .ref (ad 210), .ref (ad 211), .ref (ad 212), .ref (ad 213), .int (rI ρ 5), .int (rI ρ 6), .int (rI ρ 7), .ref (ad 202), .ref (ad 214), .int (rI ρ 8), .ref (ad 203), .ref (ad 215), .ref (ad 216), .int (rI ρ 9)]))) 0 0
  generalize yup G (ad 200) (200, .inr (16, [.int 0, .int (rI ρ 1), .int (rI ρ 2), .ref (ad 201), .int (rI ρ 3), .int (rI ρ 4), .ref (ad 210), .ref (ad 211), .ref (ad 212), .ref (ad 213), .int (rI ρ 5), .int (rI ρ 6), .int (rI ρ 7), .ref (ad 202), .ref (ad 214), .int (rI ρ 8), .ref (ad 203), .ref (ad 215), .ref (ad 216), .int (rI ρ 9)])) = G2 at hX2 kt2 ⊢
  refine y_blk 2 tq_X12_lapse (z := (7, [(0, .ref (ad 200)), (1, .int cell), (2, .int from_), (3, .int to)], [.int cell, .ref (ad 200)])) rfl ?_
  refine y_callV hS tq_X12_lapse rfl (As := [.int cell]) rfl cv_X12_157 hX2.m (m_X12_isCell hS hI hX2 cell) rfl (by decide) (Nat.le_of_ble_eq_true rfl) (fun r7 Gc7 q7 => ?_) (fun E9 G9 h9 => h9.elim)
  obtain ⟨rfl, eG7⟩ := q7
  have eG7 := eG7.symm
  subst eG7
  refine y_blk 0 tq_X12_lapse (z := (10, [(0, .ref (ad 200)), (1, .int cell), (2, .int from_), (3, .int to)], [.int (if 0 ≤ cell ∧ cell ≤ (Int32.ofNat (rZ ((rin ρ 0 0)) 201)) - 1 then 1 else 0)])) rfl ?_
  refine y_if_ne tq_X12_lapse 19 rfl rfl (fun c10 => ?_) (fun c10 => ?_)
  · skip
    have hq10 := yif1 c10
    have hn10 := yinN (n := rZ ((rin ρ 0 0)) 201) (by have := hX2.2.n64; omega) hq10
    have ha10 := hn10.1
    have hb10 := hn10.2
    refine y_blk 1 tq_X12_lapse (z := (20, [(0, .ref (ad 200)), (1, .int cell), (2, .int from_), (3, .int to)], [.int from_])) rfl ?_
    refine y_callS hS tq_X12_lapse rfl (As := [.int from_]) rfl cs_X12_163 (m_X12_isMinute hS from_) rfl (by decide) (Nat.le_of_ble_eq_true rfl) (fun r20 Gc20 q20 => ?_) (fun E9 G9 h9 => h9.elim)
    obtain ⟨rfl, eG20⟩ := q20
    have eG20 := eG20.symm
    subst eG20
    refine y_blk 0 tq_X12_lapse (z := (23, [(0, .ref (ad 200)), (1, .int cell), (2, .int from_), (3, .int to)], [.int (if 0 ≤ from_ ∧ from_ ≤ 239 then 1 else 0)])) rfl ?_
    refine y_if_eq tq_X12_lapse 37 rfl rfl (fun c23 => ?_) (fun c23 => ?_)
    · skip
      refine y_blk 2 tq_X12_lapse (z := (39, [(0, .ref (ad 200)), (1, .int cell), (2, .int from_), (3, .int to)], [.int 2, .ref (ad 200)])) rfl ?_
      refine y_callV hS tq_X12_lapse rfl (As := [.int 2]) rfl cv_X12_140 hX2.m (m_X12_no hS hI hX2 2) rfl (by decide) (Nat.le_of_ble_eq_true rfl) (fun r39 Gc39 q39 => ?_) (fun E9 G9 h9 => h9.elim)
      obtain ⟨rfl, hX39, kt39_⟩ := q39
      have kt39 := (kt2).trans kt39_
      refine y_blk 0 tq_X12_lapse (z := (42, [(0, .ref (ad 200)), (1, .int cell), (2, .int from_), (3, .int to)], [.int 0])) rfl ?_
      exact y_iret tq_X12_lapse rfl rfl (⟨⟨_, rfl⟩, ad, _, hX39, rfl, kt39, (rSm.in0 (rSm.in0 rSm.rfl'))⟩)
    · skip
      have hq23 := yif1 c23
      simp only [yle, yl_m1, yl_0, yl_1, yl_2, yl_3, yl_4, yl_5, yl_6, yl_7, yl_8, yl_9, yl_10, yl_11, yl_12, yl_60, yl_90, yl_239, yl_240] at hq23
      have ha23 := hq23.1
      have hb23 := hq23.2
      refine y_blk 3 tq_X12_lapse (z := (31, [(0, .ref (ad 200)), (1, .int cell), (2, .int from_), (3, .int to)], [.int 239, .int from_, .int to])) rfl ?_
      refine y_callS hS tq_X12_lapse rfl (As := [.int to, .int from_, .int 239]) rfl cs_X12_54 (m_X12_in hS to from_ 239) rfl (by decide) (Nat.le_of_ble_eq_true rfl) (fun r31 Gc31 q31 => ?_) (fun E9 G9 h9 => h9.elim)
      obtain ⟨rfl, eG31⟩ := q31
      have eG31 := eG31.symm
      subst eG31
      refine y_blk 0 tq_X12_lapse (z := (34, [(0, .ref (ad 200)), (1, .int cell), (2, .int from_), (3, .int to)], [.int (if from_ ≤ to ∧ to ≤ 239 then 1 else 0)])) rfl ?_
      refine y_if_ne tq_X12_lapse 43 rfl rfl (fun c34 => ?_) (fun c34 => ?_)
      · skip
        have hq34 := yif1 c34
        simp only [yle, yl_m1, yl_0, yl_1, yl_2, yl_3, yl_4, yl_5, yl_6, yl_7, yl_8, yl_9, yl_10, yl_11, yl_12, yl_60, yl_90, yl_239, yl_240] at hq34
        have ha34 := hq34.1
        have hb34 := hq34.2
        refine y_blk 2 tq_X12_lapse (z := (46, [(4, .int from_), (0, .ref (ad 200)), (1, .int cell), (2, .int from_), (3, .int to)], [])) rfl ?_
        refine y_pick (L2 := [(0, .ref (ad 200)), (1, .int cell), (2, .int from_), (3, .int to), (4, .int from_)]) [1, 2, 3, 4, 0] rfl ?_
        exact J46 _ from_ G2 (rin ρ 0 0) hX2 kt2 (rSm.in0 rSm.rfl') (by assumption) (by omega) rfl
      · skip
        refine y_blk 2 tq_X12_lapse (z := (39, [(0, .ref (ad 200)), (1, .int cell), (2, .int from_), (3, .int to)], [.int 2, .ref (ad 200)])) rfl ?_
        refine y_callV hS tq_X12_lapse rfl (As := [.int 2]) rfl cv_X12_140 hX2.m (m_X12_no hS hI hX2 2) rfl (by decide) (Nat.le_of_ble_eq_true rfl) (fun r39 Gc39 q39 => ?_) (fun E9 G9 h9 => h9.elim)
        obtain ⟨rfl, hX39, kt39_⟩ := q39
        have kt39 := (kt2).trans kt39_
        refine y_blk 0 tq_X12_lapse (z := (42, [(0, .ref (ad 200)), (1, .int cell), (2, .int from_), (3, .int to)], [.int 0])) rfl ?_
        exact y_iret tq_X12_lapse rfl rfl (⟨⟨_, rfl⟩, ad, _, hX39, rfl, kt39, (rSm.in0 (rSm.in0 rSm.rfl'))⟩)
  · skip
    refine y_blk 2 tq_X12_lapse (z := (15, [(0, .ref (ad 200)), (1, .int cell), (2, .int from_), (3, .int to)], [.int 1, .ref (ad 200)])) rfl ?_
    refine y_callV hS tq_X12_lapse rfl (As := [.int 1]) rfl cv_X12_140 hX2.m (m_X12_no hS hI hX2 1) rfl (by decide) (Nat.le_of_ble_eq_true rfl) (fun r15 Gc15 q15 => ?_) (fun E9 G9 h9 => h9.elim)
    obtain ⟨rfl, hX15, kt15_⟩ := q15
    have kt15 := (kt2).trans kt15_
    refine y_blk 0 tq_X12_lapse (z := (18, [(0, .ref (ad 200)), (1, .int cell), (2, .int from_), (3, .int to)], [.int 0])) rfl ?_
    exact y_iret tq_X12_lapse rfl rfl (⟨⟨_, rfl⟩, ad, _, hX15, rfl, kt15, (rSm.in0 (rSm.in0 rSm.rfl'))⟩)
set_option maxHeartbeats 4000000 in
set_option maxRecDepth 100000 in
theorem m_X12_ofGuard {l : Launch} {S0 : State} {A0 : Array Value} {D : va_G} {aC : Nat → ClassId} {ic : Int32 → Nat} {de : Nat} {ad : Nat → Nat} {G : AH} {ρ : RS} (hS : yS l S0 A0 D aC) (hI : yIc S0 ic de) (hX : atR aC ic de ad G ρ) (guard : Int32) (what : Int32) : yM l S0 D yX12_ofGuard cX12_ofGuard 3 (some .int) 18 1 9 [.ref (ad 200), .int guard, .int what] G (fun r G1 => (∃ v : Int32, r = some (.int v)) ∧ ∃ (ad1 : Nat → Nat) (ρ1 : RS), atR aC ic de ad1 G1 ρ1 ∧ ad1 200 = ad 200 ∧ yTg kR G G1 ∧ rSm ρ ρ1) (fun _ _ => False) := by
  refine yM.ofK K_X12_ofGuard rfl (by decide) (Nat.le_of_ble_eq_true rfl) ?_
  refine y_blk 2 tq_X12_ofGuard (z := (2, [(0, .ref (ad 200)), (1, .int guard), (2, .int what)], [.int 0, .ref (ad 200)])) rfl ?_
  refine y_put hS tq_X12_ofGuard rfl fp_X12_51_X12 hX.m (by omega) rfl rfl (Nat.le_of_ble_eq_true rfl) ?_
  have hX2 : atR aC ic de ad (yup G (ad 200) (200, .inr (16, [.int 0, .int (rI ρ 1), .int (rI ρ 2), .ref (ad 201), .int (rI ρ 3), .int (rI ρ 4), .ref (ad 210), .ref (ad 211), .ref (ad 212), .ref (ad 213), .int (rI ρ 5), .int (rI ρ 6), .int (rI ρ 7), .ref (ad 202), .ref (ad 214), .int (rI ρ 8), .ref (ad 203), .ref (ad 215), .ref (ad 216), .int (rI ρ 9)]))) ((rin ρ 0 0)) := atR.setIb hX rfl rfl (hX.2.setI (by decide))
  have kt2 : yTg kR G (yup G (ad 200) (200, .inr (16, [.int 0, .int (rI ρ 1), .int (rI ρ 2), .ref (ad 201), .int (rI ρ 3), .int (rI ρ 4), .ref (ad 210), .ref (ad 211), .ref (ad 212), .ref (ad 213), .int (rI ρ 5), .int (rI ρ 6), .int (rI ρ 7), .ref (ad 202), .ref (ad 214), .int (rI ρ 8), .ref (ad 203), .ref (ad 215), .ref (ad 216), .int (rI ρ 9)]))) := ((yTg.rfl' (f := kR) (G := G))).trans (yTg.up hX.m (kR_n (by omega) (by omega)))
  show Y l S0 D K_X12_ofGuard 18 1 9 (fun r G1 => (∃ v : Int32, r = some (.int v)) ∧ ∃ (ad1 : Nat → Nat) (ρ1 : RS), atR aC ic de ad1 G1 ρ1 ∧ ad1 200 = ad 200 ∧ yTg kR G G1 ∧ rSm ρ ρ1) (fun _ _ => False) (2 + 3) [(0, .ref (ad 200)), (1, .int guard), (2, .int what)] [] (yup G (ad 200) (200, .inr (16, [.int 0, .int (rI ρ 1), .int (rI ρ 2), .ref (ad 201), .int (rI ρ 3), .int (rI ρ 4), .ref (ad 210), .ref (ad 211), .ref (ad 212), .ref (ad 213), .int (rI ρ 5), .int (rI ρ 6), .int (rI ρ 7), .ref (ad 202), .ref (ad 214), .int (rI ρ 8), .ref (ad 203), .ref (ad 215), .ref (ad 216), .int (rI ρ 9)]))) 1 9
  generalize yup G (ad 200) (200, .inr (16, [.int 0, .int (rI ρ 1), .int (rI ρ 2), .ref (ad 201), .int (rI ρ 3), .int (rI ρ 4), .ref (ad 210), .ref (ad 211), .ref (ad 212), .ref (ad 213), .int (rI ρ 5), .int (rI ρ 6), .int (rI ρ 7), .ref (ad 202), .ref (ad 214), .int (rI ρ 8), .ref (ad 203), .ref (ad 215), .ref (ad 216), .int (rI ρ 9)])) = G2 at hX2 kt2 ⊢
  refine y_blk 2 tq_X12_ofGuard (z := (7, [(0, .ref (ad 200)), (1, .int guard), (2, .int what)], [.int guard, .ref (ad 200)])) rfl ?_
  refine y_callV hS tq_X12_ofGuard rfl (As := [.int guard]) rfl cv_X12_176 hX2.m (m_X12_isGuard hS hI hX2 guard) rfl (by decide) (Nat.le_of_ble_eq_true rfl) (fun r7 Gc7 q7 => ?_) (fun E9 G9 h9 => h9.elim)
  obtain ⟨rfl, eG7⟩ := q7
  have eG7 := eG7.symm
  subst eG7
  refine y_blk 0 tq_X12_ofGuard (z := (10, [(0, .ref (ad 200)), (1, .int guard), (2, .int what)], [.int (if 0 ≤ guard ∧ guard ≤ (Int32.ofNat (rZ ((rin ρ 0 0)) 212)) - 1 then 1 else 0)])) rfl ?_
  refine y_if_ne tq_X12_ofGuard 19 rfl rfl (fun c10 => ?_) (fun c10 => ?_)
  · skip
    have hq10 := yif1 c10
    have hn10 := yinN (n := rZ ((rin ρ 0 0)) 212) (by have := hX2.2.le10 212 (by decide); omega) hq10
    have ha10 := hn10.1
    have hb10 := hn10.2
    refine y_blk 3 tq_X12_ofGuard (z := (23, [(0, .ref (ad 200)), (1, .int guard), (2, .int what)], [.int 8, .int 0, .int what])) rfl ?_
    refine y_callS hS tq_X12_ofGuard rfl (As := [.int what, .int 0, .int 8]) rfl cs_X12_54 (m_X12_in hS what 0 8) rfl (by decide) (Nat.le_of_ble_eq_true rfl) (fun r23 Gc23 q23 => ?_) (fun E9 G9 h9 => h9.elim)
    obtain ⟨rfl, eG23⟩ := q23
    have eG23 := eG23.symm
    subst eG23
    refine y_blk 0 tq_X12_ofGuard (z := (26, [(0, .ref (ad 200)), (1, .int guard), (2, .int what)], [.int (if 0 ≤ what ∧ what ≤ 8 then 1 else 0)])) rfl ?_
    refine y_if_ne tq_X12_ofGuard 35 rfl rfl (fun c26 => ?_) (fun c26 => ?_)
    · skip
      have hq26 := yif1 c26
      simp only [yle, yl_m1, yl_0, yl_1, yl_2, yl_3, yl_4, yl_5, yl_6, yl_7, yl_8, yl_9, yl_10, yl_11, yl_12, yl_60, yl_90, yl_239, yl_240] at hq26
      have ha26 := hq26.1
      have hb26 := hq26.2
      refine y_blk 3 tq_X12_ofGuard (z := (38, [(0, .ref (ad 200)), (1, .int guard), (2, .int what)], [.int what, .int guard, .ref (ad 200)])) rfl ?_
      refine y_callV hS tq_X12_ofGuard rfl (As := [.int guard, .int what]) rfl cv_X12_225 hX2.m (m_X12_guardNow hS hI hX2 guard what (by assumption) (by assumption) (by omega) (by omega)) rfl (by decide) (Nat.le_of_ble_eq_true rfl) (fun r38 Gc38 q38 => ?_) (fun E9 G9 h9 => h9.elim)
      obtain ⟨⟨x38, rfl⟩, kt38⟩ := q38
      have hX38 := hX2.kp (kt38.narrow kA_R)
      have ktt38 := (kt2).trans (kt38.narrow kR_A)
      refine y_blk 0 tq_X12_ofGuard (z := (41, [(0, .ref (ad 200)), (1, .int guard), (2, .int what)], [.int x38])) rfl ?_
      exact y_iret tq_X12_ofGuard rfl rfl (⟨⟨_, rfl⟩, ad, _, hX38, rfl, ktt38, (rSm.in0 rSm.rfl')⟩)
    · skip
      refine y_blk 2 tq_X12_ofGuard (z := (31, [(0, .ref (ad 200)), (1, .int guard), (2, .int what)], [.int 2, .ref (ad 200)])) rfl ?_
      refine y_callV hS tq_X12_ofGuard rfl (As := [.int 2]) rfl cv_X12_140 hX2.m (m_X12_no hS hI hX2 2) rfl (by decide) (Nat.le_of_ble_eq_true rfl) (fun r31 Gc31 q31 => ?_) (fun E9 G9 h9 => h9.elim)
      obtain ⟨rfl, hX31, kt31_⟩ := q31
      have kt31 := (kt2).trans kt31_
      refine y_blk 0 tq_X12_ofGuard (z := (34, [(0, .ref (ad 200)), (1, .int guard), (2, .int what)], [.int 0])) rfl ?_
      exact y_iret tq_X12_ofGuard rfl rfl (⟨⟨_, rfl⟩, ad, _, hX31, rfl, kt31, (rSm.in0 (rSm.in0 rSm.rfl'))⟩)
  · skip
    refine y_blk 2 tq_X12_ofGuard (z := (15, [(0, .ref (ad 200)), (1, .int guard), (2, .int what)], [.int 1, .ref (ad 200)])) rfl ?_
    refine y_callV hS tq_X12_ofGuard rfl (As := [.int 1]) rfl cv_X12_140 hX2.m (m_X12_no hS hI hX2 1) rfl (by decide) (Nat.le_of_ble_eq_true rfl) (fun r15 Gc15 q15 => ?_) (fun E9 G9 h9 => h9.elim)
    obtain ⟨rfl, hX15, kt15_⟩ := q15
    have kt15 := (kt2).trans kt15_
    refine y_blk 0 tq_X12_ofGuard (z := (18, [(0, .ref (ad 200)), (1, .int guard), (2, .int what)], [.int 0])) rfl ?_
    exact y_iret tq_X12_ofGuard rfl rfl (⟨⟨_, rfl⟩, ad, _, hX15, rfl, kt15, (rSm.in0 (rSm.in0 rSm.rfl'))⟩)
set_option maxHeartbeats 4000000 in
set_option maxRecDepth 100000 in
theorem m_X12_where {l : Launch} {S0 : State} {A0 : Array Value} {D : va_G} {aC : Nat → ClassId} {ic : Int32 → Nat} {de : Nat} {ad : Nat → Nat} {G : AH} {ρ : RS} (hS : yS l S0 A0 D aC) (hI : yIc S0 ic de) (hX : atR aC ic de ad G ρ) (intruder : Int32) (minute : Int32) : yM l S0 D yX12_where cX12_where 3 (some .int) 18 0 0 [.ref (ad 200), .int intruder, .int minute] G (fun r G1 => (∃ v : Int32, r = some (.int v)) ∧ ∃ (ad1 : Nat → Nat) (ρ1 : RS), atR aC ic de ad1 G1 ρ1 ∧ ad1 200 = ad 200 ∧ yTg kR G G1 ∧ roWhere intruder minute r ρ ρ1) (fun _ _ => False) := by
  refine yM.ofK K_X12_where rfl (by decide) (Nat.le_of_ble_eq_true rfl) ?_
  refine y_blk 2 tq_X12_where (z := (2, [(0, .ref (ad 200)), (1, .int intruder), (2, .int minute)], [.int 0, .ref (ad 200)])) rfl ?_
  refine y_put hS tq_X12_where rfl fp_X12_51_X12 hX.m (by omega) rfl rfl (Nat.le_of_ble_eq_true rfl) ?_
  have hX2 : atR aC ic de ad (yup G (ad 200) (200, .inr (16, [.int 0, .int (rI ρ 1), .int (rI ρ 2), .ref (ad 201), .int (rI ρ 3), .int (rI ρ 4), .ref (ad 210), .ref (ad 211), .ref (ad 212), .ref (ad 213), .int (rI ρ 5), .int (rI ρ 6), .int (rI ρ 7), .ref (ad 202), .ref (ad 214), .int (rI ρ 8), .ref (ad 203), .ref (ad 215), .ref (ad 216), .int (rI ρ 9)]))) ((rin ρ 0 0)) := atR.setIb hX rfl rfl (hX.2.setI (by decide))
  have kt2 : yTg kR G (yup G (ad 200) (200, .inr (16, [.int 0, .int (rI ρ 1), .int (rI ρ 2), .ref (ad 201), .int (rI ρ 3), .int (rI ρ 4), .ref (ad 210), .ref (ad 211), .ref (ad 212), .ref (ad 213), .int (rI ρ 5), .int (rI ρ 6), .int (rI ρ 7), .ref (ad 202), .ref (ad 214), .int (rI ρ 8), .ref (ad 203), .ref (ad 215), .ref (ad 216), .int (rI ρ 9)]))) := ((yTg.rfl' (f := kR) (G := G))).trans (yTg.up hX.m (kR_n (by omega) (by omega)))
  show Y l S0 D K_X12_where 18 0 0 (fun r G1 => (∃ v : Int32, r = some (.int v)) ∧ ∃ (ad1 : Nat → Nat) (ρ1 : RS), atR aC ic de ad1 G1 ρ1 ∧ ad1 200 = ad 200 ∧ yTg kR G G1 ∧ roWhere intruder minute r ρ ρ1) (fun _ _ => False) (2 + 3) [(0, .ref (ad 200)), (1, .int intruder), (2, .int minute)] [] (yup G (ad 200) (200, .inr (16, [.int 0, .int (rI ρ 1), .int (rI ρ 2), .ref (ad 201), .int (rI ρ 3), .int (rI ρ 4), .ref (ad 210), .ref (ad 211), .ref (ad 212), .ref (ad 213), .int (rI ρ 5), .int (rI ρ 6), .int (rI ρ 7), .ref (ad 202), .ref (ad 214), .int (rI ρ 8), .ref (ad 203), .ref (ad 215), .ref (ad 216), .int (rI ρ 9)]))) 0 0
  generalize yup G (ad 200) (200, .inr (16, [.int 0, .int (rI ρ 1), .int (rI ρ 2), .ref (ad 201), .int (rI ρ 3), .int (rI ρ 4), .ref (ad 210), .ref (ad 211), .ref (ad 212), .ref (ad 213), .int (rI ρ 5), .int (rI ρ 6), .int (rI ρ 7), .ref (ad 202), .ref (ad 214), .int (rI ρ 8), .ref (ad 203), .ref (ad 215), .ref (ad 216), .int (rI ρ 9)])) = G2 at hX2 kt2 ⊢
  refine y_blk 2 tq_X12_where (z := (7, [(0, .ref (ad 200)), (1, .int intruder), (2, .int minute)], [.int intruder, .ref (ad 200)])) rfl ?_
  refine y_callV hS tq_X12_where rfl (As := [.int intruder]) rfl cv_X12_246 hX2.m (m_X12_isIntruder hS hI hX2 intruder) rfl (by decide) (Nat.le_of_ble_eq_true rfl) (fun r7 Gc7 q7 => ?_) (fun E9 G9 h9 => h9.elim)
  obtain ⟨rfl, eG7⟩ := q7
  have eG7 := eG7.symm
  subst eG7
  refine y_blk 0 tq_X12_where (z := (10, [(0, .ref (ad 200)), (1, .int intruder), (2, .int minute)], [.int (if 0 ≤ intruder ∧ intruder ≤ (Int32.ofNat (rZ ((rin ρ 0 0)) 215)) - 1 then 1 else 0)])) rfl ?_
  refine y_if_ne tq_X12_where 19 rfl rfl (fun c10 => ?_) (fun c10 => ?_)
  · skip
    have hq10 := yif1 c10
    have hn10 := yinN (n := rZ ((rin ρ 0 0)) 215) (by have := hX2.2.le10 215 (by decide); omega) hq10
    have ha10 := hn10.1
    have hb10 := hn10.2
    refine y_blk 1 tq_X12_where (z := (20, [(0, .ref (ad 200)), (1, .int intruder), (2, .int minute)], [.int minute])) rfl ?_
    refine y_callS hS tq_X12_where rfl (As := [.int minute]) rfl cs_X12_163 (m_X12_isMinute hS minute) rfl (by decide) (Nat.le_of_ble_eq_true rfl) (fun r20 Gc20 q20 => ?_) (fun E9 G9 h9 => h9.elim)
    obtain ⟨rfl, eG20⟩ := q20
    have eG20 := eG20.symm
    subst eG20
    refine y_blk 0 tq_X12_where (z := (23, [(0, .ref (ad 200)), (1, .int intruder), (2, .int minute)], [.int (if 0 ≤ minute ∧ minute ≤ 239 then 1 else 0)])) rfl ?_
    refine y_if_ne tq_X12_where 32 rfl rfl (fun c23 => ?_) (fun c23 => ?_)
    · skip
      have hq23 := yif1 c23
      simp only [yle, yl_m1, yl_0, yl_1, yl_2, yl_3, yl_4, yl_5, yl_6, yl_7, yl_8, yl_9, yl_10, yl_11, yl_12, yl_60, yl_90, yl_239, yl_240] at hq23
      have ha23 := hq23.1
      have hb23 := hq23.2
      refine y_blk 1 tq_X12_where (z := (33, [(0, .ref (ad 200)), (1, .int intruder), (2, .int minute)], [.ref (ad 200)])) rfl ?_
      refine y_get hS tq_X12_where (v := .ref (ad 215)) rfl fg_X12_42_X12 hX2.m rfl ?_
      refine y_blk 1 tq_X12_where (z := (37, [(0, .ref (ad 200)), (1, .int intruder), (2, .int minute)], [.int intruder, .ref (ad 215)])) rfl ?_
      refine y_callF hS tq_X12_where rfl (As := [.int intruder]) rfl cf_X12_80 (Or.inl ⟨_, (hX2.ls 215 (by decide)).1⟩) (m_Rin hS hX2 (by assumption) (by assumption)) rfl (by decide) (Nat.le_of_ble_eq_true rfl) (fun r37 Gc37 q37 => ?_) (fun _ _ h9 => h9.elim)
      obtain ⟨rfl, eG37⟩ := q37
      have eG37 := eG37.symm
      subst eG37
      have d37 : (Int32.toNatClampNeg intruder) < rZ ((rin ρ 0 0)) 215 := yIx (by assumption) (by assumption)
      refine y_blk 0 tq_X12_where (z := (42, [(0, .ref (ad 200)), (1, .int intruder), (2, .int minute)], [.ref (ad (420 + (Int32.toNatClampNeg intruder)))])) rfl ?_
      refine y_castG hS tq_X12_where rfl kc_X12_152 (Or.inl ⟨_, (hX2.in (by assumption))⟩) ?_
      refine y_blk 1 tq_X12_where (z := (46, [(0, .ref (ad 200)), (1, .int intruder), (2, .int minute)], [.int minute, .ref (ad (420 + (Int32.toNatClampNeg intruder)))])) rfl ?_
      refine y_callV hS tq_X12_where rfl (As := [.int minute]) rfl cv_X12_154 (hX2.in (by assumption)) (m_X11_where hS hI hX2 (k := (Int32.toNatClampNeg intruder)) (by assumption) minute (by omega)) rfl (by decide) (Nat.le_of_ble_eq_true rfl) (fun r46 Gc46 q46 => ?_) (fun E9 G9 h9 => h9.elim)
      obtain ⟨⟨x46, hr_x46, rfl⟩, eG46⟩ := q46
      have eG46 := eG46.symm
      subst eG46
      refine y_blk 0 tq_X12_where (z := (49, [(0, .ref (ad 200)), (1, .int intruder), (2, .int minute)], [.int x46])) rfl ?_
      exact y_iret tq_X12_where rfl rfl (⟨⟨_, rfl⟩, ad, _, hX2, rfl, kt2, Or.inl (⟨⟨yif1 c10, yif1 c23⟩, congrArg (fun z => some (Value.int z)) (hr_x46.2 (by omega)), rfl, (rSm.in0 rSm.rfl')⟩)⟩)
    · skip
      refine y_blk 2 tq_X12_where (z := (28, [(0, .ref (ad 200)), (1, .int intruder), (2, .int minute)], [.int 2, .ref (ad 200)])) rfl ?_
      refine y_callV hS tq_X12_where rfl (As := [.int 2]) rfl cv_X12_140 hX2.m (m_X12_no hS hI hX2 2) rfl (by decide) (Nat.le_of_ble_eq_true rfl) (fun r28 Gc28 q28 => ?_) (fun E9 G9 h9 => h9.elim)
      obtain ⟨rfl, hX28, kt28_⟩ := q28
      have kt28 := (kt2).trans kt28_
      refine y_blk 0 tq_X12_where (z := (31, [(0, .ref (ad 200)), (1, .int intruder), (2, .int minute)], [.int 0])) rfl ?_
      exact y_iret tq_X12_where rfl rfl (⟨⟨_, rfl⟩, ad, _, hX28, rfl, kt28, Or.inr (Or.inr (⟨⟨yif1 c10, rif c23⟩, rfl, (rSm.in0 (rSm.in0 rSm.rfl'))⟩))⟩)
  · skip
    refine y_blk 2 tq_X12_where (z := (15, [(0, .ref (ad 200)), (1, .int intruder), (2, .int minute)], [.int 1, .ref (ad 200)])) rfl ?_
    refine y_callV hS tq_X12_where rfl (As := [.int 1]) rfl cv_X12_140 hX2.m (m_X12_no hS hI hX2 1) rfl (by decide) (Nat.le_of_ble_eq_true rfl) (fun r15 Gc15 q15 => ?_) (fun E9 G9 h9 => h9.elim)
    obtain ⟨rfl, hX15, kt15_⟩ := q15
    have kt15 := (kt2).trans kt15_
    refine y_blk 0 tq_X12_where (z := (18, [(0, .ref (ad 200)), (1, .int intruder), (2, .int minute)], [.int 0])) rfl ?_
    exact y_iret tq_X12_where rfl rfl (⟨⟨_, rfl⟩, ad, _, hX15, rfl, kt15, Or.inr (Or.inl (⟨rif c10, rfl, (rSm.in0 (rSm.in0 rSm.rfl'))⟩))⟩)
set_option maxHeartbeats 4000000 in
set_option maxRecDepth 100000 in
theorem m_X12_ofIntruder {l : Launch} {S0 : State} {A0 : Array Value} {D : va_G} {aC : Nat → ClassId} {ic : Int32 → Nat} {de : Nat} {ad : Nat → Nat} {G : AH} {ρ : RS} (hS : yS l S0 A0 D aC) (hI : yIc S0 ic de) (hX : atR aC ic de ad G ρ) (intruder : Int32) (what : Int32) : yM l S0 D yX12_ofIntruder cX12_ofIntruder 3 (some .int) 24 12 768 [.ref (ad 200), .int intruder, .int what] G (fun r G1 => (∃ v : Int32, r = some (.int v)) ∧ ∃ (ad1 : Nat → Nat) (ρ1 : RS), atR aC ic de ad1 G1 ρ1 ∧ ad1 200 = ad 200 ∧ yTg kR G G1 ∧ rSm ρ ρ1) (fun _ _ => False) := by
  refine yM.ofK K_X12_ofIntruder rfl (by decide) (Nat.le_of_ble_eq_true rfl) ?_
  refine y_blk 2 tq_X12_ofIntruder (z := (2, [(0, .ref (ad 200)), (1, .int intruder), (2, .int what)], [.int 0, .ref (ad 200)])) rfl ?_
  refine y_put hS tq_X12_ofIntruder rfl fp_X12_51_X12 hX.m (by omega) rfl rfl (Nat.le_of_ble_eq_true rfl) ?_
  have hX2 : atR aC ic de ad (yup G (ad 200) (200, .inr (16, [.int 0, .int (rI ρ 1), .int (rI ρ 2), .ref (ad 201), .int (rI ρ 3), .int (rI ρ 4), .ref (ad 210), .ref (ad 211), .ref (ad 212), .ref (ad 213), .int (rI ρ 5), .int (rI ρ 6), .int (rI ρ 7), .ref (ad 202), .ref (ad 214), .int (rI ρ 8), .ref (ad 203), .ref (ad 215), .ref (ad 216), .int (rI ρ 9)]))) ((rin ρ 0 0)) := atR.setIb hX rfl rfl (hX.2.setI (by decide))
  have kt2 : yTg kR G (yup G (ad 200) (200, .inr (16, [.int 0, .int (rI ρ 1), .int (rI ρ 2), .ref (ad 201), .int (rI ρ 3), .int (rI ρ 4), .ref (ad 210), .ref (ad 211), .ref (ad 212), .ref (ad 213), .int (rI ρ 5), .int (rI ρ 6), .int (rI ρ 7), .ref (ad 202), .ref (ad 214), .int (rI ρ 8), .ref (ad 203), .ref (ad 215), .ref (ad 216), .int (rI ρ 9)]))) := ((yTg.rfl' (f := kR) (G := G))).trans (yTg.up hX.m (kR_n (by omega) (by omega)))
  show Y l S0 D K_X12_ofIntruder 24 12 768 (fun r G1 => (∃ v : Int32, r = some (.int v)) ∧ ∃ (ad1 : Nat → Nat) (ρ1 : RS), atR aC ic de ad1 G1 ρ1 ∧ ad1 200 = ad 200 ∧ yTg kR G G1 ∧ rSm ρ ρ1) (fun _ _ => False) (2 + 3) [(0, .ref (ad 200)), (1, .int intruder), (2, .int what)] [] (yup G (ad 200) (200, .inr (16, [.int 0, .int (rI ρ 1), .int (rI ρ 2), .ref (ad 201), .int (rI ρ 3), .int (rI ρ 4), .ref (ad 210), .ref (ad 211), .ref (ad 212), .ref (ad 213), .int (rI ρ 5), .int (rI ρ 6), .int (rI ρ 7), .ref (ad 202), .ref (ad 214), .int (rI ρ 8), .ref (ad 203), .ref (ad 215), .ref (ad 216), .int (rI ρ 9)]))) 12 768
  generalize yup G (ad 200) (200, .inr (16, [.int 0, .int (rI ρ 1), .int (rI ρ 2), .ref (ad 201), .int (rI ρ 3), .int (rI ρ 4), .ref (ad 210), .ref (ad 211), .ref (ad 212), .ref (ad 213), .int (rI ρ 5), .int (rI ρ 6), .int (rI ρ 7), .ref (ad 202), .ref (ad 214), .int (rI ρ 8), .ref (ad 203), .ref (ad 215), .ref (ad 216), .int (rI ρ 9)])) = G2 at hX2 kt2 ⊢
  refine y_blk 2 tq_X12_ofIntruder (z := (7, [(0, .ref (ad 200)), (1, .int intruder), (2, .int what)], [.int intruder, .ref (ad 200)])) rfl ?_
  refine y_callV hS tq_X12_ofIntruder rfl (As := [.int intruder]) rfl cv_X12_246 hX2.m (m_X12_isIntruder hS hI hX2 intruder) rfl (by decide) (Nat.le_of_ble_eq_true rfl) (fun r7 Gc7 q7 => ?_) (fun E9 G9 h9 => h9.elim)
  obtain ⟨rfl, eG7⟩ := q7
  have eG7 := eG7.symm
  subst eG7
  refine y_blk 0 tq_X12_ofIntruder (z := (10, [(0, .ref (ad 200)), (1, .int intruder), (2, .int what)], [.int (if 0 ≤ intruder ∧ intruder ≤ (Int32.ofNat (rZ ((rin ρ 0 0)) 215)) - 1 then 1 else 0)])) rfl ?_
  refine y_if_ne tq_X12_ofIntruder 19 rfl rfl (fun c10 => ?_) (fun c10 => ?_)
  · skip
    have hq10 := yif1 c10
    have hn10 := yinN (n := rZ ((rin ρ 0 0)) 215) (by have := hX2.2.le10 215 (by decide); omega) hq10
    have ha10 := hn10.1
    have hb10 := hn10.2
    refine y_blk 3 tq_X12_ofIntruder (z := (23, [(0, .ref (ad 200)), (1, .int intruder), (2, .int what)], [.int 8, .int 0, .int what])) rfl ?_
    refine y_callS hS tq_X12_ofIntruder rfl (As := [.int what, .int 0, .int 8]) rfl cs_X12_54 (m_X12_in hS what 0 8) rfl (by decide) (Nat.le_of_ble_eq_true rfl) (fun r23 Gc23 q23 => ?_) (fun E9 G9 h9 => h9.elim)
    obtain ⟨rfl, eG23⟩ := q23
    have eG23 := eG23.symm
    subst eG23
    refine y_blk 0 tq_X12_ofIntruder (z := (26, [(0, .ref (ad 200)), (1, .int intruder), (2, .int what)], [.int (if 0 ≤ what ∧ what ≤ 8 then 1 else 0)])) rfl ?_
    refine y_if_ne tq_X12_ofIntruder 35 rfl rfl (fun c26 => ?_) (fun c26 => ?_)
    · skip
      have hq26 := yif1 c26
      simp only [yle, yl_m1, yl_0, yl_1, yl_2, yl_3, yl_4, yl_5, yl_6, yl_7, yl_8, yl_9, yl_10, yl_11, yl_12, yl_60, yl_90, yl_239, yl_240] at hq26
      have ha26 := hq26.1
      have hb26 := hq26.2
      refine y_blk 3 tq_X12_ofIntruder (z := (38, [(0, .ref (ad 200)), (1, .int intruder), (2, .int what)], [.int what, .int intruder, .ref (ad 200)])) rfl ?_
      refine y_callV hS tq_X12_ofIntruder rfl (As := [.int intruder, .int what]) rfl cv_X12_271 hX2.m (m_X12_intruderNow hS hI hX2 intruder what (by assumption) (by assumption)) rfl (by decide) (Nat.le_of_ble_eq_true rfl) (fun r38 Gc38 q38 => ?_) (fun E9 G9 h9 => h9.elim)
      obtain ⟨⟨x38, rfl⟩, kt38⟩ := q38
      have hX38 := hX2.kp (kt38.narrow kA_R)
      have ktt38 := (kt2).trans (kt38.narrow kR_A)
      refine y_blk 0 tq_X12_ofIntruder (z := (41, [(0, .ref (ad 200)), (1, .int intruder), (2, .int what)], [.int x38])) rfl ?_
      exact y_iret tq_X12_ofIntruder rfl rfl (⟨⟨_, rfl⟩, ad, _, hX38, rfl, ktt38, (rSm.in0 rSm.rfl')⟩)
    · skip
      refine y_blk 2 tq_X12_ofIntruder (z := (31, [(0, .ref (ad 200)), (1, .int intruder), (2, .int what)], [.int 2, .ref (ad 200)])) rfl ?_
      refine y_callV hS tq_X12_ofIntruder rfl (As := [.int 2]) rfl cv_X12_140 hX2.m (m_X12_no hS hI hX2 2) rfl (by decide) (Nat.le_of_ble_eq_true rfl) (fun r31 Gc31 q31 => ?_) (fun E9 G9 h9 => h9.elim)
      obtain ⟨rfl, hX31, kt31_⟩ := q31
      have kt31 := (kt2).trans kt31_
      refine y_blk 0 tq_X12_ofIntruder (z := (34, [(0, .ref (ad 200)), (1, .int intruder), (2, .int what)], [.int 0])) rfl ?_
      exact y_iret tq_X12_ofIntruder rfl rfl (⟨⟨_, rfl⟩, ad, _, hX31, rfl, kt31, (rSm.in0 (rSm.in0 rSm.rfl'))⟩)
  · skip
    refine y_blk 2 tq_X12_ofIntruder (z := (15, [(0, .ref (ad 200)), (1, .int intruder), (2, .int what)], [.int 1, .ref (ad 200)])) rfl ?_
    refine y_callV hS tq_X12_ofIntruder rfl (As := [.int 1]) rfl cv_X12_140 hX2.m (m_X12_no hS hI hX2 1) rfl (by decide) (Nat.le_of_ble_eq_true rfl) (fun r15 Gc15 q15 => ?_) (fun E9 G9 h9 => h9.elim)
    obtain ⟨rfl, hX15, kt15_⟩ := q15
    have kt15 := (kt2).trans kt15_
    refine y_blk 0 tq_X12_ofIntruder (z := (18, [(0, .ref (ad 200)), (1, .int intruder), (2, .int what)], [.int 0])) rfl ?_
    exact y_iret tq_X12_ofIntruder rfl rfl (⟨⟨_, rfl⟩, ad, _, hX15, rfl, kt15, (rSm.in0 (rSm.in0 rSm.rfl'))⟩)
set_option maxHeartbeats 4000000 in
set_option maxRecDepth 100000 in
theorem m_X12_ofWire {l : Launch} {S0 : State} {A0 : Array Value} {D : va_G} {aC : Nat → ClassId} {ic : Int32 → Nat} {de : Nat} {ad : Nat → Nat} {G : AH} {ρ : RS} (hS : yS l S0 A0 D aC) (hI : yIc S0 ic de) (hX : atR aC ic de ad G ρ) (wire : Int32) (what : Int32) : yM l S0 D yX12_ofWire cX12_ofWire 3 (some .int) 19 0 0 [.ref (ad 200), .int wire, .int what] G (fun r G1 => (∃ v : Int32, r = some (.int v)) ∧ ∃ (ad1 : Nat → Nat) (ρ1 : RS), atR aC ic de ad1 G1 ρ1 ∧ ad1 200 = ad 200 ∧ yTg kR G G1 ∧ rSm ρ ρ1) (fun _ _ => False) := by
  refine yM.ofK K_X12_ofWire rfl (by decide) (Nat.le_of_ble_eq_true rfl) ?_
  refine y_blk 2 tq_X12_ofWire (z := (2, [(0, .ref (ad 200)), (1, .int wire), (2, .int what)], [.int 0, .ref (ad 200)])) rfl ?_
  refine y_put hS tq_X12_ofWire rfl fp_X12_51_X12 hX.m (by omega) rfl rfl (Nat.le_of_ble_eq_true rfl) ?_
  have hX2 : atR aC ic de ad (yup G (ad 200) (200, .inr (16, [.int 0, .int (rI ρ 1), .int (rI ρ 2), .ref (ad 201), .int (rI ρ 3), .int (rI ρ 4), .ref (ad 210), .ref (ad 211), .ref (ad 212), .ref (ad 213), .int (rI ρ 5), .int (rI ρ 6), .int (rI ρ 7), .ref (ad 202), .ref (ad 214), .int (rI ρ 8), .ref (ad 203), .ref (ad 215), .ref (ad 216), .int (rI ρ 9)]))) ((rin ρ 0 0)) := atR.setIb hX rfl rfl (hX.2.setI (by decide))
  have kt2 : yTg kR G (yup G (ad 200) (200, .inr (16, [.int 0, .int (rI ρ 1), .int (rI ρ 2), .ref (ad 201), .int (rI ρ 3), .int (rI ρ 4), .ref (ad 210), .ref (ad 211), .ref (ad 212), .ref (ad 213), .int (rI ρ 5), .int (rI ρ 6), .int (rI ρ 7), .ref (ad 202), .ref (ad 214), .int (rI ρ 8), .ref (ad 203), .ref (ad 215), .ref (ad 216), .int (rI ρ 9)]))) := ((yTg.rfl' (f := kR) (G := G))).trans (yTg.up hX.m (kR_n (by omega) (by omega)))
  show Y l S0 D K_X12_ofWire 19 0 0 (fun r G1 => (∃ v : Int32, r = some (.int v)) ∧ ∃ (ad1 : Nat → Nat) (ρ1 : RS), atR aC ic de ad1 G1 ρ1 ∧ ad1 200 = ad 200 ∧ yTg kR G G1 ∧ rSm ρ ρ1) (fun _ _ => False) (2 + 3) [(0, .ref (ad 200)), (1, .int wire), (2, .int what)] [] (yup G (ad 200) (200, .inr (16, [.int 0, .int (rI ρ 1), .int (rI ρ 2), .ref (ad 201), .int (rI ρ 3), .int (rI ρ 4), .ref (ad 210), .ref (ad 211), .ref (ad 212), .ref (ad 213), .int (rI ρ 5), .int (rI ρ 6), .int (rI ρ 7), .ref (ad 202), .ref (ad 214), .int (rI ρ 8), .ref (ad 203), .ref (ad 215), .ref (ad 216), .int (rI ρ 9)]))) 0 0
  generalize yup G (ad 200) (200, .inr (16, [.int 0, .int (rI ρ 1), .int (rI ρ 2), .ref (ad 201), .int (rI ρ 3), .int (rI ρ 4), .ref (ad 210), .ref (ad 211), .ref (ad 212), .ref (ad 213), .int (rI ρ 5), .int (rI ρ 6), .int (rI ρ 7), .ref (ad 202), .ref (ad 214), .int (rI ρ 8), .ref (ad 203), .ref (ad 215), .ref (ad 216), .int (rI ρ 9)])) = G2 at hX2 kt2 ⊢
  refine y_blk 3 tq_X12_ofWire (z := (8, [(0, .ref (ad 200)), (1, .int wire), (2, .int what)], [.ref (ad 200), .int 0, .int wire])) rfl ?_
  refine y_get hS tq_X12_ofWire (v := .ref (ad 216)) rfl fg_X12_45_X12 hX2.m rfl ?_
  refine y_blk 0 tq_X12_ofWire (z := (11, [(0, .ref (ad 200)), (1, .int wire), (2, .int what)], [.ref (ad 216), .int 0, .int wire])) rfl ?_
  refine y_callF hS tq_X12_ofWire rfl (As := []) rfl cf_X12_58 (Or.inl ⟨_, (hX2.ls 216 (by decide)).1⟩) (m_Jsize hS (hX2.ls 216 (by decide))) rfl (by decide) (Nat.le_of_ble_eq_true rfl) (fun r11 Gc11 q11 => ?_) (fun _ _ h9 => h9.elim)
  obtain ⟨rfl, eG11⟩ := q11
  have eG11 := eG11.symm
  subst eG11
  refine y_blk 2 tq_X12_ofWire (z := (18, [(0, .ref (ad 200)), (1, .int wire), (2, .int what)], [.int ((Int32.ofNat (rZ ((rin ρ 0 0)) 216)) - 1), .int 0, .int wire])) rfl ?_
  refine y_callS hS tq_X12_ofWire rfl (As := [.int wire, .int 0, .int ((Int32.ofNat (rZ ((rin ρ 0 0)) 216)) - 1)]) rfl cs_X12_54 (m_X12_in hS wire 0 ((Int32.ofNat (rZ ((rin ρ 0 0)) 216)) - 1)) rfl (by decide) (Nat.le_of_ble_eq_true rfl) (fun r18 Gc18 q18 => ?_) (fun E9 G9 h9 => h9.elim)
  obtain ⟨rfl, eG18⟩ := q18
  have eG18 := eG18.symm
  subst eG18
  refine y_blk 0 tq_X12_ofWire (z := (21, [(0, .ref (ad 200)), (1, .int wire), (2, .int what)], [.int (if 0 ≤ wire ∧ wire ≤ ((Int32.ofNat (rZ ((rin ρ 0 0)) 216)) - 1) then 1 else 0)])) rfl ?_
  refine y_if_ne tq_X12_ofWire 30 rfl rfl (fun c21 => ?_) (fun c21 => ?_)
  · skip
    have hq21 := yif1 c21
    have hn21 := yinN (n := rZ ((rin ρ 0 0)) 216) (by have := hX2.2.le10 216 (by decide); omega) hq21
    have ha21 := hn21.1
    have hb21 := hn21.2
    refine y_blk 3 tq_X12_ofWire (z := (33, [(0, .ref (ad 200)), (1, .int wire), (2, .int what)], [.int 4, .int 0, .int what])) rfl ?_
    refine y_callS hS tq_X12_ofWire rfl (As := [.int what, .int 0, .int 4]) rfl cs_X12_54 (m_X12_in hS what 0 4) rfl (by decide) (Nat.le_of_ble_eq_true rfl) (fun r33 Gc33 q33 => ?_) (fun E9 G9 h9 => h9.elim)
    obtain ⟨rfl, eG33⟩ := q33
    have eG33 := eG33.symm
    subst eG33
    refine y_blk 0 tq_X12_ofWire (z := (36, [(0, .ref (ad 200)), (1, .int wire), (2, .int what)], [.int (if 0 ≤ what ∧ what ≤ 4 then 1 else 0)])) rfl ?_
    refine y_if_ne tq_X12_ofWire 45 rfl rfl (fun c36 => ?_) (fun c36 => ?_)
    · skip
      have hq36 := yif1 c36
      simp only [yle, yl_m1, yl_0, yl_1, yl_2, yl_3, yl_4, yl_5, yl_6, yl_7, yl_8, yl_9, yl_10, yl_11, yl_12, yl_60, yl_90, yl_239, yl_240] at hq36
      have ha36 := hq36.1
      have hb36 := hq36.2
      refine y_blk 3 tq_X12_ofWire (z := (48, [(0, .ref (ad 200)), (1, .int wire), (2, .int what)], [.int what, .int wire, .ref (ad 200)])) rfl ?_
      refine y_callV hS tq_X12_ofWire rfl (As := [.int wire, .int what]) rfl cv_X12_277 hX2.m (m_X12_wireNow hS hI hX2 wire what (by assumption) (by assumption) (by omega)) rfl (by decide) (Nat.le_of_ble_eq_true rfl) (fun r48 Gc48 q48 => ?_) (fun E9 G9 h9 => h9.elim)
      obtain ⟨⟨x48, rfl⟩, eG48⟩ := q48
      have eG48 := eG48.symm
      subst eG48
      refine y_blk 0 tq_X12_ofWire (z := (51, [(0, .ref (ad 200)), (1, .int wire), (2, .int what)], [.int x48])) rfl ?_
      exact y_iret tq_X12_ofWire rfl rfl (⟨⟨_, rfl⟩, ad, _, hX2, rfl, kt2, (rSm.in0 rSm.rfl')⟩)
    · skip
      refine y_blk 2 tq_X12_ofWire (z := (41, [(0, .ref (ad 200)), (1, .int wire), (2, .int what)], [.int 2, .ref (ad 200)])) rfl ?_
      refine y_callV hS tq_X12_ofWire rfl (As := [.int 2]) rfl cv_X12_140 hX2.m (m_X12_no hS hI hX2 2) rfl (by decide) (Nat.le_of_ble_eq_true rfl) (fun r41 Gc41 q41 => ?_) (fun E9 G9 h9 => h9.elim)
      obtain ⟨rfl, hX41, kt41_⟩ := q41
      have kt41 := (kt2).trans kt41_
      refine y_blk 0 tq_X12_ofWire (z := (44, [(0, .ref (ad 200)), (1, .int wire), (2, .int what)], [.int 0])) rfl ?_
      exact y_iret tq_X12_ofWire rfl rfl (⟨⟨_, rfl⟩, ad, _, hX41, rfl, kt41, (rSm.in0 (rSm.in0 rSm.rfl'))⟩)
  · skip
    refine y_blk 2 tq_X12_ofWire (z := (26, [(0, .ref (ad 200)), (1, .int wire), (2, .int what)], [.int 1, .ref (ad 200)])) rfl ?_
    refine y_callV hS tq_X12_ofWire rfl (As := [.int 1]) rfl cv_X12_140 hX2.m (m_X12_no hS hI hX2 1) rfl (by decide) (Nat.le_of_ble_eq_true rfl) (fun r26 Gc26 q26 => ?_) (fun E9 G9 h9 => h9.elim)
    obtain ⟨rfl, hX26, kt26_⟩ := q26
    have kt26 := (kt2).trans kt26_
    refine y_blk 0 tq_X12_ofWire (z := (29, [(0, .ref (ad 200)), (1, .int wire), (2, .int what)], [.int 0])) rfl ?_
    exact y_iret tq_X12_ofWire rfl rfl (⟨⟨_, rfl⟩, ad, _, hX26, rfl, kt26, (rSm.in0 (rSm.in0 rSm.rfl'))⟩)
set_option maxHeartbeats 4000000 in
set_option maxRecDepth 100000 in
theorem m_X12_many {l : Launch} {S0 : State} {A0 : Array Value} {D : va_G} {aC : Nat → ClassId} {ic : Int32 → Nat} {de : Nat} {ad : Nat → Nat} {G : AH} {ρ : RS} (hS : yS l S0 A0 D aC) (hI : yIc S0 ic de) (hX : atR aC ic de ad G ρ) (what : Int32) : yM l S0 D yX12_many cX12_many 2 (some .int) 23 1 13 [.ref (ad 200), .int what] G (fun r G1 => (∃ v : Int32, r = some (.int v)) ∧ ∃ (ad1 : Nat → Nat) (ρ1 : RS), atR aC ic de ad1 G1 ρ1 ∧ ad1 200 = ad 200 ∧ yTg kR G G1 ∧ rSm ρ ρ1) (fun _ _ => False) := by
  refine yM.ofK K_X12_many rfl (by decide) (Nat.le_of_ble_eq_true rfl) ?_
  refine y_blk 2 tq_X12_many (z := (2, [(0, .ref (ad 200)), (1, .int what)], [.int 0, .ref (ad 200)])) rfl ?_
  refine y_put hS tq_X12_many rfl fp_X12_51_X12 hX.m (by omega) rfl rfl (Nat.le_of_ble_eq_true rfl) ?_
  have hX2 : atR aC ic de ad (yup G (ad 200) (200, .inr (16, [.int 0, .int (rI ρ 1), .int (rI ρ 2), .ref (ad 201), .int (rI ρ 3), .int (rI ρ 4), .ref (ad 210), .ref (ad 211), .ref (ad 212), .ref (ad 213), .int (rI ρ 5), .int (rI ρ 6), .int (rI ρ 7), .ref (ad 202), .ref (ad 214), .int (rI ρ 8), .ref (ad 203), .ref (ad 215), .ref (ad 216), .int (rI ρ 9)]))) ((rin ρ 0 0)) := atR.setIb hX rfl rfl (hX.2.setI (by decide))
  have kt2 : yTg kR G (yup G (ad 200) (200, .inr (16, [.int 0, .int (rI ρ 1), .int (rI ρ 2), .ref (ad 201), .int (rI ρ 3), .int (rI ρ 4), .ref (ad 210), .ref (ad 211), .ref (ad 212), .ref (ad 213), .int (rI ρ 5), .int (rI ρ 6), .int (rI ρ 7), .ref (ad 202), .ref (ad 214), .int (rI ρ 8), .ref (ad 203), .ref (ad 215), .ref (ad 216), .int (rI ρ 9)]))) := ((yTg.rfl' (f := kR) (G := G))).trans (yTg.up hX.m (kR_n (by omega) (by omega)))
  show Y l S0 D K_X12_many 23 1 13 (fun r G1 => (∃ v : Int32, r = some (.int v)) ∧ ∃ (ad1 : Nat → Nat) (ρ1 : RS), atR aC ic de ad1 G1 ρ1 ∧ ad1 200 = ad 200 ∧ yTg kR G G1 ∧ rSm ρ ρ1) (fun _ _ => False) (2 + 3) [(0, .ref (ad 200)), (1, .int what)] [] (yup G (ad 200) (200, .inr (16, [.int 0, .int (rI ρ 1), .int (rI ρ 2), .ref (ad 201), .int (rI ρ 3), .int (rI ρ 4), .ref (ad 210), .ref (ad 211), .ref (ad 212), .ref (ad 213), .int (rI ρ 5), .int (rI ρ 6), .int (rI ρ 7), .ref (ad 202), .ref (ad 214), .int (rI ρ 8), .ref (ad 203), .ref (ad 215), .ref (ad 216), .int (rI ρ 9)]))) 1 13
  generalize yup G (ad 200) (200, .inr (16, [.int 0, .int (rI ρ 1), .int (rI ρ 2), .ref (ad 201), .int (rI ρ 3), .int (rI ρ 4), .ref (ad 210), .ref (ad 211), .ref (ad 212), .ref (ad 213), .int (rI ρ 5), .int (rI ρ 6), .int (rI ρ 7), .ref (ad 202), .ref (ad 214), .int (rI ρ 8), .ref (ad 203), .ref (ad 215), .ref (ad 216), .int (rI ρ 9)])) = G2 at hX2 kt2 ⊢
  refine y_blk 3 tq_X12_many (z := (9, [(0, .ref (ad 200)), (1, .int what)], [.int 12, .int 0, .int what])) rfl ?_
  refine y_callS hS tq_X12_many rfl (As := [.int what, .int 0, .int 12]) rfl cs_X12_54 (m_X12_in hS what 0 12) rfl (by decide) (Nat.le_of_ble_eq_true rfl) (fun r9 Gc9 q9 => ?_) (fun E9 G9 h9 => h9.elim)
  obtain ⟨rfl, eG9⟩ := q9
  have eG9 := eG9.symm
  subst eG9
  refine y_blk 0 tq_X12_many (z := (12, [(0, .ref (ad 200)), (1, .int what)], [.int (if 0 ≤ what ∧ what ≤ 12 then 1 else 0)])) rfl ?_
  refine y_if_ne tq_X12_many 21 rfl rfl (fun c12 => ?_) (fun c12 => ?_)
  · skip
    have hq12 := yif1 c12
    simp only [yle, yl_m1, yl_0, yl_1, yl_2, yl_3, yl_4, yl_5, yl_6, yl_7, yl_8, yl_9, yl_10, yl_11, yl_12, yl_60, yl_90, yl_239, yl_240] at hq12
    have ha12 := hq12.1
    have hb12 := hq12.2
    refine y_blk 2 tq_X12_many (z := (23, [(0, .ref (ad 200)), (1, .int what)], [.int what, .ref (ad 200)])) rfl ?_
    refine y_callV hS tq_X12_many rfl (As := [.int what]) rfl cv_X12_297 hX2.m (m_X12_manyNow hS hI hX2 what (by omega) (by omega)) rfl (by decide) (Nat.le_of_ble_eq_true rfl) (fun r23 Gc23 q23 => ?_) (fun E9 G9 h9 => h9.elim)
    obtain ⟨⟨x23, rfl⟩, kt23⟩ := q23
    have hX23 := hX2.kp (kt23.narrow kA_R)
    have ktt23 := (kt2).trans (kt23.narrow kR_A)
    refine y_blk 0 tq_X12_many (z := (26, [(0, .ref (ad 200)), (1, .int what)], [.int x23])) rfl ?_
    exact y_iret tq_X12_many rfl rfl (⟨⟨_, rfl⟩, ad, _, hX23, rfl, ktt23, (rSm.in0 rSm.rfl')⟩)
  · skip
    refine y_blk 2 tq_X12_many (z := (17, [(0, .ref (ad 200)), (1, .int what)], [.int 1, .ref (ad 200)])) rfl ?_
    refine y_callV hS tq_X12_many rfl (As := [.int 1]) rfl cv_X12_140 hX2.m (m_X12_no hS hI hX2 1) rfl (by decide) (Nat.le_of_ble_eq_true rfl) (fun r17 Gc17 q17 => ?_) (fun E9 G9 h9 => h9.elim)
    obtain ⟨rfl, hX17, kt17_⟩ := q17
    have kt17 := (kt2).trans kt17_
    refine y_blk 0 tq_X12_many (z := (20, [(0, .ref (ad 200)), (1, .int what)], [.int 0])) rfl ?_
    exact y_iret tq_X12_many rfl rfl (⟨⟨_, rfl⟩, ad, _, hX17, rfl, kt17, (rSm.in0 (rSm.in0 rSm.rfl'))⟩)
set_option maxHeartbeats 4000000 in
set_option maxRecDepth 100000 in
theorem m_X12_isSound {l : Launch} {S0 : State} {A0 : Array Value} {D : va_G} {aC : Nat → ClassId} {ic : Int32 → Nat} {de : Nat} {ad : Nat → Nat} {G : AH} {ρ : RS} (hS : yS l S0 A0 D aC) (hI : yIc S0 ic de) (hX : atR aC ic de ad G ρ) : yM l S0 D yX12_isSound cX12_isSound 1 (some .boolean) 19 0 0 [.ref (ad 200)] G (fun r G1 => (∃ v : Int32, (v = 0 ∨ v = 1) ∧ r = some (.int v)) ∧ ∃ (ad1 : Nat → Nat) (ρ1 : RS), atR aC ic de ad1 G1 ρ1 ∧ ad1 200 = ad 200 ∧ yTg kR G G1 ∧ rSm ρ ρ1) (fun _ _ => False) := by
  refine yM.ofK K_X12_isSound rfl (by decide) (Nat.le_of_ble_eq_true rfl) ?_
  refine y_blk 2 tq_X12_isSound (z := (2, [(0, .ref (ad 200))], [.int 0, .ref (ad 200)])) rfl ?_
  refine y_put hS tq_X12_isSound rfl fp_X12_51_X12 hX.m (by omega) rfl rfl (Nat.le_of_ble_eq_true rfl) ?_
  have hX2 : atR aC ic de ad (yup G (ad 200) (200, .inr (16, [.int 0, .int (rI ρ 1), .int (rI ρ 2), .ref (ad 201), .int (rI ρ 3), .int (rI ρ 4), .ref (ad 210), .ref (ad 211), .ref (ad 212), .ref (ad 213), .int (rI ρ 5), .int (rI ρ 6), .int (rI ρ 7), .ref (ad 202), .ref (ad 214), .int (rI ρ 8), .ref (ad 203), .ref (ad 215), .ref (ad 216), .int (rI ρ 9)]))) ((rin ρ 0 0)) := atR.setIb hX rfl rfl (hX.2.setI (by decide))
  have kt2 : yTg kR G (yup G (ad 200) (200, .inr (16, [.int 0, .int (rI ρ 1), .int (rI ρ 2), .ref (ad 201), .int (rI ρ 3), .int (rI ρ 4), .ref (ad 210), .ref (ad 211), .ref (ad 212), .ref (ad 213), .int (rI ρ 5), .int (rI ρ 6), .int (rI ρ 7), .ref (ad 202), .ref (ad 214), .int (rI ρ 8), .ref (ad 203), .ref (ad 215), .ref (ad 216), .int (rI ρ 9)]))) := ((yTg.rfl' (f := kR) (G := G))).trans (yTg.up hX.m (kR_n (by omega) (by omega)))
  show Y l S0 D K_X12_isSound 19 0 0 (fun r G1 => (∃ v : Int32, (v = 0 ∨ v = 1) ∧ r = some (.int v)) ∧ ∃ (ad1 : Nat → Nat) (ρ1 : RS), atR aC ic de ad1 G1 ρ1 ∧ ad1 200 = ad 200 ∧ yTg kR G G1 ∧ rSm ρ ρ1) (fun _ _ => False) (2 + 3) [(0, .ref (ad 200))] [] (yup G (ad 200) (200, .inr (16, [.int 0, .int (rI ρ 1), .int (rI ρ 2), .ref (ad 201), .int (rI ρ 3), .int (rI ρ 4), .ref (ad 210), .ref (ad 211), .ref (ad 212), .ref (ad 213), .int (rI ρ 5), .int (rI ρ 6), .int (rI ρ 7), .ref (ad 202), .ref (ad 214), .int (rI ρ 8), .ref (ad 203), .ref (ad 215), .ref (ad 216), .int (rI ρ 9)]))) 0 0
  generalize yup G (ad 200) (200, .inr (16, [.int 0, .int (rI ρ 1), .int (rI ρ 2), .ref (ad 201), .int (rI ρ 3), .int (rI ρ 4), .ref (ad 210), .ref (ad 211), .ref (ad 212), .ref (ad 213), .int (rI ρ 5), .int (rI ρ 6), .int (rI ρ 7), .ref (ad 202), .ref (ad 214), .int (rI ρ 8), .ref (ad 203), .ref (ad 215), .ref (ad 216), .int (rI ρ 9)])) = G2 at hX2 kt2 ⊢
  refine y_blk 1 tq_X12_isSound (z := (6, [(0, .ref (ad 200))], [.ref (ad 200)])) rfl ?_
  refine y_callV hS tq_X12_isSound rfl (As := []) rfl cv_X12_326 hX2.m (m_X12_isSoundNow hS hI hX2 ) rfl (by decide) (Nat.le_of_ble_eq_true rfl) (fun r6 Gc6 q6 => ?_) (fun E9 G9 h9 => h9.elim)
  obtain ⟨⟨x6, hb_x6, rfl⟩, eG6⟩ := q6
  have eG6 := eG6.symm
  subst eG6
  refine y_blk 0 tq_X12_isSound (z := (9, [(0, .ref (ad 200))], [.int x6])) rfl ?_
  exact y_zret tq_X12_isSound rfl rfl (y01 hb_x6) (⟨⟨_, hb_x6, rfl⟩, ad, _, hX2, rfl, kt2, (rSm.in0 rSm.rfl')⟩)
set_option maxHeartbeats 4000000 in
set_option maxRecDepth 100000 in
theorem m_X12_gates {l : Launch} {S0 : State} {A0 : Array Value} {D : va_G} {aC : Nat → ClassId} {ic : Int32 → Nat} {de : Nat} {ad : Nat → Nat} {G : AH} {ρ : RS} (hS : yS l S0 A0 D aC) (hI : yIc S0 ic de) (hX : atR aC ic de ad G ρ) (from_ : Int32) (to : Int32) : yM l S0 D yX12_gates cX12_gates 8 (some .int) 18 0 0 [.ref (ad 200), .int from_, .int to] G (fun r G1 => (∃ v : Int32, r = some (.int v)) ∧ ∃ (ad1 : Nat → Nat) (ρ1 : RS), atR aC ic de ad1 G1 ρ1 ∧ ad1 200 = ad 200 ∧ yTg kR G G1 ∧ roGates from_ to r ρ ρ1) (fun _ _ => False) := by
  refine yM.ofK K_X12_gates rfl (by decide) (Nat.le_of_ble_eq_true rfl) ?_
  have J51 : ∀ (n51 : Nat) (v51_3 : Int32) (v51_5 : Int32) (v51_6 : Int32) (G51 : AH) (s51 : RS) (hX51 : atR aC ic de ad G51 s51) (kt51 : yTg kR G G51) (hok_51 : OKm from_ ∧ OKm to) (hs_51 : s51 = rin (rin (rin ρ 0 0) 3 from_) 4 to) (hm_51 : v51_3 = Int32.ofNat (cnt (rgt ρ) v51_6.toInt.toNat) ∧ v51_6.toInt ≤ (rZ ρ 201 : Int)) (hl_ : v51_5 = Int32.ofNat (rZ s51 201)) (h0_51 : 0 ≤ v51_6.toInt), ((v51_5 : Int32).toInt - v51_6.toInt).toNat = n51 → Y l S0 D K_X12_gates 18 0 0 (fun r G1 => (∃ v : Int32, r = some (.int v)) ∧ ∃ (ad1 : Nat → Nat) (ρ1 : RS), atR aC ic de ad1 G1 ρ1 ∧ ad1 200 = ad 200 ∧ yTg kR G G1 ∧ roGates from_ to r ρ ρ1) (fun _ _ => False) 51 [(0, .ref (ad 200)), (1, .int from_), (2, .int to), (3, .int v51_3), (4, .ref (ad 201)), (5, .int v51_5), (6, .int v51_6)] [] G51 0 0 := by
    intro n51
    induction n51 using Nat.strongRecOn with
    | _ n51 ih51 =>
    intro v51_3 v51_5 v51_6 G51 s51 hX51 kt51 hok_51 hs_51 hm_51 hl_ h0_51 hn51
    subst hn51
    refine y_blk 2 tq_X12_gates (z := (55, [(0, .ref (ad 200)), (1, .int from_), (2, .int to), (3, .int v51_3), (4, .ref (ad 201)), (5, .int v51_5), (6, .int v51_6)], [.int v51_5, .int v51_6])) rfl ?_
    refine y_icmp_ge tq_X12_gates 85 rfl rfl (fun c55 => ?_) (fun c55 => ?_)
    · skip
      refine y_blk 1 tq_X12_gates (z := (86, [(0, .ref (ad 200)), (1, .int from_), (2, .int to), (3, .int v51_3), (4, .ref (ad 201)), (5, .int v51_5), (6, .int v51_6)], [.int v51_3])) rfl ?_
      exact y_iret tq_X12_gates rfl rfl (⟨⟨_, rfl⟩, ad, _, hX51, rfl, kt51, Or.inl (⟨hok_51, congrArg (fun z => some (Value.int z)) (rgt_stop hm_51 hs_51 hl_ hX51.2.n64 h0_51 c55), hs_51⟩)⟩)
    · skip
      have b55 : v51_6.toInt < rZ s51 201 := yIy (by have := hX51.2.n64; omega) h0_51 (by rw [hl_] at c55; exact c55)
      refine y_blk 2 tq_X12_gates (z := (62, [(0, .ref (ad 200)), (1, .int from_), (2, .int to), (3, .int v51_3), (4, .ref (ad 201)), (5, .int v51_5), (6, .int v51_6)], [.int v51_6, .ref (ad 201)])) rfl ?_
      refine y_iald hS tq_X12_gates rfl hX51.ki (by first | exact yIn (by decide) (by decide) | exact yIn (by assumption) (by assumption) | (exact yIn (by omega) (by omega))) ?_
      refine y_blk 4 tq_X12_gates (z := (69, [(7, .int ((rV s51 201) (Int32.toNatClampNeg v51_6))), (0, .ref (ad 200)), (1, .int from_), (2, .int to), (3, .int v51_3), (4, .ref (ad 201)), (5, .int v51_5), (6, .int v51_6)], [.int 3, .int ((rV s51 201) (Int32.toNatClampNeg v51_6)), .int v51_3])) rfl ?_
      refine y_icmp_ne tq_X12_gates 76 rfl rfl (fun c69 => ?_) (fun c69 => ?_)
      · skip
        refine y_blk 5 tq_X12_gates (z := (51, [(6, .int (v51_6 + 1)), (3, .int (v51_3 + 0)), (7, .int ((rV s51 201) (Int32.toNatClampNeg v51_6))), (0, .ref (ad 200)), (1, .int from_), (2, .int to), (4, .ref (ad 201)), (5, .int v51_5)], [])) rfl ?_
        refine y_pick (L2 := [(0, .ref (ad 200)), (1, .int from_), (2, .int to), (3, .int (v51_3 + 0)), (4, .ref (ad 201)), (5, .int v51_5), (6, .int (v51_6 + 1))]) [3, 4, 5, 1, 6, 7, 0] rfl ?_
        exact ih51 _ (by exact ydec c55) (v51_3 + 0) v51_5 (v51_6 + 1) G51 s51 hX51 kt51 (by first | assumption | exact ⟨yif1 c9, yif1 c16⟩) (by first | rfl | assumption) (by first | exact rgt_step hm_51 hs_51 hl_ hX51.2.n64 h0_51 c55 (by first | exact Or.inl ⟨c69, rfl⟩ | exact Or.inr ⟨c69, rfl⟩) | exact rgt_init) (by first | rfl | assumption) (by first | decide | exact yposgeL (by assumption) c55) rfl
      · skip
        refine y_blk 6 tq_X12_gates (z := (51, [(6, .int (v51_6 + 1)), (3, .int (v51_3 + 1)), (7, .int ((rV s51 201) (Int32.toNatClampNeg v51_6))), (0, .ref (ad 200)), (1, .int from_), (2, .int to), (4, .ref (ad 201)), (5, .int v51_5)], [])) rfl ?_
        refine y_pick (L2 := [(0, .ref (ad 200)), (1, .int from_), (2, .int to), (3, .int (v51_3 + 1)), (4, .ref (ad 201)), (5, .int v51_5), (6, .int (v51_6 + 1))]) [3, 4, 5, 1, 6, 7, 0] rfl ?_
        exact ih51 _ (by exact ydec c55) (v51_3 + 1) v51_5 (v51_6 + 1) G51 s51 hX51 kt51 (by first | assumption | exact ⟨yif1 c9, yif1 c16⟩) (by first | rfl | assumption) (by first | exact rgt_step hm_51 hs_51 hl_ hX51.2.n64 h0_51 c55 (by first | exact Or.inl ⟨c69, rfl⟩ | exact Or.inr ⟨c69, rfl⟩) | exact rgt_init) (by first | rfl | assumption) (by first | decide | exact yposgeL (by assumption) c55) rfl
  refine y_blk 2 tq_X12_gates (z := (2, [(0, .ref (ad 200)), (1, .int from_), (2, .int to)], [.int 0, .ref (ad 200)])) rfl ?_
  refine y_put hS tq_X12_gates rfl fp_X12_51_X12 hX.m (by omega) rfl rfl (Nat.le_of_ble_eq_true rfl) ?_
  have hX2 : atR aC ic de ad (yup G (ad 200) (200, .inr (16, [.int 0, .int (rI ρ 1), .int (rI ρ 2), .ref (ad 201), .int (rI ρ 3), .int (rI ρ 4), .ref (ad 210), .ref (ad 211), .ref (ad 212), .ref (ad 213), .int (rI ρ 5), .int (rI ρ 6), .int (rI ρ 7), .ref (ad 202), .ref (ad 214), .int (rI ρ 8), .ref (ad 203), .ref (ad 215), .ref (ad 216), .int (rI ρ 9)]))) ((rin ρ 0 0)) := atR.setIb hX rfl rfl (hX.2.setI (by decide))
  have kt2 : yTg kR G (yup G (ad 200) (200, .inr (16, [.int 0, .int (rI ρ 1), .int (rI ρ 2), .ref (ad 201), .int (rI ρ 3), .int (rI ρ 4), .ref (ad 210), .ref (ad 211), .ref (ad 212), .ref (ad 213), .int (rI ρ 5), .int (rI ρ 6), .int (rI ρ 7), .ref (ad 202), .ref (ad 214), .int (rI ρ 8), .ref (ad 203), .ref (ad 215), .ref (ad 216), .int (rI ρ 9)]))) := ((yTg.rfl' (f := kR) (G := G))).trans (yTg.up hX.m (kR_n (by omega) (by omega)))
  show Y l S0 D K_X12_gates 18 0 0 (fun r G1 => (∃ v : Int32, r = some (.int v)) ∧ ∃ (ad1 : Nat → Nat) (ρ1 : RS), atR aC ic de ad1 G1 ρ1 ∧ ad1 200 = ad 200 ∧ yTg kR G G1 ∧ roGates from_ to r ρ ρ1) (fun _ _ => False) (2 + 3) [(0, .ref (ad 200)), (1, .int from_), (2, .int to)] [] (yup G (ad 200) (200, .inr (16, [.int 0, .int (rI ρ 1), .int (rI ρ 2), .ref (ad 201), .int (rI ρ 3), .int (rI ρ 4), .ref (ad 210), .ref (ad 211), .ref (ad 212), .ref (ad 213), .int (rI ρ 5), .int (rI ρ 6), .int (rI ρ 7), .ref (ad 202), .ref (ad 214), .int (rI ρ 8), .ref (ad 203), .ref (ad 215), .ref (ad 216), .int (rI ρ 9)]))) 0 0
  generalize yup G (ad 200) (200, .inr (16, [.int 0, .int (rI ρ 1), .int (rI ρ 2), .ref (ad 201), .int (rI ρ 3), .int (rI ρ 4), .ref (ad 210), .ref (ad 211), .ref (ad 212), .ref (ad 213), .int (rI ρ 5), .int (rI ρ 6), .int (rI ρ 7), .ref (ad 202), .ref (ad 214), .int (rI ρ 8), .ref (ad 203), .ref (ad 215), .ref (ad 216), .int (rI ρ 9)])) = G2 at hX2 kt2 ⊢
  refine y_blk 1 tq_X12_gates (z := (6, [(0, .ref (ad 200)), (1, .int from_), (2, .int to)], [.int from_])) rfl ?_
  refine y_callS hS tq_X12_gates rfl (As := [.int from_]) rfl cs_X12_163 (m_X12_isMinute hS from_) rfl (by decide) (Nat.le_of_ble_eq_true rfl) (fun r6 Gc6 q6 => ?_) (fun E9 G9 h9 => h9.elim)
  obtain ⟨rfl, eG6⟩ := q6
  have eG6 := eG6.symm
  subst eG6
  refine y_blk 0 tq_X12_gates (z := (9, [(0, .ref (ad 200)), (1, .int from_), (2, .int to)], [.int (if 0 ≤ from_ ∧ from_ ≤ 239 then 1 else 0)])) rfl ?_
  refine y_if_eq tq_X12_gates 19 rfl rfl (fun c9 => ?_) (fun c9 => ?_)
  · skip
    refine y_blk 2 tq_X12_gates (z := (21, [(0, .ref (ad 200)), (1, .int from_), (2, .int to)], [.int 1, .ref (ad 200)])) rfl ?_
    refine y_callV hS tq_X12_gates rfl (As := [.int 1]) rfl cv_X12_140 hX2.m (m_X12_no hS hI hX2 1) rfl (by decide) (Nat.le_of_ble_eq_true rfl) (fun r21 Gc21 q21 => ?_) (fun E9 G9 h9 => h9.elim)
    obtain ⟨rfl, hX21, kt21_⟩ := q21
    have kt21 := (kt2).trans kt21_
    refine y_blk 0 tq_X12_gates (z := (24, [(0, .ref (ad 200)), (1, .int from_), (2, .int to)], [.int 0])) rfl ?_
    exact y_iret tq_X12_gates rfl rfl (⟨⟨_, rfl⟩, ad, _, hX21, rfl, kt21, Or.inr (⟨(by first | exact fun q => rif c16 q.2 | exact fun q => rif c9 q.1), rfl, (rSm.in0 (rSm.in0 rSm.rfl'))⟩)⟩)
  · skip
    have hq9 := yif1 c9
    simp only [yle, yl_m1, yl_0, yl_1, yl_2, yl_3, yl_4, yl_5, yl_6, yl_7, yl_8, yl_9, yl_10, yl_11, yl_12, yl_60, yl_90, yl_239, yl_240] at hq9
    have ha9 := hq9.1
    have hb9 := hq9.2
    refine y_blk 1 tq_X12_gates (z := (13, [(0, .ref (ad 200)), (1, .int from_), (2, .int to)], [.int to])) rfl ?_
    refine y_callS hS tq_X12_gates rfl (As := [.int to]) rfl cs_X12_163 (m_X12_isMinute hS to) rfl (by decide) (Nat.le_of_ble_eq_true rfl) (fun r13 Gc13 q13 => ?_) (fun E9 G9 h9 => h9.elim)
    obtain ⟨rfl, eG13⟩ := q13
    have eG13 := eG13.symm
    subst eG13
    refine y_blk 0 tq_X12_gates (z := (16, [(0, .ref (ad 200)), (1, .int from_), (2, .int to)], [.int (if 0 ≤ to ∧ to ≤ 239 then 1 else 0)])) rfl ?_
    refine y_if_ne tq_X12_gates 25 rfl rfl (fun c16 => ?_) (fun c16 => ?_)
    · skip
      have hq16 := yif1 c16
      simp only [yle, yl_m1, yl_0, yl_1, yl_2, yl_3, yl_4, yl_5, yl_6, yl_7, yl_8, yl_9, yl_10, yl_11, yl_12, yl_60, yl_90, yl_239, yl_240] at hq16
      have ha16 := hq16.1
      have hb16 := hq16.2
      refine y_blk 2 tq_X12_gates (z := (27, [(0, .ref (ad 200)), (1, .int from_), (2, .int to)], [.int from_, .ref (ad 200)])) rfl ?_
      refine y_put hS tq_X12_gates rfl fp_X12_137_X12 hX2.m (by omega) rfl rfl (Nat.le_of_ble_eq_true rfl) ?_
      have hX27 : atR aC ic de ad (yup G2 (ad 200) (200, .inr (16, [.int (rI ((rin ρ 0 0)) 0), .int (rI ((rin ρ 0 0)) 1), .int (rI ((rin ρ 0 0)) 2), .ref (ad 201), .int from_, .int (rI ((rin ρ 0 0)) 4), .ref (ad 210), .ref (ad 211), .ref (ad 212), .ref (ad 213), .int (rI ((rin ρ 0 0)) 5), .int (rI ((rin ρ 0 0)) 6), .int (rI ((rin ρ 0 0)) 7), .ref (ad 202), .ref (ad 214), .int (rI ((rin ρ 0 0)) 8), .ref (ad 203), .ref (ad 215), .ref (ad 216), .int (rI ((rin ρ 0 0)) 9)]))) ((rin ((rin ρ 0 0)) 3 from_)) := atR.setIb hX2 rfl rfl (hX2.2.setI (by decide))
      have kt27 : yTg kR G (yup G2 (ad 200) (200, .inr (16, [.int (rI ((rin ρ 0 0)) 0), .int (rI ((rin ρ 0 0)) 1), .int (rI ((rin ρ 0 0)) 2), .ref (ad 201), .int from_, .int (rI ((rin ρ 0 0)) 4), .ref (ad 210), .ref (ad 211), .ref (ad 212), .ref (ad 213), .int (rI ((rin ρ 0 0)) 5), .int (rI ((rin ρ 0 0)) 6), .int (rI ((rin ρ 0 0)) 7), .ref (ad 202), .ref (ad 214), .int (rI ((rin ρ 0 0)) 8), .ref (ad 203), .ref (ad 215), .ref (ad 216), .int (rI ((rin ρ 0 0)) 9)]))) := (kt2).trans (yTg.up hX2.m (kR_n (by omega) (by omega)))
      show Y l S0 D K_X12_gates 18 0 0 (fun r G1 => (∃ v : Int32, r = some (.int v)) ∧ ∃ (ad1 : Nat → Nat) (ρ1 : RS), atR aC ic de ad1 G1 ρ1 ∧ ad1 200 = ad 200 ∧ yTg kR G G1 ∧ roGates from_ to r ρ ρ1) (fun _ _ => False) (27 + 3) [(0, .ref (ad 200)), (1, .int from_), (2, .int to)] [] (yup G2 (ad 200) (200, .inr (16, [.int (rI ((rin ρ 0 0)) 0), .int (rI ((rin ρ 0 0)) 1), .int (rI ((rin ρ 0 0)) 2), .ref (ad 201), .int from_, .int (rI ((rin ρ 0 0)) 4), .ref (ad 210), .ref (ad 211), .ref (ad 212), .ref (ad 213), .int (rI ((rin ρ 0 0)) 5), .int (rI ((rin ρ 0 0)) 6), .int (rI ((rin ρ 0 0)) 7), .ref (ad 202), .ref (ad 214), .int (rI ((rin ρ 0 0)) 8), .ref (ad 203), .ref (ad 215), .ref (ad 216), .int (rI ((rin ρ 0 0)) 9)]))) 0 0
      generalize yup G2 (ad 200) (200, .inr (16, [.int (rI ((rin ρ 0 0)) 0), .int (rI ((rin ρ 0 0)) 1), .int (rI ((rin ρ 0 0)) 2), .ref (ad 201), .int from_, .int (rI ((rin ρ 0 0)) 4), .ref (ad 210), .ref (ad 211), .ref (ad 212), .ref (ad 213), .int (rI ((rin ρ 0 0)) 5), .int (rI ((rin ρ 0 0)) 6), .int (rI ((rin ρ 0 0)) 7), .ref (ad 202), .ref (ad 214), .int (rI ((rin ρ 0 0)) 8), .ref (ad 203), .ref (ad 215), .ref (ad 216), .int (rI ((rin ρ 0 0)) 9)])) = G27 at hX27 kt27 ⊢
      refine y_blk 2 tq_X12_gates (z := (32, [(0, .ref (ad 200)), (1, .int from_), (2, .int to)], [.int to, .ref (ad 200)])) rfl ?_
      refine y_put hS tq_X12_gates rfl fp_X12_13_X12 hX27.m (by omega) rfl rfl (Nat.le_of_ble_eq_true rfl) ?_
      have hX32 : atR aC ic de ad (yup G27 (ad 200) (200, .inr (16, [.int (rI ((rin ((rin ρ 0 0)) 3 from_)) 0), .int (rI ((rin ((rin ρ 0 0)) 3 from_)) 1), .int (rI ((rin ((rin ρ 0 0)) 3 from_)) 2), .ref (ad 201), .int (rI ((rin ((rin ρ 0 0)) 3 from_)) 3), .int to, .ref (ad 210), .ref (ad 211), .ref (ad 212), .ref (ad 213), .int (rI ((rin ((rin ρ 0 0)) 3 from_)) 5), .int (rI ((rin ((rin ρ 0 0)) 3 from_)) 6), .int (rI ((rin ((rin ρ 0 0)) 3 from_)) 7), .ref (ad 202), .ref (ad 214), .int (rI ((rin ((rin ρ 0 0)) 3 from_)) 8), .ref (ad 203), .ref (ad 215), .ref (ad 216), .int (rI ((rin ((rin ρ 0 0)) 3 from_)) 9)]))) ((rin ((rin ((rin ρ 0 0)) 3 from_)) 4 to)) := atR.setIb hX27 rfl rfl (hX27.2.setI (by decide))
      have kt32 : yTg kR G (yup G27 (ad 200) (200, .inr (16, [.int (rI ((rin ((rin ρ 0 0)) 3 from_)) 0), .int (rI ((rin ((rin ρ 0 0)) 3 from_)) 1), .int (rI ((rin ((rin ρ 0 0)) 3 from_)) 2), .ref (ad 201), .int (rI ((rin ((rin ρ 0 0)) 3 from_)) 3), .int to, .ref (ad 210), .ref (ad 211), .ref (ad 212), .ref (ad 213), .int (rI ((rin ((rin ρ 0 0)) 3 from_)) 5), .int (rI ((rin ((rin ρ 0 0)) 3 from_)) 6), .int (rI ((rin ((rin ρ 0 0)) 3 from_)) 7), .ref (ad 202), .ref (ad 214), .int (rI ((rin ((rin ρ 0 0)) 3 from_)) 8), .ref (ad 203), .ref (ad 215), .ref (ad 216), .int (rI ((rin ((rin ρ 0 0)) 3 from_)) 9)]))) := (kt27).trans (yTg.up hX27.m (kR_n (by omega) (by omega)))
      show Y l S0 D K_X12_gates 18 0 0 (fun r G1 => (∃ v : Int32, r = some (.int v)) ∧ ∃ (ad1 : Nat → Nat) (ρ1 : RS), atR aC ic de ad1 G1 ρ1 ∧ ad1 200 = ad 200 ∧ yTg kR G G1 ∧ roGates from_ to r ρ ρ1) (fun _ _ => False) (32 + 3) [(0, .ref (ad 200)), (1, .int from_), (2, .int to)] [] (yup G27 (ad 200) (200, .inr (16, [.int (rI ((rin ((rin ρ 0 0)) 3 from_)) 0), .int (rI ((rin ((rin ρ 0 0)) 3 from_)) 1), .int (rI ((rin ((rin ρ 0 0)) 3 from_)) 2), .ref (ad 201), .int (rI ((rin ((rin ρ 0 0)) 3 from_)) 3), .int to, .ref (ad 210), .ref (ad 211), .ref (ad 212), .ref (ad 213), .int (rI ((rin ((rin ρ 0 0)) 3 from_)) 5), .int (rI ((rin ((rin ρ 0 0)) 3 from_)) 6), .int (rI ((rin ((rin ρ 0 0)) 3 from_)) 7), .ref (ad 202), .ref (ad 214), .int (rI ((rin ((rin ρ 0 0)) 3 from_)) 8), .ref (ad 203), .ref (ad 215), .ref (ad 216), .int (rI ((rin ((rin ρ 0 0)) 3 from_)) 9)]))) 0 0
      generalize yup G27 (ad 200) (200, .inr (16, [.int (rI ((rin ((rin ρ 0 0)) 3 from_)) 0), .int (rI ((rin ((rin ρ 0 0)) 3 from_)) 1), .int (rI ((rin ((rin ρ 0 0)) 3 from_)) 2), .ref (ad 201), .int (rI ((rin ((rin ρ 0 0)) 3 from_)) 3), .int to, .ref (ad 210), .ref (ad 211), .ref (ad 212), .ref (ad 213), .int (rI ((rin ((rin ρ 0 0)) 3 from_)) 5), .int (rI ((rin ((rin ρ 0 0)) 3 from_)) 6), .int (rI ((rin ((rin ρ 0 0)) 3 from_)) 7), .ref (ad 202), .ref (ad 214), .int (rI ((rin ((rin ρ 0 0)) 3 from_)) 8), .ref (ad 203), .ref (ad 215), .ref (ad 216), .int (rI ((rin ((rin ρ 0 0)) 3 from_)) 9)])) = G32 at hX32 kt32 ⊢
      refine y_blk 3 tq_X12_gates (z := (38, [(3, .int 0), (0, .ref (ad 200)), (1, .int from_), (2, .int to)], [.ref (ad 200)])) rfl ?_
      refine y_get hS tq_X12_gates (v := .ref (ad 201)) rfl fg_X12_7_X12 hX32.m rfl ?_
      refine y_blk 2 tq_X12_gates (z := (45, [(4, .ref (ad 201)), (3, .int 0), (0, .ref (ad 200)), (1, .int from_), (2, .int to)], [.ref (ad 201)])) rfl ?_
      refine y_alen hS tq_X12_gates 0 rfl rfl hX32.ki ?_
      refine y_blk 3 tq_X12_gates (z := (51, [(6, .int 0), (5, .int (Int32.ofNat (rZ ((rin ((rin ((rin ρ 0 0)) 3 from_)) 4 to)) 201))), (4, .ref (ad 201)), (3, .int 0), (0, .ref (ad 200)), (1, .int from_), (2, .int to)], [])) rfl ?_
      refine y_pick (L2 := [(0, .ref (ad 200)), (1, .int from_), (2, .int to), (3, .int 0), (4, .ref (ad 201)), (5, .int (Int32.ofNat (rZ ((rin ((rin ((rin ρ 0 0)) 3 from_)) 4 to)) 201))), (6, .int 0)]) [4, 5, 6, 3, 2, 1, 0] rfl ?_
      exact J51 _ 0 (Int32.ofNat (rZ ((rin ((rin ((rin ρ 0 0)) 3 from_)) 4 to)) 201)) 0 G32 (rin ((rin ((rin ρ 0 0)) 3 from_)) 4 to) hX32 kt32 (by first | assumption | exact ⟨yif1 c9, yif1 c16⟩) (by first | rfl | assumption) (by first | exact rgt_step hm_51 hs_51 hl_ hX51.2.n64 h0_51 c55 (by first | exact Or.inl ⟨c69, rfl⟩ | exact Or.inr ⟨c69, rfl⟩) | exact rgt_init) (by first | rfl | assumption) (by first | decide | exact yposgeL (by assumption) c55) rfl
    · skip
      refine y_blk 2 tq_X12_gates (z := (21, [(0, .ref (ad 200)), (1, .int from_), (2, .int to)], [.int 1, .ref (ad 200)])) rfl ?_
      refine y_callV hS tq_X12_gates rfl (As := [.int 1]) rfl cv_X12_140 hX2.m (m_X12_no hS hI hX2 1) rfl (by decide) (Nat.le_of_ble_eq_true rfl) (fun r21 Gc21 q21 => ?_) (fun E9 G9 h9 => h9.elim)
      obtain ⟨rfl, hX21, kt21_⟩ := q21
      have kt21 := (kt2).trans kt21_
      refine y_blk 0 tq_X12_gates (z := (24, [(0, .ref (ad 200)), (1, .int from_), (2, .int to)], [.int 0])) rfl ?_
      exact y_iret tq_X12_gates rfl rfl (⟨⟨_, rfl⟩, ad, _, hX21, rfl, kt21, Or.inr (⟨(by first | exact fun q => rif c16 q.2 | exact fun q => rif c9 q.1), rfl, (rSm.in0 (rSm.in0 rSm.rfl'))⟩)⟩)
set_option maxHeartbeats 4000000 in
set_option maxRecDepth 100000 in
theorem m_X12_light {l : Launch} {S0 : State} {A0 : Array Value} {D : va_G} {aC : Nat → ClassId} {ic : Int32 → Nat} {de : Nat} {ad : Nat → Nat} {G : AH} {ρ : RS} (hS : yS l S0 A0 D aC) (hI : yIc S0 ic de) (hX : atR aC ic de ad G ρ) (lamp : Int32) (isLit : Int32) : yM l S0 D yX12_light cX12_light 3 (some .int) 21 0 0 [.ref (ad 200), .int lamp, .int isLit] G (fun r G1 => (∃ v : Int32, r = some (.int v)) ∧ ∃ (ad1 : Nat → Nat) (ρ1 : RS), atR aC ic de ad1 G1 ρ1 ∧ ad1 200 = ad 200 ∧ yTg kR G G1 ∧ roLight lamp isLit r ρ ρ1) (fun _ _ => False) := by
  refine yM.ofK K_X12_light rfl (by decide) (Nat.le_of_ble_eq_true rfl) ?_
  refine y_blk 2 tq_X12_light (z := (2, [(0, .ref (ad 200)), (1, .int lamp), (2, .int isLit)], [.int 0, .ref (ad 200)])) rfl ?_
  refine y_put hS tq_X12_light rfl fp_X12_51_X12 hX.m (by omega) rfl rfl (Nat.le_of_ble_eq_true rfl) ?_
  have hX2 : atR aC ic de ad (yup G (ad 200) (200, .inr (16, [.int 0, .int (rI ρ 1), .int (rI ρ 2), .ref (ad 201), .int (rI ρ 3), .int (rI ρ 4), .ref (ad 210), .ref (ad 211), .ref (ad 212), .ref (ad 213), .int (rI ρ 5), .int (rI ρ 6), .int (rI ρ 7), .ref (ad 202), .ref (ad 214), .int (rI ρ 8), .ref (ad 203), .ref (ad 215), .ref (ad 216), .int (rI ρ 9)]))) ((rin ρ 0 0)) := atR.setIb hX rfl rfl (hX.2.setI (by decide))
  have kt2 : yTg kR G (yup G (ad 200) (200, .inr (16, [.int 0, .int (rI ρ 1), .int (rI ρ 2), .ref (ad 201), .int (rI ρ 3), .int (rI ρ 4), .ref (ad 210), .ref (ad 211), .ref (ad 212), .ref (ad 213), .int (rI ρ 5), .int (rI ρ 6), .int (rI ρ 7), .ref (ad 202), .ref (ad 214), .int (rI ρ 8), .ref (ad 203), .ref (ad 215), .ref (ad 216), .int (rI ρ 9)]))) := ((yTg.rfl' (f := kR) (G := G))).trans (yTg.up hX.m (kR_n (by omega) (by omega)))
  show Y l S0 D K_X12_light 21 0 0 (fun r G1 => (∃ v : Int32, r = some (.int v)) ∧ ∃ (ad1 : Nat → Nat) (ρ1 : RS), atR aC ic de ad1 G1 ρ1 ∧ ad1 200 = ad 200 ∧ yTg kR G G1 ∧ roLight lamp isLit r ρ ρ1) (fun _ _ => False) (2 + 3) [(0, .ref (ad 200)), (1, .int lamp), (2, .int isLit)] [] (yup G (ad 200) (200, .inr (16, [.int 0, .int (rI ρ 1), .int (rI ρ 2), .ref (ad 201), .int (rI ρ 3), .int (rI ρ 4), .ref (ad 210), .ref (ad 211), .ref (ad 212), .ref (ad 213), .int (rI ρ 5), .int (rI ρ 6), .int (rI ρ 7), .ref (ad 202), .ref (ad 214), .int (rI ρ 8), .ref (ad 203), .ref (ad 215), .ref (ad 216), .int (rI ρ 9)]))) 0 0
  generalize yup G (ad 200) (200, .inr (16, [.int 0, .int (rI ρ 1), .int (rI ρ 2), .ref (ad 201), .int (rI ρ 3), .int (rI ρ 4), .ref (ad 210), .ref (ad 211), .ref (ad 212), .ref (ad 213), .int (rI ρ 5), .int (rI ρ 6), .int (rI ρ 7), .ref (ad 202), .ref (ad 214), .int (rI ρ 8), .ref (ad 203), .ref (ad 215), .ref (ad 216), .int (rI ρ 9)])) = G2 at hX2 kt2 ⊢
  refine y_blk 3 tq_X12_light (z := (8, [(0, .ref (ad 200)), (1, .int lamp), (2, .int isLit)], [.ref (ad 200), .int 0, .int lamp])) rfl ?_
  refine y_get hS tq_X12_light (v := .ref (ad 210)) rfl fg_X12_20_X12 hX2.m rfl ?_
  refine y_blk 0 tq_X12_light (z := (11, [(0, .ref (ad 200)), (1, .int lamp), (2, .int isLit)], [.ref (ad 210), .int 0, .int lamp])) rfl ?_
  refine y_callF hS tq_X12_light rfl (As := []) rfl cf_X12_58 (Or.inl ⟨_, (hX2.ls 210 (by decide)).1⟩) (m_Jsize hS (hX2.ls 210 (by decide))) rfl (by decide) (Nat.le_of_ble_eq_true rfl) (fun r11 Gc11 q11 => ?_) (fun _ _ h9 => h9.elim)
  obtain ⟨rfl, eG11⟩ := q11
  have eG11 := eG11.symm
  subst eG11
  refine y_blk 2 tq_X12_light (z := (18, [(0, .ref (ad 200)), (1, .int lamp), (2, .int isLit)], [.int ((Int32.ofNat (rZ ((rin ρ 0 0)) 210)) - 1), .int 0, .int lamp])) rfl ?_
  refine y_callS hS tq_X12_light rfl (As := [.int lamp, .int 0, .int ((Int32.ofNat (rZ ((rin ρ 0 0)) 210)) - 1)]) rfl cs_X12_54 (m_X12_in hS lamp 0 ((Int32.ofNat (rZ ((rin ρ 0 0)) 210)) - 1)) rfl (by decide) (Nat.le_of_ble_eq_true rfl) (fun r18 Gc18 q18 => ?_) (fun E9 G9 h9 => h9.elim)
  obtain ⟨rfl, eG18⟩ := q18
  have eG18 := eG18.symm
  subst eG18
  refine y_blk 0 tq_X12_light (z := (21, [(0, .ref (ad 200)), (1, .int lamp), (2, .int isLit)], [.int (if 0 ≤ lamp ∧ lamp ≤ ((Int32.ofNat (rZ ((rin ρ 0 0)) 210)) - 1) then 1 else 0)])) rfl ?_
  refine y_if_ne tq_X12_light 30 rfl rfl (fun c21 => ?_) (fun c21 => ?_)
  · skip
    have hq21 := yif1 c21
    have hn21 := yinN (n := rZ ((rin ρ 0 0)) 210) (by have := hX2.2.le10 210 (by decide); omega) hq21
    have ha21 := hn21.1
    have hb21 := hn21.2
    refine y_blk 1 tq_X12_light (z := (31, [(0, .ref (ad 200)), (1, .int lamp), (2, .int isLit)], [.ref (ad 200)])) rfl ?_
    refine y_get hS tq_X12_light (v := .ref (ad 210)) rfl fg_X12_20_X12 hX2.m rfl ?_
    refine y_blk 1 tq_X12_light (z := (35, [(0, .ref (ad 200)), (1, .int lamp), (2, .int isLit)], [.int lamp, .ref (ad 210)])) rfl ?_
    refine y_callF hS tq_X12_light rfl (As := [.int lamp]) rfl cf_X12_80 (Or.inl ⟨_, (hX2.ls 210 (by decide)).1⟩) (m_Rla hS hX2 (by assumption) (by assumption)) rfl (by decide) (Nat.le_of_ble_eq_true rfl) (fun r35 Gc35 q35 => ?_) (fun _ _ h9 => h9.elim)
    obtain ⟨rfl, eG35⟩ := q35
    have eG35 := eG35.symm
    subst eG35
    have d35 : (Int32.toNatClampNeg lamp) < rZ ((rin ρ 0 0)) 210 := yIx (by assumption) (by assumption)
    refine y_blk 0 tq_X12_light (z := (40, [(0, .ref (ad 200)), (1, .int lamp), (2, .int isLit)], [.ref (ad (300 + (Int32.toNatClampNeg lamp)))])) rfl ?_
    refine y_castA hS tq_X12_light rfl kc_X12_116 (Or.inl ⟨_, (hX2.la (by assumption))⟩) ?_
    refine y_blk 2 tq_X12_light (z := (45, [(0, .ref (ad 200)), (1, .int lamp), (2, .int isLit)], [.int isLit, .int 2, .ref (ad (300 + (Int32.toNatClampNeg lamp)))])) rfl ?_
    refine y_if_eq tq_X12_light 52 rfl rfl (fun c45 => ?_) (fun c45 => ?_)
    · skip
      refine y_blk 1 tq_X12_light (z := (53, [(0, .ref (ad 200)), (1, .int lamp), (2, .int isLit)], [.int 0, .int 2, .ref (ad (300 + (Int32.toNatClampNeg lamp)))])) rfl ?_
      have hz53 := hX2.2.2.1.1
      refine y_iast hS tq_X12_light rfl (hX2.la (by assumption)) (by omega) (by first | exact yIn (by decide) (by decide) | exact yIn (by assumption) (by assumption) | (exact yIn (by omega) (by omega))) ?_
      have hX53 : atR aC ic de ad (yup G2 (ad (300 + (Int32.toNatClampNeg lamp))) ((300 + (Int32.toNatClampNeg lamp)), .inl (aC 0, 3, .inl (upd (rV ((rin ρ 0 0)) (300 + (Int32.toNatClampNeg lamp))) (Int32.toNatClampNeg 2) 0)))) ((rar ((rin ρ 0 0)) (300 + (Int32.toNatClampNeg lamp)) (upd (rV ((rin ρ 0 0)) (300 + (Int32.toNatClampNeg lamp))) (Int32.toNatClampNeg 2) 0))) := ⟨hX2.1.setA hX2.2.2.1 (by omega) (hX2.la (by assumption)), hX2.2.sA (fun e => by omega) (fun e => by omega) (fun _ _ => by rw [pk_un (by decide)]; exact hX2.lac (by assumption)) (fun e => by omega) (by omega) (by omega)⟩
      have kt53 : yTg kR G (yup G2 (ad (300 + (Int32.toNatClampNeg lamp))) ((300 + (Int32.toNatClampNeg lamp)), .inl (aC 0, 3, .inl (upd (rV ((rin ρ 0 0)) (300 + (Int32.toNatClampNeg lamp))) (Int32.toNatClampNeg 2) 0)))) := (kt2).trans (yTg.up (hX2.la (by assumption)) (kR_n (by omega) (by omega)))
      generalize yup G2 (ad (300 + (Int32.toNatClampNeg lamp))) ((300 + (Int32.toNatClampNeg lamp)), .inl (aC 0, 3, .inl (upd (rV ((rin ρ 0 0)) (300 + (Int32.toNatClampNeg lamp))) (Int32.toNatClampNeg 2) 0))) = G53 at hX53 kt53 ⊢
      refine y_blk 1 tq_X12_light (z := (55, [(0, .ref (ad 200)), (1, .int lamp), (2, .int isLit)], [.ref (ad 200)])) rfl ?_
      refine y_callV hS tq_X12_light rfl (As := []) rfl cv_X12_170 hX53.m (m_X12_brights hS hI hX53 ) rfl (by decide) (Nat.le_of_ble_eq_true rfl) (fun r55 Gc55 q55 => ?_) (fun E9 G9 h9 => h9.elim)
      obtain ⟨⟨x55, rfl⟩, eG55⟩ := q55
      have eG55 := eG55.symm
      subst eG55
      refine y_blk 0 tq_X12_light (z := (58, [(0, .ref (ad 200)), (1, .int lamp), (2, .int isLit)], [.int x55])) rfl ?_
      exact y_iret tq_X12_light rfl rfl (⟨⟨_, rfl⟩, ad, _, hX53, rfl, kt53, Or.inl (⟨yif1 c21, (by first | rw [if_pos c45] | rw [if_neg c45])⟩)⟩)
    · skip
      refine y_blk 2 tq_X12_light (z := (53, [(0, .ref (ad 200)), (1, .int lamp), (2, .int isLit)], [.int 1, .int 2, .ref (ad (300 + (Int32.toNatClampNeg lamp)))])) rfl ?_
      have hz53 := hX2.2.2.1.1
      refine y_iast hS tq_X12_light rfl (hX2.la (by assumption)) (by omega) (by first | exact yIn (by decide) (by decide) | exact yIn (by assumption) (by assumption) | (exact yIn (by omega) (by omega))) ?_
      have hX53 : atR aC ic de ad (yup G2 (ad (300 + (Int32.toNatClampNeg lamp))) ((300 + (Int32.toNatClampNeg lamp)), .inl (aC 0, 3, .inl (upd (rV ((rin ρ 0 0)) (300 + (Int32.toNatClampNeg lamp))) (Int32.toNatClampNeg 2) 1)))) ((rar ((rin ρ 0 0)) (300 + (Int32.toNatClampNeg lamp)) (upd (rV ((rin ρ 0 0)) (300 + (Int32.toNatClampNeg lamp))) (Int32.toNatClampNeg 2) 1))) := ⟨hX2.1.setA hX2.2.2.1 (by omega) (hX2.la (by assumption)), hX2.2.sA (fun e => by omega) (fun e => by omega) (fun _ _ => by rw [pk_un (by decide)]; exact hX2.lac (by assumption)) (fun e => by omega) (by omega) (by omega)⟩
      have kt53 : yTg kR G (yup G2 (ad (300 + (Int32.toNatClampNeg lamp))) ((300 + (Int32.toNatClampNeg lamp)), .inl (aC 0, 3, .inl (upd (rV ((rin ρ 0 0)) (300 + (Int32.toNatClampNeg lamp))) (Int32.toNatClampNeg 2) 1)))) := (kt2).trans (yTg.up (hX2.la (by assumption)) (kR_n (by omega) (by omega)))
      generalize yup G2 (ad (300 + (Int32.toNatClampNeg lamp))) ((300 + (Int32.toNatClampNeg lamp)), .inl (aC 0, 3, .inl (upd (rV ((rin ρ 0 0)) (300 + (Int32.toNatClampNeg lamp))) (Int32.toNatClampNeg 2) 1))) = G53 at hX53 kt53 ⊢
      refine y_blk 1 tq_X12_light (z := (55, [(0, .ref (ad 200)), (1, .int lamp), (2, .int isLit)], [.ref (ad 200)])) rfl ?_
      refine y_callV hS tq_X12_light rfl (As := []) rfl cv_X12_170 hX53.m (m_X12_brights hS hI hX53 ) rfl (by decide) (Nat.le_of_ble_eq_true rfl) (fun r55 Gc55 q55 => ?_) (fun E9 G9 h9 => h9.elim)
      obtain ⟨⟨x55, rfl⟩, eG55⟩ := q55
      have eG55 := eG55.symm
      subst eG55
      refine y_blk 0 tq_X12_light (z := (58, [(0, .ref (ad 200)), (1, .int lamp), (2, .int isLit)], [.int x55])) rfl ?_
      exact y_iret tq_X12_light rfl rfl (⟨⟨_, rfl⟩, ad, _, hX53, rfl, kt53, Or.inl (⟨yif1 c21, (by first | rw [if_pos c45] | rw [if_neg c45])⟩)⟩)
  · skip
    refine y_blk 2 tq_X12_light (z := (26, [(0, .ref (ad 200)), (1, .int lamp), (2, .int isLit)], [.int 1, .ref (ad 200)])) rfl ?_
    refine y_callV hS tq_X12_light rfl (As := [.int 1]) rfl cv_X12_140 hX2.m (m_X12_no hS hI hX2 1) rfl (by decide) (Nat.le_of_ble_eq_true rfl) (fun r26 Gc26 q26 => ?_) (fun E9 G9 h9 => h9.elim)
    obtain ⟨rfl, hX26, kt26_⟩ := q26
    have kt26 := (kt2).trans kt26_
    refine y_blk 0 tq_X12_light (z := (29, [(0, .ref (ad 200)), (1, .int lamp), (2, .int isLit)], [.int 0])) rfl ?_
    exact y_iret tq_X12_light rfl rfl (⟨⟨_, rfl⟩, ad, _, hX26, rfl, kt26, Or.inr (⟨rif c21, rfl, (rSm.in0 (rSm.in0 rSm.rfl'))⟩)⟩)
set_option maxHeartbeats 4000000 in
set_option maxRecDepth 100000 in
theorem m_X12_lay {l : Launch} {S0 : State} {A0 : Array Value} {D : va_G} {aC : Nat → ClassId} {ic : Int32 → Nat} {de : Nat} {ad : Nat → Nat} {G : AH} {ρ : RS} (hS : yS l S0 A0 D aC) (hI : yIc S0 ic de) (hX : atR aC ic de ad G ρ) (cell : Int32) (kind : Int32) : yM l S0 D yX12_lay cX12_lay 4 (some .int) 18 0 0 [.ref (ad 200), .int cell, .int kind] G (fun r G1 => (∃ v : Int32, r = some (.int v)) ∧ ∃ (ad1 : Nat → Nat) (ρ1 : RS), atR aC ic de ad1 G1 ρ1 ∧ ad1 200 = ad 200 ∧ yTg kR G G1 ∧ roLay cell kind r ρ ρ1) (fun _ _ => False) := by
  refine yM.ofK K_X12_lay rfl (by decide) (Nat.le_of_ble_eq_true rfl) ?_
  refine y_blk 2 tq_X12_lay (z := (2, [(0, .ref (ad 200)), (1, .int cell), (2, .int kind)], [.int 0, .ref (ad 200)])) rfl ?_
  refine y_put hS tq_X12_lay rfl fp_X12_51_X12 hX.m (by omega) rfl rfl (Nat.le_of_ble_eq_true rfl) ?_
  have hX2 : atR aC ic de ad (yup G (ad 200) (200, .inr (16, [.int 0, .int (rI ρ 1), .int (rI ρ 2), .ref (ad 201), .int (rI ρ 3), .int (rI ρ 4), .ref (ad 210), .ref (ad 211), .ref (ad 212), .ref (ad 213), .int (rI ρ 5), .int (rI ρ 6), .int (rI ρ 7), .ref (ad 202), .ref (ad 214), .int (rI ρ 8), .ref (ad 203), .ref (ad 215), .ref (ad 216), .int (rI ρ 9)]))) ((rin ρ 0 0)) := atR.setIb hX rfl rfl (hX.2.setI (by decide))
  have kt2 : yTg kR G (yup G (ad 200) (200, .inr (16, [.int 0, .int (rI ρ 1), .int (rI ρ 2), .ref (ad 201), .int (rI ρ 3), .int (rI ρ 4), .ref (ad 210), .ref (ad 211), .ref (ad 212), .ref (ad 213), .int (rI ρ 5), .int (rI ρ 6), .int (rI ρ 7), .ref (ad 202), .ref (ad 214), .int (rI ρ 8), .ref (ad 203), .ref (ad 215), .ref (ad 216), .int (rI ρ 9)]))) := ((yTg.rfl' (f := kR) (G := G))).trans (yTg.up hX.m (kR_n (by omega) (by omega)))
  show Y l S0 D K_X12_lay 18 0 0 (fun r G1 => (∃ v : Int32, r = some (.int v)) ∧ ∃ (ad1 : Nat → Nat) (ρ1 : RS), atR aC ic de ad1 G1 ρ1 ∧ ad1 200 = ad 200 ∧ yTg kR G G1 ∧ roLay cell kind r ρ ρ1) (fun _ _ => False) (2 + 3) [(0, .ref (ad 200)), (1, .int cell), (2, .int kind)] [] (yup G (ad 200) (200, .inr (16, [.int 0, .int (rI ρ 1), .int (rI ρ 2), .ref (ad 201), .int (rI ρ 3), .int (rI ρ 4), .ref (ad 210), .ref (ad 211), .ref (ad 212), .ref (ad 213), .int (rI ρ 5), .int (rI ρ 6), .int (rI ρ 7), .ref (ad 202), .ref (ad 214), .int (rI ρ 8), .ref (ad 203), .ref (ad 215), .ref (ad 216), .int (rI ρ 9)]))) 0 0
  generalize yup G (ad 200) (200, .inr (16, [.int 0, .int (rI ρ 1), .int (rI ρ 2), .ref (ad 201), .int (rI ρ 3), .int (rI ρ 4), .ref (ad 210), .ref (ad 211), .ref (ad 212), .ref (ad 213), .int (rI ρ 5), .int (rI ρ 6), .int (rI ρ 7), .ref (ad 202), .ref (ad 214), .int (rI ρ 8), .ref (ad 203), .ref (ad 215), .ref (ad 216), .int (rI ρ 9)])) = G2 at hX2 kt2 ⊢
  refine y_blk 2 tq_X12_lay (z := (7, [(0, .ref (ad 200)), (1, .int cell), (2, .int kind)], [.int cell, .ref (ad 200)])) rfl ?_
  refine y_callV hS tq_X12_lay rfl (As := [.int cell]) rfl cv_X12_157 hX2.m (m_X12_isCell hS hI hX2 cell) rfl (by decide) (Nat.le_of_ble_eq_true rfl) (fun r7 Gc7 q7 => ?_) (fun E9 G9 h9 => h9.elim)
  obtain ⟨rfl, eG7⟩ := q7
  have eG7 := eG7.symm
  subst eG7
  refine y_blk 0 tq_X12_lay (z := (10, [(0, .ref (ad 200)), (1, .int cell), (2, .int kind)], [.int (if 0 ≤ cell ∧ cell ≤ (Int32.ofNat (rZ ((rin ρ 0 0)) 201)) - 1 then 1 else 0)])) rfl ?_
  refine y_if_ne tq_X12_lay 19 rfl rfl (fun c10 => ?_) (fun c10 => ?_)
  · skip
    have hq10 := yif1 c10
    have hn10 := yinN (n := rZ ((rin ρ 0 0)) 201) (by have := hX2.2.n64; omega) hq10
    have ha10 := hn10.1
    have hb10 := hn10.2
    refine y_blk 3 tq_X12_lay (z := (22, [(0, .ref (ad 200)), (1, .int cell), (2, .int kind)], [.int 3, .int 0, .int kind])) rfl ?_
    refine y_callS hS tq_X12_lay rfl (As := [.int kind, .int 0, .int 3]) rfl cs_X12_54 (m_X12_in hS kind 0 3) rfl (by decide) (Nat.le_of_ble_eq_true rfl) (fun r22 Gc22 q22 => ?_) (fun E9 G9 h9 => h9.elim)
    obtain ⟨rfl, eG22⟩ := q22
    have eG22 := eG22.symm
    subst eG22
    refine y_blk 0 tq_X12_lay (z := (25, [(0, .ref (ad 200)), (1, .int cell), (2, .int kind)], [.int (if 0 ≤ kind ∧ kind ≤ 3 then 1 else 0)])) rfl ?_
    refine y_if_ne tq_X12_lay 34 rfl rfl (fun c25 => ?_) (fun c25 => ?_)
    · skip
      have hq25 := yif1 c25
      simp only [yle, yl_m1, yl_0, yl_1, yl_2, yl_3, yl_4, yl_5, yl_6, yl_7, yl_8, yl_9, yl_10, yl_11, yl_12, yl_60, yl_90, yl_239, yl_240] at hq25
      have ha25 := hq25.1
      have hb25 := hq25.2
      refine y_blk 2 tq_X12_lay (z := (36, [(0, .ref (ad 200)), (1, .int cell), (2, .int kind)], [.int 1, .int kind])) rfl ?_
      refine y_icmp_ne tq_X12_lay 53 rfl rfl (fun c36 => ?_) (fun c36 => ?_)
      · skip
        refine y_blk 1 tq_X12_lay (z := (54, [(0, .ref (ad 200)), (1, .int cell), (2, .int kind)], [.ref (ad 200)])) rfl ?_
        refine y_get hS tq_X12_lay (v := .ref (ad 201)) rfl fg_X12_7_X12 hX2.m rfl ?_
        refine y_blk 1 tq_X12_lay (z := (58, [(0, .ref (ad 200)), (1, .int cell), (2, .int kind)], [.int cell, .ref (ad 201)])) rfl ?_
        refine y_iald hS tq_X12_lay rfl hX2.ki (by first | exact yIn (by decide) (by decide) | exact yIn (by assumption) (by assumption) | (exact yIn (by omega) (by omega))) ?_
        refine y_blk 2 tq_X12_lay (z := (61, [(3, .int ((rV ((rin ρ 0 0)) 201) (Int32.toNatClampNeg cell))), (0, .ref (ad 200)), (1, .int cell), (2, .int kind)], [.ref (ad 200)])) rfl ?_
        refine y_get hS tq_X12_lay (v := .ref (ad 201)) rfl fg_X12_7_X12 hX2.m rfl ?_
        refine y_blk 2 tq_X12_lay (z := (66, [(3, .int ((rV ((rin ρ 0 0)) 201) (Int32.toNatClampNeg cell))), (0, .ref (ad 200)), (1, .int cell), (2, .int kind)], [.int kind, .int cell, .ref (ad 201)])) rfl ?_
        refine y_iast hS tq_X12_lay rfl hX2.ki (by omega) (by first | exact yIn (by decide) (by decide) | exact yIn (by assumption) (by assumption) | (exact yIn (by omega) (by omega))) ?_
        have hX66 : atR aC ic de ad (yup G2 (ad 201) (201, .inl (aC 0, (rZ ((rin ρ 0 0)) 201), .inl (upd (rV ((rin ρ 0 0)) 201) (Int32.toNatClampNeg cell) kind)))) ((rar ((rin ρ 0 0)) 201 (upd (rV ((rin ρ 0 0)) 201) (Int32.toNatClampNeg cell) kind))) := ⟨hX2.1.setA hX2.2.2.1 (by omega) hX2.ki, hX2.2.sA (fun e => absurd e (by decide)) (fun e => absurd e (by decide)) (fun e => absurd e (by decide)) (fun e => absurd e (by decide)) (by decide) (by decide)⟩
        have kt66 : yTg kR G (yup G2 (ad 201) (201, .inl (aC 0, (rZ ((rin ρ 0 0)) 201), .inl (upd (rV ((rin ρ 0 0)) 201) (Int32.toNatClampNeg cell) kind)))) := (kt2).trans (yTg.up hX2.ki (kR_n (by omega) (by omega)))
        generalize yup G2 (ad 201) (201, .inl (aC 0, (rZ ((rin ρ 0 0)) 201), .inl (upd (rV ((rin ρ 0 0)) 201) (Int32.toNatClampNeg cell) kind))) = G66 at hX66 kt66 ⊢
        refine y_blk 1 tq_X12_lay (z := (68, [(3, .int ((rV ((rin ρ 0 0)) 201) (Int32.toNatClampNeg cell))), (0, .ref (ad 200)), (1, .int cell), (2, .int kind)], [.int ((rV ((rin ρ 0 0)) 201) (Int32.toNatClampNeg cell))])) rfl ?_
        exact y_iret tq_X12_lay rfl rfl (⟨⟨_, rfl⟩, ad, _, hX66, rfl, kt66, Or.inl (⟨yif1 c10, yif1 c25, (by first | exact fun q => absurd q c36 | exact fun _ => hr_x41.mp c44), rfl, rfl⟩)⟩)
      · skip
        refine y_blk 2 tq_X12_lay (z := (41, [(0, .ref (ad 200)), (1, .int cell), (2, .int kind)], [.int cell, .ref (ad 200)])) rfl ?_
        refine y_callV hS tq_X12_lay rfl (As := [.int cell]) rfl cv_X12_160 hX2.m (m_X12_isTaken hS hI hX2 cell) rfl (by decide) (Nat.le_of_ble_eq_true rfl) (fun r41 Gc41 q41 => ?_) (fun E9 G9 h9 => h9.elim)
        obtain ⟨⟨x41, hb_x41, hr_x41, rfl⟩, eG41⟩ := q41
        have eG41 := eG41.symm
        subst eG41
        refine y_blk 0 tq_X12_lay (z := (44, [(0, .ref (ad 200)), (1, .int cell), (2, .int kind)], [.int x41])) rfl ?_
        refine y_if_eq tq_X12_lay 53 rfl rfl (fun c44 => ?_) (fun c44 => ?_)
        · skip
          refine y_blk 1 tq_X12_lay (z := (54, [(0, .ref (ad 200)), (1, .int cell), (2, .int kind)], [.ref (ad 200)])) rfl ?_
          refine y_get hS tq_X12_lay (v := .ref (ad 201)) rfl fg_X12_7_X12 hX2.m rfl ?_
          refine y_blk 1 tq_X12_lay (z := (58, [(0, .ref (ad 200)), (1, .int cell), (2, .int kind)], [.int cell, .ref (ad 201)])) rfl ?_
          refine y_iald hS tq_X12_lay rfl hX2.ki (by first | exact yIn (by decide) (by decide) | exact yIn (by assumption) (by assumption) | (exact yIn (by omega) (by omega))) ?_
          refine y_blk 2 tq_X12_lay (z := (61, [(3, .int ((rV ((rin ρ 0 0)) 201) (Int32.toNatClampNeg cell))), (0, .ref (ad 200)), (1, .int cell), (2, .int kind)], [.ref (ad 200)])) rfl ?_
          refine y_get hS tq_X12_lay (v := .ref (ad 201)) rfl fg_X12_7_X12 hX2.m rfl ?_
          refine y_blk 2 tq_X12_lay (z := (66, [(3, .int ((rV ((rin ρ 0 0)) 201) (Int32.toNatClampNeg cell))), (0, .ref (ad 200)), (1, .int cell), (2, .int kind)], [.int kind, .int cell, .ref (ad 201)])) rfl ?_
          refine y_iast hS tq_X12_lay rfl hX2.ki (by omega) (by first | exact yIn (by decide) (by decide) | exact yIn (by assumption) (by assumption) | (exact yIn (by omega) (by omega))) ?_
          have hX66 : atR aC ic de ad (yup G2 (ad 201) (201, .inl (aC 0, (rZ ((rin ρ 0 0)) 201), .inl (upd (rV ((rin ρ 0 0)) 201) (Int32.toNatClampNeg cell) kind)))) ((rar ((rin ρ 0 0)) 201 (upd (rV ((rin ρ 0 0)) 201) (Int32.toNatClampNeg cell) kind))) := ⟨hX2.1.setA hX2.2.2.1 (by omega) hX2.ki, hX2.2.sA (fun e => absurd e (by decide)) (fun e => absurd e (by decide)) (fun e => absurd e (by decide)) (fun e => absurd e (by decide)) (by decide) (by decide)⟩
          have kt66 : yTg kR G (yup G2 (ad 201) (201, .inl (aC 0, (rZ ((rin ρ 0 0)) 201), .inl (upd (rV ((rin ρ 0 0)) 201) (Int32.toNatClampNeg cell) kind)))) := (kt2).trans (yTg.up hX2.ki (kR_n (by omega) (by omega)))
          generalize yup G2 (ad 201) (201, .inl (aC 0, (rZ ((rin ρ 0 0)) 201), .inl (upd (rV ((rin ρ 0 0)) 201) (Int32.toNatClampNeg cell) kind))) = G66 at hX66 kt66 ⊢
          refine y_blk 1 tq_X12_lay (z := (68, [(3, .int ((rV ((rin ρ 0 0)) 201) (Int32.toNatClampNeg cell))), (0, .ref (ad 200)), (1, .int cell), (2, .int kind)], [.int ((rV ((rin ρ 0 0)) 201) (Int32.toNatClampNeg cell))])) rfl ?_
          exact y_iret tq_X12_lay rfl rfl (⟨⟨_, rfl⟩, ad, _, hX66, rfl, kt66, Or.inl (⟨yif1 c10, yif1 c25, (by first | exact fun q => absurd q c36 | exact fun _ => hr_x41.mp c44), rfl, rfl⟩)⟩)
        · skip
          refine y_blk 2 tq_X12_lay (z := (49, [(0, .ref (ad 200)), (1, .int cell), (2, .int kind)], [.int 3, .ref (ad 200)])) rfl ?_
          refine y_callV hS tq_X12_lay rfl (As := [.int 3]) rfl cv_X12_140 hX2.m (m_X12_no hS hI hX2 3) rfl (by decide) (Nat.le_of_ble_eq_true rfl) (fun r49 Gc49 q49 => ?_) (fun E9 G9 h9 => h9.elim)
          obtain ⟨rfl, hX49, kt49_⟩ := q49
          have kt49 := (kt2).trans kt49_
          refine y_blk 0 tq_X12_lay (z := (52, [(0, .ref (ad 200)), (1, .int cell), (2, .int kind)], [.int 0])) rfl ?_
          exact y_iret tq_X12_lay rfl rfl (⟨⟨_, rfl⟩, ad, _, hX49, rfl, kt49, Or.inr (Or.inr (Or.inr (⟨⟨yif1 c10, yif1 c25, fun q => c44 (hr_x41.mpr (q c36))⟩, rfl, (rSm.in0 (rSm.in0 rSm.rfl'))⟩)))⟩)
    · skip
      refine y_blk 2 tq_X12_lay (z := (30, [(0, .ref (ad 200)), (1, .int cell), (2, .int kind)], [.int 2, .ref (ad 200)])) rfl ?_
      refine y_callV hS tq_X12_lay rfl (As := [.int 2]) rfl cv_X12_140 hX2.m (m_X12_no hS hI hX2 2) rfl (by decide) (Nat.le_of_ble_eq_true rfl) (fun r30 Gc30 q30 => ?_) (fun E9 G9 h9 => h9.elim)
      obtain ⟨rfl, hX30, kt30_⟩ := q30
      have kt30 := (kt2).trans kt30_
      refine y_blk 0 tq_X12_lay (z := (33, [(0, .ref (ad 200)), (1, .int cell), (2, .int kind)], [.int 0])) rfl ?_
      exact y_iret tq_X12_lay rfl rfl (⟨⟨_, rfl⟩, ad, _, hX30, rfl, kt30, Or.inr (Or.inr (Or.inl (⟨⟨yif1 c10, rif c25⟩, rfl, (rSm.in0 (rSm.in0 rSm.rfl'))⟩)))⟩)
  · skip
    refine y_blk 2 tq_X12_lay (z := (15, [(0, .ref (ad 200)), (1, .int cell), (2, .int kind)], [.int 1, .ref (ad 200)])) rfl ?_
    refine y_callV hS tq_X12_lay rfl (As := [.int 1]) rfl cv_X12_140 hX2.m (m_X12_no hS hI hX2 1) rfl (by decide) (Nat.le_of_ble_eq_true rfl) (fun r15 Gc15 q15 => ?_) (fun E9 G9 h9 => h9.elim)
    obtain ⟨rfl, hX15, kt15_⟩ := q15
    have kt15 := (kt2).trans kt15_
    refine y_blk 0 tq_X12_lay (z := (18, [(0, .ref (ad 200)), (1, .int cell), (2, .int kind)], [.int 0])) rfl ?_
    exact y_iret tq_X12_lay rfl rfl (⟨⟨_, rfl⟩, ad, _, hX15, rfl, kt15, Or.inr (Or.inl (⟨rif c10, rfl, (rSm.in0 (rSm.in0 rSm.rfl'))⟩))⟩)
set_option maxHeartbeats 4000000 in
set_option maxRecDepth 100000 in
theorem m_X12_key {l : Launch} {S0 : State} {A0 : Array Value} {D : va_G} {aC : Nat → ClassId} {ic : Int32 → Nat} {de : Nat} {ad : Nat → Nat} {G : AH} {ρ : RS} (hS : yS l S0 A0 D aC) (hI : yIc S0 ic de) (hX : atR aC ic de ad G ρ) (key : Int32) (guard : Int32) : yM l S0 D yX12_key cX12_key 4 (some .int) 18 0 0 [.ref (ad 200), .int key, .int guard] G (fun r G1 => (∃ v : Int32, r = some (.int v)) ∧ ∃ (ad1 : Nat → Nat) (ρ1 : RS), atR aC ic de ad1 G1 ρ1 ∧ ad1 200 = ad 200 ∧ yTg kR G G1 ∧ roKey key guard r ρ ρ1) (fun _ _ => False) := by
  refine yM.ofK K_X12_key rfl (by decide) (Nat.le_of_ble_eq_true rfl) ?_
  refine y_blk 2 tq_X12_key (z := (2, [(0, .ref (ad 200)), (1, .int key), (2, .int guard)], [.int 0, .ref (ad 200)])) rfl ?_
  refine y_put hS tq_X12_key rfl fp_X12_51_X12 hX.m (by omega) rfl rfl (Nat.le_of_ble_eq_true rfl) ?_
  have hX2 : atR aC ic de ad (yup G (ad 200) (200, .inr (16, [.int 0, .int (rI ρ 1), .int (rI ρ 2), .ref (ad 201), .int (rI ρ 3), .int (rI ρ 4), .ref (ad 210), .ref (ad 211), .ref (ad 212), .ref (ad 213), .int (rI ρ 5), .int (rI ρ 6), .int (rI ρ 7), .ref (ad 202), .ref (ad 214), .int (rI ρ 8), .ref (ad 203), .ref (ad 215), .ref (ad 216), .int (rI ρ 9)]))) ((rin ρ 0 0)) := atR.setIb hX rfl rfl (hX.2.setI (by decide))
  have kt2 : yTg kR G (yup G (ad 200) (200, .inr (16, [.int 0, .int (rI ρ 1), .int (rI ρ 2), .ref (ad 201), .int (rI ρ 3), .int (rI ρ 4), .ref (ad 210), .ref (ad 211), .ref (ad 212), .ref (ad 213), .int (rI ρ 5), .int (rI ρ 6), .int (rI ρ 7), .ref (ad 202), .ref (ad 214), .int (rI ρ 8), .ref (ad 203), .ref (ad 215), .ref (ad 216), .int (rI ρ 9)]))) := ((yTg.rfl' (f := kR) (G := G))).trans (yTg.up hX.m (kR_n (by omega) (by omega)))
  show Y l S0 D K_X12_key 18 0 0 (fun r G1 => (∃ v : Int32, r = some (.int v)) ∧ ∃ (ad1 : Nat → Nat) (ρ1 : RS), atR aC ic de ad1 G1 ρ1 ∧ ad1 200 = ad 200 ∧ yTg kR G G1 ∧ roKey key guard r ρ ρ1) (fun _ _ => False) (2 + 3) [(0, .ref (ad 200)), (1, .int key), (2, .int guard)] [] (yup G (ad 200) (200, .inr (16, [.int 0, .int (rI ρ 1), .int (rI ρ 2), .ref (ad 201), .int (rI ρ 3), .int (rI ρ 4), .ref (ad 210), .ref (ad 211), .ref (ad 212), .ref (ad 213), .int (rI ρ 5), .int (rI ρ 6), .int (rI ρ 7), .ref (ad 202), .ref (ad 214), .int (rI ρ 8), .ref (ad 203), .ref (ad 215), .ref (ad 216), .int (rI ρ 9)]))) 0 0
  generalize yup G (ad 200) (200, .inr (16, [.int 0, .int (rI ρ 1), .int (rI ρ 2), .ref (ad 201), .int (rI ρ 3), .int (rI ρ 4), .ref (ad 210), .ref (ad 211), .ref (ad 212), .ref (ad 213), .int (rI ρ 5), .int (rI ρ 6), .int (rI ρ 7), .ref (ad 202), .ref (ad 214), .int (rI ρ 8), .ref (ad 203), .ref (ad 215), .ref (ad 216), .int (rI ρ 9)])) = G2 at hX2 kt2 ⊢
  refine y_blk 3 tq_X12_key (z := (8, [(0, .ref (ad 200)), (1, .int key), (2, .int guard)], [.int 5, .int 0, .int key])) rfl ?_
  refine y_callS hS tq_X12_key rfl (As := [.int key, .int 0, .int 5]) rfl cs_X12_54 (m_X12_in hS key 0 5) rfl (by decide) (Nat.le_of_ble_eq_true rfl) (fun r8 Gc8 q8 => ?_) (fun E9 G9 h9 => h9.elim)
  obtain ⟨rfl, eG8⟩ := q8
  have eG8 := eG8.symm
  subst eG8
  refine y_blk 0 tq_X12_key (z := (11, [(0, .ref (ad 200)), (1, .int key), (2, .int guard)], [.int (if 0 ≤ key ∧ key ≤ 5 then 1 else 0)])) rfl ?_
  refine y_if_eq tq_X12_key 27 rfl rfl (fun c11 => ?_) (fun c11 => ?_)
  · skip
    refine y_blk 2 tq_X12_key (z := (29, [(0, .ref (ad 200)), (1, .int key), (2, .int guard)], [.int 1, .ref (ad 200)])) rfl ?_
    refine y_callV hS tq_X12_key rfl (As := [.int 1]) rfl cv_X12_140 hX2.m (m_X12_no hS hI hX2 1) rfl (by decide) (Nat.le_of_ble_eq_true rfl) (fun r29 Gc29 q29 => ?_) (fun E9 G9 h9 => h9.elim)
    obtain ⟨rfl, hX29, kt29_⟩ := q29
    have kt29 := (kt2).trans kt29_
    refine y_blk 0 tq_X12_key (z := (32, [(0, .ref (ad 200)), (1, .int key), (2, .int guard)], [.int 0])) rfl ?_
    exact y_iret tq_X12_key rfl rfl (⟨⟨_, rfl⟩, ad, _, hX29, rfl, kt29, Or.inr (⟨(by first | exact fun q => q.2.elim c16 (rif c24) | exact fun q => rif c11 q.1), rfl, (rSm.in0 (rSm.in0 rSm.rfl'))⟩)⟩)
  · skip
    have hq11 := yif1 c11
    simp only [yle, yl_m1, yl_0, yl_1, yl_2, yl_3, yl_4, yl_5, yl_6, yl_7, yl_8, yl_9, yl_10, yl_11, yl_12, yl_60, yl_90, yl_239, yl_240] at hq11
    have ha11 := hq11.1
    have hb11 := hq11.2
    refine y_blk 2 tq_X12_key (z := (16, [(0, .ref (ad 200)), (1, .int key), (2, .int guard)], [.int (-1), .int guard])) rfl ?_
    refine y_icmp_eq tq_X12_key 33 rfl rfl (fun c16 => ?_) (fun c16 => ?_)
    · skip
      refine y_blk 1 tq_X12_key (z := (34, [(0, .ref (ad 200)), (1, .int key), (2, .int guard)], [.ref (ad 200)])) rfl ?_
      refine y_get hS tq_X12_key (v := .ref (ad 203)) rfl fg_X12_39_X12 hX2.m rfl ?_
      refine y_blk 1 tq_X12_key (z := (38, [(0, .ref (ad 200)), (1, .int key), (2, .int guard)], [.int key, .ref (ad 203)])) rfl ?_
      refine y_iald hS tq_X12_key rfl hX2.ke (by first | exact yIn (by decide) (by decide) | exact yIn (by assumption) (by assumption) | (exact yIn (by omega) (by omega))) ?_
      refine y_blk 2 tq_X12_key (z := (41, [(3, .int ((rV ((rin ρ 0 0)) 203) (Int32.toNatClampNeg key))), (0, .ref (ad 200)), (1, .int key), (2, .int guard)], [.ref (ad 200)])) rfl ?_
      refine y_get hS tq_X12_key (v := .ref (ad 203)) rfl fg_X12_39_X12 hX2.m rfl ?_
      refine y_blk 2 tq_X12_key (z := (46, [(3, .int ((rV ((rin ρ 0 0)) 203) (Int32.toNatClampNeg key))), (0, .ref (ad 200)), (1, .int key), (2, .int guard)], [.int guard, .int key, .ref (ad 203)])) rfl ?_
      have hkk46 := yKey (f := rV (rin ρ 0 0) 203) (k := key) hX2.2.2.2.2.2.1 (v := guard) (by first | exact Or.inl (by assumption) | exact Or.inr (by assumption))
      refine y_iast hS tq_X12_key rfl hX2.ke (by omega) (by first | exact yIn (by decide) (by decide) | exact yIn (by assumption) (by assumption) | (exact yIn (by omega) (by omega))) ?_
      have hX46 : atR aC ic de ad (yup G2 (ad 203) (203, .inl (aC 0, 6, .inl (upd (rV ((rin ρ 0 0)) 203) (Int32.toNatClampNeg key) guard)))) ((rar ((rin ρ 0 0)) 203 (upd (rV ((rin ρ 0 0)) 203) (Int32.toNatClampNeg key) guard))) := ⟨hX2.1.setA hX2.2.2.1 (by omega) hX2.ke, hX2.2.sA (fun e => absurd e (by decide)) (fun _ => hkk46) (fun e => absurd e (by decide)) (fun e => absurd e (by decide)) (by decide) (by decide)⟩
      have kt46 : yTg kR G (yup G2 (ad 203) (203, .inl (aC 0, 6, .inl (upd (rV ((rin ρ 0 0)) 203) (Int32.toNatClampNeg key) guard)))) := (kt2).trans (yTg.up hX2.ke (kR_n (by omega) (by omega)))
      generalize yup G2 (ad 203) (203, .inl (aC 0, 6, .inl (upd (rV ((rin ρ 0 0)) 203) (Int32.toNatClampNeg key) guard))) = G46 at hX46 kt46 ⊢
      refine y_blk 1 tq_X12_key (z := (48, [(3, .int ((rV ((rin ρ 0 0)) 203) (Int32.toNatClampNeg key))), (0, .ref (ad 200)), (1, .int key), (2, .int guard)], [.int ((rV ((rin ρ 0 0)) 203) (Int32.toNatClampNeg key))])) rfl ?_
      exact y_iret tq_X12_key rfl rfl (⟨⟨_, rfl⟩, ad, _, hX46, rfl, kt46, Or.inl (⟨⟨yif1 c11, (by first | exact Or.inl c16 | exact Or.inr (yif1 c24))⟩, rfl, rfl⟩)⟩)
    · skip
      refine y_blk 2 tq_X12_key (z := (21, [(0, .ref (ad 200)), (1, .int key), (2, .int guard)], [.int guard, .ref (ad 200)])) rfl ?_
      refine y_callV hS tq_X12_key rfl (As := [.int guard]) rfl cv_X12_176 hX2.m (m_X12_isGuard hS hI hX2 guard) rfl (by decide) (Nat.le_of_ble_eq_true rfl) (fun r21 Gc21 q21 => ?_) (fun E9 G9 h9 => h9.elim)
      obtain ⟨rfl, eG21⟩ := q21
      have eG21 := eG21.symm
      subst eG21
      refine y_blk 0 tq_X12_key (z := (24, [(0, .ref (ad 200)), (1, .int key), (2, .int guard)], [.int (if 0 ≤ guard ∧ guard ≤ (Int32.ofNat (rZ ((rin ρ 0 0)) 212)) - 1 then 1 else 0)])) rfl ?_
      refine y_if_ne tq_X12_key 33 rfl rfl (fun c24 => ?_) (fun c24 => ?_)
      · skip
        have hq24 := yif1 c24
        have hn24 := yinN (n := rZ ((rin ρ 0 0)) 212) (by have := hX2.2.le10 212 (by decide); omega) hq24
        have ha24 := hn24.1
        have hb24 := hn24.2
        refine y_blk 1 tq_X12_key (z := (34, [(0, .ref (ad 200)), (1, .int key), (2, .int guard)], [.ref (ad 200)])) rfl ?_
        refine y_get hS tq_X12_key (v := .ref (ad 203)) rfl fg_X12_39_X12 hX2.m rfl ?_
        refine y_blk 1 tq_X12_key (z := (38, [(0, .ref (ad 200)), (1, .int key), (2, .int guard)], [.int key, .ref (ad 203)])) rfl ?_
        refine y_iald hS tq_X12_key rfl hX2.ke (by first | exact yIn (by decide) (by decide) | exact yIn (by assumption) (by assumption) | (exact yIn (by omega) (by omega))) ?_
        refine y_blk 2 tq_X12_key (z := (41, [(3, .int ((rV ((rin ρ 0 0)) 203) (Int32.toNatClampNeg key))), (0, .ref (ad 200)), (1, .int key), (2, .int guard)], [.ref (ad 200)])) rfl ?_
        refine y_get hS tq_X12_key (v := .ref (ad 203)) rfl fg_X12_39_X12 hX2.m rfl ?_
        refine y_blk 2 tq_X12_key (z := (46, [(3, .int ((rV ((rin ρ 0 0)) 203) (Int32.toNatClampNeg key))), (0, .ref (ad 200)), (1, .int key), (2, .int guard)], [.int guard, .int key, .ref (ad 203)])) rfl ?_
        have hkk46 := yKey (f := rV (rin ρ 0 0) 203) (k := key) hX2.2.2.2.2.2.1 (v := guard) (by first | exact Or.inl (by assumption) | exact Or.inr (by assumption))
        refine y_iast hS tq_X12_key rfl hX2.ke (by omega) (by first | exact yIn (by decide) (by decide) | exact yIn (by assumption) (by assumption) | (exact yIn (by omega) (by omega))) ?_
        have hX46 : atR aC ic de ad (yup G2 (ad 203) (203, .inl (aC 0, 6, .inl (upd (rV ((rin ρ 0 0)) 203) (Int32.toNatClampNeg key) guard)))) ((rar ((rin ρ 0 0)) 203 (upd (rV ((rin ρ 0 0)) 203) (Int32.toNatClampNeg key) guard))) := ⟨hX2.1.setA hX2.2.2.1 (by omega) hX2.ke, hX2.2.sA (fun e => absurd e (by decide)) (fun _ => hkk46) (fun e => absurd e (by decide)) (fun e => absurd e (by decide)) (by decide) (by decide)⟩
        have kt46 : yTg kR G (yup G2 (ad 203) (203, .inl (aC 0, 6, .inl (upd (rV ((rin ρ 0 0)) 203) (Int32.toNatClampNeg key) guard)))) := (kt2).trans (yTg.up hX2.ke (kR_n (by omega) (by omega)))
        generalize yup G2 (ad 203) (203, .inl (aC 0, 6, .inl (upd (rV ((rin ρ 0 0)) 203) (Int32.toNatClampNeg key) guard))) = G46 at hX46 kt46 ⊢
        refine y_blk 1 tq_X12_key (z := (48, [(3, .int ((rV ((rin ρ 0 0)) 203) (Int32.toNatClampNeg key))), (0, .ref (ad 200)), (1, .int key), (2, .int guard)], [.int ((rV ((rin ρ 0 0)) 203) (Int32.toNatClampNeg key))])) rfl ?_
        exact y_iret tq_X12_key rfl rfl (⟨⟨_, rfl⟩, ad, _, hX46, rfl, kt46, Or.inl (⟨⟨yif1 c11, (by first | exact Or.inl c16 | exact Or.inr (yif1 c24))⟩, rfl, rfl⟩)⟩)
      · skip
        refine y_blk 2 tq_X12_key (z := (29, [(0, .ref (ad 200)), (1, .int key), (2, .int guard)], [.int 1, .ref (ad 200)])) rfl ?_
        refine y_callV hS tq_X12_key rfl (As := [.int 1]) rfl cv_X12_140 hX2.m (m_X12_no hS hI hX2 1) rfl (by decide) (Nat.le_of_ble_eq_true rfl) (fun r29 Gc29 q29 => ?_) (fun E9 G9 h9 => h9.elim)
        obtain ⟨rfl, hX29, kt29_⟩ := q29
        have kt29 := (kt2).trans kt29_
        refine y_blk 0 tq_X12_key (z := (32, [(0, .ref (ad 200)), (1, .int key), (2, .int guard)], [.int 0])) rfl ?_
        exact y_iret tq_X12_key rfl rfl (⟨⟨_, rfl⟩, ad, _, hX29, rfl, kt29, Or.inr (⟨(by first | exact fun q => q.2.elim c16 (rif c24) | exact fun q => rif c11 q.1), rfl, (rSm.in0 (rSm.in0 rSm.rfl'))⟩)⟩)
set_option maxHeartbeats 4000000 in
set_option maxRecDepth 100000 in
theorem m_X12_answer {l : Launch} {S0 : State} {A0 : Array Value} {D : va_G} {aC : Nat → ClassId} {ic : Int32 → Nat} {de : Nat} {ad : Nat → Nat} {G : AH} {ρ : RS} (hS : yS l S0 A0 D aC) (hI : yIc S0 ic de) (hX : atR aC ic de ad G ρ) (guard : Int32) (minute : Int32) (word : Int32) : yM l S0 D yX12_answer cX12_answer 6 (some .int) 18 0 0 [.ref (ad 200), .int guard, .int minute, .int word] G (fun r G1 => (∃ v : Int32, r = some (.int v)) ∧ ∃ (ad1 : Nat → Nat) (ρ1 : RS), atR aC ic de ad1 G1 ρ1 ∧ ad1 200 = ad 200 ∧ yTg kR G G1 ∧ rAn ρ ρ1) (fun _ _ => False) := by
  refine yM.ofK K_X12_answer rfl (by decide) (Nat.le_of_ble_eq_true rfl) ?_
  refine y_blk 2 tq_X12_answer (z := (2, [(0, .ref (ad 200)), (1, .int guard), (2, .int minute), (3, .int word)], [.int 0, .ref (ad 200)])) rfl ?_
  refine y_put hS tq_X12_answer rfl fp_X12_51_X12 hX.m (by omega) rfl rfl (Nat.le_of_ble_eq_true rfl) ?_
  have hX2 : atR aC ic de ad (yup G (ad 200) (200, .inr (16, [.int 0, .int (rI ρ 1), .int (rI ρ 2), .ref (ad 201), .int (rI ρ 3), .int (rI ρ 4), .ref (ad 210), .ref (ad 211), .ref (ad 212), .ref (ad 213), .int (rI ρ 5), .int (rI ρ 6), .int (rI ρ 7), .ref (ad 202), .ref (ad 214), .int (rI ρ 8), .ref (ad 203), .ref (ad 215), .ref (ad 216), .int (rI ρ 9)]))) ((rin ρ 0 0)) := atR.setIb hX rfl rfl (hX.2.setI (by decide))
  have kt2 : yTg kR G (yup G (ad 200) (200, .inr (16, [.int 0, .int (rI ρ 1), .int (rI ρ 2), .ref (ad 201), .int (rI ρ 3), .int (rI ρ 4), .ref (ad 210), .ref (ad 211), .ref (ad 212), .ref (ad 213), .int (rI ρ 5), .int (rI ρ 6), .int (rI ρ 7), .ref (ad 202), .ref (ad 214), .int (rI ρ 8), .ref (ad 203), .ref (ad 215), .ref (ad 216), .int (rI ρ 9)]))) := ((yTg.rfl' (f := kR) (G := G))).trans (yTg.up hX.m (kR_n (by omega) (by omega)))
  show Y l S0 D K_X12_answer 18 0 0 (fun r G1 => (∃ v : Int32, r = some (.int v)) ∧ ∃ (ad1 : Nat → Nat) (ρ1 : RS), atR aC ic de ad1 G1 ρ1 ∧ ad1 200 = ad 200 ∧ yTg kR G G1 ∧ rAn ρ ρ1) (fun _ _ => False) (2 + 3) [(0, .ref (ad 200)), (1, .int guard), (2, .int minute), (3, .int word)] [] (yup G (ad 200) (200, .inr (16, [.int 0, .int (rI ρ 1), .int (rI ρ 2), .ref (ad 201), .int (rI ρ 3), .int (rI ρ 4), .ref (ad 210), .ref (ad 211), .ref (ad 212), .ref (ad 213), .int (rI ρ 5), .int (rI ρ 6), .int (rI ρ 7), .ref (ad 202), .ref (ad 214), .int (rI ρ 8), .ref (ad 203), .ref (ad 215), .ref (ad 216), .int (rI ρ 9)]))) 0 0
  generalize yup G (ad 200) (200, .inr (16, [.int 0, .int (rI ρ 1), .int (rI ρ 2), .ref (ad 201), .int (rI ρ 3), .int (rI ρ 4), .ref (ad 210), .ref (ad 211), .ref (ad 212), .ref (ad 213), .int (rI ρ 5), .int (rI ρ 6), .int (rI ρ 7), .ref (ad 202), .ref (ad 214), .int (rI ρ 8), .ref (ad 203), .ref (ad 215), .ref (ad 216), .int (rI ρ 9)])) = G2 at hX2 kt2 ⊢
  refine y_blk 2 tq_X12_answer (z := (7, [(0, .ref (ad 200)), (1, .int guard), (2, .int minute), (3, .int word)], [.int guard, .ref (ad 200)])) rfl ?_
  refine y_callV hS tq_X12_answer rfl (As := [.int guard]) rfl cv_X12_176 hX2.m (m_X12_isGuard hS hI hX2 guard) rfl (by decide) (Nat.le_of_ble_eq_true rfl) (fun r7 Gc7 q7 => ?_) (fun E9 G9 h9 => h9.elim)
  obtain ⟨rfl, eG7⟩ := q7
  have eG7 := eG7.symm
  subst eG7
  refine y_blk 0 tq_X12_answer (z := (10, [(0, .ref (ad 200)), (1, .int guard), (2, .int minute), (3, .int word)], [.int (if 0 ≤ guard ∧ guard ≤ (Int32.ofNat (rZ ((rin ρ 0 0)) 212)) - 1 then 1 else 0)])) rfl ?_
  refine y_if_ne tq_X12_answer 19 rfl rfl (fun c10 => ?_) (fun c10 => ?_)
  · skip
    have hq10 := yif1 c10
    have hn10 := yinN (n := rZ ((rin ρ 0 0)) 212) (by have := hX2.2.le10 212 (by decide); omega) hq10
    have ha10 := hn10.1
    have hb10 := hn10.2
    refine y_blk 1 tq_X12_answer (z := (20, [(0, .ref (ad 200)), (1, .int guard), (2, .int minute), (3, .int word)], [.int minute])) rfl ?_
    refine y_callS hS tq_X12_answer rfl (As := [.int minute]) rfl cs_X12_163 (m_X12_isMinute hS minute) rfl (by decide) (Nat.le_of_ble_eq_true rfl) (fun r20 Gc20 q20 => ?_) (fun E9 G9 h9 => h9.elim)
    obtain ⟨rfl, eG20⟩ := q20
    have eG20 := eG20.symm
    subst eG20
    refine y_blk 0 tq_X12_answer (z := (23, [(0, .ref (ad 200)), (1, .int guard), (2, .int minute), (3, .int word)], [.int (if 0 ≤ minute ∧ minute ≤ 239 then 1 else 0)])) rfl ?_
    refine y_if_ne tq_X12_answer 32 rfl rfl (fun c23 => ?_) (fun c23 => ?_)
    · skip
      have hq23 := yif1 c23
      simp only [yle, yl_m1, yl_0, yl_1, yl_2, yl_3, yl_4, yl_5, yl_6, yl_7, yl_8, yl_9, yl_10, yl_11, yl_12, yl_60, yl_90, yl_239, yl_240] at hq23
      have ha23 := hq23.1
      have hb23 := hq23.2
      refine y_blk 1 tq_X12_answer (z := (33, [(0, .ref (ad 200)), (1, .int guard), (2, .int minute), (3, .int word)], [.ref (ad 200)])) rfl ?_
      refine y_get hS tq_X12_answer (v := .ref (ad 212)) rfl fg_X12_27_X12 hX2.m rfl ?_
      refine y_blk 1 tq_X12_answer (z := (37, [(0, .ref (ad 200)), (1, .int guard), (2, .int minute), (3, .int word)], [.int guard, .ref (ad 212)])) rfl ?_
      refine y_callF hS tq_X12_answer rfl (As := [.int guard]) rfl cf_X12_80 (Or.inl ⟨_, (hX2.ls 212 (by decide)).1⟩) (m_Rgu hS hX2 (by assumption) (by assumption)) rfl (by decide) (Nat.le_of_ble_eq_true rfl) (fun r37 Gc37 q37 => ?_) (fun _ _ h9 => h9.elim)
      obtain ⟨rfl, eG37⟩ := q37
      have eG37 := eG37.symm
      subst eG37
      have d37 : (Int32.toNatClampNeg guard) < rZ ((rin ρ 0 0)) 212 := yIx (by assumption) (by assumption)
      refine y_blk 0 tq_X12_answer (z := (42, [(0, .ref (ad 200)), (1, .int guard), (2, .int minute), (3, .int word)], [.ref (ad (360 + (Int32.toNatClampNeg guard)))])) rfl ?_
      refine y_castG hS tq_X12_answer rfl kc_X12_84 (Or.inl ⟨_, (hX2.gu (by assumption))⟩) ?_
      refine y_blk 2 tq_X12_answer (z := (49, [(4, .ref (ad (360 + (Int32.toNatClampNeg guard)))), (0, .ref (ad 200)), (1, .int guard), (2, .int minute), (3, .int word)], [.ref (ad (360 + (Int32.toNatClampNeg guard)))])) rfl ?_
      refine y_get hS tq_X12_answer (v := .int (rF ((rin ρ 0 0)) (360 + (Int32.toNatClampNeg guard)) 3)) rfl fg_X12_86_X10 (hX2.gu (by assumption)) rfl ?_
      refine y_blk 1 tq_X12_answer (z := (53, [(4, .ref (ad (360 + (Int32.toNatClampNeg guard)))), (0, .ref (ad 200)), (1, .int guard), (2, .int minute), (3, .int word)], [.int 3, .int (rF ((rin ρ 0 0)) (360 + (Int32.toNatClampNeg guard)) 3)])) rfl ?_
      refine y_icmp_ne tq_X12_answer 58 rfl rfl (fun c53 => ?_) (fun c53 => ?_)
      · skip
        refine y_blk 4 tq_X12_answer (z := (64, [(4, .ref (ad (360 + (Int32.toNatClampNeg guard)))), (0, .ref (ad 200)), (1, .int guard), (2, .int minute), (3, .int word)], [.int 60, .int minute, .ref (ad (360 + (Int32.toNatClampNeg guard))), .ref (ad 200)])) rfl ?_
        refine y_idiv tq_X12_answer rfl (by decide) ?_
        refine y_blk 1 tq_X12_answer (z := (66, [(4, .ref (ad (360 + (Int32.toNatClampNeg guard)))), (0, .ref (ad 200)), (1, .int guard), (2, .int minute), (3, .int word)], [.int word, .int (minute / 60), .ref (ad (360 + (Int32.toNatClampNeg guard))), .ref (ad 200)])) rfl ?_
        have hdv : (minute / 60).toInt = minute.toInt / (60 : Int32).toInt := ydivn (by omega) (by rw [yl_60]; omega)
        rw [yl_60] at hdv
        refine y_callV hS tq_X12_answer rfl (As := [.ref (ad (360 + (Int32.toNatClampNeg guard))), .int (minute / 60), .int word]) rfl cv_X12_212 hX2.m (m_X12_judged hS hI hX2 (k := (Int32.toNatClampNeg guard)) (by assumption) (minute / 60) word (by omega) (by omega)) rfl (by decide) (Nat.le_of_ble_eq_true rfl) (fun r66 Gc66 q66 => ?_) (fun E9 G9 h9 => h9.elim)
        obtain ⟨⟨x66, rfl⟩, eG66⟩ := q66
        have eG66 := eG66.symm
        subst eG66
        refine y_blk 2 tq_X12_answer (z := (73, [(5, .int x66), (4, .ref (ad (360 + (Int32.toNatClampNeg guard)))), (0, .ref (ad 200)), (1, .int guard), (2, .int minute), (3, .int word)], [.int x66])) rfl ?_
        refine y_if_ne tq_X12_answer 105 rfl rfl (fun c73 => ?_) (fun c73 => ?_)
        · skip
          refine y_blk 2 tq_X12_answer (z := (108, [(5, .int x66), (4, .ref (ad (360 + (Int32.toNatClampNeg guard)))), (0, .ref (ad 200)), (1, .int guard), (2, .int minute), (3, .int word)], [.ref (ad (360 + (Int32.toNatClampNeg guard))), .ref (ad (360 + (Int32.toNatClampNeg guard)))])) rfl ?_
          refine y_get hS tq_X12_answer (v := .int (rF ((rin ρ 0 0)) (360 + (Int32.toNatClampNeg guard)) 3)) rfl fg_X12_86_X10 (hX2.gu (by assumption)) rfl ?_
          refine y_blk 2 tq_X12_answer (z := (113, [(5, .int x66), (4, .ref (ad (360 + (Int32.toNatClampNeg guard)))), (0, .ref (ad 200)), (1, .int guard), (2, .int minute), (3, .int word)], [.int ((rF ((rin ρ 0 0)) (360 + (Int32.toNatClampNeg guard)) 3) + 1), .ref (ad (360 + (Int32.toNatClampNeg guard)))])) rfl ?_
          refine y_put hS tq_X12_answer rfl fp_X12_86_X10 (hX2.gu (by assumption)) (by omega) rfl rfl (Nat.le_of_ble_eq_true rfl) ?_
          have hz_113 := hX2.2.2.1.2.2.1
          have hX113 : atR aC ic de ad (yup G2 (ad (360 + (Int32.toNatClampNeg guard))) ((360 + (Int32.toNatClampNeg guard)), .inr (14, [.int (rF ((rin ρ 0 0)) (360 + (Int32.toNatClampNeg guard)) 0), .int (rF ((rin ρ 0 0)) (360 + (Int32.toNatClampNeg guard)) 1), .int (rF ((rin ρ 0 0)) (360 + (Int32.toNatClampNeg guard)) 2), .ref (ad (380 + (Int32.toNatClampNeg guard))), .int ((rF ((rin ρ 0 0)) (360 + (Int32.toNatClampNeg guard)) 3) + 1), .int (rF ((rin ρ 0 0)) (360 + (Int32.toNatClampNeg guard)) 4)]))) ((rfd ((rin ρ 0 0)) (360 + (Int32.toNatClampNeg guard)) 3 ((rF ((rin ρ 0 0)) (360 + (Int32.toNatClampNeg guard)) 3) + 1))) := ⟨hX2.1.setG hX2.2.2.1 (by assumption) rGd_3, hX2.2.sF (Or.inl (by have := hX2.2.2.1.2.2.1; omega))⟩
          have kt113 : yTg kR G (yup G2 (ad (360 + (Int32.toNatClampNeg guard))) ((360 + (Int32.toNatClampNeg guard)), .inr (14, [.int (rF ((rin ρ 0 0)) (360 + (Int32.toNatClampNeg guard)) 0), .int (rF ((rin ρ 0 0)) (360 + (Int32.toNatClampNeg guard)) 1), .int (rF ((rin ρ 0 0)) (360 + (Int32.toNatClampNeg guard)) 2), .ref (ad (380 + (Int32.toNatClampNeg guard))), .int ((rF ((rin ρ 0 0)) (360 + (Int32.toNatClampNeg guard)) 3) + 1), .int (rF ((rin ρ 0 0)) (360 + (Int32.toNatClampNeg guard)) 4)]))) := (kt2).trans (yTg.up (hX2.gu (by assumption)) (kR_n (by omega) (by omega)))
          show Y l S0 D K_X12_answer 18 0 0 (fun r G1 => (∃ v : Int32, r = some (.int v)) ∧ ∃ (ad1 : Nat → Nat) (ρ1 : RS), atR aC ic de ad1 G1 ρ1 ∧ ad1 200 = ad 200 ∧ yTg kR G G1 ∧ rAn ρ ρ1) (fun _ _ => False) (113 + 3) [(5, .int x66), (4, .ref (ad (360 + (Int32.toNatClampNeg guard)))), (0, .ref (ad 200)), (1, .int guard), (2, .int minute), (3, .int word)] [] (yup G2 (ad (360 + (Int32.toNatClampNeg guard))) ((360 + (Int32.toNatClampNeg guard)), .inr (14, [.int (rF ((rin ρ 0 0)) (360 + (Int32.toNatClampNeg guard)) 0), .int (rF ((rin ρ 0 0)) (360 + (Int32.toNatClampNeg guard)) 1), .int (rF ((rin ρ 0 0)) (360 + (Int32.toNatClampNeg guard)) 2), .ref (ad (380 + (Int32.toNatClampNeg guard))), .int ((rF ((rin ρ 0 0)) (360 + (Int32.toNatClampNeg guard)) 3) + 1), .int (rF ((rin ρ 0 0)) (360 + (Int32.toNatClampNeg guard)) 4)]))) 0 0
          generalize yup G2 (ad (360 + (Int32.toNatClampNeg guard))) ((360 + (Int32.toNatClampNeg guard)), .inr (14, [.int (rF ((rin ρ 0 0)) (360 + (Int32.toNatClampNeg guard)) 0), .int (rF ((rin ρ 0 0)) (360 + (Int32.toNatClampNeg guard)) 1), .int (rF ((rin ρ 0 0)) (360 + (Int32.toNatClampNeg guard)) 2), .ref (ad (380 + (Int32.toNatClampNeg guard))), .int ((rF ((rin ρ 0 0)) (360 + (Int32.toNatClampNeg guard)) 3) + 1), .int (rF ((rin ρ 0 0)) (360 + (Int32.toNatClampNeg guard)) 4)])) = G113 at hX113 kt113 ⊢
          refine y_blk 1 tq_X12_answer (z := (118, [(5, .int x66), (4, .ref (ad (360 + (Int32.toNatClampNeg guard)))), (0, .ref (ad 200)), (1, .int guard), (2, .int minute), (3, .int word)], [.int x66])) rfl ?_
          exact y_iret tq_X12_answer rfl rfl (⟨⟨_, rfl⟩, ad, _, hX113, rfl, kt113, (by first | exact rAn.sm (rSm.in0 rSm.rfl') | exact (rAn.sm (rSm.in0 rSm.rfl')).fd (by omega) | exact ((rAn.sm (rSm.in0 rSm.rfl')).fd (by omega)).in (by decide) | exact ((rAn.sm rSm.rfl'.in0).fd (by omega)) | exact ((rAn.sm rSm.rfl'.in0).fd (by omega)).in (by decide))⟩)
        · skip
          refine y_blk 2 tq_X12_answer (z := (79, [(5, .int x66), (4, .ref (ad (360 + (Int32.toNatClampNeg guard)))), (0, .ref (ad 200)), (1, .int guard), (2, .int minute), (3, .int word)], [.ref (ad (360 + (Int32.toNatClampNeg guard))), .ref (ad (360 + (Int32.toNatClampNeg guard)))])) rfl ?_
          refine y_get hS tq_X12_answer (v := .int (rF ((rin ρ 0 0)) (360 + (Int32.toNatClampNeg guard)) 4)) rfl fg_X12_89_X10 (hX2.gu (by assumption)) rfl ?_
          refine y_blk 3 tq_X12_answer (z := (86, [(5, .int x66), (4, .ref (ad (360 + (Int32.toNatClampNeg guard)))), (0, .ref (ad 200)), (1, .int guard), (2, .int minute), (3, .int word)], [.int 60, .int minute, .int 1, .int (rF ((rin ρ 0 0)) (360 + (Int32.toNatClampNeg guard)) 4), .ref (ad (360 + (Int32.toNatClampNeg guard)))])) rfl ?_
          refine y_idiv tq_X12_answer rfl (by decide) ?_
          refine y_blk 2 tq_X12_answer (z := (89, [(5, .int x66), (4, .ref (ad (360 + (Int32.toNatClampNeg guard)))), (0, .ref (ad 200)), (1, .int guard), (2, .int minute), (3, .int word)], [.int ((rF ((rin ρ 0 0)) (360 + (Int32.toNatClampNeg guard)) 4) ||| (1 <<< ((minute / 60) &&& 31))), .ref (ad (360 + (Int32.toNatClampNeg guard)))])) rfl ?_
          refine y_put hS tq_X12_answer rfl fp_X12_89_X10 (hX2.gu (by assumption)) (by omega) rfl rfl (Nat.le_of_ble_eq_true rfl) ?_
          have hz_89 := hX2.2.2.1.2.2.1
          have hX89 : atR aC ic de ad (yup G2 (ad (360 + (Int32.toNatClampNeg guard))) ((360 + (Int32.toNatClampNeg guard)), .inr (14, [.int (rF ((rin ρ 0 0)) (360 + (Int32.toNatClampNeg guard)) 0), .int (rF ((rin ρ 0 0)) (360 + (Int32.toNatClampNeg guard)) 1), .int (rF ((rin ρ 0 0)) (360 + (Int32.toNatClampNeg guard)) 2), .ref (ad (380 + (Int32.toNatClampNeg guard))), .int (rF ((rin ρ 0 0)) (360 + (Int32.toNatClampNeg guard)) 3), .int ((rF ((rin ρ 0 0)) (360 + (Int32.toNatClampNeg guard)) 4) ||| (1 <<< ((minute / 60) &&& 31)))]))) ((rfd ((rin ρ 0 0)) (360 + (Int32.toNatClampNeg guard)) 4 ((rF ((rin ρ 0 0)) (360 + (Int32.toNatClampNeg guard)) 4) ||| (1 <<< ((minute / 60) &&& 31))))) := ⟨hX2.1.setG hX2.2.2.1 (by assumption) rGd_4, hX2.2.sF (Or.inl (by have := hX2.2.2.1.2.2.1; omega))⟩
          have kt89 : yTg kR G (yup G2 (ad (360 + (Int32.toNatClampNeg guard))) ((360 + (Int32.toNatClampNeg guard)), .inr (14, [.int (rF ((rin ρ 0 0)) (360 + (Int32.toNatClampNeg guard)) 0), .int (rF ((rin ρ 0 0)) (360 + (Int32.toNatClampNeg guard)) 1), .int (rF ((rin ρ 0 0)) (360 + (Int32.toNatClampNeg guard)) 2), .ref (ad (380 + (Int32.toNatClampNeg guard))), .int (rF ((rin ρ 0 0)) (360 + (Int32.toNatClampNeg guard)) 3), .int ((rF ((rin ρ 0 0)) (360 + (Int32.toNatClampNeg guard)) 4) ||| (1 <<< ((minute / 60) &&& 31)))]))) := (kt2).trans (yTg.up (hX2.gu (by assumption)) (kR_n (by omega) (by omega)))
          show Y l S0 D K_X12_answer 18 0 0 (fun r G1 => (∃ v : Int32, r = some (.int v)) ∧ ∃ (ad1 : Nat → Nat) (ρ1 : RS), atR aC ic de ad1 G1 ρ1 ∧ ad1 200 = ad 200 ∧ yTg kR G G1 ∧ rAn ρ ρ1) (fun _ _ => False) (89 + 3) [(5, .int x66), (4, .ref (ad (360 + (Int32.toNatClampNeg guard)))), (0, .ref (ad 200)), (1, .int guard), (2, .int minute), (3, .int word)] [] (yup G2 (ad (360 + (Int32.toNatClampNeg guard))) ((360 + (Int32.toNatClampNeg guard)), .inr (14, [.int (rF ((rin ρ 0 0)) (360 + (Int32.toNatClampNeg guard)) 0), .int (rF ((rin ρ 0 0)) (360 + (Int32.toNatClampNeg guard)) 1), .int (rF ((rin ρ 0 0)) (360 + (Int32.toNatClampNeg guard)) 2), .ref (ad (380 + (Int32.toNatClampNeg guard))), .int (rF ((rin ρ 0 0)) (360 + (Int32.toNatClampNeg guard)) 3), .int ((rF ((rin ρ 0 0)) (360 + (Int32.toNatClampNeg guard)) 4) ||| (1 <<< ((minute / 60) &&& 31)))]))) 0 0
          generalize yup G2 (ad (360 + (Int32.toNatClampNeg guard))) ((360 + (Int32.toNatClampNeg guard)), .inr (14, [.int (rF ((rin ρ 0 0)) (360 + (Int32.toNatClampNeg guard)) 0), .int (rF ((rin ρ 0 0)) (360 + (Int32.toNatClampNeg guard)) 1), .int (rF ((rin ρ 0 0)) (360 + (Int32.toNatClampNeg guard)) 2), .ref (ad (380 + (Int32.toNatClampNeg guard))), .int (rF ((rin ρ 0 0)) (360 + (Int32.toNatClampNeg guard)) 3), .int ((rF ((rin ρ 0 0)) (360 + (Int32.toNatClampNeg guard)) 4) ||| (1 <<< ((minute / 60) &&& 31)))])) = G89 at hX89 kt89 ⊢
          refine y_blk 2 tq_X12_answer (z := (94, [(5, .int x66), (4, .ref (ad (360 + (Int32.toNatClampNeg guard)))), (0, .ref (ad 200)), (1, .int guard), (2, .int minute), (3, .int word)], [.ref (ad 200), .ref (ad 200)])) rfl ?_
          refine y_get hS tq_X12_answer (v := .int (rI ((rfd ((rin ρ 0 0)) (360 + (Int32.toNatClampNeg guard)) 4 ((rF ((rin ρ 0 0)) (360 + (Int32.toNatClampNeg guard)) 4) ||| (1 <<< ((minute / 60) &&& 31))))) 8)) rfl fg_X12_77_X12 hX89.m rfl ?_
          refine y_blk 2 tq_X12_answer (z := (99, [(5, .int x66), (4, .ref (ad (360 + (Int32.toNatClampNeg guard)))), (0, .ref (ad 200)), (1, .int guard), (2, .int minute), (3, .int word)], [.int ((rI ((rfd ((rin ρ 0 0)) (360 + (Int32.toNatClampNeg guard)) 4 ((rF ((rin ρ 0 0)) (360 + (Int32.toNatClampNeg guard)) 4) ||| (1 <<< ((minute / 60) &&& 31))))) 8) + 1), .ref (ad 200)])) rfl ?_
          refine y_put hS tq_X12_answer rfl fp_X12_77_X12 hX89.m (by omega) rfl rfl (Nat.le_of_ble_eq_true rfl) ?_
          have hX99 : atR aC ic de ad (yup G89 (ad 200) (200, .inr (16, [.int (rI ((rfd ((rin ρ 0 0)) (360 + (Int32.toNatClampNeg guard)) 4 ((rF ((rin ρ 0 0)) (360 + (Int32.toNatClampNeg guard)) 4) ||| (1 <<< ((minute / 60) &&& 31))))) 0), .int (rI ((rfd ((rin ρ 0 0)) (360 + (Int32.toNatClampNeg guard)) 4 ((rF ((rin ρ 0 0)) (360 + (Int32.toNatClampNeg guard)) 4) ||| (1 <<< ((minute / 60) &&& 31))))) 1), .int (rI ((rfd ((rin ρ 0 0)) (360 + (Int32.toNatClampNeg guard)) 4 ((rF ((rin ρ 0 0)) (360 + (Int32.toNatClampNeg guard)) 4) ||| (1 <<< ((minute / 60) &&& 31))))) 2), .ref (ad 201), .int (rI ((rfd ((rin ρ 0 0)) (360 + (Int32.toNatClampNeg guard)) 4 ((rF ((rin ρ 0 0)) (360 + (Int32.toNatClampNeg guard)) 4) ||| (1 <<< ((minute / 60) &&& 31))))) 3), .int (rI ((rfd ((rin ρ 0 0)) (360 + (Int32.toNatClampNeg guard)) 4 ((rF ((rin ρ 0 0)) (360 + (Int32.toNatClampNeg guard)) 4) ||| (1 <<< ((minute / 60) &&& 31))))) 4), .ref (ad 210), .ref (ad 211), .ref (ad 212), .ref (ad 213), .int (rI ((rfd ((rin ρ 0 0)) (360 + (Int32.toNatClampNeg guard)) 4 ((rF ((rin ρ 0 0)) (360 + (Int32.toNatClampNeg guard)) 4) ||| (1 <<< ((minute / 60) &&& 31))))) 5), .int (rI ((rfd ((rin ρ 0 0)) (360 + (Int32.toNatClampNeg guard)) 4 ((rF ((rin ρ 0 0)) (360 + (Int32.toNatClampNeg guard)) 4) ||| (1 <<< ((minute / 60) &&& 31))))) 6), .int (rI ((rfd ((rin ρ 0 0)) (360 + (Int32.toNatClampNeg guard)) 4 ((rF ((rin ρ 0 0)) (360 + (Int32.toNatClampNeg guard)) 4) ||| (1 <<< ((minute / 60) &&& 31))))) 7), .ref (ad 202), .ref (ad 214), .int ((rI ((rfd ((rin ρ 0 0)) (360 + (Int32.toNatClampNeg guard)) 4 ((rF ((rin ρ 0 0)) (360 + (Int32.toNatClampNeg guard)) 4) ||| (1 <<< ((minute / 60) &&& 31))))) 8) + 1), .ref (ad 203), .ref (ad 215), .ref (ad 216), .int (rI ((rfd ((rin ρ 0 0)) (360 + (Int32.toNatClampNeg guard)) 4 ((rF ((rin ρ 0 0)) (360 + (Int32.toNatClampNeg guard)) 4) ||| (1 <<< ((minute / 60) &&& 31))))) 9)]))) ((rin ((rfd ((rin ρ 0 0)) (360 + (Int32.toNatClampNeg guard)) 4 ((rF ((rin ρ 0 0)) (360 + (Int32.toNatClampNeg guard)) 4) ||| (1 <<< ((minute / 60) &&& 31))))) 8 ((rI ((rfd ((rin ρ 0 0)) (360 + (Int32.toNatClampNeg guard)) 4 ((rF ((rin ρ 0 0)) (360 + (Int32.toNatClampNeg guard)) 4) ||| (1 <<< ((minute / 60) &&& 31))))) 8) + 1))) := atR.setIb hX89 rfl rfl (hX89.2.setI (by decide))
          have kt99 : yTg kR G (yup G89 (ad 200) (200, .inr (16, [.int (rI ((rfd ((rin ρ 0 0)) (360 + (Int32.toNatClampNeg guard)) 4 ((rF ((rin ρ 0 0)) (360 + (Int32.toNatClampNeg guard)) 4) ||| (1 <<< ((minute / 60) &&& 31))))) 0), .int (rI ((rfd ((rin ρ 0 0)) (360 + (Int32.toNatClampNeg guard)) 4 ((rF ((rin ρ 0 0)) (360 + (Int32.toNatClampNeg guard)) 4) ||| (1 <<< ((minute / 60) &&& 31))))) 1), .int (rI ((rfd ((rin ρ 0 0)) (360 + (Int32.toNatClampNeg guard)) 4 ((rF ((rin ρ 0 0)) (360 + (Int32.toNatClampNeg guard)) 4) ||| (1 <<< ((minute / 60) &&& 31))))) 2), .ref (ad 201), .int (rI ((rfd ((rin ρ 0 0)) (360 + (Int32.toNatClampNeg guard)) 4 ((rF ((rin ρ 0 0)) (360 + (Int32.toNatClampNeg guard)) 4) ||| (1 <<< ((minute / 60) &&& 31))))) 3), .int (rI ((rfd ((rin ρ 0 0)) (360 + (Int32.toNatClampNeg guard)) 4 ((rF ((rin ρ 0 0)) (360 + (Int32.toNatClampNeg guard)) 4) ||| (1 <<< ((minute / 60) &&& 31))))) 4), .ref (ad 210), .ref (ad 211), .ref (ad 212), .ref (ad 213), .int (rI ((rfd ((rin ρ 0 0)) (360 + (Int32.toNatClampNeg guard)) 4 ((rF ((rin ρ 0 0)) (360 + (Int32.toNatClampNeg guard)) 4) ||| (1 <<< ((minute / 60) &&& 31))))) 5), .int (rI ((rfd ((rin ρ 0 0)) (360 + (Int32.toNatClampNeg guard)) 4 ((rF ((rin ρ 0 0)) (360 + (Int32.toNatClampNeg guard)) 4) ||| (1 <<< ((minute / 60) &&& 31))))) 6), .int (rI ((rfd ((rin ρ 0 0)) (360 + (Int32.toNatClampNeg guard)) 4 ((rF ((rin ρ 0 0)) (360 + (Int32.toNatClampNeg guard)) 4) ||| (1 <<< ((minute / 60) &&& 31))))) 7), .ref (ad 202), .ref (ad 214), .int ((rI ((rfd ((rin ρ 0 0)) (360 + (Int32.toNatClampNeg guard)) 4 ((rF ((rin ρ 0 0)) (360 + (Int32.toNatClampNeg guard)) 4) ||| (1 <<< ((minute / 60) &&& 31))))) 8) + 1), .ref (ad 203), .ref (ad 215), .ref (ad 216), .int (rI ((rfd ((rin ρ 0 0)) (360 + (Int32.toNatClampNeg guard)) 4 ((rF ((rin ρ 0 0)) (360 + (Int32.toNatClampNeg guard)) 4) ||| (1 <<< ((minute / 60) &&& 31))))) 9)]))) := (kt89).trans (yTg.up hX89.m (kR_n (by omega) (by omega)))
          show Y l S0 D K_X12_answer 18 0 0 (fun r G1 => (∃ v : Int32, r = some (.int v)) ∧ ∃ (ad1 : Nat → Nat) (ρ1 : RS), atR aC ic de ad1 G1 ρ1 ∧ ad1 200 = ad 200 ∧ yTg kR G G1 ∧ rAn ρ ρ1) (fun _ _ => False) (99 + 3) [(5, .int x66), (4, .ref (ad (360 + (Int32.toNatClampNeg guard)))), (0, .ref (ad 200)), (1, .int guard), (2, .int minute), (3, .int word)] [] (yup G89 (ad 200) (200, .inr (16, [.int (rI ((rfd ((rin ρ 0 0)) (360 + (Int32.toNatClampNeg guard)) 4 ((rF ((rin ρ 0 0)) (360 + (Int32.toNatClampNeg guard)) 4) ||| (1 <<< ((minute / 60) &&& 31))))) 0), .int (rI ((rfd ((rin ρ 0 0)) (360 + (Int32.toNatClampNeg guard)) 4 ((rF ((rin ρ 0 0)) (360 + (Int32.toNatClampNeg guard)) 4) ||| (1 <<< ((minute / 60) &&& 31))))) 1), .int (rI ((rfd ((rin ρ 0 0)) (360 + (Int32.toNatClampNeg guard)) 4 ((rF ((rin ρ 0 0)) (360 + (Int32.toNatClampNeg guard)) 4) ||| (1 <<< ((minute / 60) &&& 31))))) 2), .ref (ad 201), .int (rI ((rfd ((rin ρ 0 0)) (360 + (Int32.toNatClampNeg guard)) 4 ((rF ((rin ρ 0 0)) (360 + (Int32.toNatClampNeg guard)) 4) ||| (1 <<< ((minute / 60) &&& 31))))) 3), .int (rI ((rfd ((rin ρ 0 0)) (360 + (Int32.toNatClampNeg guard)) 4 ((rF ((rin ρ 0 0)) (360 + (Int32.toNatClampNeg guard)) 4) ||| (1 <<< ((minute / 60) &&& 31))))) 4), .ref (ad 210), .ref (ad 211), .ref (ad 212), .ref (ad 213), .int (rI ((rfd ((rin ρ 0 0)) (360 + (Int32.toNatClampNeg guard)) 4 ((rF ((rin ρ 0 0)) (360 + (Int32.toNatClampNeg guard)) 4) ||| (1 <<< ((minute / 60) &&& 31))))) 5), .int (rI ((rfd ((rin ρ 0 0)) (360 + (Int32.toNatClampNeg guard)) 4 ((rF ((rin ρ 0 0)) (360 + (Int32.toNatClampNeg guard)) 4) ||| (1 <<< ((minute / 60) &&& 31))))) 6), .int (rI ((rfd ((rin ρ 0 0)) (360 + (Int32.toNatClampNeg guard)) 4 ((rF ((rin ρ 0 0)) (360 + (Int32.toNatClampNeg guard)) 4) ||| (1 <<< ((minute / 60) &&& 31))))) 7), .ref (ad 202), .ref (ad 214), .int ((rI ((rfd ((rin ρ 0 0)) (360 + (Int32.toNatClampNeg guard)) 4 ((rF ((rin ρ 0 0)) (360 + (Int32.toNatClampNeg guard)) 4) ||| (1 <<< ((minute / 60) &&& 31))))) 8) + 1), .ref (ad 203), .ref (ad 215), .ref (ad 216), .int (rI ((rfd ((rin ρ 0 0)) (360 + (Int32.toNatClampNeg guard)) 4 ((rF ((rin ρ 0 0)) (360 + (Int32.toNatClampNeg guard)) 4) ||| (1 <<< ((minute / 60) &&& 31))))) 9)]))) 0 0
          generalize yup G89 (ad 200) (200, .inr (16, [.int (rI ((rfd ((rin ρ 0 0)) (360 + (Int32.toNatClampNeg guard)) 4 ((rF ((rin ρ 0 0)) (360 + (Int32.toNatClampNeg guard)) 4) ||| (1 <<< ((minute / 60) &&& 31))))) 0), .int (rI ((rfd ((rin ρ 0 0)) (360 + (Int32.toNatClampNeg guard)) 4 ((rF ((rin ρ 0 0)) (360 + (Int32.toNatClampNeg guard)) 4) ||| (1 <<< ((minute / 60) &&& 31))))) 1), .int (rI ((rfd ((rin ρ 0 0)) (360 + (Int32.toNatClampNeg guard)) 4 ((rF ((rin ρ 0 0)) (360 + (Int32.toNatClampNeg guard)) 4) ||| (1 <<< ((minute / 60) &&& 31))))) 2), .ref (ad 201), .int (rI ((rfd ((rin ρ 0 0)) (360 + (Int32.toNatClampNeg guard)) 4 ((rF ((rin ρ 0 0)) (360 + (Int32.toNatClampNeg guard)) 4) ||| (1 <<< ((minute / 60) &&& 31))))) 3), .int (rI ((rfd ((rin ρ 0 0)) (360 + (Int32.toNatClampNeg guard)) 4 ((rF ((rin ρ 0 0)) (360 + (Int32.toNatClampNeg guard)) 4) ||| (1 <<< ((minute / 60) &&& 31))))) 4), .ref (ad 210), .ref (ad 211), .ref (ad 212), .ref (ad 213), .int (rI ((rfd ((rin ρ 0 0)) (360 + (Int32.toNatClampNeg guard)) 4 ((rF ((rin ρ 0 0)) (360 + (Int32.toNatClampNeg guard)) 4) ||| (1 <<< ((minute / 60) &&& 31))))) 5), .int (rI ((rfd ((rin ρ 0 0)) (360 + (Int32.toNatClampNeg guard)) 4 ((rF ((rin ρ 0 0)) (360 + (Int32.toNatClampNeg guard)) 4) ||| (1 <<< ((minute / 60) &&& 31))))) 6), .int (rI ((rfd ((rin ρ 0 0)) (360 + (Int32.toNatClampNeg guard)) 4 ((rF ((rin ρ 0 0)) (360 + (Int32.toNatClampNeg guard)) 4) ||| (1 <<< ((minute / 60) &&& 31))))) 7), .ref (ad 202), .ref (ad 214), .int ((rI ((rfd ((rin ρ 0 0)) (360 + (Int32.toNatClampNeg guard)) 4 ((rF ((rin ρ 0 0)) (360 + (Int32.toNatClampNeg guard)) 4) ||| (1 <<< ((minute / 60) &&& 31))))) 8) + 1), .ref (ad 203), .ref (ad 215), .ref (ad 216), .int (rI ((rfd ((rin ρ 0 0)) (360 + (Int32.toNatClampNeg guard)) 4 ((rF ((rin ρ 0 0)) (360 + (Int32.toNatClampNeg guard)) 4) ||| (1 <<< ((minute / 60) &&& 31))))) 9)])) = G99 at hX99 kt99 ⊢
          refine y_blk 2 tq_X12_answer (z := (118, [(5, .int x66), (4, .ref (ad (360 + (Int32.toNatClampNeg guard)))), (0, .ref (ad 200)), (1, .int guard), (2, .int minute), (3, .int word)], [.int x66])) rfl ?_
          exact y_iret tq_X12_answer rfl rfl (⟨⟨_, rfl⟩, ad, _, hX99, rfl, kt99, (by first | exact rAn.sm (rSm.in0 rSm.rfl') | exact (rAn.sm (rSm.in0 rSm.rfl')).fd (by omega) | exact ((rAn.sm (rSm.in0 rSm.rfl')).fd (by omega)).in (by decide) | exact ((rAn.sm rSm.rfl'.in0).fd (by omega)) | exact ((rAn.sm rSm.rfl'.in0).fd (by omega)).in (by decide))⟩)
      · skip
        refine y_blk 1 tq_X12_answer (z := (57, [(4, .ref (ad (360 + (Int32.toNatClampNeg guard)))), (0, .ref (ad 200)), (1, .int guard), (2, .int minute), (3, .int word)], [.int 4])) rfl ?_
        exact y_iret tq_X12_answer rfl rfl (⟨⟨_, rfl⟩, ad, _, hX2, rfl, kt2, (by first | exact rAn.sm (rSm.in0 rSm.rfl') | exact (rAn.sm (rSm.in0 rSm.rfl')).fd (by omega) | exact ((rAn.sm (rSm.in0 rSm.rfl')).fd (by omega)).in (by decide) | exact ((rAn.sm rSm.rfl'.in0).fd (by omega)) | exact ((rAn.sm rSm.rfl'.in0).fd (by omega)).in (by decide))⟩)
    · skip
      refine y_blk 2 tq_X12_answer (z := (28, [(0, .ref (ad 200)), (1, .int guard), (2, .int minute), (3, .int word)], [.int 2, .ref (ad 200)])) rfl ?_
      refine y_callV hS tq_X12_answer rfl (As := [.int 2]) rfl cv_X12_140 hX2.m (m_X12_no hS hI hX2 2) rfl (by decide) (Nat.le_of_ble_eq_true rfl) (fun r28 Gc28 q28 => ?_) (fun E9 G9 h9 => h9.elim)
      obtain ⟨rfl, hX28, kt28_⟩ := q28
      have kt28 := (kt2).trans kt28_
      refine y_blk 0 tq_X12_answer (z := (31, [(0, .ref (ad 200)), (1, .int guard), (2, .int minute), (3, .int word)], [.int 0])) rfl ?_
      exact y_iret tq_X12_answer rfl rfl (⟨⟨_, rfl⟩, ad, _, hX28, rfl, kt28, (by first | exact rAn.sm (rSm.in0 (rSm.in0 rSm.rfl')) | exact (rAn.sm (rSm.in0 (rSm.in0 rSm.rfl'))).fd (by omega) | exact ((rAn.sm (rSm.in0 (rSm.in0 rSm.rfl'))).fd (by omega)).in (by decide) | exact ((rAn.sm rSm.rfl'.in0).fd (by omega)) | exact ((rAn.sm rSm.rfl'.in0).fd (by omega)).in (by decide))⟩)
  · skip
    refine y_blk 2 tq_X12_answer (z := (15, [(0, .ref (ad 200)), (1, .int guard), (2, .int minute), (3, .int word)], [.int 1, .ref (ad 200)])) rfl ?_
    refine y_callV hS tq_X12_answer rfl (As := [.int 1]) rfl cv_X12_140 hX2.m (m_X12_no hS hI hX2 1) rfl (by decide) (Nat.le_of_ble_eq_true rfl) (fun r15 Gc15 q15 => ?_) (fun E9 G9 h9 => h9.elim)
    obtain ⟨rfl, hX15, kt15_⟩ := q15
    have kt15 := (kt2).trans kt15_
    refine y_blk 0 tq_X12_answer (z := (18, [(0, .ref (ad 200)), (1, .int guard), (2, .int minute), (3, .int word)], [.int 0])) rfl ?_
    exact y_iret tq_X12_answer rfl rfl (⟨⟨_, rfl⟩, ad, _, hX15, rfl, kt15, (by first | exact rAn.sm (rSm.in0 (rSm.in0 rSm.rfl')) | exact (rAn.sm (rSm.in0 (rSm.in0 rSm.rfl'))).fd (by omega) | exact ((rAn.sm (rSm.in0 (rSm.in0 rSm.rfl'))).fd (by omega)).in (by decide) | exact ((rAn.sm rSm.rfl'.in0).fd (by omega)) | exact ((rAn.sm rSm.rfl'.in0).fd (by omega)).in (by decide))⟩)
set_option maxHeartbeats 4000000 in
set_option maxRecDepth 100000 in
theorem m_X12_force {l : Launch} {S0 : State} {A0 : Array Value} {D : va_G} {aC : Nat → ClassId} {ic : Int32 → Nat} {de : Nat} {ad : Nat → Nat} {G : AH} {ρ : RS} (hS : yS l S0 A0 D aC) (hI : yIc S0 ic de) (hX : atR aC ic de ad G ρ) (intruder : Int32) (step : Int32) (minute : Int32) : yM l S0 D yX12_force cX12_force 6 (some .int) 22 0 0 [.ref (ad 200), .int intruder, .int step, .int minute] G (fun r G1 => (∃ v : Int32, r = some (.int v)) ∧ ∃ (ad1 : Nat → Nat) (ρ1 : RS), atR aC ic de ad1 G1 ρ1 ∧ ad1 200 = ad 200 ∧ yTg kR G G1 ∧ rAn ρ ρ1) (fun _ _ => False) := by
  refine yM.ofK K_X12_force rfl (by decide) (Nat.le_of_ble_eq_true rfl) ?_
  refine y_blk 2 tq_X12_force (z := (2, [(0, .ref (ad 200)), (1, .int intruder), (2, .int step), (3, .int minute)], [.int 0, .ref (ad 200)])) rfl ?_
  refine y_put hS tq_X12_force rfl fp_X12_51_X12 hX.m (by omega) rfl rfl (Nat.le_of_ble_eq_true rfl) ?_
  have hX2 : atR aC ic de ad (yup G (ad 200) (200, .inr (16, [.int 0, .int (rI ρ 1), .int (rI ρ 2), .ref (ad 201), .int (rI ρ 3), .int (rI ρ 4), .ref (ad 210), .ref (ad 211), .ref (ad 212), .ref (ad 213), .int (rI ρ 5), .int (rI ρ 6), .int (rI ρ 7), .ref (ad 202), .ref (ad 214), .int (rI ρ 8), .ref (ad 203), .ref (ad 215), .ref (ad 216), .int (rI ρ 9)]))) ((rin ρ 0 0)) := atR.setIb hX rfl rfl (hX.2.setI (by decide))
  have kt2 : yTg kR G (yup G (ad 200) (200, .inr (16, [.int 0, .int (rI ρ 1), .int (rI ρ 2), .ref (ad 201), .int (rI ρ 3), .int (rI ρ 4), .ref (ad 210), .ref (ad 211), .ref (ad 212), .ref (ad 213), .int (rI ρ 5), .int (rI ρ 6), .int (rI ρ 7), .ref (ad 202), .ref (ad 214), .int (rI ρ 8), .ref (ad 203), .ref (ad 215), .ref (ad 216), .int (rI ρ 9)]))) := ((yTg.rfl' (f := kR) (G := G))).trans (yTg.up hX.m (kR_n (by omega) (by omega)))
  show Y l S0 D K_X12_force 22 0 0 (fun r G1 => (∃ v : Int32, r = some (.int v)) ∧ ∃ (ad1 : Nat → Nat) (ρ1 : RS), atR aC ic de ad1 G1 ρ1 ∧ ad1 200 = ad 200 ∧ yTg kR G G1 ∧ rAn ρ ρ1) (fun _ _ => False) (2 + 3) [(0, .ref (ad 200)), (1, .int intruder), (2, .int step), (3, .int minute)] [] (yup G (ad 200) (200, .inr (16, [.int 0, .int (rI ρ 1), .int (rI ρ 2), .ref (ad 201), .int (rI ρ 3), .int (rI ρ 4), .ref (ad 210), .ref (ad 211), .ref (ad 212), .ref (ad 213), .int (rI ρ 5), .int (rI ρ 6), .int (rI ρ 7), .ref (ad 202), .ref (ad 214), .int (rI ρ 8), .ref (ad 203), .ref (ad 215), .ref (ad 216), .int (rI ρ 9)]))) 0 0
  generalize yup G (ad 200) (200, .inr (16, [.int 0, .int (rI ρ 1), .int (rI ρ 2), .ref (ad 201), .int (rI ρ 3), .int (rI ρ 4), .ref (ad 210), .ref (ad 211), .ref (ad 212), .ref (ad 213), .int (rI ρ 5), .int (rI ρ 6), .int (rI ρ 7), .ref (ad 202), .ref (ad 214), .int (rI ρ 8), .ref (ad 203), .ref (ad 215), .ref (ad 216), .int (rI ρ 9)])) = G2 at hX2 kt2 ⊢
  refine y_blk 2 tq_X12_force (z := (7, [(0, .ref (ad 200)), (1, .int intruder), (2, .int step), (3, .int minute)], [.int intruder, .ref (ad 200)])) rfl ?_
  refine y_callV hS tq_X12_force rfl (As := [.int intruder]) rfl cv_X12_246 hX2.m (m_X12_isIntruder hS hI hX2 intruder) rfl (by decide) (Nat.le_of_ble_eq_true rfl) (fun r7 Gc7 q7 => ?_) (fun E9 G9 h9 => h9.elim)
  obtain ⟨rfl, eG7⟩ := q7
  have eG7 := eG7.symm
  subst eG7
  refine y_blk 0 tq_X12_force (z := (10, [(0, .ref (ad 200)), (1, .int intruder), (2, .int step), (3, .int minute)], [.int (if 0 ≤ intruder ∧ intruder ≤ (Int32.ofNat (rZ ((rin ρ 0 0)) 215)) - 1 then 1 else 0)])) rfl ?_
  refine y_if_ne tq_X12_force 19 rfl rfl (fun c10 => ?_) (fun c10 => ?_)
  · skip
    have hq10 := yif1 c10
    have hn10 := yinN (n := rZ ((rin ρ 0 0)) 215) (by have := hX2.2.le10 215 (by decide); omega) hq10
    have ha10 := hn10.1
    have hb10 := hn10.2
    refine y_blk 3 tq_X12_force (z := (22, [(0, .ref (ad 200)), (1, .int intruder), (2, .int step), (3, .int minute)], [.int 3, .int 0, .int step])) rfl ?_
    refine y_callS hS tq_X12_force rfl (As := [.int step, .int 0, .int 3]) rfl cs_X12_54 (m_X12_in hS step 0 3) rfl (by decide) (Nat.le_of_ble_eq_true rfl) (fun r22 Gc22 q22 => ?_) (fun E9 G9 h9 => h9.elim)
    obtain ⟨rfl, eG22⟩ := q22
    have eG22 := eG22.symm
    subst eG22
    refine y_blk 0 tq_X12_force (z := (25, [(0, .ref (ad 200)), (1, .int intruder), (2, .int step), (3, .int minute)], [.int (if 0 ≤ step ∧ step ≤ 3 then 1 else 0)])) rfl ?_
    refine y_if_eq tq_X12_force 35 rfl rfl (fun c25 => ?_) (fun c25 => ?_)
    · skip
      refine y_blk 2 tq_X12_force (z := (37, [(0, .ref (ad 200)), (1, .int intruder), (2, .int step), (3, .int minute)], [.int 2, .ref (ad 200)])) rfl ?_
      refine y_callV hS tq_X12_force rfl (As := [.int 2]) rfl cv_X12_140 hX2.m (m_X12_no hS hI hX2 2) rfl (by decide) (Nat.le_of_ble_eq_true rfl) (fun r37 Gc37 q37 => ?_) (fun E9 G9 h9 => h9.elim)
      obtain ⟨rfl, hX37, kt37_⟩ := q37
      have kt37 := (kt2).trans kt37_
      refine y_blk 0 tq_X12_force (z := (40, [(0, .ref (ad 200)), (1, .int intruder), (2, .int step), (3, .int minute)], [.int 0])) rfl ?_
      exact y_iret tq_X12_force rfl rfl (⟨⟨_, rfl⟩, ad, _, hX37, rfl, kt37, (by first | exact rAn.sm (rSm.in0 (rSm.in0 rSm.rfl')) | exact ((rAn.sm (rSm.in0 (rSm.in0 rSm.rfl'))).fd (by omega)).fd (by omega) | exact ((rAn.sm rSm.rfl'.in0).fd (by omega)).fd (by omega))⟩)
    · skip
      have hq25 := yif1 c25
      simp only [yle, yl_m1, yl_0, yl_1, yl_2, yl_3, yl_4, yl_5, yl_6, yl_7, yl_8, yl_9, yl_10, yl_11, yl_12, yl_60, yl_90, yl_239, yl_240] at hq25
      have ha25 := hq25.1
      have hb25 := hq25.2
      refine y_blk 1 tq_X12_force (z := (29, [(0, .ref (ad 200)), (1, .int intruder), (2, .int step), (3, .int minute)], [.int minute])) rfl ?_
      refine y_callS hS tq_X12_force rfl (As := [.int minute]) rfl cs_X12_163 (m_X12_isMinute hS minute) rfl (by decide) (Nat.le_of_ble_eq_true rfl) (fun r29 Gc29 q29 => ?_) (fun E9 G9 h9 => h9.elim)
      obtain ⟨rfl, eG29⟩ := q29
      have eG29 := eG29.symm
      subst eG29
      refine y_blk 0 tq_X12_force (z := (32, [(0, .ref (ad 200)), (1, .int intruder), (2, .int step), (3, .int minute)], [.int (if 0 ≤ minute ∧ minute ≤ 239 then 1 else 0)])) rfl ?_
      refine y_if_ne tq_X12_force 41 rfl rfl (fun c32 => ?_) (fun c32 => ?_)
      · skip
        have hq32 := yif1 c32
        simp only [yle, yl_m1, yl_0, yl_1, yl_2, yl_3, yl_4, yl_5, yl_6, yl_7, yl_8, yl_9, yl_10, yl_11, yl_12, yl_60, yl_90, yl_239, yl_240] at hq32
        have ha32 := hq32.1
        have hb32 := hq32.2
        refine y_blk 1 tq_X12_force (z := (42, [(0, .ref (ad 200)), (1, .int intruder), (2, .int step), (3, .int minute)], [.ref (ad 200)])) rfl ?_
        refine y_get hS tq_X12_force (v := .ref (ad 215)) rfl fg_X12_42_X12 hX2.m rfl ?_
        refine y_blk 1 tq_X12_force (z := (46, [(0, .ref (ad 200)), (1, .int intruder), (2, .int step), (3, .int minute)], [.int intruder, .ref (ad 215)])) rfl ?_
        refine y_callF hS tq_X12_force rfl (As := [.int intruder]) rfl cf_X12_80 (Or.inl ⟨_, (hX2.ls 215 (by decide)).1⟩) (m_Rin hS hX2 (by assumption) (by assumption)) rfl (by decide) (Nat.le_of_ble_eq_true rfl) (fun r46 Gc46 q46 => ?_) (fun _ _ h9 => h9.elim)
        obtain ⟨rfl, eG46⟩ := q46
        have eG46 := eG46.symm
        subst eG46
        have d46 : (Int32.toNatClampNeg intruder) < rZ ((rin ρ 0 0)) 215 := yIx (by assumption) (by assumption)
        refine y_blk 0 tq_X12_force (z := (51, [(0, .ref (ad 200)), (1, .int intruder), (2, .int step), (3, .int minute)], [.ref (ad (420 + (Int32.toNatClampNeg intruder)))])) rfl ?_
        refine y_castG hS tq_X12_force rfl kc_X12_152 (Or.inl ⟨_, (hX2.in (by assumption))⟩) ?_
        refine y_blk 3 tq_X12_force (z := (59, [(4, .ref (ad (420 + (Int32.toNatClampNeg intruder)))), (0, .ref (ad 200)), (1, .int intruder), (2, .int step), (3, .int minute)], [.ref (ad (420 + (Int32.toNatClampNeg intruder))), .ref (ad 200)])) rfl ?_
        refine y_callV hS tq_X12_force rfl (As := [.ref (ad (420 + (Int32.toNatClampNeg intruder)))]) rfl cv_X12_254 hX2.m (m_X12_foundNow hS hI hX2 (k := (Int32.toNatClampNeg intruder)) (by assumption) ) rfl (by decide) (Nat.le_of_ble_eq_true rfl) (fun r59 Gc59 q59 => ?_) (fun E9 G9 h9 => h9.elim)
        obtain ⟨⟨x59, hr_x59, rfl⟩, eG59⟩ := q59
        have eG59 := eG59.symm
        subst eG59
        refine y_blk 2 tq_X12_force (z := (66, [(5, .int x59), (4, .ref (ad (420 + (Int32.toNatClampNeg intruder)))), (0, .ref (ad 200)), (1, .int intruder), (2, .int step), (3, .int minute)], [.ref (ad (420 + (Int32.toNatClampNeg intruder)))])) rfl ?_
        refine y_get hS tq_X12_force (v := .int (rF ((rin ρ 0 0)) (420 + (Int32.toNatClampNeg intruder)) 2)) rfl fg_X12_266_X11 (hX2.in (by assumption)) rfl ?_
        refine y_blk 1 tq_X12_force (z := (70, [(5, .int x59), (4, .ref (ad (420 + (Int32.toNatClampNeg intruder)))), (0, .ref (ad 200)), (1, .int intruder), (2, .int step), (3, .int minute)], [.int step, .int (rF ((rin ρ 0 0)) (420 + (Int32.toNatClampNeg intruder)) 2)])) rfl ?_
        refine y_icmp_ne tq_X12_force 94 rfl rfl (fun c70 => ?_) (fun c70 => ?_)
        · skip
          refine y_blk 2 tq_X12_force (z := (96, [(5, .int x59), (4, .ref (ad (420 + (Int32.toNatClampNeg intruder)))), (0, .ref (ad 200)), (1, .int intruder), (2, .int step), (3, .int minute)], [.int 3, .ref (ad 200)])) rfl ?_
          refine y_callV hS tq_X12_force rfl (As := [.int 3]) rfl cv_X12_140 hX2.m (m_X12_no hS hI hX2 3) rfl (by decide) (Nat.le_of_ble_eq_true rfl) (fun r96 Gc96 q96 => ?_) (fun E9 G9 h9 => h9.elim)
          obtain ⟨rfl, hX96, kt96_⟩ := q96
          have kt96 := (kt2).trans kt96_
          refine y_blk 0 tq_X12_force (z := (99, [(5, .int x59), (4, .ref (ad (420 + (Int32.toNatClampNeg intruder)))), (0, .ref (ad 200)), (1, .int intruder), (2, .int step), (3, .int minute)], [.int 0])) rfl ?_
          exact y_iret tq_X12_force rfl rfl (⟨⟨_, rfl⟩, ad, _, hX96, rfl, kt96, (by first | exact rAn.sm (rSm.in0 (rSm.in0 rSm.rfl')) | exact ((rAn.sm (rSm.in0 (rSm.in0 rSm.rfl'))).fd (by omega)).fd (by omega) | exact ((rAn.sm rSm.rfl'.in0).fd (by omega)).fd (by omega))⟩)
        · skip
          refine y_blk 2 tq_X12_force (z := (76, [(5, .int x59), (4, .ref (ad (420 + (Int32.toNatClampNeg intruder)))), (0, .ref (ad 200)), (1, .int intruder), (2, .int step), (3, .int minute)], [.int (-1), .int x59])) rfl ?_
          refine y_icmp_eq tq_X12_force 94 rfl rfl (fun c76 => ?_) (fun c76 => ?_)
          · skip
            refine y_blk 2 tq_X12_force (z := (96, [(5, .int x59), (4, .ref (ad (420 + (Int32.toNatClampNeg intruder)))), (0, .ref (ad 200)), (1, .int intruder), (2, .int step), (3, .int minute)], [.int 3, .ref (ad 200)])) rfl ?_
            refine y_callV hS tq_X12_force rfl (As := [.int 3]) rfl cv_X12_140 hX2.m (m_X12_no hS hI hX2 3) rfl (by decide) (Nat.le_of_ble_eq_true rfl) (fun r96 Gc96 q96 => ?_) (fun E9 G9 h9 => h9.elim)
            obtain ⟨rfl, hX96, kt96_⟩ := q96
            have kt96 := (kt2).trans kt96_
            refine y_blk 0 tq_X12_force (z := (99, [(5, .int x59), (4, .ref (ad (420 + (Int32.toNatClampNeg intruder)))), (0, .ref (ad 200)), (1, .int intruder), (2, .int step), (3, .int minute)], [.int 0])) rfl ?_
            exact y_iret tq_X12_force rfl rfl (⟨⟨_, rfl⟩, ad, _, hX96, rfl, kt96, (by first | exact rAn.sm (rSm.in0 (rSm.in0 rSm.rfl')) | exact ((rAn.sm (rSm.in0 (rSm.in0 rSm.rfl'))).fd (by omega)).fd (by omega) | exact ((rAn.sm rSm.rfl'.in0).fd (by omega)).fd (by omega))⟩)
          · skip
            refine y_blk 2 tq_X12_force (z := (82, [(5, .int x59), (4, .ref (ad (420 + (Int32.toNatClampNeg intruder)))), (0, .ref (ad 200)), (1, .int intruder), (2, .int step), (3, .int minute)], [.int x59, .int minute])) rfl ?_
            refine y_icmp_lt tq_X12_force 94 rfl rfl (fun c82 => ?_) (fun c82 => ?_)
            · skip
              refine y_blk 2 tq_X12_force (z := (96, [(5, .int x59), (4, .ref (ad (420 + (Int32.toNatClampNeg intruder)))), (0, .ref (ad 200)), (1, .int intruder), (2, .int step), (3, .int minute)], [.int 3, .ref (ad 200)])) rfl ?_
              refine y_callV hS tq_X12_force rfl (As := [.int 3]) rfl cv_X12_140 hX2.m (m_X12_no hS hI hX2 3) rfl (by decide) (Nat.le_of_ble_eq_true rfl) (fun r96 Gc96 q96 => ?_) (fun E9 G9 h9 => h9.elim)
              obtain ⟨rfl, hX96, kt96_⟩ := q96
              have kt96 := (kt2).trans kt96_
              refine y_blk 0 tq_X12_force (z := (99, [(5, .int x59), (4, .ref (ad (420 + (Int32.toNatClampNeg intruder)))), (0, .ref (ad 200)), (1, .int intruder), (2, .int step), (3, .int minute)], [.int 0])) rfl ?_
              exact y_iret tq_X12_force rfl rfl (⟨⟨_, rfl⟩, ad, _, hX96, rfl, kt96, (by first | exact rAn.sm (rSm.in0 (rSm.in0 rSm.rfl')) | exact ((rAn.sm (rSm.in0 (rSm.in0 rSm.rfl'))).fd (by omega)).fd (by omega) | exact ((rAn.sm rSm.rfl'.in0).fd (by omega)).fd (by omega))⟩)
            · skip
              refine y_blk 2 tq_X12_force (z := (88, [(5, .int x59), (4, .ref (ad (420 + (Int32.toNatClampNeg intruder)))), (0, .ref (ad 200)), (1, .int intruder), (2, .int step), (3, .int minute)], [.ref (ad (420 + (Int32.toNatClampNeg intruder))), .int minute])) rfl ?_
              refine y_get hS tq_X12_force (v := .int (rF ((rin ρ 0 0)) (420 + (Int32.toNatClampNeg intruder)) 3)) rfl fg_X12_268_X11 (hX2.in (by assumption)) rfl ?_
              refine y_blk 0 tq_X12_force (z := (91, [(5, .int x59), (4, .ref (ad (420 + (Int32.toNatClampNeg intruder)))), (0, .ref (ad 200)), (1, .int intruder), (2, .int step), (3, .int minute)], [.int (rF ((rin ρ 0 0)) (420 + (Int32.toNatClampNeg intruder)) 3), .int minute])) rfl ?_
              refine y_icmp_ge tq_X12_force 100 rfl rfl (fun c91 => ?_) (fun c91 => ?_)
              · skip
                refine y_blk 2 tq_X12_force (z := (103, [(5, .int x59), (4, .ref (ad (420 + (Int32.toNatClampNeg intruder)))), (0, .ref (ad 200)), (1, .int intruder), (2, .int step), (3, .int minute)], [.ref (ad (420 + (Int32.toNatClampNeg intruder))), .ref (ad (420 + (Int32.toNatClampNeg intruder)))])) rfl ?_
                refine y_get hS tq_X12_force (v := .int (rF ((rin ρ 0 0)) (420 + (Int32.toNatClampNeg intruder)) 2)) rfl fg_X12_266_X11 (hX2.in (by assumption)) rfl ?_
                refine y_blk 2 tq_X12_force (z := (108, [(5, .int x59), (4, .ref (ad (420 + (Int32.toNatClampNeg intruder)))), (0, .ref (ad 200)), (1, .int intruder), (2, .int step), (3, .int minute)], [.int ((rF ((rin ρ 0 0)) (420 + (Int32.toNatClampNeg intruder)) 2) + 1), .ref (ad (420 + (Int32.toNatClampNeg intruder)))])) rfl ?_
                refine y_put hS tq_X12_force rfl fp_X12_266_X11 (hX2.in (by assumption)) (by omega) rfl rfl (Nat.le_of_ble_eq_true rfl) ?_
                have hz_108 := hX2.2.2.1.2.2.2.2.2.1
                have hX108 : atR aC ic de ad (yup G2 (ad (420 + (Int32.toNatClampNeg intruder))) ((420 + (Int32.toNatClampNeg intruder)), .inr (15, [.int (rF ((rin ρ 0 0)) (420 + (Int32.toNatClampNeg intruder)) 0), .int (rF ((rin ρ 0 0)) (420 + (Int32.toNatClampNeg intruder)) 1), .ref (ad (440 + (Int32.toNatClampNeg intruder))), .int ((rF ((rin ρ 0 0)) (420 + (Int32.toNatClampNeg intruder)) 2) + 1), .int (rF ((rin ρ 0 0)) (420 + (Int32.toNatClampNeg intruder)) 3)]))) ((rfd ((rin ρ 0 0)) (420 + (Int32.toNatClampNeg intruder)) 2 ((rF ((rin ρ 0 0)) (420 + (Int32.toNatClampNeg intruder)) 2) + 1))) := ⟨hX2.1.setN hX2.2.2.1 (by assumption) rIn_2, hX2.2.sF (Or.inr (by have := hX2.2.2.1.2.2.2.2.2.1; omega))⟩
                have kt108 : yTg kR G (yup G2 (ad (420 + (Int32.toNatClampNeg intruder))) ((420 + (Int32.toNatClampNeg intruder)), .inr (15, [.int (rF ((rin ρ 0 0)) (420 + (Int32.toNatClampNeg intruder)) 0), .int (rF ((rin ρ 0 0)) (420 + (Int32.toNatClampNeg intruder)) 1), .ref (ad (440 + (Int32.toNatClampNeg intruder))), .int ((rF ((rin ρ 0 0)) (420 + (Int32.toNatClampNeg intruder)) 2) + 1), .int (rF ((rin ρ 0 0)) (420 + (Int32.toNatClampNeg intruder)) 3)]))) := (kt2).trans (yTg.up (hX2.in (by assumption)) (kR_n (by omega) (by omega)))
                show Y l S0 D K_X12_force 22 0 0 (fun r G1 => (∃ v : Int32, r = some (.int v)) ∧ ∃ (ad1 : Nat → Nat) (ρ1 : RS), atR aC ic de ad1 G1 ρ1 ∧ ad1 200 = ad 200 ∧ yTg kR G G1 ∧ rAn ρ ρ1) (fun _ _ => False) (108 + 3) [(5, .int x59), (4, .ref (ad (420 + (Int32.toNatClampNeg intruder)))), (0, .ref (ad 200)), (1, .int intruder), (2, .int step), (3, .int minute)] [] (yup G2 (ad (420 + (Int32.toNatClampNeg intruder))) ((420 + (Int32.toNatClampNeg intruder)), .inr (15, [.int (rF ((rin ρ 0 0)) (420 + (Int32.toNatClampNeg intruder)) 0), .int (rF ((rin ρ 0 0)) (420 + (Int32.toNatClampNeg intruder)) 1), .ref (ad (440 + (Int32.toNatClampNeg intruder))), .int ((rF ((rin ρ 0 0)) (420 + (Int32.toNatClampNeg intruder)) 2) + 1), .int (rF ((rin ρ 0 0)) (420 + (Int32.toNatClampNeg intruder)) 3)]))) 0 0
                generalize yup G2 (ad (420 + (Int32.toNatClampNeg intruder))) ((420 + (Int32.toNatClampNeg intruder)), .inr (15, [.int (rF ((rin ρ 0 0)) (420 + (Int32.toNatClampNeg intruder)) 0), .int (rF ((rin ρ 0 0)) (420 + (Int32.toNatClampNeg intruder)) 1), .ref (ad (440 + (Int32.toNatClampNeg intruder))), .int ((rF ((rin ρ 0 0)) (420 + (Int32.toNatClampNeg intruder)) 2) + 1), .int (rF ((rin ρ 0 0)) (420 + (Int32.toNatClampNeg intruder)) 3)])) = G108 at hX108 kt108 ⊢
                refine y_blk 2 tq_X12_force (z := (114, [(5, .int x59), (4, .ref (ad (420 + (Int32.toNatClampNeg intruder)))), (0, .ref (ad 200)), (1, .int intruder), (2, .int step), (3, .int minute)], [.int minute, .ref (ad (420 + (Int32.toNatClampNeg intruder)))])) rfl ?_
                refine y_put hS tq_X12_force rfl fp_X12_268_X11 (hX108.in (by assumption)) (by omega) rfl rfl (Nat.le_of_ble_eq_true rfl) ?_
                have hz_114 := hX108.2.2.1.2.2.2.2.2.1
                have hX114 : atR aC ic de ad (yup G108 (ad (420 + (Int32.toNatClampNeg intruder))) ((420 + (Int32.toNatClampNeg intruder)), .inr (15, [.int (rF ((rfd ((rin ρ 0 0)) (420 + (Int32.toNatClampNeg intruder)) 2 ((rF ((rin ρ 0 0)) (420 + (Int32.toNatClampNeg intruder)) 2) + 1))) (420 + (Int32.toNatClampNeg intruder)) 0), .int (rF ((rfd ((rin ρ 0 0)) (420 + (Int32.toNatClampNeg intruder)) 2 ((rF ((rin ρ 0 0)) (420 + (Int32.toNatClampNeg intruder)) 2) + 1))) (420 + (Int32.toNatClampNeg intruder)) 1), .ref (ad (440 + (Int32.toNatClampNeg intruder))), .int (rF ((rfd ((rin ρ 0 0)) (420 + (Int32.toNatClampNeg intruder)) 2 ((rF ((rin ρ 0 0)) (420 + (Int32.toNatClampNeg intruder)) 2) + 1))) (420 + (Int32.toNatClampNeg intruder)) 2), .int minute]))) ((rfd ((rfd ((rin ρ 0 0)) (420 + (Int32.toNatClampNeg intruder)) 2 ((rF ((rin ρ 0 0)) (420 + (Int32.toNatClampNeg intruder)) 2) + 1))) (420 + (Int32.toNatClampNeg intruder)) 3 minute)) := ⟨hX108.1.setN hX108.2.2.1 (by assumption) rIn_3, hX108.2.sF (Or.inr (by have := hX108.2.2.1.2.2.2.2.2.1; omega))⟩
                have kt114 : yTg kR G (yup G108 (ad (420 + (Int32.toNatClampNeg intruder))) ((420 + (Int32.toNatClampNeg intruder)), .inr (15, [.int (rF ((rfd ((rin ρ 0 0)) (420 + (Int32.toNatClampNeg intruder)) 2 ((rF ((rin ρ 0 0)) (420 + (Int32.toNatClampNeg intruder)) 2) + 1))) (420 + (Int32.toNatClampNeg intruder)) 0), .int (rF ((rfd ((rin ρ 0 0)) (420 + (Int32.toNatClampNeg intruder)) 2 ((rF ((rin ρ 0 0)) (420 + (Int32.toNatClampNeg intruder)) 2) + 1))) (420 + (Int32.toNatClampNeg intruder)) 1), .ref (ad (440 + (Int32.toNatClampNeg intruder))), .int (rF ((rfd ((rin ρ 0 0)) (420 + (Int32.toNatClampNeg intruder)) 2 ((rF ((rin ρ 0 0)) (420 + (Int32.toNatClampNeg intruder)) 2) + 1))) (420 + (Int32.toNatClampNeg intruder)) 2), .int minute]))) := (kt108).trans (yTg.up (hX108.in (by assumption)) (kR_n (by omega) (by omega)))
                show Y l S0 D K_X12_force 22 0 0 (fun r G1 => (∃ v : Int32, r = some (.int v)) ∧ ∃ (ad1 : Nat → Nat) (ρ1 : RS), atR aC ic de ad1 G1 ρ1 ∧ ad1 200 = ad 200 ∧ yTg kR G G1 ∧ rAn ρ ρ1) (fun _ _ => False) (114 + 3) [(5, .int x59), (4, .ref (ad (420 + (Int32.toNatClampNeg intruder)))), (0, .ref (ad 200)), (1, .int intruder), (2, .int step), (3, .int minute)] [] (yup G108 (ad (420 + (Int32.toNatClampNeg intruder))) ((420 + (Int32.toNatClampNeg intruder)), .inr (15, [.int (rF ((rfd ((rin ρ 0 0)) (420 + (Int32.toNatClampNeg intruder)) 2 ((rF ((rin ρ 0 0)) (420 + (Int32.toNatClampNeg intruder)) 2) + 1))) (420 + (Int32.toNatClampNeg intruder)) 0), .int (rF ((rfd ((rin ρ 0 0)) (420 + (Int32.toNatClampNeg intruder)) 2 ((rF ((rin ρ 0 0)) (420 + (Int32.toNatClampNeg intruder)) 2) + 1))) (420 + (Int32.toNatClampNeg intruder)) 1), .ref (ad (440 + (Int32.toNatClampNeg intruder))), .int (rF ((rfd ((rin ρ 0 0)) (420 + (Int32.toNatClampNeg intruder)) 2 ((rF ((rin ρ 0 0)) (420 + (Int32.toNatClampNeg intruder)) 2) + 1))) (420 + (Int32.toNatClampNeg intruder)) 2), .int minute]))) 0 0
                generalize yup G108 (ad (420 + (Int32.toNatClampNeg intruder))) ((420 + (Int32.toNatClampNeg intruder)), .inr (15, [.int (rF ((rfd ((rin ρ 0 0)) (420 + (Int32.toNatClampNeg intruder)) 2 ((rF ((rin ρ 0 0)) (420 + (Int32.toNatClampNeg intruder)) 2) + 1))) (420 + (Int32.toNatClampNeg intruder)) 0), .int (rF ((rfd ((rin ρ 0 0)) (420 + (Int32.toNatClampNeg intruder)) 2 ((rF ((rin ρ 0 0)) (420 + (Int32.toNatClampNeg intruder)) 2) + 1))) (420 + (Int32.toNatClampNeg intruder)) 1), .ref (ad (440 + (Int32.toNatClampNeg intruder))), .int (rF ((rfd ((rin ρ 0 0)) (420 + (Int32.toNatClampNeg intruder)) 2 ((rF ((rin ρ 0 0)) (420 + (Int32.toNatClampNeg intruder)) 2) + 1))) (420 + (Int32.toNatClampNeg intruder)) 2), .int minute])) = G114 at hX114 kt114 ⊢
                refine y_blk 1 tq_X12_force (z := (119, [(5, .int x59), (4, .ref (ad (420 + (Int32.toNatClampNeg intruder)))), (0, .ref (ad 200)), (1, .int intruder), (2, .int step), (3, .int minute)], [.ref (ad (420 + (Int32.toNatClampNeg intruder)))])) rfl ?_
                refine y_get hS tq_X12_force (v := .int (rF ((rfd ((rfd ((rin ρ 0 0)) (420 + (Int32.toNatClampNeg intruder)) 2 ((rF ((rin ρ 0 0)) (420 + (Int32.toNatClampNeg intruder)) 2) + 1))) (420 + (Int32.toNatClampNeg intruder)) 3 minute)) (420 + (Int32.toNatClampNeg intruder)) 2)) rfl fg_X12_266_X11 (hX114.in (by assumption)) rfl ?_
                refine y_blk 0 tq_X12_force (z := (122, [(5, .int x59), (4, .ref (ad (420 + (Int32.toNatClampNeg intruder)))), (0, .ref (ad 200)), (1, .int intruder), (2, .int step), (3, .int minute)], [.int (rF ((rfd ((rfd ((rin ρ 0 0)) (420 + (Int32.toNatClampNeg intruder)) 2 ((rF ((rin ρ 0 0)) (420 + (Int32.toNatClampNeg intruder)) 2) + 1))) (420 + (Int32.toNatClampNeg intruder)) 3 minute)) (420 + (Int32.toNatClampNeg intruder)) 2)])) rfl ?_
                exact y_iret tq_X12_force rfl rfl (⟨⟨_, rfl⟩, ad, _, hX114, rfl, kt114, (by first | exact rAn.sm (rSm.in0 rSm.rfl') | exact ((rAn.sm (rSm.in0 rSm.rfl')).fd (by omega)).fd (by omega) | exact ((rAn.sm rSm.rfl'.in0).fd (by omega)).fd (by omega))⟩)
              · skip
                refine y_blk 2 tq_X12_force (z := (96, [(5, .int x59), (4, .ref (ad (420 + (Int32.toNatClampNeg intruder)))), (0, .ref (ad 200)), (1, .int intruder), (2, .int step), (3, .int minute)], [.int 3, .ref (ad 200)])) rfl ?_
                refine y_callV hS tq_X12_force rfl (As := [.int 3]) rfl cv_X12_140 hX2.m (m_X12_no hS hI hX2 3) rfl (by decide) (Nat.le_of_ble_eq_true rfl) (fun r96 Gc96 q96 => ?_) (fun E9 G9 h9 => h9.elim)
                obtain ⟨rfl, hX96, kt96_⟩ := q96
                have kt96 := (kt2).trans kt96_
                refine y_blk 0 tq_X12_force (z := (99, [(5, .int x59), (4, .ref (ad (420 + (Int32.toNatClampNeg intruder)))), (0, .ref (ad 200)), (1, .int intruder), (2, .int step), (3, .int minute)], [.int 0])) rfl ?_
                exact y_iret tq_X12_force rfl rfl (⟨⟨_, rfl⟩, ad, _, hX96, rfl, kt96, (by first | exact rAn.sm (rSm.in0 (rSm.in0 rSm.rfl')) | exact ((rAn.sm (rSm.in0 (rSm.in0 rSm.rfl'))).fd (by omega)).fd (by omega) | exact ((rAn.sm rSm.rfl'.in0).fd (by omega)).fd (by omega))⟩)
      · skip
        refine y_blk 2 tq_X12_force (z := (37, [(0, .ref (ad 200)), (1, .int intruder), (2, .int step), (3, .int minute)], [.int 2, .ref (ad 200)])) rfl ?_
        refine y_callV hS tq_X12_force rfl (As := [.int 2]) rfl cv_X12_140 hX2.m (m_X12_no hS hI hX2 2) rfl (by decide) (Nat.le_of_ble_eq_true rfl) (fun r37 Gc37 q37 => ?_) (fun E9 G9 h9 => h9.elim)
        obtain ⟨rfl, hX37, kt37_⟩ := q37
        have kt37 := (kt2).trans kt37_
        refine y_blk 0 tq_X12_force (z := (40, [(0, .ref (ad 200)), (1, .int intruder), (2, .int step), (3, .int minute)], [.int 0])) rfl ?_
        exact y_iret tq_X12_force rfl rfl (⟨⟨_, rfl⟩, ad, _, hX37, rfl, kt37, (by first | exact rAn.sm (rSm.in0 (rSm.in0 rSm.rfl')) | exact ((rAn.sm (rSm.in0 (rSm.in0 rSm.rfl'))).fd (by omega)).fd (by omega) | exact ((rAn.sm rSm.rfl'.in0).fd (by omega)).fd (by omega))⟩)
  · skip
    refine y_blk 2 tq_X12_force (z := (15, [(0, .ref (ad 200)), (1, .int intruder), (2, .int step), (3, .int minute)], [.int 1, .ref (ad 200)])) rfl ?_
    refine y_callV hS tq_X12_force rfl (As := [.int 1]) rfl cv_X12_140 hX2.m (m_X12_no hS hI hX2 1) rfl (by decide) (Nat.le_of_ble_eq_true rfl) (fun r15 Gc15 q15 => ?_) (fun E9 G9 h9 => h9.elim)
    obtain ⟨rfl, hX15, kt15_⟩ := q15
    have kt15 := (kt2).trans kt15_
    refine y_blk 0 tq_X12_force (z := (18, [(0, .ref (ad 200)), (1, .int intruder), (2, .int step), (3, .int minute)], [.int 0])) rfl ?_
    exact y_iret tq_X12_force rfl rfl (⟨⟨_, rfl⟩, ad, _, hX15, rfl, kt15, (by first | exact rAn.sm (rSm.in0 (rSm.in0 rSm.rfl')) | exact ((rAn.sm (rSm.in0 (rSm.in0 rSm.rfl'))).fd (by omega)).fd (by omega) | exact ((rAn.sm rSm.rfl'.in0).fd (by omega)).fd (by omega))⟩)
