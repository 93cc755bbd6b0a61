/-! ===== the state of the reference as a value, and how the heap holds it ===== -/
/-- numbers; sizes by tags; whether a list has an array of its own; lists' counts of changes; contents of rows by tags; fields of objects by tags -/
abbrev RS : Type := (Nat → Int32) × (Nat → Nat) × (Nat → Bool) × (Nat → Int32) × (Nat → Nat → Int32) × (Nat → Nat → Int32)
abbrev rI (ρ : RS) : Nat → Int32 := ρ.1
abbrev rZ (ρ : RS) : Nat → Nat := ρ.2.1
abbrev rB (ρ : RS) : Nat → Bool := ρ.2.2.1
abbrev rM (ρ : RS) : Nat → Int32 := ρ.2.2.2.1
abbrev rV (ρ : RS) : Nat → Nat → Int32 := ρ.2.2.2.2.1
abbrev rF (ρ : RS) : Nat → Nat → Int32 := ρ.2.2.2.2.2
abbrev rMod (ad : Nat → Nat) (ρ : RS) : va_E := .inr (16, [.int (rI ρ 0), .int (rI ρ 1), .int (rI ρ 2), .ref (ad 201), .int (rI ρ 3), .int (rI ρ 4), .ref (ad 210), .ref (ad 211), .ref (ad 212), .ref (ad 213), .int (rI ρ 5), .int (rI ρ 6), .int (rI ρ 7), .ref (ad 202), .ref (ad 214), .int (rI ρ 8), .ref (ad 203), .ref (ad 215), .ref (ad 216), .int (rI ρ 9)])
abbrev rT (lt : Nat) : Nat := if lt < 300 then lt + 10 else lt + 20
def rEl (ic : Int32 → Nat) (ad : Nat → Nat) (ρ : RS) (lt i : Nat) : Nat := if lt = 210 then ad (300 + i) else if lt = 211 then ad (320 + i) else if lt = 212 then ad (360 + i) else if lt = 215 then ad (420 + i) else if lt = 216 then ad (340 + i) else ic (rV ρ lt i)
abbrev rLs (aC : Nat → ClassId) (ic : Int32 → Nat) (de : Nat) (ad : Nat → Nat) (G : AH) (ρ : RS) (lt : Nat) : Prop := yLst aC de G lt (rT lt) (ad lt) (ad (rT lt)) (rB ρ lt) (rM ρ lt) (rZ ρ lt) (rEl ic ad ρ lt)
abbrev rGd (ad : Nat → Nat) (ρ : RS) (k : Nat) : va_E := .inr (14, [.int (rF ρ (360 + k) 0), .int (rF ρ (360 + k) 1), .int (rF ρ (360 + k) 2), .ref (ad (380 + k)), .int (rF ρ (360 + k) 3), .int (rF ρ (360 + k) 4)])
abbrev rIn (ad : Nat → Nat) (ρ : RS) (k : Nat) : va_E := .inr (15, [.int (rF ρ (420 + k) 0), .int (rF ρ (420 + k) 1), .ref (ad (440 + k)), .int (rF ρ (420 + k) 2), .int (rF ρ (420 + k) 3)])
/-- the heap holds the reference's state -/
def atH (aC : Nat → ClassId) (ic : Int32 → Nat) (de : Nat) (ad : Nat → Nat) (G : AH) (ρ : RS) : Prop :=
  G (ad 200) = some (200, rMod ad ρ) ∧ G (ad 201) = some (201, .inl (aC 0, rZ ρ 201, .inl (rV ρ 201))) ∧ G (ad 202) = some (202, .inl (aC 0, 4, .inl (rV ρ 202))) ∧ G (ad 203) = some (203, .inl (aC 0, 6, .inl (rV ρ 203))) ∧
  (∀ lt, 210 ≤ lt → lt < 217 → rLs aC ic de ad G ρ lt) ∧
  (∀ k, k < rZ ρ 210 → G (ad (300 + k)) = some (300 + k, .inl (aC 0, 3, .inl (rV ρ (300 + k))))) ∧ (∀ k, k < rZ ρ 211 → G (ad (320 + k)) = some (320 + k, .inl (aC 0, 2, .inl (rV ρ (320 + k))))) ∧ (∀ k, k < rZ ρ 216 → G (ad (340 + k)) = some (340 + k, .inl (aC 0, 2, .inl (rV ρ (340 + k))))) ∧
  (∀ k, k < rZ ρ 212 → G (ad (360 + k)) = some (360 + k, rGd ad ρ k) ∧ rLs aC ic de ad G ρ (380 + k)) ∧
  (∀ k, k < rZ ρ 215 → G (ad (420 + k)) = some (420 + k, rIn ad ρ k) ∧ G (ad (440 + k)) = some (440 + k, .inl (aC 0, 240, .inl (rV ρ (440 + k)))))
def rcell (ρ : RS) (v : Int32) : Prop := 0 ≤ v.toInt ∧ v.toInt < (rZ ρ 201 : Int)
def rsm (v : Int32) : Prop := -128 ≤ v.toInt ∧ v.toInt ≤ 127
/-- its numbers are in their bounds -/
def rgeo (ρ : RS) : Prop := (rZ ρ 201 = 0 ∧ rI ρ 2 = 0) ∨ (3 ≤ (rI ρ 1).toInt ∧ (rI ρ 1).toInt ≤ 8 ∧ 3 ≤ (rI ρ 2).toInt ∧ (rI ρ 2).toInt ≤ 8 ∧ (rZ ρ 201 : Int) = (rI ρ 1).toInt * (rI ρ 2).toInt)
def rsz (ρ : RS) : Prop := rZ ρ 210 ≤ 7 ∧ rZ ρ 211 ≤ 8 ∧ rZ ρ 212 ≤ 6 ∧ rZ ρ 213 ≤ 4 ∧ rZ ρ 214 ≤ 8 ∧ rZ ρ 215 ≤ 4 ∧ rZ ρ 216 ≤ 5
def rgd (ρ : RS) : Prop := ∀ k, k < rZ ρ 212 → 0 ≤ (rF ρ (360 + k) 0).toInt ∧ 1 ≤ (rF ρ (360 + k) 2).toInt ∧ 1 ≤ rZ ρ (380 + k) ∧ rZ ρ (380 + k) ≤ 6 ∧ ∀ i, i < rZ ρ (380 + k) → rcell ρ (rV ρ (380 + k) i)
def rint (ρ : RS) : Prop := ∀ k, k < rZ ρ 215 → 0 ≤ (rF ρ (420 + k) 0).toInt ∧ ∀ m : Nat, (rF ρ (420 + k) 0).toInt ≤ (m : Int) → m < 240 → rcell ρ (rV ρ (440 + k) m)
def rky (ρ : RS) : Prop := ∀ i, i < 6 → rV ρ 203 i = -1 ∨ (0 ≤ (rV ρ 203 i).toInt ∧ (rV ρ 203 i).toInt < (rZ ρ 212 : Int))
def rwd (ρ : RS) : Prop := (rI ρ 6).toInt = (rZ ρ 214 : Int) ∧ (∀ k, k < rZ ρ 214 → rsm (rV ρ 214 k)) ∧ (∀ k, rsm (rV ρ 202 k)) ∧ rsm (rI ρ 7)
def rb (ρ : RS) : Prop := rgeo ρ ∧ rsz ρ ∧ rgd ρ ∧ rint ρ ∧ rky ρ ∧ rwd ρ ∧ (∀ k, k < rZ ρ 210 → rcell ρ (rV ρ (300 + k) 0)) ∧ (∀ k, k < rZ ρ 213 → rcell ρ (rV ρ 213 k))
def atR (aC : Nat → ClassId) (ic : Int32 → Nat) (de : Nat) (ad : Nat → Nat) (G : AH) (ρ : RS) : Prop := atH aC ic de ad G ρ ∧ rb ρ
/-- cells of tags f stay -/
def yTg (f : Nat → Prop) (G G1 : AH) : Prop := ∀ q t e, G q = some (t, e) → f t → G1 q = some (t, e)
/-- all that was there is there -/
def yLe (G G1 : AH) : Prop := ∀ q x, G q = some x → G1 q = some x
theorem yLe.rfl' {G : AH} : yLe G G := fun _ _ h => h
theorem yLe.trans {G G1 G2 : AH} (h1 : yLe G G1) (h2 : yLe G1 G2) : yLe G G2 := fun q x h => h2 q x (h1 q x h)
theorem yLe.new {G : AH} {a : Nat} {x : Nat × va_E} (h : ∀ (b : Nat) (y : Nat × va_E), G b = some y → b ≠ a) : yLe G (yup G a x) := fun q y hy => by rw [yup_n _ (h q y hy)]; exact hy
theorem yTg.le {f : Nat → Prop} {G G1 : AH} (h : yLe G G1) : yTg f G G1 := fun q _ _ hq _ => h q _ hq
theorem yTg.up {f : Nat → Prop} {G : AH} {a t : Nat} {e e1 : va_E} (hg : G a = some (t, e)) (hf : ¬ f t) : yTg f G (yup G a (t, e1)) := by
  intro q t2 e2 h2 h3
  have hne : q ≠ a := by
    intro q9
    rw [q9, hg] at h2
    cases h2
    exact hf h3
  rw [yup_n _ hne]
  exact h2
theorem yTg.trans {f : Nat → Prop} {G G1 G2 : AH} (h1 : yTg f G G1) (h2 : yTg f G1 G2) : yTg f G G2 := fun q t e h q9 => h2 q t e (h1 q t e h q9) q9
theorem yTg.rfl' {f : Nat → Prop} {G : AH} : yTg f G G := fun _ _ _ h _ => h
theorem yTg.narrow {f g : Nat → Prop} {G G1 : AH} (h1 : yTg f G G1) (h : ∀ t, g t → f t) : yTg g G G1 := fun q t e hq q9 => h1 q t e hq (h t q9)
section YSR
variable {l : Launch} {S0 : State} {A0 : Array Value} {D : va_G} {aC : Nat → ClassId} {ic : Int32 → Nat} {de : Nat} {ad : Nat → Nat} {G G1 : AH} {ρ : RS}
theorem yLst.kp {tl ta a ea s : Nat} {own : Bool} {mc : Int32} {el : Nat → Nat} (h : yLst aC de G tl ta a ea own mc s el) (hk : yTg (fun t => t = tl ∨ t = ta) G G1) : yLst aC de G1 tl ta a ea own mc s el := by
  refine ⟨hk _ _ _ h.1 (Or.inl rfl), ?_⟩
  rcases h.2 with ⟨q1, q2, q3⟩ | q
  · exact Or.inl ⟨q1, q2, hk _ _ _ q3 (Or.inr rfl)⟩
  · exact Or.inr q
theorem rT_lt {lt : Nat} (h : lt < 300) : rT lt = lt + 10 := if_pos h
theorem rT_ge {lt : Nat} (h : 300 ≤ lt) : rT lt = lt + 20 := if_neg (by omega)
/-- what isn't the reference's may change -/
theorem atH.kp (h : atH aC ic de ad G ρ) (hb : rsz ρ) (hk : yTg (fun t => 200 ≤ t ∧ t < 500) G G1) : atH aC ic de ad G1 ρ := by
  obtain ⟨h1, h2, h3, h4, h5, h6, h7, h8, h9, h10⟩ := h
  obtain ⟨b1, b2, b3, b4, b5, b6, b7⟩ := hb
  refine ⟨hk _ _ _ h1 (by decide), hk _ _ _ h2 (by decide), hk _ _ _ h3 (by decide), hk _ _ _ h4 (by decide), fun lt q1 q2 => (h5 lt q1 q2).kp (hk.narrow fun t ht => ?_), fun k q => hk _ _ _ (h6 k q) (by omega), fun k q => hk _ _ _ (h7 k q) (by omega), fun k q => hk _ _ _ (h8 k q) (by omega), fun k q => ⟨hk _ _ _ (h9 k q).1 (by omega), (h9 k q).2.kp (hk.narrow fun t ht => ?_)⟩, fun k q => ⟨hk _ _ _ (h10 k q).1 (by omega), hk _ _ _ (h10 k q).2 (by omega)⟩⟩
  · rw [rT_lt (by omega)] at ht
    omega
  · rw [rT_ge (by omega)] at ht
    omega
theorem atR.kp (h : atR aC ic de ad G ρ) (hk : yTg (fun t => 200 ≤ t ∧ t < 500) G G1) : atR aC ic de ad G1 ρ := ⟨h.1.kp h.2.2.1 hk, h.2⟩
theorem atR.le (h : atR aC ic de ad G ρ) (hk : yLe G G1) : atR aC ic de ad G1 ρ := h.kp (yTg.le hk)
theorem atR.m (h : atR aC ic de ad G ρ) : G (ad 200) = some (200, rMod ad ρ) := h.1.1
theorem atR.ki (h : atR aC ic de ad G ρ) : G (ad 201) = some (201, .inl (aC 0, rZ ρ 201, .inl (rV ρ 201))) := h.1.2.1
theorem atR.wo (h : atR aC ic de ad G ρ) : G (ad 202) = some (202, .inl (aC 0, 4, .inl (rV ρ 202))) := h.1.2.2.1
theorem atR.ke (h : atR aC ic de ad G ρ) : G (ad 203) = some (203, .inl (aC 0, 6, .inl (rV ρ 203))) := h.1.2.2.2.1
theorem atR.ls (h : atR aC ic de ad G ρ) (lt : Nat) (q : 210 ≤ lt ∧ lt < 217) : rLs aC ic de ad G ρ lt := h.1.2.2.2.2.1 lt q.1 q.2
theorem atR.la (h : atR aC ic de ad G ρ) {k : Nat} (q : k < rZ ρ 210) : G (ad (300 + k)) = some (300 + k, .inl (aC 0, 3, .inl (rV ρ (300 + k)))) := h.1.2.2.2.2.2.1 k q
theorem atR.fo (h : atR aC ic de ad G ρ) {k : Nat} (q : k < rZ ρ 211) : G (ad (320 + k)) = some (320 + k, .inl (aC 0, 2, .inl (rV ρ (320 + k)))) := h.1.2.2.2.2.2.2.1 k q
theorem atR.wi (h : atR aC ic de ad G ρ) {k : Nat} (q : k < rZ ρ 216) : G (ad (340 + k)) = some (340 + k, .inl (aC 0, 2, .inl (rV ρ (340 + k)))) := h.1.2.2.2.2.2.2.2.1 k q
theorem atR.gu (h : atR aC ic de ad G ρ) {k : Nat} (q : k < rZ ρ 212) : G (ad (360 + k)) = some (360 + k, rGd ad ρ k) := (h.1.2.2.2.2.2.2.2.2.1 k q).1
theorem atR.gl (h : atR aC ic de ad G ρ) {k : Nat} (q : k < rZ ρ 212) : rLs aC ic de ad G ρ (380 + k) := (h.1.2.2.2.2.2.2.2.2.1 k q).2
theorem atR.in (h : atR aC ic de ad G ρ) {k : Nat} (q : k < rZ ρ 215) : G (ad (420 + k)) = some (420 + k, rIn ad ρ k) := (h.1.2.2.2.2.2.2.2.2.2 k q).1
theorem atR.wa (h : atR aC ic de ad G ρ) {k : Nat} (q : k < rZ ρ 215) : G (ad (440 + k)) = some (440 + k, .inl (aC 0, 240, .inl (rV ρ (440 + k)))) := (h.1.2.2.2.2.2.2.2.2.2 k q).2
theorem rb.n64 (h : rb ρ) : rZ ρ 201 ≤ 64 := by
  rcases h.1 with ⟨h, -⟩ | ⟨h1, h2, h3, h4, h5⟩
  · omega
  · have h6 : (rI ρ 1).toInt * (rI ρ 2).toInt ≤ 8 * 8 := Int.mul_le_mul h2 h4 (by omega) (by omega)
    omega
theorem rcell.sm (h : rb ρ) {v : Int32} (hv : rcell ρ v) : rsm v := by
  have h1 := h.n64
  obtain ⟨h2, h3⟩ := hv
  exact ⟨by omega, by omega⟩
theorem rb.le10 (h : rb ρ) (lt : Nat) (q : 210 ≤ lt ∧ lt < 217) : rZ ρ lt ≤ 8 := by
  obtain ⟨b1, b2, b3, b4, b5, b6, b7⟩ := h.2.1
  have h9 : lt = 210 ∨ lt = 211 ∨ lt = 212 ∨ lt = 213 ∨ lt = 214 ∨ lt = 215 ∨ lt = 216 := by omega
  rcases h9 with rfl | rfl | rfl | rfl | rfl | rfl | rfl <;> omega
theorem atR.po (hI : yIc S0 ic de) (h : atR aC ic de ad G ρ) {k : Nat} (q : k < rZ ρ 213) : yInt S0 (ic (rV ρ 213 k)) (rV ρ 213 k) := by
  have h1 := (h.2.2.2.2.2.2.2.2 k q).sm h.2
  exact hI.1 _ h1.1 h1.2
theorem atR.ol (hI : yIc S0 ic de) (h : atR aC ic de ad G ρ) {k : Nat} (q : k < rZ ρ 214) : yInt S0 (ic (rV ρ 214 k)) (rV ρ 214 k) := by
  have h1 := h.2.2.2.2.2.2.1.2.1 k q
  exact hI.1 _ h1.1 h1.2
theorem atR.gc (hI : yIc S0 ic de) (h : atR aC ic de ad G ρ) {k : Nat} (q : k < rZ ρ 212) {i : Nat} (q2 : i < rZ ρ (380 + k)) : yInt S0 (ic (rV ρ (380 + k) i)) (rV ρ (380 + k) i) := by
  have h1 := ((h.2.2.2.1 k q).2.2.2.2 i q2).sm h.2
  exact hI.1 _ h1.1 h1.2
/-- a list's index inside a loop -/
theorem yIy {k : Int32} {n : Nat} (hn : n ≤ 1000) (h0 : 0 ≤ k.toInt) (hc : ¬ Int32.ofNat n ≤ k) : k.toInt < n := by
  rw [yle, yofn hn] at hc
  omega
theorem rEl_g {k i : Nat} (hk : k < 20) : rEl ic ad ρ (380 + k) i = ic (rV ρ (380 + k) i) := by
  unfold rEl
  rw [if_neg (by omega), if_neg (by omega), if_neg (by omega), if_neg (by omega), if_neg (by omega)]
/-- a number of the model written -/
abbrev rin (ρ : RS) (k : Nat) (v : Int32) : RS := (fun j => if j = k then v else rI ρ j, ρ.2)
/-- a row written -/
abbrev rar (ρ : RS) (t : Nat) (f : Nat → Int32) : RS := (ρ.1, ρ.2.1, ρ.2.2.1, ρ.2.2.2.1, fun j => if j = t then f else rV ρ j, ρ.2.2.2.2.2)
/-- a field of an object written -/
abbrev rfd (ρ : RS) (t i : Nat) (v : Int32) : RS := (ρ.1, ρ.2.1, ρ.2.2.1, ρ.2.2.2.1, ρ.2.2.2.2.1, fun j n => if j = t ∧ n = i then v else rF ρ j n)
theorem rLs.kp {lt : Nat} (hlt : (210 ≤ lt ∧ lt < 217) ∨ (380 ≤ lt ∧ lt < 400)) (h : rLs aC ic de ad G ρ lt) (hk : yTg (fun t => (210 ≤ t ∧ t < 230) ∨ (380 ≤ t ∧ t < 420)) G G1) : rLs aC ic de ad G1 ρ lt := by
  refine yLst.kp h (hk.narrow fun t ht => ?_)
  rcases hlt with q | q
  · rw [rT_lt (by omega)] at ht
    omega
  · rw [rT_ge (by omega)] at ht
    omega
theorem atH.setI (h : atH aC ic de ad G ρ) (hb : rsz ρ) {k : Nat} {v : Int32} {e1 : va_E} (he : e1 = rMod ad (rin ρ k v)) : atH aC ic de ad (yup G (ad 200) (200, e1)) (rin ρ k v) := by
  subst he
  have hk : yTg (fun t => t ≠ 200) G (yup G (ad 200) (200, rMod ad (rin ρ k v))) := yTg.up h.1 (fun q => q rfl)
  obtain ⟨h1, h2, h3, h4, h5, h6, h7, h8, h9, h10⟩ := h
  obtain ⟨b1, b2, b3, b4, b5, b6, b7⟩ := hb
  refine ⟨yup_s _ _ _, hk _ _ _ h2 (by decide), hk _ _ _ h3 (by decide), hk _ _ _ h4 (by decide), fun lt q1 q2 => rLs.kp (ρ := ρ) (Or.inl ⟨q1, q2⟩) (h5 lt q1 q2) (hk.narrow fun t ht => by omega), fun q w => hk _ _ _ (h6 q w) (by omega), fun q w => hk _ _ _ (h7 q w) (by omega), fun q w => hk _ _ _ (h8 q w) (by omega), fun q w => ⟨hk _ _ _ (h9 q w).1 (by omega), rLs.kp (ρ := ρ) (Or.inr ?_) (h9 q w).2 (hk.narrow fun t ht => by omega)⟩, fun q w => ⟨hk _ _ _ (h10 q w).1 (by omega), hk _ _ _ (h10 q w).2 (by omega)⟩⟩
  have : q < rZ ρ 212 := w
  omega
theorem atR.setI (h : atR aC ic de ad G ρ) {k : Nat} {v : Int32} {e1 : va_E} (he : e1 = rMod ad (rin ρ k v)) (hb : rb (rin ρ k v)) : atR aC ic de ad (yup G (ad 200) (200, e1)) (rin ρ k v) := ⟨h.1.setI h.2.2.1 he, hb⟩
/-- numbers that no bound speaks of -/
theorem rb.setI (h : rb ρ) {k : Nat} {v : Int32} (hk : k = 0 ∨ k = 3 ∨ k = 4 ∨ k = 5 ∨ k = 8 ∨ k = 9) : rb (rin ρ k v) := by
  have e1 : rI (rin ρ k v) 1 = rI ρ 1 := if_neg (by omega)
  have e2 : rI (rin ρ k v) 2 = rI ρ 2 := if_neg (by omega)
  have e6 : rI (rin ρ k v) 6 = rI ρ 6 := if_neg (by omega)
  have e7 : rI (rin ρ k v) 7 = rI ρ 7 := if_neg (by omega)
  obtain ⟨h1, h2, h3, h4, h5, h6, h7, h8⟩ := h
  refine ⟨?_, h2, h3, h4, h5, ⟨?_, h6.2.1, h6.2.2.1, ?_⟩, h7, h8⟩
  · unfold rgeo
    rw [e1, e2]
    exact h1
  · rw [e6]
    exact h6.1
  · rw [e7]
    exact h6.2.2.2
end YSR
