/-! part -/
/-! ===== contracts of the reference: rows of its own ===== -/
/-- tags that a call of the reference leaves as they are, where it only asks -/
abbrev kA : Nat → Prop := fun t => t < 500 ∨ 600 ≤ t
theorem kA_R : ∀ t, (200 ≤ t ∧ t < 500) → kA t := fun _ h => Or.inl h.2
theorem yup_o {G : AH} {a b ta tb : Nat} {ea ea1 eb : va_E} (hb : G b = some (tb, eb)) (ha : G a = some (ta, ea)) (h : tb ≠ ta) : yup G a (ta, ea1) b = some (tb, eb) := by
  rw [yup_n _ (fun e => by rw [e, ha] at hb; cases hb; exact h rfl)]
  exact hb
theorem yTg.ret {f : Nat → Prop} {G : AH} {a t t2 : Nat} {e e1 : va_E} (hg : G a = some (t, e)) (hf : ¬ f t) : yTg f G (yup G a (t2, e1)) := by
  intro q t9 e9 h2 h3
  have hne : q ≠ a := by
    intro q9
    rw [q9, hg] at h2
    cases h2
    exact hf h3
  rw [yup_n _ hne]
  exact h2
/-- how many of the first n aren't NONE -/
def cntN (f : Nat → Int32) : Nat → Nat
  | 0 => 0
  | n + 1 => cntN f n + (if f n = -1 then 0 else 1)
theorem cntN_le (f : Nat → Int32) : ∀ n, cntN f n ≤ n
  | 0 => Nat.le_refl _
  | n + 1 => by
    have h := cntN_le f n
    rw [cntN]
    split <;> omega
theorem cntN_lt {f : Nat → Int32} {i : Nat} (hi : f i = -1) : ∀ n, i < n → cntN f n < n
  | 0, h => absurd h (Nat.not_lt_zero _)
  | n + 1, h => by
    rw [cntN]
    by_cases e : i = n
    · subst e
      rw [if_pos hi]
      have := cntN_le f i
      omega
    · have := cntN_lt hi n (by omega)
      split <;> omega
theorem cntN_out {f : Nat → Int32} {i : Nat} {v : Int32} : ∀ n, n ≤ i → cntN (upd f i v) n = cntN f n
  | 0, _ => rfl
  | n + 1, h => by
    rw [cntN, cntN, cntN_out n (by omega), pk_un (by omega)]
theorem cntN_in {f : Nat → Int32} {i : Nat} {v : Int32} (hi : f i = -1) (hv : v ≠ -1) : ∀ n, i < n → cntN (upd f i v) n = cntN f n + 1
  | 0, h => absurd h (Nat.not_lt_zero _)
  | n + 1, h => by
    rw [cntN, cntN]
    by_cases e : i = n
    · subst e
      rw [cntN_out _ (Nat.le_refl _), pk_us, if_neg hv, if_pos hi]
    · rw [cntN_in hi hv n (by omega), pk_un (by omega)]
      omega
theorem cntN_none {f : Nat → Int32} : ∀ n, (∀ i, i < n → f i = -1) → cntN f n = 0
  | 0, _ => rfl
  | n + 1, h => by
    rw [cntN, cntN_none n (fun i hi => h i (by omega)), if_pos (h n (by omega))]
/-- the search in breadth: what was found is in the queue, and counted -/
def stQ (ρ : RS) (f2 f3 : Nat → Int32) (many : Int32) : Prop := (cntN f2 (rZ ρ 201) : Int) = many.toInt ∧ (∀ j : Nat, (j : Int) < many.toInt → rcell ρ (f3 j) ∧ f2 (f3 j).toNatClampNeg ≠ -1) ∧ ∀ i, i < rZ ρ 201 → -1 ≤ (f2 i).toInt ∧ (f2 i).toInt < many.toInt
section YST
variable {ρ : RS} {f2 f3 : Nat → Int32} {many k next : Int32}
theorem stQ_i0 {f : Nat → Int32} : ∀ j : Nat, (j : Int) < (0 : Int32).toInt → f j = -1 := fun j h => by
  rw [yl_0] at h
  omega
theorem stQ_i1 {i : Int32} {N : Nat} {f : Nat → Int32} (h0 : 0 ≤ i.toInt) (hN : i.toInt < N) (h : ∀ j : Nat, (j : Int) < i.toInt → f j = -1) : ∀ j : Nat, (j : Int) < (i + 1).toInt → upd f (Int32.toNatClampNeg i) (-1) j = -1 := by
  intro j hj
  by_cases e : j = Int32.toNatClampNeg i
  · rw [e, pk_us]
  · rw [pk_un e]
    have hr := yrng i
    have e1 : (Int32.toNatClampNeg i : Int) = i.toInt := by
      show ((i.toInt.toNat : Nat) : Int) = i.toInt
      omega
    have e2 : (i + 1).toInt ≤ i.toInt + 1 := by
      by_cases q : i.toInt + 1 < 2147483648
      · rw [yadd (by rw [yl_1]; omega) (by rw [yl_1]; omega), yl_1]
        exact Int.le_refl _
      · have := yrng (i + 1)
        omega
    exact h j (by omega)
theorem stQ_all (hb : rb ρ) {i : Int32} {f : Nat → Int32} (h : ∀ j : Nat, (j : Int) < i.toInt → f j = -1) (hc : Int32.ofNat (rZ ρ 201) ≤ i) : ∀ j, j < rZ ρ 201 → f j = -1 := by
  intro j hj
  have hn := hb.n64
  rw [yle, yofn (by omega)] at hc
  exact h j (by omega)
theorem stQ_init (hb : rb ρ) {f : Int32} (hf : rcell ρ f) (h : ∀ j, j < rZ ρ 201 → f2 j = -1) : stQ ρ (upd f2 (Int32.toNatClampNeg f) 0) (upd f3 (Int32.toNatClampNeg 0) f) 1 := by
  have e1 : (Int32.toNatClampNeg f : Int) = f.toInt := by
    show ((f.toInt.toNat : Nat) : Int) = f.toInt
    have := hf.1
    omega
  have h1 := hf.2
  have h0 := hf.1
  refine ⟨?_, fun j hj => ?_, fun i hi => ?_⟩
  · rw [cntN_in (h _ (by omega)) (by decide) _ (by omega), cntN_none _ h]
    rfl
  · rw [yl_1] at hj
    obtain rfl : j = 0 := by omega
    rw [show Int32.toNatClampNeg 0 = 0 from rfl, pk_us, pk_us]
    exact ⟨hf, by decide⟩
  · rw [yl_1]
    by_cases e : i = Int32.toNatClampNeg f
    · rw [e, pk_us, yl_0]
      omega
    · rw [pk_un e, h i hi, yl_m1]
      omega
theorem stQ_c (_ : stQ ρ f2 f3 many) (h : ¬ many ≤ k) : k.toInt < many.toInt := by
  rw [yle] at h
  omega
theorem stQ_many (hb : rb ρ) (h : stQ ρ f2 f3 many) : 0 ≤ many.toInt ∧ many.toInt ≤ rZ ρ 201 ∧ many.toInt ≤ 64 := by
  have h1 := cntN_le f2 (rZ ρ 201)
  have h2 := h.1
  have h3 := hb.n64
  omega
theorem stQ_dec (hb : rb ρ) (h : stQ ρ f2 f3 many) (h0 : 0 ≤ k.toInt) (hk : k.toInt < many.toInt) : (65 - (k + 1).toInt).toNat < (65 - k.toInt).toNat := by
  obtain ⟨m0, m1, m2⟩ := stQ_many hb h
  rw [yadd (by rw [yl_1]; omega) (by rw [yl_1]; omega), yl_1]
  omega
theorem stQ_h0 (hb : rb ρ) (h : stQ ρ f2 f3 many) (h0 : 0 ≤ k.toInt) (hk : k.toInt < many.toInt) : 0 ≤ (k + 1).toInt := by
  obtain ⟨m0, m1, m2⟩ := stQ_many hb h
  rw [yadd (by rw [yl_1]; omega) (by rw [yl_1]; omega), yl_1]
  omega
theorem stQ_get (h : stQ ρ f2 f3 many) (h0 : 0 ≤ k.toInt) (hk : k.toInt < many.toInt) : rcell ρ (f3 (Int32.toNatClampNeg k)) ∧ f2 (f3 (Int32.toNatClampNeg k)).toNatClampNeg ≠ -1 := by
  refine h.2.1 _ ?_
  show ((k.toInt.toNat : Nat) : Int) < _
  omega
theorem stQ_vin (hb : rb ρ) (h : stQ ρ f2 f3 many) (h0 : 0 ≤ k.toInt) (hk : k.toInt < many.toInt) : vp_in k (rZ ρ 201) := by
  have h1 := stQ_many hb h
  exact yIn h0 (by omega)
theorem stQ_nx (hb : rb ρ) (h : stQ ρ f2 f3 many) (hn : rcell ρ next) (hf : f2 (Int32.toNatClampNeg next) = -1) : many.toInt < rZ ρ 201 := by
  have e1 : (Int32.toNatClampNeg next : Int) = next.toInt := by
    show ((next.toInt.toNat : Nat) : Int) = next.toInt
    have := hn.1
    omega
  have h1 := hn.2
  have h2 := cntN_lt hf (rZ ρ 201) (by omega)
  have h3 := h.1
  omega
theorem stQ_vin2 (hb : rb ρ) (h : stQ ρ f2 f3 many) (hn : rcell ρ next) (hf : f2 (Int32.toNatClampNeg next) = -1) : vp_in many (rZ ρ 201) := yIn (stQ_many hb h).1 (stQ_nx hb h hn hf)
theorem stQ_push (hb : rb ρ) (h : stQ ρ f2 f3 many) (h0 : 0 ≤ k.toInt) (hk : k.toInt < many.toInt) (hn : rcell ρ next) (hf : f2 (Int32.toNatClampNeg next) = -1) : stQ ρ (upd f2 (Int32.toNatClampNeg next) (f2 (Int32.toNatClampNeg (f3 (Int32.toNatClampNeg k))) + 1)) (upd f3 (Int32.toNatClampNeg many) next) (many + 1) := by
  obtain ⟨q1, q2⟩ := stQ_get h h0 hk
  obtain ⟨m0, m1, m2⟩ := stQ_many hb h
  have hnx := stQ_nx hb h hn hf
  have e1 : (Int32.toNatClampNeg next : Int) = next.toInt := by
    show ((next.toInt.toNat : Nat) : Int) = next.toInt
    have := hn.1
    omega
  have e2 : (Int32.toNatClampNeg (f3 (Int32.toNatClampNeg k)) : Int) = (f3 (Int32.toNatClampNeg k)).toInt := by
    show (((f3 (Int32.toNatClampNeg k)).toInt.toNat : Nat) : Int) = _
    have := q1.1
    omega
  have e3 : (Int32.toNatClampNeg many : Int) = many.toInt := by
    show ((many.toInt.toNat : Nat) : Int) = many.toInt
    omega
  have hn1 := hn.2
  have q11 := q1.2
  obtain ⟨b1, b2⟩ := h.2.2 _ (show Int32.toNatClampNeg (f3 (Int32.toNatClampNeg k)) < rZ ρ 201 by omega)
  generalize f2 (Int32.toNatClampNeg (f3 (Int32.toNatClampNeg k))) = w at *
  have b3 : w.toInt ≠ -1 := fun e => q2 (Int32.toInt_inj.mp (e.trans yl_m1.symm))
  have ew : (w + 1).toInt = w.toInt + 1 := by rw [yadd (by rw [yl_1]; omega) (by rw [yl_1]; omega), yl_1]
  have em : (many + 1).toInt = many.toInt + 1 := by rw [yadd (by rw [yl_1]; omega) (by rw [yl_1]; omega), yl_1]
  have hw : w + 1 ≠ -1 := fun e => by
    have := congrArg Int32.toInt e
    rw [ew, yl_m1] at this
    omega
  refine ⟨?_, fun j hj => ?_, fun i hi => ?_⟩
  · rw [cntN_in hf hw _ (by omega), em]
    have := h.1
    omega
  · rw [em] at hj
    by_cases e : j = Int32.toNatClampNeg many
    · rw [e, pk_us, pk_us]
      exact ⟨hn, hw⟩
    · rw [pk_un e]
      obtain ⟨g1, g2⟩ := h.2.1 j (by omega)
      refine ⟨g1, ?_⟩
      by_cases e9 : (f3 j).toNatClampNeg = Int32.toNatClampNeg next
      · rw [e9, pk_us]
        exact hw
      · rw [pk_un e9]
        exact g2
  · rw [em]
    by_cases e : i = Int32.toNatClampNeg next
    · rw [e, pk_us, ew]
      omega
    · rw [pk_un e]
      have := h.2.2 i hi
      omega
theorem stQ_lt (hb : rb ρ) (h : stQ ρ f2 f3 many) (hk : k.toInt < many.toInt) : k.toInt < (many + 1).toInt := by
  obtain ⟨m0, m1, m2⟩ := stQ_many hb h
  rw [yadd (by rw [yl_1]; omega) (by rw [yl_1]; omega), yl_1]
  omega
end YST
