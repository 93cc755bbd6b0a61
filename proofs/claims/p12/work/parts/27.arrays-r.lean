/-! ===== contracts of the reference: rows of its own ===== -/
/-- tags that a call of the reference leaves as they are, where it only asks -/
abbrev kA : Nat → Prop := fun t => t < 500 ∨ 600 ≤ t
theorem kA_R : ∀ t, (200 ≤ t ∧ t < 500) → kA t := fun _ h => Or.inl h.2
theorem yup_o {G : AH} {a b ta tb : Nat} {ea ea1 eb : va_E} (hb : G b = some (tb, eb)) (ha : G a = some (ta, ea)) (h : tb ≠ ta) : yup G a (ta, ea1) b = some (tb, eb) := by
  rw [yup_n _ (fun e => by rw [e, ha] at hb; cases hb; exact h rfl)]
  exact hb
theorem yTg.ret {f : Nat → Prop} {G : AH} {a t t2 : Nat} {e e1 : va_E} (hg : G a = some (t, e)) (hf : ¬ f t) : yTg f G (yup G a (t2, e1)) := by
  intro q t9 e9 h2 h3
  have hne : q ≠ a := by
    intro q9
    rw [q9, hg] at h2
    cases h2
    exact hf h3
  rw [yup_n _ hne]
  exact h2
/-- how many of the first n aren't NONE -/
def cntN (f : Nat → Int32) : Nat → Nat
  | 0 => 0
  | n + 1 => cntN f n + (if f n = -1 then 0 else 1)
theorem cntN_le (f : Nat → Int32) : ∀ n, cntN f n ≤ n
  | 0 => Nat.le_refl _
  | n + 1 => by
    have h := cntN_le f n
    rw [cntN]
    split <;> omega
theorem cntN_lt {f : Nat → Int32} {i : Nat} (hi : f i = -1) : ∀ n, i < n → cntN f n < n
  | 0, h => absurd h (Nat.not_lt_zero _)
  | n + 1, h => by
    rw [cntN]
    by_cases e : i = n
    · subst e
      rw [if_pos hi]
      have := cntN_le f i
      omega
    · have := cntN_lt hi n (by omega)
      split <;> omega
theorem cntN_out {f : Nat → Int32} {i : Nat} {v : Int32} : ∀ n, n ≤ i → cntN (upd f i v) n = cntN f n
  | 0, _ => rfl
  | n + 1, h => by
    rw [cntN, cntN, cntN_out n (by omega), pk_un (by omega)]
theorem cntN_in {f : Nat → Int32} {i : Nat} {v : Int32} (hi : f i = -1) (hv : v ≠ -1) : ∀ n, i < n → cntN (upd f i v) n = cntN f n + 1
  | 0, h => absurd h (Nat.not_lt_zero _)
  | n + 1, h => by
    rw [cntN, cntN]
    by_cases e : i = n
    · subst e
      rw [cntN_out _ (Nat.le_refl _), pk_us, if_neg hv, if_pos hi]
    · rw [cntN_in hi hv n (by omega), pk_un (by omega)]
      omega
theorem cntN_none {f : Nat → Int32} : ∀ n, (∀ i, i < n → f i = -1) → cntN f n = 0
  | 0, _ => rfl
  | n + 1, h => by
    rw [cntN, cntN_none n (fun i hi => h i (by omega)), if_pos (h n (by omega))]
/-- the search in breadth: what was found is in the queue, and counted -/
def stQ (ρ : RS) (f2 f3 : Nat → Int32) (many : Int32) : Prop := (cntN f2 (rZ ρ 201) : Int) = many.toInt ∧ (∀ j : Nat, (j : Int) < many.toInt → rcell ρ (f3 j) ∧ f2 (f3 j).toNatClampNeg ≠ -1) ∧ ∀ i, i < rZ ρ 201 → -1 ≤ (f2 i).toInt ∧ (f2 i).toInt < many.toInt
section YST
variable {ρ : RS} {f2 f3 : Nat → Int32} {many k next : Int32}
theorem stQ_i0 {f : Nat → Int32} : ∀ j : Nat, (j : Int) < (0 : Int32).toInt → f j = -1 := fun j h => by
  rw [yl_0] at h
  omega
theorem stQ_i1 {i : Int32} {N : Nat} {f : Nat → Int32} (h0 : 0 ≤ i.toInt) (hN : i.toInt < N) (h : ∀ j : Nat, (j : Int) < i.toInt → f j = -1) : ∀ j : Nat, (j : Int) < (i + 1).toInt → upd f (Int32.toNatClampNeg i) (-1) j = -1 := by
  intro j hj
  by_cases e : j = Int32.toNatClampNeg i
  · rw [e, pk_us]
  · rw [pk_un e]
    have hr := yrng i
    have e1 : (Int32.toNatClampNeg i : Int) = i.toInt := by
      show ((i.toInt.toNat : Nat) : Int) = i.toInt
      omega
    have e2 : (i + 1).toInt ≤ i.toInt + 1 := by
      by_cases q : i.toInt + 1 < 2147483648
      · rw [yadd (by rw [yl_1]; omega) (by rw [yl_1]; omega), yl_1]
        exact Int.le_refl _
      · have := yrng (i + 1)
        omega
    exact h j (by omega)
theorem stQ_all (hb : rb ρ) {i : Int32} {f : Nat → Int32} (h : ∀ j : Nat, (j : Int) < i.toInt → f j = -1) (hc : Int32.ofNat (rZ ρ 201) ≤ i) : ∀ j, j < rZ ρ 201 → f j = -1 := by
  intro j hj
  have hn := hb.n64
  rw [yle, yofn (by omega)] at hc
  exact h j (by omega)
theorem stQ_init (hb : rb ρ) {f : Int32} (hf : rcell ρ f) (h : ∀ j, j < rZ ρ 201 → f2 j = -1) : stQ ρ (upd f2 (Int32.toNatClampNeg f) 0) (upd f3 (Int32.toNatClampNeg 0) f) 1 := by
  have e1 : (Int32.toNatClampNeg f : Int) = f.toInt := by
    show ((f.toInt.toNat : Nat) : Int) = f.toInt
    have := hf.1
    omega
  have h1 := hf.2
  have h0 := hf.1
  refine ⟨?_, fun j hj => ?_, fun i hi => ?_⟩
  · rw [cntN_in (h _ (by omega)) (by decide) _ (by omega), cntN_none _ h]
    rfl
  · rw [yl_1] at hj
    obtain rfl : j = 0 := by omega
    rw [show Int32.toNatClampNeg 0 = 0 from rfl, pk_us, pk_us]
    exact ⟨hf, by decide⟩
  · rw [yl_1]
    by_cases e : i = Int32.toNatClampNeg f
    · rw [e, pk_us, yl_0]
      omega
    · rw [pk_un e, h i hi, yl_m1]
      omega
theorem stQ_c (_ : stQ ρ f2 f3 many) (h : ¬ many ≤ k) : k.toInt < many.toInt := by
  rw [yle] at h
  omega
theorem stQ_many (hb : rb ρ) (h : stQ ρ f2 f3 many) : 0 ≤ many.toInt ∧ many.toInt ≤ rZ ρ 201 ∧ many.toInt ≤ 64 := by
  have h1 := cntN_le f2 (rZ ρ 201)
  have h2 := h.1
  have h3 := hb.n64
  omega
theorem stQ_dec (hb : rb ρ) (h : stQ ρ f2 f3 many) (h0 : 0 ≤ k.toInt) (hk : k.toInt < many.toInt) : (65 - (k + 1).toInt).toNat < (65 - k.toInt).toNat := by
  obtain ⟨m0, m1, m2⟩ := stQ_many hb h
  rw [yadd (by rw [yl_1]; omega) (by rw [yl_1]; omega), yl_1]
  omega
theorem stQ_h0 (hb : rb ρ) (h : stQ ρ f2 f3 many) (h0 : 0 ≤ k.toInt) (hk : k.toInt < many.toInt) : 0 ≤ (k + 1).toInt := by
  obtain ⟨m0, m1, m2⟩ := stQ_many hb h
  rw [yadd (by rw [yl_1]; omega) (by rw [yl_1]; omega), yl_1]
  omega
theorem stQ_get (h : stQ ρ f2 f3 many) (h0 : 0 ≤ k.toInt) (hk : k.toInt < many.toInt) : rcell ρ (f3 (Int32.toNatClampNeg k)) ∧ f2 (f3 (Int32.toNatClampNeg k)).toNatClampNeg ≠ -1 := by
  refine h.2.1 _ ?_
  show ((k.toInt.toNat : Nat) : Int) < _
  omega
theorem stQ_vin (hb : rb ρ) (h : stQ ρ f2 f3 many) (h0 : 0 ≤ k.toInt) (hk : k.toInt < many.toInt) : vp_in k (rZ ρ 201) := by
  have h1 := stQ_many hb h
  exact yIn h0 (by omega)
theorem stQ_nx (hb : rb ρ) (h : stQ ρ f2 f3 many) (hn : rcell ρ next) (hf : f2 (Int32.toNatClampNeg next) = -1) : many.toInt < rZ ρ 201 := by
  have e1 : (Int32.toNatClampNeg next : Int) = next.toInt := by
    show ((next.toInt.toNat : Nat) : Int) = next.toInt
    have := hn.1
    omega
  have h1 := hn.2
  have h2 := cntN_lt hf (rZ ρ 201) (by omega)
  have h3 := h.1
  omega
theorem stQ_vin2 (hb : rb ρ) (h : stQ ρ f2 f3 many) (hn : rcell ρ next) (hf : f2 (Int32.toNatClampNeg next) = -1) : vp_in many (rZ ρ 201) := yIn (stQ_many hb h).1 (stQ_nx hb h hn hf)
theorem stQ_push (hb : rb ρ) (h : stQ ρ f2 f3 many) (h0 : 0 ≤ k.toInt) (hk : k.toInt < many.toInt) (hn : rcell ρ next) (hf : f2 (Int32.toNatClampNeg next) = -1) : stQ ρ (upd f2 (Int32.toNatClampNeg next) (f2 (Int32.toNatClampNeg (f3 (Int32.toNatClampNeg k))) + 1)) (upd f3 (Int32.toNatClampNeg many) next) (many + 1) := by
  obtain ⟨q1, q2⟩ := stQ_get h h0 hk
  obtain ⟨m0, m1, m2⟩ := stQ_many hb h
  have hnx := stQ_nx hb h hn hf
  have e1 : (Int32.toNatClampNeg next : Int) = next.toInt := by
    show ((next.toInt.toNat : Nat) : Int) = next.toInt
    have := hn.1
    omega
  have e2 : (Int32.toNatClampNeg (f3 (Int32.toNatClampNeg k)) : Int) = (f3 (Int32.toNatClampNeg k)).toInt := by
    show (((f3 (Int32.toNatClampNeg k)).toInt.toNat : Nat) : Int) = _
    have := q1.1
    omega
  have e3 : (Int32.toNatClampNeg many : Int) = many.toInt := by
    show ((many.toInt.toNat : Nat) : Int) = many.toInt
    omega
  have hn1 := hn.2
  have q11 := q1.2
  obtain ⟨b1, b2⟩ := h.2.2 _ (show Int32.toNatClampNeg (f3 (Int32.toNatClampNeg k)) < rZ ρ 201 by omega)
  generalize f2 (Int32.toNatClampNeg (f3 (Int32.toNatClampNeg k))) = w at *
  have b3 : w.toInt ≠ -1 := fun e => q2 (Int32.toInt_inj.mp (e.trans yl_m1.symm))
  have ew : (w + 1).toInt = w.toInt + 1 := by rw [yadd (by rw [yl_1]; omega) (by rw [yl_1]; omega), yl_1]
  have em : (many + 1).toInt = many.toInt + 1 := by rw [yadd (by rw [yl_1]; omega) (by rw [yl_1]; omega), yl_1]
  have hw : w + 1 ≠ -1 := fun e => by
    have := congrArg Int32.toInt e
    rw [ew, yl_m1] at this
    omega
  refine ⟨?_, fun j hj => ?_, fun i hi => ?_⟩
  · rw [cntN_in hf hw _ (by omega), em]
    have := h.1
    omega
  · rw [em] at hj
    by_cases e : j = Int32.toNatClampNeg many
    · rw [e, pk_us, pk_us]
      exact ⟨hn, hw⟩
    · rw [pk_un e]
      obtain ⟨g1, g2⟩ := h.2.1 j (by omega)
      refine ⟨g1, ?_⟩
      by_cases e9 : (f3 j).toNatClampNeg = Int32.toNatClampNeg next
      · rw [e9, pk_us]
        exact hw
      · rw [pk_un e9]
        exact g2
  · rw [em]
    by_cases e : i = Int32.toNatClampNeg next
    · rw [e, pk_us, ew]
      omega
    · rw [pk_un e]
      have := h.2.2 i hi
      omega
theorem stQ_lt (hb : rb ρ) (h : stQ ρ f2 f3 many) (hk : k.toInt < many.toInt) : k.toInt < (many + 1).toInt := by
  obtain ⟨m0, m1, m2⟩ := stQ_many hb h
  rw [yadd (by rw [yl_1]; omega) (by rw [yl_1]; omega), yl_1]
  omega
end YST
set_option maxHeartbeats 4000000 in
set_option maxRecDepth 100000 in
theorem m_X10_place_d {l : Launch} {S0 : State} {A0 : Array Value} {D : va_G} {aC : Nat → ClassId} {ic : Int32 → Nat} {de : Nat} {ad : Nat → Nat} {G : AH} {ρ : RS} (hS : yS l S0 A0 D aC) (hI : yIc S0 ic de) (hX : atR aC ic de ad G ρ) {k : Nat} (hk : k < rZ ρ 212) (minute : Int32) (hd : (rF ρ (360 + k) 0) ≤ minute ∧ minute ≤ (rF ρ (360 + k) 1)) : yM l S0 D yX10_place cX10_place 2 (some .int) 18 0 0 [.ref (ad (360 + k)), .int minute] G (fun r G1 => (∃ v : Int32, rcell ρ v ∧ r = some (.int v)) ∧ G1 = G) (fun _ _ => False) := by
  refine yM.ofK K_X10_place rfl (by decide) (Nat.le_of_ble_eq_true rfl) ?_
  have hg := hX.2.2.2.1 k hk
  obtain ⟨hg0, hg1, hg2, hg3, hg4⟩ := hg
  refine y_blk 2 tq_X10_place (z := (2, [(0, .ref (ad (360 + k))), (1, .int minute)], [.int minute, .ref (ad (360 + k))])) rfl ?_
  refine y_callV hS tq_X10_place rfl (As := [.int minute]) rfl cv_X10_44 (hX.gu (by assumption)) (m_X10_isOnDuty hS hI hX (k := k) (by assumption) minute) rfl (by decide) (Nat.le_of_ble_eq_true rfl) (fun r2 Gc2 q2 => ?_) (fun E9 G9 h9 => h9.elim)
  obtain ⟨rfl, eG2⟩ := q2
  have eG2 := eG2.symm
  subst eG2
  refine y_blk 0 tq_X10_place (z := (5, [(0, .ref (ad (360 + k))), (1, .int minute)], [.int (if (rF ρ (360 + k) 0) ≤ minute ∧ minute ≤ (rF ρ (360 + k) 1) then 1 else 0)])) rfl ?_
  refine y_if_eq tq_X10_place 47 rfl rfl (fun c5 => ?_) (fun c5 => ?_)
  · exact absurd c5 (by rw [if_pos hd]; decide)
  · skip
    have hin := yif1 c5
    have h60 : 0 ≤ (minute - rF ρ (360 + k) 0).toInt := by
      have z1 := yle.mp hin.1
      have z2 := yrng minute
      rw [ysub (by omega) (by omega)]
      omega
    obtain ⟨hq0, hq1⟩ := ymodn (s := rZ ρ (380 + k)) hg2 (by omega) h60 hg1
    refine y_blk 1 tq_X10_place (z := (9, [(0, .ref (ad (360 + k))), (1, .int minute)], [.ref (ad (360 + k))])) rfl ?_
    refine y_get hS tq_X10_place (v := .ref (ad (380 + k))) rfl fg_X10_12_X10 (hX.gu (by assumption)) rfl ?_
    refine y_blk 2 tq_X10_place (z := (14, [(0, .ref (ad (360 + k))), (1, .int minute)], [.ref (ad (360 + k)), .int minute, .ref (ad (380 + k))])) rfl ?_
    refine y_get hS tq_X10_place (v := .int (rF ρ (360 + k) 0)) rfl fg_X10_30_X10 (hX.gu (by assumption)) rfl ?_
    refine y_blk 2 tq_X10_place (z := (19, [(0, .ref (ad (360 + k))), (1, .int minute)], [.ref (ad (360 + k)), .int (minute - (rF ρ (360 + k) 0)), .ref (ad (380 + k))])) rfl ?_
    refine y_get hS tq_X10_place (v := .int (rF ρ (360 + k) 2)) rfl fg_X10_37_X10 (hX.gu (by assumption)) rfl ?_
    refine y_blk 0 tq_X10_place (z := (22, [(0, .ref (ad (360 + k))), (1, .int minute)], [.int (rF ρ (360 + k) 2), .int (minute - (rF ρ (360 + k) 0)), .ref (ad (380 + k))])) rfl ?_
    refine y_idiv tq_X10_place rfl (by intro q; rw [q, yl_0] at hg1; omega) ?_
    refine y_blk 1 tq_X10_place (z := (24, [(0, .ref (ad (360 + k))), (1, .int minute)], [.ref (ad (360 + k)), .int ((minute - (rF ρ (360 + k) 0)) / (rF ρ (360 + k) 2)), .ref (ad (380 + k))])) rfl ?_
    refine y_get hS tq_X10_place (v := .ref (ad (380 + k))) rfl fg_X10_12_X10 (hX.gu (by assumption)) rfl ?_
    refine y_blk 0 tq_X10_place (z := (27, [(0, .ref (ad (360 + k))), (1, .int minute)], [.ref (ad (380 + k)), .int ((minute - (rF ρ (360 + k) 0)) / (rF ρ (360 + k) 2)), .ref (ad (380 + k))])) rfl ?_
    refine y_callF hS tq_X10_place rfl (As := []) rfl cf_X10_48 (Or.inl ⟨_, (hX.gl (by assumption)).1⟩) (m_Jsize hS (hX.gl (by assumption))) rfl (by decide) (Nat.le_of_ble_eq_true rfl) (fun r27 Gc27 q27 => ?_) (fun _ _ h9 => h9.elim)
    obtain ⟨rfl, eG27⟩ := q27
    have eG27 := eG27.symm
    subst eG27
    refine y_blk 0 tq_X10_place (z := (32, [(0, .ref (ad (360 + k))), (1, .int minute)], [.int (Int32.ofNat (rZ ρ (380 + k))), .int ((minute - (rF ρ (360 + k) 0)) / (rF ρ (360 + k) 2)), .ref (ad (380 + k))])) rfl ?_
    refine y_irem tq_X10_place rfl (by intro q; have q2 := congrArg Int32.toInt q; rw [yofn (by omega), yl_0] at q2; omega) ?_
    refine y_blk 0 tq_X10_place (z := (33, [(0, .ref (ad (360 + k))), (1, .int minute)], [.int (((minute - (rF ρ (360 + k) 0)) / (rF ρ (360 + k) 2)) - ((minute - (rF ρ (360 + k) 0)) / (rF ρ (360 + k) 2)) / (Int32.ofNat (rZ ρ (380 + k))) * (Int32.ofNat (rZ ρ (380 + k)))), .ref (ad (380 + k))])) rfl ?_
    refine y_callF hS tq_X10_place rfl (As := [.int (((minute - (rF ρ (360 + k) 0)) / (rF ρ (360 + k) 2)) - ((minute - (rF ρ (360 + k) 0)) / (rF ρ (360 + k) 2)) / (Int32.ofNat (rZ ρ (380 + k))) * (Int32.ofNat (rZ ρ (380 + k))))]) rfl cf_X10_52 (Or.inl ⟨_, (hX.gl (by assumption)).1⟩) (m_Rgc hS hX (by assumption) (by assumption) (by assumption)) rfl (by decide) (Nat.le_of_ble_eq_true rfl) (fun r33 Gc33 q33 => ?_) (fun _ _ h9 => h9.elim)
    obtain ⟨rfl, eG33⟩ := q33
    have eG33 := eG33.symm
    subst eG33
    have d33 : (Int32.toNatClampNeg (((minute - (rF ρ (360 + k) 0)) / (rF ρ (360 + k) 2)) - ((minute - (rF ρ (360 + k) 0)) / (rF ρ (360 + k) 2)) / (Int32.ofNat (rZ ρ (380 + k))) * (Int32.ofNat (rZ ρ (380 + k))))) < rZ ρ (380 + k) := yIx (by assumption) (by assumption)
    refine y_blk 0 tq_X10_place (z := (38, [(0, .ref (ad (360 + k))), (1, .int minute)], [.ref (ic (rV ρ (380 + k) (Int32.toNatClampNeg (((minute - (rF ρ (360 + k) 0)) / (rF ρ (360 + k) 2)) - ((minute - (rF ρ (360 + k) 0)) / (rF ρ (360 + k) 2)) / (Int32.ofNat (rZ ρ (380 + k))) * (Int32.ofNat (rZ ρ (380 + k)))))))])) rfl ?_
    refine y_castI hS tq_X10_place rfl kc_X10_19 (hX.gc hI (by assumption) (by assumption)) ?_
    refine y_blk 0 tq_X10_place (z := (41, [(0, .ref (ad (360 + k))), (1, .int minute)], [.ref (ic (rV ρ (380 + k) (Int32.toNatClampNeg (((minute - (rF ρ (360 + k) 0)) / (rF ρ (360 + k) 2)) - ((minute - (rF ρ (360 + k) 0)) / (rF ρ (360 + k) 2)) / (Int32.ofNat (rZ ρ (380 + k))) * (Int32.ofNat (rZ ρ (380 + k)))))))])) rfl ?_
    refine y_callVO hS tq_X10_place rfl (As := []) rfl cv_X10_56 (yIntO (hX.gc hI (by assumption) (by assumption))) (m_JintValue hS (hX.gc hI (by assumption) (by assumption))) rfl (by decide) (Nat.le_of_ble_eq_true rfl) (fun r41 Gc41 q41 => ?_) (fun _ _ h9 => h9.elim)
    obtain ⟨rfl, eG41⟩ := q41
    have eG41 := eG41.symm
    subst eG41
    refine y_blk 1 tq_X10_place (z := (48, [(0, .ref (ad (360 + k))), (1, .int minute)], [.int (rV ρ (380 + k) (Int32.toNatClampNeg (((minute - (rF ρ (360 + k) 0)) / (rF ρ (360 + k) 2)) - ((minute - (rF ρ (360 + k) 0)) / (rF ρ (360 + k) 2)) / (Int32.ofNat (rZ ρ (380 + k))) * (Int32.ofNat (rZ ρ (380 + k))))))])) rfl ?_
    exact y_iret tq_X10_place rfl rfl (⟨⟨_, hX.gcc (by assumption) (by assumption), rfl⟩, rfl⟩)
set_option maxHeartbeats 4000000 in
set_option maxRecDepth 100000 in
theorem m_X12_steps {l : Launch} {S0 : State} {A0 : Array Value} {D : va_G} {aC : Nat → ClassId} {ic : Int32 → Nat} {de : Nat} {ad : Nat → Nat} {G : AH} {ρ : RS} (hS : yS l S0 A0 D aC) (hI : yIc S0 ic de) (hX : atR aC ic de ad G ρ) (from_ : Int32) (hfrom : rcell ρ from_) : yM l S0 D yX12_steps cX12_steps 8 (some (.array .int)) 17 2 128 [.ref (ad 200), .int from_] G (fun r G1 => ∃ (a : Nat) (f : Nat → Int32), r = some (.ref a) ∧ G1 a = some (500, .inl (aC 0, rZ ρ 201, .inl f)) ∧ yTg kA G G1) (fun _ _ => False) := by
  refine yM.ofK K_X12_steps rfl (by decide) (Nat.le_of_ble_eq_true rfl) ?_
  have hn64 := hX.2.n64
  have J51 : ∀ (n51 : Nat) (v51_2 : Nat) (v51_3 : Nat) (v51_4 : Int32) (v51_5 : Int32) (G51 : AH) (f251 : Nat → Int32) (f351 : Nat → Int32) (hX51 : atR aC ic de ad G51 ρ) (kt51 : yTg kA G G51) (pA251 : G51 v51_2 = some (500, .inl (aC 0, rZ ρ 201, .inl f251))) (pA351 : G51 v51_3 = some (501, .inl (aC 0, rZ ρ 201, .inl f351))) (h0_51 : 0 ≤ v51_5.toInt) (hq51 : stQ ρ f251 f351 v51_4), (65 - v51_5.toInt).toNat = n51 → Y l S0 D K_X12_steps 17 2 128 (fun r G1 => ∃ (a : Nat) (f : Nat → Int32), r = some (.ref a) ∧ G1 a = some (500, .inl (aC 0, rZ ρ 201, .inl f)) ∧ yTg kA G G1) (fun _ _ => False) 51 [(0, .ref (ad 200)), (1, .int from_), (2, .ref v51_2), (3, .ref v51_3), (4, .int v51_4), (5, .int v51_5)] [] G51 0 0 := by
    intro n51
    induction n51 using Nat.strongRecOn with
    | _ n51 ih51 =>
    intro v51_2 v51_3 v51_4 v51_5 G51 f251 f351 hX51 kt51 pA251 pA351 h0_51 hq51 hn51
    subst hn51
    have J61 : ∀ (n61 : Nat) (v61_4 : Int32) (v61_6 : Int32) (G61 : AH) (f261 : Nat → Int32) (f361 : Nat → Int32) (hX61 : atR aC ic de ad G61 ρ) (kt61 : yTg kA G G61) (pA261 : G61 v51_2 = some (500, .inl (aC 0, rZ ρ 201, .inl f261))) (pA361 : G61 v51_3 = some (501, .inl (aC 0, rZ ρ 201, .inl f361))) (hq61 : stQ ρ f261 f361 v61_4) (c55n : v51_5.toInt < v61_4.toInt), ((4 : Int32).toInt + 1 - v61_6.toInt).toNat = n61 → Y l S0 D K_X12_steps 17 2 128 (fun r G1 => ∃ (a : Nat) (f : Nat → Int32), r = some (.ref a) ∧ G1 a = some (500, .inl (aC 0, rZ ρ 201, .inl f)) ∧ yTg kA G G1) (fun _ _ => False) 61 [(0, .ref (ad 200)), (1, .int from_), (2, .ref v51_2), (3, .ref v51_3), (4, .int v61_4), (5, .int v51_5), (6, .int v61_6)] [] G61 0 0 := by
      intro n61
      induction n61 using Nat.strongRecOn with
      | _ n61 ih61 =>
      intro v61_4 v61_6 G61 f261 f361 hX61 kt61 pA261 pA361 hq61 c55n hn61
      subst hn61
      have J128 : ∀ (v128_4 : Int32) (v128_7 : Int32) (G128 : AH) (f2128 : Nat → Int32) (f3128 : Nat → Int32) (hX128 : atR aC ic de ad G128 ρ) (kt128 : yTg kA G G128) (pA2128 : G128 v51_2 = some (500, .inl (aC 0, rZ ρ 201, .inl f2128))) (pA3128 : G128 v51_3 = some (501, .inl (aC 0, rZ ρ 201, .inl f3128))) (hq128 : stQ ρ f2128 f3128 v128_4) (c55k : v51_5.toInt < v128_4.toInt) (c64 : ¬ (4 : Int32) < v61_6), Y l S0 D K_X12_steps 17 2 128 (fun r G1 => ∃ (a : Nat) (f : Nat → Int32), r = some (.ref a) ∧ G1 a = some (500, .inl (aC 0, rZ ρ 201, .inl f)) ∧ yTg kA G G1) (fun _ _ => False) 128 [(0, .ref (ad 200)), (1, .int from_), (2, .ref v51_2), (3, .ref v51_3), (4, .int v128_4), (5, .int v51_5), (6, .int v61_6), (7, .int v128_7)] [] G128 0 0 := by
        intro v128_4 v128_7 G128 f2128 f3128 hX128 kt128 pA2128 pA3128 hq128 c55k c64
        refine y_blk 2 tq_X12_steps (z := (61, [(6, .int (v61_6 + 1)), (0, .ref (ad 200)), (1, .int from_), (2, .ref v51_2), (3, .ref v51_3), (4, .int v128_4), (5, .int v51_5), (7, .int v128_7)], [])) rfl ?_
        refine y_pick (L2 := [(0, .ref (ad 200)), (1, .int from_), (2, .ref v51_2), (3, .ref v51_3), (4, .int v128_4), (5, .int v51_5), (6, .int (v61_6 + 1))]) [1, 2, 3, 4, 5, 6, 0] rfl ?_
        exact ih61 _ (by exact ydec2 c64 (by decide)) v128_4 (v61_6 + 1) G128 f2128 f3128 hX128 kt128 pA2128 pA3128 (by assumption) (by first | exact c55m | assumption) rfl
      refine y_blk 2 tq_X12_steps (z := (64, [(0, .ref (ad 200)), (1, .int from_), (2, .ref v51_2), (3, .ref v51_3), (4, .int v61_4), (5, .int v51_5), (6, .int v61_6)], [.int 4, .int v61_6])) rfl ?_
      refine y_icmp_gt tq_X12_steps 134 rfl rfl (fun c64 => ?_) (fun c64 => ?_)
      · skip
        refine y_blk 2 tq_X12_steps (z := (51, [(5, .int (v51_5 + 1)), (0, .ref (ad 200)), (1, .int from_), (2, .ref v51_2), (3, .ref v51_3), (4, .int v61_4), (6, .int v61_6)], [])) rfl ?_
        refine y_pick (L2 := [(0, .ref (ad 200)), (1, .int from_), (2, .ref v51_2), (3, .ref v51_3), (4, .int v61_4), (5, .int (v51_5 + 1))]) [1, 2, 3, 4, 5, 0] rfl ?_
        exact ih51 _ (by exact stQ_dec hX.2 hq61 h0_51 c55n) v51_2 v51_3 v61_4 (v51_5 + 1) G61 f261 f361 hX61 kt61 pA261 pA361 (by first | decide | exact stQ_h0 hX.2 hq61 h0_51 c55n) (by first | exact stQ_init hX.2 hfrom hall | assumption) rfl
      · skip
        have b64 : v61_6.toInt ≤ 4 := by rw [ylt] at c64; have z9 : (4 : Int32).toInt = 4 := (by decide); omega
        refine y_blk 3 tq_X12_steps (z := (71, [(0, .ref (ad 200)), (1, .int from_), (2, .ref v51_2), (3, .ref v51_3), (4, .int v61_4), (5, .int v51_5), (6, .int v61_6)], [.int v51_5, .ref v51_3, .ref (ad 200)])) rfl ?_
        obtain ⟨hqc, hqd⟩ := stQ_get hq61 h0_51 c55n
        refine y_iald hS tq_X12_steps rfl pA361 (by exact stQ_vin hX.2 hq61 h0_51 c55n) ?_
        refine y_blk 1 tq_X12_steps (z := (74, [(0, .ref (ad 200)), (1, .int from_), (2, .ref v51_2), (3, .ref v51_3), (4, .int v61_4), (5, .int v51_5), (6, .int v61_6)], [.int v61_6, .int (f361 (Int32.toNatClampNeg v51_5)), .ref (ad 200)])) rfl ?_
        refine y_callV hS tq_X12_steps rfl (As := [.int (f361 (Int32.toNatClampNeg v51_5)), .int v61_6]) rfl cv_X12_240 hX61.m (m_X12_moved hS hI hX61 (f361 (Int32.toNatClampNeg v51_5)) v61_6 (by first | (with_reducible assumption) | (with_reducible exact hX61.lac (by assumption)) | (with_reducible exact hX61.poc (by assumption)) | (with_reducible exact hX61.wac (by assumption) (by assumption) (by omega)) | assumption | exact hX61.lac (by assumption) | exact hX61.poc (by assumption) | exact hX61.wac (by assumption) (by assumption) (by omega))) rfl (by decide) (Nat.le_of_ble_eq_true rfl) (fun r74 Gc74 q74 => ?_) (fun E9 G9 h9 => h9.elim)
        obtain ⟨⟨x74, hr_x74, rfl⟩, eG74⟩ := q74
        have eG74 := eG74.symm
        subst eG74
        refine y_blk 3 tq_X12_steps (z := (82, [(7, .int x74), (0, .ref (ad 200)), (1, .int from_), (2, .ref v51_2), (3, .ref v51_3), (4, .int v61_4), (5, .int v51_5), (6, .int v61_6)], [.int (-1), .int x74])) rfl ?_
        refine y_icmp_eq tq_X12_steps 128 rfl rfl (fun c82 => ?_) (fun c82 => ?_)
        · skip
          refine y_blk 0 tq_X12_steps (z := (128, [(7, .int x74), (0, .ref (ad 200)), (1, .int from_), (2, .ref v51_2), (3, .ref v51_3), (4, .int v61_4), (5, .int v51_5), (6, .int v61_6)], [])) rfl ?_
          refine y_pick (L2 := [(0, .ref (ad 200)), (1, .int from_), (2, .ref v51_2), (3, .ref v51_3), (4, .int v61_4), (5, .int v51_5), (6, .int v61_6), (7, .int x74)]) [1, 2, 3, 4, 5, 6, 7, 0] rfl ?_
          exact J128 v61_4 x74 G61 f261 f361 hX61 kt61 pA261 pA361 (by first | assumption | exact stQ_push hX.2 hq61 h0_51 c55n hmv (by assumption)) (by first | assumption | exact stQ_lt hX.2 hq61 c55n) (by exact c64)
        · skip
          refine y_blk 1 tq_X12_steps (z := (86, [(7, .int x74), (0, .ref (ad 200)), (1, .int from_), (2, .ref v51_2), (3, .ref v51_3), (4, .int v61_4), (5, .int v51_5), (6, .int v61_6)], [.ref (ad 200)])) rfl ?_
          refine y_get hS tq_X12_steps (v := .ref (ad 201)) rfl fg_X12_7_X12 hX61.m rfl ?_
          refine y_blk 1 tq_X12_steps (z := (91, [(7, .int x74), (0, .ref (ad 200)), (1, .int from_), (2, .ref v51_2), (3, .ref v51_3), (4, .int v61_4), (5, .int v51_5), (6, .int v61_6)], [.int x74, .ref (ad 201)])) rfl ?_
          have hmv := hr_x74.1.resolve_left c82
          have hm0 := hmv.1
          have hm1 := hmv.2
          refine y_iald hS tq_X12_steps rfl hX61.ki (by first | exact yIn (by decide) (by decide) | exact yIn (by assumption) (by assumption) | (exact yIn (by omega) (by omega))) ?_
          refine y_blk 1 tq_X12_steps (z := (93, [(7, .int x74), (0, .ref (ad 200)), (1, .int from_), (2, .ref v51_2), (3, .ref v51_3), (4, .int v61_4), (5, .int v51_5), (6, .int v61_6)], [.int 1, .int ((rV ρ 201) (Int32.toNatClampNeg x74))])) rfl ?_
          refine y_icmp_eq tq_X12_steps 128 rfl rfl (fun c93 => ?_) (fun c93 => ?_)
          · skip
            refine y_blk 0 tq_X12_steps (z := (128, [(7, .int x74), (0, .ref (ad 200)), (1, .int from_), (2, .ref v51_2), (3, .ref v51_3), (4, .int v61_4), (5, .int v51_5), (6, .int v61_6)], [])) rfl ?_
            refine y_pick (L2 := [(0, .ref (ad 200)), (1, .int from_), (2, .ref v51_2), (3, .ref v51_3), (4, .int v61_4), (5, .int v51_5), (6, .int v61_6), (7, .int x74)]) [1, 2, 3, 4, 5, 6, 7, 0] rfl ?_
            exact J128 v61_4 x74 G61 f261 f361 hX61 kt61 pA261 pA361 (by first | assumption | exact stQ_push hX.2 hq61 h0_51 c55n hmv (by assumption)) (by first | assumption | exact stQ_lt hX.2 hq61 c55n) (by exact c64)
          · skip
            refine y_blk 2 tq_X12_steps (z := (99, [(7, .int x74), (0, .ref (ad 200)), (1, .int from_), (2, .ref v51_2), (3, .ref v51_3), (4, .int v61_4), (5, .int v51_5), (6, .int v61_6)], [.int x74, .ref v51_2])) rfl ?_
            refine y_iald hS tq_X12_steps rfl pA261 (by first | exact yIn (by decide) (by decide) | exact yIn (by assumption) (by assumption) | (exact yIn (by omega) (by omega))) ?_
            refine y_blk 1 tq_X12_steps (z := (101, [(7, .int x74), (0, .ref (ad 200)), (1, .int from_), (2, .ref v51_2), (3, .ref v51_3), (4, .int v61_4), (5, .int v51_5), (6, .int v61_6)], [.int (-1), .int (f261 (Int32.toNatClampNeg x74))])) rfl ?_
            refine y_icmp_eq tq_X12_steps 107 rfl rfl (fun c101 => ?_) (fun c101 => ?_)
            · skip
              refine y_blk 5 tq_X12_steps (z := (114, [(7, .int x74), (0, .ref (ad 200)), (1, .int from_), (2, .ref v51_2), (3, .ref v51_3), (4, .int v61_4), (5, .int v51_5), (6, .int v61_6)], [.int v51_5, .ref v51_3, .ref v51_2, .int x74, .ref v51_2])) rfl ?_
              obtain ⟨hqc, hqd⟩ := stQ_get hq61 h0_51 c55n
              have hqc0 := hqc.1
              have hqc1 := hqc.2
              refine y_iald hS tq_X12_steps rfl pA361 (by exact stQ_vin hX.2 hq61 h0_51 c55n) ?_
              refine y_blk 0 tq_X12_steps (z := (115, [(7, .int x74), (0, .ref (ad 200)), (1, .int from_), (2, .ref v51_2), (3, .ref v51_3), (4, .int v61_4), (5, .int v51_5), (6, .int v61_6)], [.int (f361 (Int32.toNatClampNeg v51_5)), .ref v51_2, .int x74, .ref v51_2])) rfl ?_
              refine y_iald hS tq_X12_steps rfl pA261 (by exact yIn hqc.1 hqc.2) ?_
              refine y_blk 2 tq_X12_steps (z := (118, [(7, .int x74), (0, .ref (ad 200)), (1, .int from_), (2, .ref v51_2), (3, .ref v51_3), (4, .int v61_4), (5, .int v51_5), (6, .int v61_6)], [.int ((f261 (Int32.toNatClampNeg (f361 (Int32.toNatClampNeg v51_5)))) + 1), .int x74, .ref v51_2])) rfl ?_
              refine y_iast hS tq_X12_steps rfl pA261 (by decide) (by first | exact yIn (by decide) (by decide) | exact yIn (by assumption) (by assumption) | (exact yIn (by omega) (by omega))) ?_
              have hA118 : (yup G61 v51_2 (500, .inl (aC 0, (rZ ρ 201), .inl (upd f261 (Int32.toNatClampNeg x74) ((f261 (Int32.toNatClampNeg (f361 (Int32.toNatClampNeg v51_5)))) + 1))))) v51_2 = some (500, .inl (aC 0, (rZ ρ 201), .inl (upd f261 (Int32.toNatClampNeg x74) ((f261 (Int32.toNatClampNeg (f361 (Int32.toNatClampNeg v51_5)))) + 1)))) := yup_s _ _ _
              have hX118 : atR aC ic de ad (yup G61 v51_2 (500, .inl (aC 0, (rZ ρ 201), .inl (upd f261 (Int32.toNatClampNeg x74) ((f261 (Int32.toNatClampNeg (f361 (Int32.toNatClampNeg v51_5)))) + 1))))) ρ := hX61.kp (yTg.up pA261 (by decide))
              have kt118 : yTg kA G (yup G61 v51_2 (500, .inl (aC 0, (rZ ρ 201), .inl (upd f261 (Int32.toNatClampNeg x74) ((f261 (Int32.toNatClampNeg (f361 (Int32.toNatClampNeg v51_5)))) + 1))))) := (kt61).trans (yTg.up pA261 (by decide))
              have hB118_v51_3 : (yup G61 v51_2 (500, .inl (aC 0, (rZ ρ 201), .inl (upd f261 (Int32.toNatClampNeg x74) ((f261 (Int32.toNatClampNeg (f361 (Int32.toNatClampNeg v51_5)))) + 1))))) v51_3 = some (501, .inl (aC 0, (rZ ρ 201), .inl f361)) := yup_o pA361 pA261 (by decide)
              generalize yup G61 v51_2 (500, .inl (aC 0, (rZ ρ 201), .inl (upd f261 (Int32.toNatClampNeg x74) ((f261 (Int32.toNatClampNeg (f361 (Int32.toNatClampNeg v51_5)))) + 1)))) = G118 at hA118 hX118 kt118 hB118_v51_3 ⊢
              refine y_blk 4 tq_X12_steps (z := (127, [(4, .int (v61_4 + 1)), (7, .int x74), (0, .ref (ad 200)), (1, .int from_), (2, .ref v51_2), (3, .ref v51_3), (5, .int v51_5), (6, .int v61_6)], [.int x74, .int v61_4, .ref v51_3])) rfl ?_
              refine y_iast hS tq_X12_steps rfl hB118_v51_3 (by decide) (by exact stQ_vin2 hX.2 hq61 hmv (by assumption)) ?_
              have hA127 : (yup G118 v51_3 (501, .inl (aC 0, (rZ ρ 201), .inl (upd f361 (Int32.toNatClampNeg v61_4) x74)))) v51_3 = some (501, .inl (aC 0, (rZ ρ 201), .inl (upd f361 (Int32.toNatClampNeg v61_4) x74))) := yup_s _ _ _
              have hX127 : atR aC ic de ad (yup G118 v51_3 (501, .inl (aC 0, (rZ ρ 201), .inl (upd f361 (Int32.toNatClampNeg v61_4) x74)))) ρ := hX118.kp (yTg.up hB118_v51_3 (by decide))
              have kt127 : yTg kA G (yup G118 v51_3 (501, .inl (aC 0, (rZ ρ 201), .inl (upd f361 (Int32.toNatClampNeg v61_4) x74)))) := (kt118).trans (yTg.up hB118_v51_3 (by decide))
              have hB127_v51_2 : (yup G118 v51_3 (501, .inl (aC 0, (rZ ρ 201), .inl (upd f361 (Int32.toNatClampNeg v61_4) x74)))) v51_2 = some (500, .inl (aC 0, (rZ ρ 201), .inl (upd f261 (Int32.toNatClampNeg x74) ((f261 (Int32.toNatClampNeg (f361 (Int32.toNatClampNeg v51_5)))) + 1)))) := yup_o hA118 hB118_v51_3 (by decide)
              generalize yup G118 v51_3 (501, .inl (aC 0, (rZ ρ 201), .inl (upd f361 (Int32.toNatClampNeg v61_4) x74))) = G127 at hA127 hX127 kt127 hB127_v51_2 ⊢
              refine y_blk 0 tq_X12_steps (z := (128, [(4, .int (v61_4 + 1)), (7, .int x74), (0, .ref (ad 200)), (1, .int from_), (2, .ref v51_2), (3, .ref v51_3), (5, .int v51_5), (6, .int v61_6)], [])) rfl ?_
              refine y_pick (L2 := [(0, .ref (ad 200)), (1, .int from_), (2, .ref v51_2), (3, .ref v51_3), (4, .int (v61_4 + 1)), (5, .int v51_5), (6, .int v61_6), (7, .int x74)]) [2, 3, 4, 5, 0, 6, 7, 1] rfl ?_
              exact J128 (v61_4 + 1) x74 G127 (upd f261 (Int32.toNatClampNeg x74) ((f261 (Int32.toNatClampNeg (f361 (Int32.toNatClampNeg v51_5)))) + 1)) (upd f361 (Int32.toNatClampNeg v61_4) x74) hX127 kt127 hB127_v51_2 hA127 (by first | assumption | exact stQ_push hX.2 hq61 h0_51 c55n hmv (by assumption)) (by first | assumption | exact stQ_lt hX.2 hq61 c55n) (by exact c64)
            · skip
              refine y_blk 1 tq_X12_steps (z := (128, [(7, .int x74), (0, .ref (ad 200)), (1, .int from_), (2, .ref v51_2), (3, .ref v51_3), (4, .int v61_4), (5, .int v51_5), (6, .int v61_6)], [])) rfl ?_
              refine y_pick (L2 := [(0, .ref (ad 200)), (1, .int from_), (2, .ref v51_2), (3, .ref v51_3), (4, .int v61_4), (5, .int v51_5), (6, .int v61_6), (7, .int x74)]) [1, 2, 3, 4, 5, 6, 7, 0] rfl ?_
              exact J128 v61_4 x74 G61 f261 f361 hX61 kt61 pA261 pA361 (by first | assumption | exact stQ_push hX.2 hq61 h0_51 c55n hmv (by assumption)) (by first | assumption | exact stQ_lt hX.2 hq61 c55n) (by exact c64)
    refine y_blk 2 tq_X12_steps (z := (55, [(0, .ref (ad 200)), (1, .int from_), (2, .ref v51_2), (3, .ref v51_3), (4, .int v51_4), (5, .int v51_5)], [.int v51_4, .int v51_5])) rfl ?_
    refine y_icmp_ge tq_X12_steps 140 rfl rfl (fun c55 => ?_) (fun c55 => ?_)
    · skip
      refine y_blk 1 tq_X12_steps (z := (141, [(0, .ref (ad 200)), (1, .int from_), (2, .ref v51_2), (3, .ref v51_3), (4, .int v51_4), (5, .int v51_5)], [.ref v51_2])) rfl ?_
      exact y_aret tq_X12_steps rfl rfl (Or.inr ⟨_, rfl⟩) (Or.inr ⟨_, rfl⟩) (⟨_, _, rfl, pA251, kt51⟩)
    · skip
      have c55m : v51_5.toInt < v51_4.toInt := stQ_c hq51 c55
      refine y_blk 2 tq_X12_steps (z := (61, [(6, .int 1), (0, .ref (ad 200)), (1, .int from_), (2, .ref v51_2), (3, .ref v51_3), (4, .int v51_4), (5, .int v51_5)], [])) rfl ?_
      refine y_pick (L2 := [(0, .ref (ad 200)), (1, .int from_), (2, .ref v51_2), (3, .ref v51_3), (4, .int v51_4), (5, .int v51_5), (6, .int 1)]) [1, 2, 3, 4, 5, 6, 0] rfl ?_
      exact J61 _ v51_4 1 G51 f251 f351 hX51 kt51 pA251 pA351 (by assumption) (by first | exact c55m | assumption) rfl
  have J19 : ∀ (n19 : Nat) (v19_2 : Nat) (v19_3 : Nat) (v19_4 : Int32) (G19 : AH) (f219 : Nat → Int32) (f319 : Nat → Int32) (hX19 : atR aC ic de ad G19 ρ) (kt19 : yTg kA G G19) (pA219 : G19 v19_2 = some (500, .inl (aC 0, rZ ρ 201, .inl f219))) (pA319 : G19 v19_3 = some (501, .inl (aC 0, rZ ρ 201, .inl f319))) (h0_19 : 0 ≤ v19_4.toInt) (h19 : ∀ j : Nat, (j : Int) < v19_4.toInt → f219 j = -1), ((Int32.ofNat (rZ ρ 201) : Int32).toInt - v19_4.toInt).toNat = n19 → Y l S0 D K_X12_steps 17 2 128 (fun r G1 => ∃ (a : Nat) (f : Nat → Int32), r = some (.ref a) ∧ G1 a = some (500, .inl (aC 0, rZ ρ 201, .inl f)) ∧ yTg kA G G1) (fun _ _ => False) 19 [(0, .ref (ad 200)), (1, .int from_), (2, .ref v19_2), (3, .ref v19_3), (4, .int v19_4)] [] G19 0 0 := by
    intro n19
    induction n19 using Nat.strongRecOn with
    | _ n19 ih19 =>
    intro v19_2 v19_3 v19_4 G19 f219 f319 hX19 kt19 pA219 pA319 h0_19 h19 hn19
    subst hn19
    refine y_blk 2 tq_X12_steps (z := (22, [(0, .ref (ad 200)), (1, .int from_), (2, .ref v19_2), (3, .ref v19_3), (4, .int v19_4)], [.ref v19_2, .int v19_4])) rfl ?_
    refine y_alen hS tq_X12_steps 0 rfl rfl pA219 ?_
    refine y_blk 0 tq_X12_steps (z := (23, [(0, .ref (ad 200)), (1, .int from_), (2, .ref v19_2), (3, .ref v19_3), (4, .int v19_4)], [.int (Int32.ofNat (rZ ρ 201)), .int v19_4])) rfl ?_
    refine y_icmp_ge tq_X12_steps 37 rfl rfl (fun c23 => ?_) (fun c23 => ?_)
    · skip
      have hall : ∀ j, j < rZ ρ 201 → f219 j = -1 := stQ_all hX.2 h19 c23
      refine y_blk 3 tq_X12_steps (z := (40, [(0, .ref (ad 200)), (1, .int from_), (2, .ref v19_2), (3, .ref v19_3), (4, .int v19_4)], [.int 0, .int from_, .ref v19_2])) rfl ?_
      refine y_iast hS tq_X12_steps rfl pA219 (by decide) (by exact yIn hfrom.1 hfrom.2) ?_
      have hA40 : (yup G19 v19_2 (500, .inl (aC 0, (rZ ρ 201), .inl (upd f219 (Int32.toNatClampNeg from_) 0)))) v19_2 = some (500, .inl (aC 0, (rZ ρ 201), .inl (upd f219 (Int32.toNatClampNeg from_) 0))) := yup_s _ _ _
      have hX40 : atR aC ic de ad (yup G19 v19_2 (500, .inl (aC 0, (rZ ρ 201), .inl (upd f219 (Int32.toNatClampNeg from_) 0)))) ρ := hX19.kp (yTg.up pA219 (by decide))
      have kt40 : yTg kA G (yup G19 v19_2 (500, .inl (aC 0, (rZ ρ 201), .inl (upd f219 (Int32.toNatClampNeg from_) 0)))) := (kt19).trans (yTg.up pA219 (by decide))
      have hB40_v19_3 : (yup G19 v19_2 (500, .inl (aC 0, (rZ ρ 201), .inl (upd f219 (Int32.toNatClampNeg from_) 0)))) v19_3 = some (501, .inl (aC 0, (rZ ρ 201), .inl f319)) := yup_o pA319 pA219 (by decide)
      generalize yup G19 v19_2 (500, .inl (aC 0, (rZ ρ 201), .inl (upd f219 (Int32.toNatClampNeg from_) 0))) = G40 at hA40 hX40 kt40 hB40_v19_3 ⊢
      refine y_blk 3 tq_X12_steps (z := (44, [(0, .ref (ad 200)), (1, .int from_), (2, .ref v19_2), (3, .ref v19_3), (4, .int v19_4)], [.int from_, .int 0, .ref v19_3])) rfl ?_
      refine y_iast hS tq_X12_steps rfl hB40_v19_3 (by decide) (by exact yIn (by decide) (by have := hfrom.1; have := hfrom.2; rw [yl_0]; omega)) ?_
      have hA44 : (yup G40 v19_3 (501, .inl (aC 0, (rZ ρ 201), .inl (upd f319 (Int32.toNatClampNeg 0) from_)))) v19_3 = some (501, .inl (aC 0, (rZ ρ 201), .inl (upd f319 (Int32.toNatClampNeg 0) from_))) := yup_s _ _ _
      have hX44 : atR aC ic de ad (yup G40 v19_3 (501, .inl (aC 0, (rZ ρ 201), .inl (upd f319 (Int32.toNatClampNeg 0) from_)))) ρ := hX40.kp (yTg.up hB40_v19_3 (by decide))
      have kt44 : yTg kA G (yup G40 v19_3 (501, .inl (aC 0, (rZ ρ 201), .inl (upd f319 (Int32.toNatClampNeg 0) from_)))) := (kt40).trans (yTg.up hB40_v19_3 (by decide))
      have hB44_v19_2 : (yup G40 v19_3 (501, .inl (aC 0, (rZ ρ 201), .inl (upd f319 (Int32.toNatClampNeg 0) from_)))) v19_2 = some (500, .inl (aC 0, (rZ ρ 201), .inl (upd f219 (Int32.toNatClampNeg from_) 0))) := yup_o hA40 hB40_v19_3 (by decide)
      generalize yup G40 v19_3 (501, .inl (aC 0, (rZ ρ 201), .inl (upd f319 (Int32.toNatClampNeg 0) from_))) = G44 at hA44 hX44 kt44 hB44_v19_2 ⊢
      refine y_blk 4 tq_X12_steps (z := (51, [(5, .int 0), (4, .int 1), (0, .ref (ad 200)), (1, .int from_), (2, .ref v19_2), (3, .ref v19_3)], [])) rfl ?_
      refine y_pick (L2 := [(0, .ref (ad 200)), (1, .int from_), (2, .ref v19_2), (3, .ref v19_3), (4, .int 1), (5, .int 0)]) [2, 3, 4, 5, 1, 0] rfl ?_
      exact J51 _ v19_2 v19_3 1 0 G44 (upd f219 (Int32.toNatClampNeg from_) 0) (upd f319 (Int32.toNatClampNeg 0) from_) hX44 kt44 hB44_v19_2 hA44 (by first | decide | exact stQ_h0 hX.2 hq61 h0_51 c55n) (by first | exact stQ_init hX.2 hfrom hall | assumption) rfl
    · skip
      have b23 : v19_4.toInt < rZ ρ 201 := yIy (by omega) h0_19 c23
      refine y_blk 3 tq_X12_steps (z := (30, [(0, .ref (ad 200)), (1, .int from_), (2, .ref v19_2), (3, .ref v19_3), (4, .int v19_4)], [.int (-1), .int v19_4, .ref v19_2])) rfl ?_
      refine y_iast hS tq_X12_steps rfl pA219 (by decide) (by exact yIn h0_19 b23) ?_
      have hA30 : (yup G19 v19_2 (500, .inl (aC 0, (rZ ρ 201), .inl (upd f219 (Int32.toNatClampNeg v19_4) (-1))))) v19_2 = some (500, .inl (aC 0, (rZ ρ 201), .inl (upd f219 (Int32.toNatClampNeg v19_4) (-1)))) := yup_s _ _ _
      have hX30 : atR aC ic de ad (yup G19 v19_2 (500, .inl (aC 0, (rZ ρ 201), .inl (upd f219 (Int32.toNatClampNeg v19_4) (-1))))) ρ := hX19.kp (yTg.up pA219 (by decide))
      have kt30 : yTg kA G (yup G19 v19_2 (500, .inl (aC 0, (rZ ρ 201), .inl (upd f219 (Int32.toNatClampNeg v19_4) (-1))))) := (kt19).trans (yTg.up pA219 (by decide))
      have hB30_v19_3 : (yup G19 v19_2 (500, .inl (aC 0, (rZ ρ 201), .inl (upd f219 (Int32.toNatClampNeg v19_4) (-1))))) v19_3 = some (501, .inl (aC 0, (rZ ρ 201), .inl f319)) := yup_o pA319 pA219 (by decide)
      generalize yup G19 v19_2 (500, .inl (aC 0, (rZ ρ 201), .inl (upd f219 (Int32.toNatClampNeg v19_4) (-1)))) = G30 at hA30 hX30 kt30 hB30_v19_3 ⊢
      refine y_blk 2 tq_X12_steps (z := (19, [(4, .int (v19_4 + 1)), (0, .ref (ad 200)), (1, .int from_), (2, .ref v19_2), (3, .ref v19_3)], [])) rfl ?_
      refine y_pick (L2 := [(0, .ref (ad 200)), (1, .int from_), (2, .ref v19_2), (3, .ref v19_3), (4, .int (v19_4 + 1))]) [1, 2, 3, 4, 0] rfl ?_
      exact ih19 _ (by exact ydec c23) v19_2 v19_3 (v19_4 + 1) G30 (upd f219 (Int32.toNatClampNeg v19_4) (-1)) f319 hX30 kt30 hA30 hB30_v19_3 (by first | decide | exact yposgeL (by assumption) c23) (by first | exact stQ_i0 | exact stQ_i1 h0_19 b23 h19) rfl
  refine y_blk 1 tq_X12_steps (z := (1, [(0, .ref (ad 200)), (1, .int from_)], [.ref (ad 200)])) rfl ?_
  refine y_get hS tq_X12_steps (v := .ref (ad 201)) rfl fg_X12_7_X12 hX.m rfl ?_
  refine y_blk 0 tq_X12_steps (z := (4, [(0, .ref (ad 200)), (1, .int from_)], [.ref (ad 201)])) rfl ?_
  refine y_alen hS tq_X12_steps 0 rfl rfl hX.ki ?_
  refine y_blk 0 tq_X12_steps (z := (5, [(0, .ref (ad 200)), (1, .int from_)], [.int (Int32.ofNat (rZ ρ 201))])) rfl ?_
  refine y_less (k2 := 1 + 1) (n2 := 64 + (rZ ρ 201)) (by omega) (by omega) ?_
  refine y_newa_int 500 hS tq_X12_steps rfl wd_176 (by rw [ylt, yl_0, yofn (by omega)]; omega) (yofc (by omega)) (by omega) (fun a5 hne5 => ?_)
  have hle5 : yLe G (yup G a5 (500, .inl (aC 0, (rZ ρ 201), .inl (fun _ => 0)))) := yLe.new hne5
  have hA5 : (yup G a5 (500, .inl (aC 0, (rZ ρ 201), .inl (fun _ => 0)))) a5 = some (500, .inl (aC 0, (rZ ρ 201), .inl (fun _ => 0))) := yup_s _ _ _
  generalize yup G a5 (500, .inl (aC 0, (rZ ρ 201), .inl (fun _ => 0))) = G5 at hle5 hA5 ⊢
  have hX5 := hX.le hle5
  have kt5 := ((yTg.rfl' (f := kA) (G := G))).trans (yTg.le hle5)
  refine y_blk 2 tq_X12_steps (z := (9, [(2, .ref a5), (0, .ref (ad 200)), (1, .int from_)], [.ref (ad 200)])) rfl ?_
  refine y_get hS tq_X12_steps (v := .ref (ad 201)) rfl fg_X12_7_X12 hX5.m rfl ?_
  refine y_blk 0 tq_X12_steps (z := (12, [(2, .ref a5), (0, .ref (ad 200)), (1, .int from_)], [.ref (ad 201)])) rfl ?_
  refine y_alen hS tq_X12_steps 0 rfl rfl hX5.ki ?_
  refine y_blk 0 tq_X12_steps (z := (13, [(2, .ref a5), (0, .ref (ad 200)), (1, .int from_)], [.int (Int32.ofNat (rZ ρ 201))])) rfl ?_
  refine y_less (k2 := 0 + 1) (n2 := 0 + (rZ ρ 201)) (by omega) (by omega) ?_
  refine y_newa_int 501 hS tq_X12_steps rfl wd_176 (by rw [ylt, yl_0, yofn (by omega)]; omega) (yofc (by omega)) (by omega) (fun a13 hne13 => ?_)
  have hle13 : yLe G5 (yup G5 a13 (501, .inl (aC 0, (rZ ρ 201), .inl (fun _ => 0)))) := yLe.new hne13
  have hA13 : (yup G5 a13 (501, .inl (aC 0, (rZ ρ 201), .inl (fun _ => 0)))) a13 = some (501, .inl (aC 0, (rZ ρ 201), .inl (fun _ => 0))) := yup_s _ _ _
  generalize yup G5 a13 (501, .inl (aC 0, (rZ ρ 201), .inl (fun _ => 0))) = G13 at hle13 hA13 ⊢
  have hX13 := hX5.le hle13
  have kt13 := (kt5).trans (yTg.le hle13)
  refine y_blk 3 tq_X12_steps (z := (19, [(4, .int 0), (3, .ref a13), (2, .ref a5), (0, .ref (ad 200)), (1, .int from_)], [])) rfl ?_
  refine y_pick (L2 := [(0, .ref (ad 200)), (1, .int from_), (2, .ref a5), (3, .ref a13), (4, .int 0)]) [3, 4, 2, 1, 0] rfl ?_
  exact J19 _ a5 a13 0 G13 (fun _ => 0) (fun _ => 0) hX13 kt13 (hle13 _ _ hA5) hA13 (by first | decide | exact yposgeL (by assumption) c23) (by first | exact stQ_i0 | exact stQ_i1 h0_19 b23 h19) rfl
set_option maxHeartbeats 4000000 in
set_option maxRecDepth 100000 in
theorem m_X12_response {l : Launch} {S0 : State} {A0 : Array Value} {D : va_G} {aC : Nat → ClassId} {ic : Int32 → Nat} {de : Nat} {ad : Nat → Nat} {G : AH} {ρ : RS} (hS : yS l S0 A0 D aC) (hI : yIc S0 ic de) (hX : atR aC ic de ad G ρ) {k : Nat} (hk : k < rZ ρ 215) (found : Int32) (guard : Int32) (hf0 : (rF ρ (420 + k) 0).toInt ≤ found.toInt) (hg0 : 0 ≤ guard.toInt) (hg1 : guard.toInt < rZ ρ 212) : yM l S0 D yX12_response cX12_response 6 (some .int) 19 2 128 [.ref (ad 200), .ref (ad (420 + k)), .int found, .int guard] G (fun r G1 => (∃ v : Int32, r = some (.int v)) ∧ yTg kA G G1) (fun _ _ => False) := by
  refine yM.ofK K_X12_response rfl (by decide) (Nat.le_of_ble_eq_true rfl) ?_
  have hfr := (hX.2.2.2.2.1 k hk).1
  have J48 : ∀ (n48 : Nat) (v48_4 : Nat) (v48_5 : Int32) (G48 : AH) (f448 : Nat → Int32) (hX48 : atR aC ic de ad G48 ρ) (kt48 : yTg kA G G48) (pA448 : G48 v48_4 = some (500, .inl (aC 0, rZ ρ 201, .inl f448))) (h0_48 : found.toInt ≤ v48_5.toInt), ((239 : Int32).toInt + 1 - v48_5.toInt).toNat = n48 → Y l S0 D K_X12_response 19 2 128 (fun r G1 => (∃ v : Int32, r = some (.int v)) ∧ yTg kA G G1) (fun _ _ => False) 48 [(0, .ref (ad 200)), (1, .ref (ad (420 + k))), (2, .int found), (3, .int guard), (4, .ref v48_4), (5, .int v48_5)] [] G48 0 0 := by
    intro n48
    induction n48 using Nat.strongRecOn with
    | _ n48 ih48 =>
    intro v48_4 v48_5 G48 f448 hX48 kt48 pA448 h0_48 hn48
    subst hn48
    have J90 : ∀ (G90 : AH) (f490 : Nat → Int32) (hX90 : atR aC ic de ad G90 ρ) (kt90 : yTg kA G G90) (pA490 : G90 v48_4 = some (500, .inl (aC 0, rZ ρ 201, .inl f490))) (c53 : ¬ (239 : Int32) < v48_5), Y l S0 D K_X12_response 19 2 128 (fun r G1 => (∃ v : Int32, r = some (.int v)) ∧ yTg kA G G1) (fun _ _ => False) 90 [(0, .ref (ad 200)), (1, .ref (ad (420 + k))), (2, .int found), (3, .int guard), (4, .ref v48_4), (5, .int v48_5)] [] G90 0 0 := by
      intro G90 f490 hX90 kt90 pA490 c53
      have b53 : v48_5.toInt ≤ 239 := by rw [ylt] at c53; have z9 : (239 : Int32).toInt = 239 := (by decide); omega
      refine y_blk 2 tq_X12_response (z := (48, [(5, .int (v48_5 + 1)), (0, .ref (ad 200)), (1, .ref (ad (420 + k))), (2, .int found), (3, .int guard), (4, .ref v48_4)], [])) rfl ?_
      refine y_pick (L2 := [(0, .ref (ad 200)), (1, .ref (ad (420 + k))), (2, .int found), (3, .int guard), (4, .ref v48_4), (5, .int (v48_5 + 1))]) [1, 2, 3, 4, 5, 0] rfl ?_
      exact ih48 _ (by exact ydec2 c53 (by decide)) v48_4 (v48_5 + 1) G90 f490 hX90 kt90 pA490 (by first | decide | assumption | exact Int.le_refl _ | exact yposgtL (by assumption) c53 (by decide)) rfl
    refine y_blk 2 tq_X12_response (z := (53, [(0, .ref (ad 200)), (1, .ref (ad (420 + k))), (2, .int found), (3, .int guard), (4, .ref v48_4), (5, .int v48_5)], [.int 239, .int v48_5])) rfl ?_
    refine y_icmp_gt tq_X12_response 96 rfl rfl (fun c53 => ?_) (fun c53 => ?_)
    · skip
      refine y_blk 1 tq_X12_response (z := (97, [(0, .ref (ad 200)), (1, .ref (ad (420 + k))), (2, .int found), (3, .int guard), (4, .ref v48_4), (5, .int v48_5)], [.int (-1)])) rfl ?_
      exact y_iret tq_X12_response rfl rfl (⟨⟨_, rfl⟩, kt48⟩)
    · skip
      have b53 : v48_5.toInt ≤ 239 := by rw [ylt] at c53; have z9 : (239 : Int32).toInt = 239 := (by decide); omega
      refine y_blk 2 tq_X12_response (z := (59, [(0, .ref (ad 200)), (1, .ref (ad (420 + k))), (2, .int found), (3, .int guard), (4, .ref v48_4), (5, .int v48_5)], [.ref (ad (420 + k)), .ref v48_4])) rfl ?_
      have hw := hX48.wac hk (m := v48_5) (by omega) (by omega)
      have hw0 := hw.1
      have hw1 := hw.2
      refine y_get hS tq_X12_response (v := .ref (ad (440 + k))) rfl fg_X12_243_X11 (hX48.in (by assumption)) rfl ?_
      refine y_blk 1 tq_X12_response (z := (64, [(0, .ref (ad 200)), (1, .ref (ad (420 + k))), (2, .int found), (3, .int guard), (4, .ref v48_4), (5, .int v48_5)], [.int v48_5, .ref (ad (440 + k)), .ref v48_4])) rfl ?_
      refine y_iald hS tq_X12_response rfl (hX48.wa (by assumption)) (by first | exact yIn (by decide) (by decide) | exact yIn (by assumption) (by assumption) | (exact yIn (by omega) (by omega))) ?_
      refine y_blk 0 tq_X12_response (z := (65, [(0, .ref (ad 200)), (1, .ref (ad (420 + k))), (2, .int found), (3, .int guard), (4, .ref v48_4), (5, .int v48_5)], [.int ((rV ρ (440 + k)) (Int32.toNatClampNeg v48_5)), .ref v48_4])) rfl ?_
      refine y_iald hS tq_X12_response rfl pA448 (by first | exact yIn (by decide) (by decide) | exact yIn (by assumption) (by assumption) | (exact yIn (by omega) (by omega))) ?_
      refine y_blk 1 tq_X12_response (z := (67, [(0, .ref (ad 200)), (1, .ref (ad (420 + k))), (2, .int found), (3, .int guard), (4, .ref v48_4), (5, .int v48_5)], [.int (-1), .int (f448 (Int32.toNatClampNeg ((rV ρ (440 + k)) (Int32.toNatClampNeg v48_5))))])) rfl ?_
      refine y_icmp_eq tq_X12_response 90 rfl rfl (fun c67 => ?_) (fun c67 => ?_)
      · skip
        refine y_blk 0 tq_X12_response (z := (90, [(0, .ref (ad 200)), (1, .ref (ad (420 + k))), (2, .int found), (3, .int guard), (4, .ref v48_4), (5, .int v48_5)], [])) rfl ?_
        exact J90 G48 f448 hX48 kt48 pA448 (by exact c53)
      · skip
        refine y_blk 2 tq_X12_response (z := (73, [(0, .ref (ad 200)), (1, .ref (ad (420 + k))), (2, .int found), (3, .int guard), (4, .ref v48_4), (5, .int v48_5)], [.ref (ad (420 + k)), .ref v48_4])) rfl ?_
        have hw := hX48.wac hk (m := v48_5) (by omega) (by omega)
        have hw0 := hw.1
        have hw1 := hw.2
        refine y_get hS tq_X12_response (v := .ref (ad (440 + k))) rfl fg_X12_243_X11 (hX48.in (by assumption)) rfl ?_
        refine y_blk 1 tq_X12_response (z := (78, [(0, .ref (ad 200)), (1, .ref (ad (420 + k))), (2, .int found), (3, .int guard), (4, .ref v48_4), (5, .int v48_5)], [.int v48_5, .ref (ad (440 + k)), .ref v48_4])) rfl ?_
        refine y_iald hS tq_X12_response rfl (hX48.wa (by assumption)) (by first | exact yIn (by decide) (by decide) | exact yIn (by assumption) (by assumption) | (exact yIn (by omega) (by omega))) ?_
        refine y_blk 0 tq_X12_response (z := (79, [(0, .ref (ad 200)), (1, .ref (ad (420 + k))), (2, .int found), (3, .int guard), (4, .ref v48_4), (5, .int v48_5)], [.int ((rV ρ (440 + k)) (Int32.toNatClampNeg v48_5)), .ref v48_4])) rfl ?_
        refine y_iald hS tq_X12_response rfl pA448 (by first | exact yIn (by decide) (by decide) | exact yIn (by assumption) (by assumption) | (exact yIn (by omega) (by omega))) ?_
        refine y_blk 3 tq_X12_response (z := (84, [(0, .ref (ad 200)), (1, .ref (ad (420 + k))), (2, .int found), (3, .int guard), (4, .ref v48_4), (5, .int v48_5)], [.int (v48_5 - found), .int (f448 (Int32.toNatClampNeg ((rV ρ (440 + k)) (Int32.toNatClampNeg v48_5))))])) rfl ?_
        refine y_icmp_gt tq_X12_response 90 rfl rfl (fun c84 => ?_) (fun c84 => ?_)
        · skip
          refine y_blk 0 tq_X12_response (z := (90, [(0, .ref (ad 200)), (1, .ref (ad (420 + k))), (2, .int found), (3, .int guard), (4, .ref v48_4), (5, .int v48_5)], [])) rfl ?_
          exact J90 G48 f448 hX48 kt48 pA448 (by exact c53)
        · skip
          refine y_blk 1 tq_X12_response (z := (89, [(0, .ref (ad 200)), (1, .ref (ad (420 + k))), (2, .int found), (3, .int guard), (4, .ref v48_4), (5, .int v48_5)], [.int v48_5])) rfl ?_
          exact y_iret tq_X12_response rfl rfl (⟨⟨_, rfl⟩, kt48⟩)
  refine y_blk 1 tq_X12_response (z := (1, [(0, .ref (ad 200)), (1, .ref (ad (420 + k))), (2, .int found), (3, .int guard)], [.ref (ad 200)])) rfl ?_
  refine y_get hS tq_X12_response (v := .ref (ad 212)) rfl fg_X12_27_X12 hX.m rfl ?_
  refine y_blk 1 tq_X12_response (z := (5, [(0, .ref (ad 200)), (1, .ref (ad (420 + k))), (2, .int found), (3, .int guard)], [.int guard, .ref (ad 212)])) rfl ?_
  refine y_callF hS tq_X12_response rfl (As := [.int guard]) rfl cf_X12_80 (Or.inl ⟨_, (hX.ls 212 (by decide)).1⟩) (m_Rgu hS hX (by assumption) (by assumption)) rfl (by decide) (Nat.le_of_ble_eq_true rfl) (fun r5 Gc5 q5 => ?_) (fun _ _ h9 => h9.elim)
  obtain ⟨rfl, eG5⟩ := q5
  have eG5 := eG5.symm
  subst eG5
  have d5 : (Int32.toNatClampNeg guard) < rZ ρ 212 := yIx (by assumption) (by assumption)
  refine y_blk 0 tq_X12_response (z := (10, [(0, .ref (ad 200)), (1, .ref (ad (420 + k))), (2, .int found), (3, .int guard)], [.ref (ad (360 + (Int32.toNatClampNeg guard)))])) rfl ?_
  refine y_castG hS tq_X12_response rfl kc_X12_84 (Or.inl ⟨_, (hX.gu (by assumption))⟩) ?_
  refine y_blk 1 tq_X12_response (z := (14, [(0, .ref (ad 200)), (1, .ref (ad (420 + k))), (2, .int found), (3, .int guard)], [.int found, .ref (ad (360 + (Int32.toNatClampNeg guard)))])) rfl ?_
  refine y_callV hS tq_X12_response rfl (As := [.int found]) rfl cv_X12_199 (hX.gu (by assumption)) (m_X10_isOnDuty hS hI hX (k := (Int32.toNatClampNeg guard)) (by assumption) found) rfl (by decide) (Nat.le_of_ble_eq_true rfl) (fun r14 Gc14 q14 => ?_) (fun E9 G9 h9 => h9.elim)
  obtain ⟨rfl, eG14⟩ := q14
  have eG14 := eG14.symm
  subst eG14
  refine y_blk 0 tq_X12_response (z := (17, [(0, .ref (ad 200)), (1, .ref (ad (420 + k))), (2, .int found), (3, .int guard)], [.int (if (rF ρ (360 + (Int32.toNatClampNeg guard)) 0) ≤ found ∧ found ≤ (rF ρ (360 + (Int32.toNatClampNeg guard)) 1) then 1 else 0)])) rfl ?_
  refine y_if_ne tq_X12_response 22 rfl rfl (fun c17 => ?_) (fun c17 => ?_)
  · skip
    have hd := yif1 c17
    refine y_blk 2 tq_X12_response (z := (24, [(0, .ref (ad 200)), (1, .ref (ad (420 + k))), (2, .int found), (3, .int guard)], [.ref (ad 200), .ref (ad 200)])) rfl ?_
    refine y_get hS tq_X12_response (v := .ref (ad 212)) rfl fg_X12_27_X12 hX.m rfl ?_
    refine y_blk 1 tq_X12_response (z := (28, [(0, .ref (ad 200)), (1, .ref (ad (420 + k))), (2, .int found), (3, .int guard)], [.int guard, .ref (ad 212), .ref (ad 200)])) rfl ?_
    refine y_callF hS tq_X12_response rfl (As := [.int guard]) rfl cf_X12_80 (Or.inl ⟨_, (hX.ls 212 (by decide)).1⟩) (m_Rgu hS hX (by assumption) (by assumption)) rfl (by decide) (Nat.le_of_ble_eq_true rfl) (fun r28 Gc28 q28 => ?_) (fun _ _ h9 => h9.elim)
    obtain ⟨rfl, eG28⟩ := q28
    have eG28 := eG28.symm
    subst eG28
    have d28 : (Int32.toNatClampNeg guard) < rZ ρ 212 := yIx (by assumption) (by assumption)
    refine y_blk 0 tq_X12_response (z := (33, [(0, .ref (ad 200)), (1, .ref (ad (420 + k))), (2, .int found), (3, .int guard)], [.ref (ad (360 + (Int32.toNatClampNeg guard))), .ref (ad 200)])) rfl ?_
    refine y_castG hS tq_X12_response rfl kc_X12_84 (Or.inl ⟨_, (hX.gu (by assumption))⟩) ?_
    refine y_blk 1 tq_X12_response (z := (37, [(0, .ref (ad 200)), (1, .ref (ad (420 + k))), (2, .int found), (3, .int guard)], [.int found, .ref (ad (360 + (Int32.toNatClampNeg guard))), .ref (ad 200)])) rfl ?_
    refine y_callV hS tq_X12_response rfl (As := [.int found]) rfl cv_X12_124 (hX.gu (by assumption)) (m_X10_place_d hS hI hX (k := (Int32.toNatClampNeg guard)) (by assumption) found (by assumption)) rfl (by decide) (Nat.le_of_ble_eq_true rfl) (fun r37 Gc37 q37 => ?_) (fun E9 G9 h9 => h9.elim)
    obtain ⟨⟨x37, hr_x37, rfl⟩, eG37⟩ := q37
    have eG37 := eG37.symm
    subst eG37
    refine y_blk 0 tq_X12_response (z := (40, [(0, .ref (ad 200)), (1, .ref (ad (420 + k))), (2, .int found), (3, .int guard)], [.int x37, .ref (ad 200)])) rfl ?_
    refine y_callV hS tq_X12_response rfl (As := [.int x37]) rfl cv_X12_250 hX.m (m_X12_steps hS hI hX x37 (by first | (with_reducible assumption) | (with_reducible exact hX.lac (by assumption)) | (with_reducible exact hX.poc (by assumption)) | (with_reducible exact hX.wac (by assumption) (by assumption) (by omega)) | assumption | exact hX.lac (by assumption) | exact hX.poc (by assumption) | exact hX.wac (by assumption) (by assumption) (by omega))) rfl (by decide) (Nat.le_of_ble_eq_true rfl) (fun r40 Gc40 q40 => ?_) (fun E9 G9 h9 => h9.elim)
    obtain ⟨a40, f40, rfl, hA40, kt40⟩ := q40
    have hX40 := hX.kp (kt40.narrow kA_R)
    have ktt40 := ((yTg.rfl' (f := kA) (G := G))).trans kt40
    refine y_blk 3 tq_X12_response (z := (48, [(5, .int found), (4, .ref a40), (0, .ref (ad 200)), (1, .ref (ad (420 + k))), (2, .int found), (3, .int guard)], [])) rfl ?_
    refine y_pick (L2 := [(0, .ref (ad 200)), (1, .ref (ad (420 + k))), (2, .int found), (3, .int guard), (4, .ref a40), (5, .int found)]) [2, 3, 4, 5, 1, 0] rfl ?_
    exact J48 _ a40 found Gc40 f40 hX40 ktt40 hA40 (by first | decide | assumption | exact Int.le_refl _ | exact yposgtL (by assumption) c53 (by decide)) rfl
  · skip
    refine y_blk 1 tq_X12_response (z := (21, [(0, .ref (ad 200)), (1, .ref (ad (420 + k))), (2, .int found), (3, .int guard)], [.int (-1)])) rfl ?_
    exact y_iret tq_X12_response rfl rfl (⟨⟨_, rfl⟩, (yTg.rfl' (f := kA) (G := G))⟩)
set_option maxHeartbeats 4000000 in
set_option maxRecDepth 100000 in
theorem m_X12_responseNow {l : Launch} {S0 : State} {A0 : Array Value} {D : va_G} {aC : Nat → ClassId} {ic : Int32 → Nat} {de : Nat} {ad : Nat → Nat} {G : AH} {ρ : RS} (hS : yS l S0 A0 D aC) (hI : yIc S0 ic de) (hX : atR aC ic de ad G ρ) {k : Nat} (hk : k < rZ ρ 215) (isGuard : Int32) : yM l S0 D yX12_responseNow cX12_responseNow 8 (some .int) 22 12 768 [.ref (ad 200), .ref (ad (420 + k)), .int isGuard] G (fun r G1 => (∃ v : Int32, r = some (.int v)) ∧ yTg kA G G1) (fun _ _ => False) := by
  refine yM.ofK K_X12_responseNow rfl (by decide) (Nat.le_of_ble_eq_true rfl) ?_
  have J91 : ∀ (v91_3 : Int32) (v91_4 : Int32) (v91_5 : Int32) (v91_6 : Int32) (w91_0 : Int32) (G91 : AH) (hX91 : atR aC ic de ad G91 ρ) (kt91 : yTg kA G G91), Y l S0 D K_X12_responseNow 22 12 768 (fun r G1 => (∃ v : Int32, r = some (.int v)) ∧ yTg kA G G1) (fun _ _ => False) 91 [(0, .ref (ad 200)), (1, .ref (ad (420 + k))), (2, .int isGuard), (3, .int v91_3), (4, .int v91_4), (5, .int v91_5), (6, .int v91_6)] [.int w91_0] G91 0 0 := by
    intro v91_3 v91_4 v91_5 v91_6 w91_0 G91 hX91 kt91
    exact y_iret tq_X12_responseNow rfl rfl (⟨⟨_, rfl⟩, kt91⟩)
  have J80 : ∀ (v80_3 : Int32) (v80_4 : Int32) (v80_5 : Int32) (v80_6 : Int32) (G80 : AH) (hX80 : atR aC ic de ad G80 ρ) (kt80 : yTg kA G G80), Y l S0 D K_X12_responseNow 22 12 768 (fun r G1 => (∃ v : Int32, r = some (.int v)) ∧ yTg kA G G1) (fun _ _ => False) 80 [(0, .ref (ad 200)), (1, .ref (ad (420 + k))), (2, .int isGuard), (3, .int v80_3), (4, .int v80_4), (5, .int v80_5), (6, .int v80_6)] [] G80 0 0 := by
    intro v80_3 v80_4 v80_5 v80_6 G80 hX80 kt80
    refine y_blk 1 tq_X12_responseNow (z := (81, [(0, .ref (ad 200)), (1, .ref (ad (420 + k))), (2, .int isGuard), (3, .int v80_3), (4, .int v80_4), (5, .int v80_5), (6, .int v80_6)], [.int isGuard])) rfl ?_
    refine y_if_eq tq_X12_responseNow 89 rfl rfl (fun c81 => ?_) (fun c81 => ?_)
    · skip
      refine y_blk 1 tq_X12_responseNow (z := (91, [(0, .ref (ad 200)), (1, .ref (ad (420 + k))), (2, .int isGuard), (3, .int v80_3), (4, .int v80_4), (5, .int v80_5), (6, .int v80_6)], [.int v80_4])) rfl ?_
      exact J91 v80_3 v80_4 v80_5 v80_6 v80_4 G80 hX80 kt80
    · skip
      refine y_blk 2 tq_X12_responseNow (z := (91, [(0, .ref (ad 200)), (1, .ref (ad (420 + k))), (2, .int isGuard), (3, .int v80_3), (4, .int v80_4), (5, .int v80_5), (6, .int v80_6)], [.int v80_5])) rfl ?_
      exact J91 v80_3 v80_4 v80_5 v80_6 v80_5 G80 hX80 kt80
  have J15 : ∀ (n15 : Nat) (v15_3 : Int32) (v15_4 : Int32) (v15_5 : Int32) (v15_6 : Int32) (G15 : AH) (hX15 : atR aC ic de ad G15 ρ) (kt15 : yTg kA G G15) (h0_15 : 0 ≤ v15_6.toInt) (hfd_ : (v15_3 = -1 ∨ ((rF ρ (420 + k) 0).toInt ≤ v15_3.toInt ∧ v15_3.toInt ≤ 239))), ((Int32.ofNat (rZ ρ 212) : Int32).toInt - v15_6.toInt).toNat = n15 → Y l S0 D K_X12_responseNow 22 12 768 (fun r G1 => (∃ v : Int32, r = some (.int v)) ∧ yTg kA G G1) (fun _ _ => False) 15 [(0, .ref (ad 200)), (1, .ref (ad (420 + k))), (2, .int isGuard), (3, .int v15_3), (4, .int v15_4), (5, .int v15_5), (6, .int v15_6)] [] G15 (2 * (6 - (Int32.toInt v15_6).toNat)) (128 * (6 - (Int32.toInt v15_6).toNat)) := by
    intro n15
    induction n15 using Nat.strongRecOn with
    | _ n15 ih15 =>
    intro v15_3 v15_4 v15_5 v15_6 G15 hX15 kt15 h0_15 hfd_ hn15
    subst hn15
    have J74 : ∀ (v74_4 : Int32) (v74_5 : Int32) (v74_7 : Int32) (G74 : AH) (hX74 : atR aC ic de ad G74 ρ) (kt74 : yTg kA G G74) (c26 : ¬ (Int32.ofNat (rZ ρ 212) : Int32) ≤ v15_6), Y l S0 D K_X12_responseNow 22 12 768 (fun r G1 => (∃ v : Int32, r = some (.int v)) ∧ yTg kA G G1) (fun _ _ => False) 74 [(0, .ref (ad 200)), (1, .ref (ad (420 + k))), (2, .int isGuard), (3, .int v15_3), (4, .int v74_4), (5, .int v74_5), (6, .int v15_6), (7, .int v74_7)] [] G74 (2 * (5 - (Int32.toInt v15_6).toNat)) (128 * (5 - (Int32.toInt v15_6).toNat)) := by
      intro v74_4 v74_5 v74_7 G74 hX74 kt74 c26
      have hn26 := hX.2.le10 212 (by decide)
      have b26 : v15_6.toInt < rZ ρ 212 := yIy (by omega) h0_15 c26
      have d26 : Int32.toNatClampNeg v15_6 < rZ ρ 212 := yIx h0_15 b26
      have g6 := hX.2.2.1.2.2.1
      have e6 : (v15_6 + 1).toInt = v15_6.toInt + 1 := by rw [yadd (by rw [yl_1]; omega) (by rw [yl_1]; omega), yl_1]
      refine y_blk 2 tq_X12_responseNow (z := (15, [(6, .int (v15_6 + 1)), (0, .ref (ad 200)), (1, .ref (ad (420 + k))), (2, .int isGuard), (3, .int v15_3), (4, .int v74_4), (5, .int v74_5), (7, .int v74_7)], [])) rfl ?_
      refine y_less (k2 := 2 * (6 - (Int32.toInt (v15_6 + 1)).toNat)) (n2 := 128 * (6 - (Int32.toInt (v15_6 + 1)).toNat)) (by first | decide | omega | (simp only [Nat.mul_eq]; omega) | (rw [e6]; omega) | (simp only [Nat.mul_eq, e6]; omega)) (by first | decide | omega | (simp only [Nat.mul_eq]; omega) | (rw [e6]; omega) | (simp only [Nat.mul_eq, e6]; omega)) ?_
      refine y_pick (L2 := [(0, .ref (ad 200)), (1, .ref (ad (420 + k))), (2, .int isGuard), (3, .int v15_3), (4, .int v74_4), (5, .int v74_5), (6, .int (v15_6 + 1))]) [1, 2, 3, 4, 5, 6, 0] rfl ?_
      exact ih15 _ (by exact ydec c26) v15_3 v74_4 v74_5 (v15_6 + 1) G74 hX74 kt74 (by first | decide | exact yposgeL (by assumption) c26) (by first | exact hr_x2 | assumption) rfl
    have J66 : ∀ (v66_7 : Int32) (G66 : AH) (hX66 : atR aC ic de ad G66 ρ) (kt66 : yTg kA G G66) (c26 : ¬ (Int32.ofNat (rZ ρ 212) : Int32) ≤ v15_6), Y l S0 D K_X12_responseNow 22 12 768 (fun r G1 => (∃ v : Int32, r = some (.int v)) ∧ yTg kA G G1) (fun _ _ => False) 66 [(0, .ref (ad 200)), (1, .ref (ad (420 + k))), (2, .int isGuard), (3, .int v15_3), (4, .int v15_4), (5, .int v15_5), (6, .int v15_6), (7, .int v66_7)] [] G66 (2 * (5 - (Int32.toInt v15_6).toNat)) (128 * (5 - (Int32.toInt v15_6).toNat)) := by
      intro v66_7 G66 hX66 kt66 c26
      have hn26 := hX.2.le10 212 (by decide)
      have b26 : v15_6.toInt < rZ ρ 212 := yIy (by omega) h0_15 c26
      have d26 : Int32.toNatClampNeg v15_6 < rZ ρ 212 := yIx h0_15 b26
      have g6 := hX.2.2.1.2.2.1
      have e6 : (v15_6 + 1).toInt = v15_6.toInt + 1 := by rw [yadd (by rw [yl_1]; omega) (by rw [yl_1]; omega), yl_1]
      refine y_blk 4 tq_X12_responseNow (z := (74, [(5, .int v15_6), (4, .int v66_7), (0, .ref (ad 200)), (1, .ref (ad (420 + k))), (2, .int isGuard), (3, .int v15_3), (6, .int v15_6), (7, .int v66_7)], [])) rfl ?_
      refine y_pick (L2 := [(0, .ref (ad 200)), (1, .ref (ad (420 + k))), (2, .int isGuard), (3, .int v15_3), (4, .int v66_7), (5, .int v15_6), (6, .int v15_6), (7, .int v66_7)]) [2, 3, 4, 5, 1, 0, 6, 7] rfl ?_
      exact J74 v66_7 v15_6 v66_7 G66 hX66 kt66 (by exact c26)
    refine y_blk 2 tq_X12_responseNow (z := (18, [(0, .ref (ad 200)), (1, .ref (ad (420 + k))), (2, .int isGuard), (3, .int v15_3), (4, .int v15_4), (5, .int v15_5), (6, .int v15_6)], [.ref (ad 200), .int v15_6])) rfl ?_
    refine y_get hS tq_X12_responseNow (v := .ref (ad 212)) rfl fg_X12_27_X12 hX15.m rfl ?_
    refine y_blk 0 tq_X12_responseNow (z := (21, [(0, .ref (ad 200)), (1, .ref (ad (420 + k))), (2, .int isGuard), (3, .int v15_3), (4, .int v15_4), (5, .int v15_5), (6, .int v15_6)], [.ref (ad 212), .int v15_6])) rfl ?_
    refine y_callF hS tq_X12_responseNow rfl (As := []) rfl cf_X12_58 (Or.inl ⟨_, (hX15.ls 212 (by decide)).1⟩) (m_Jsize hS (hX15.ls 212 (by decide))) rfl (by decide) (Nat.le_of_ble_eq_true rfl) (fun r21 Gc21 q21 => ?_) (fun _ _ h9 => h9.elim)
    obtain ⟨rfl, eG21⟩ := q21
    have eG21 := eG21.symm
    subst eG21
    refine y_blk 0 tq_X12_responseNow (z := (26, [(0, .ref (ad 200)), (1, .ref (ad (420 + k))), (2, .int isGuard), (3, .int v15_3), (4, .int v15_4), (5, .int v15_5), (6, .int v15_6)], [.int (Int32.ofNat (rZ ρ 212)), .int v15_6])) rfl ?_
    refine y_icmp_ge tq_X12_responseNow 80 rfl rfl (fun c26 => ?_) (fun c26 => ?_)
    · skip
      refine y_blk 0 tq_X12_responseNow (z := (80, [(0, .ref (ad 200)), (1, .ref (ad (420 + k))), (2, .int isGuard), (3, .int v15_3), (4, .int v15_4), (5, .int v15_5), (6, .int v15_6)], [])) rfl ?_
      refine y_less (k2 := 0) (n2 := 0) (Nat.zero_le _) (Nat.zero_le _) ?_
      exact J80 v15_3 v15_4 v15_5 v15_6 G15 hX15 kt15
    · skip
      have hn26 := hX.2.le10 212 (by decide)
      have b26 : v15_6.toInt < rZ ρ 212 := yIy (by omega) h0_15 c26
      have d26 : Int32.toNatClampNeg v15_6 < rZ ρ 212 := yIx h0_15 b26
      have g6 := hX.2.2.1.2.2.1
      have e6 : (v15_6 + 1).toInt = v15_6.toInt + 1 := by rw [yadd (by rw [yl_1]; omega) (by rw [yl_1]; omega), yl_1]
      refine y_blk 2 tq_X12_responseNow (z := (31, [(0, .ref (ad 200)), (1, .ref (ad (420 + k))), (2, .int isGuard), (3, .int v15_3), (4, .int v15_4), (5, .int v15_5), (6, .int v15_6)], [.int (-1), .int v15_3])) rfl ?_
      refine y_icmp_eq tq_X12_responseNow 80 rfl rfl (fun c31 => ?_) (fun c31 => ?_)
      · skip
        refine y_blk 0 tq_X12_responseNow (z := (80, [(0, .ref (ad 200)), (1, .ref (ad (420 + k))), (2, .int isGuard), (3, .int v15_3), (4, .int v15_4), (5, .int v15_5), (6, .int v15_6)], [])) rfl ?_
        refine y_less (k2 := 0) (n2 := 0) (Nat.zero_le _) (Nat.zero_le _) ?_
        exact J80 v15_3 v15_4 v15_5 v15_6 G15 hX15 kt15
      · skip
        have hfd := hfd_.resolve_left c31
        have hf0 := hfd.1
        refine y_blk 4 tq_X12_responseNow (z := (39, [(0, .ref (ad 200)), (1, .ref (ad (420 + k))), (2, .int isGuard), (3, .int v15_3), (4, .int v15_4), (5, .int v15_5), (6, .int v15_6)], [.int v15_6, .int v15_3, .ref (ad (420 + k)), .ref (ad 200)])) rfl ?_
        refine y_less (k2 := 2 * (5 - (Int32.toInt v15_6).toNat) + 2) (n2 := 128 * (5 - (Int32.toInt v15_6).toNat) + 128) (by first | omega | (simp only [Nat.mul_eq]; omega)) (by first | omega | (simp only [Nat.mul_eq]; omega)) ?_
        refine y_callV hS tq_X12_responseNow rfl (As := [.ref (ad (420 + k)), .int v15_3, .int v15_6]) rfl cv_X12_258 hX15.m (m_X12_response hS hI hX15 (k := k) (by assumption) v15_3 v15_6 (by assumption) (by assumption) (by assumption)) rfl (by decide) (Nat.le_of_ble_eq_true rfl) (fun r39 Gc39 q39 => ?_) (fun E9 G9 h9 => h9.elim)
        obtain ⟨⟨x39, rfl⟩, kt39⟩ := q39
        have hX39 := hX15.kp (kt39.narrow kA_R)
        have ktt39 := (kt15).trans kt39
        refine y_blk 3 tq_X12_responseNow (z := (47, [(7, .int x39), (0, .ref (ad 200)), (1, .ref (ad (420 + k))), (2, .int isGuard), (3, .int v15_3), (4, .int v15_4), (5, .int v15_5), (6, .int v15_6)], [.int (-1), .int x39])) rfl ?_
        refine y_icmp_eq tq_X12_responseNow 74 rfl rfl (fun c47 => ?_) (fun c47 => ?_)
        · skip
          refine y_blk 0 tq_X12_responseNow (z := (74, [(7, .int x39), (0, .ref (ad 200)), (1, .ref (ad (420 + k))), (2, .int isGuard), (3, .int v15_3), (4, .int v15_4), (5, .int v15_5), (6, .int v15_6)], [])) rfl ?_
          refine y_pick (L2 := [(0, .ref (ad 200)), (1, .ref (ad (420 + k))), (2, .int isGuard), (3, .int v15_3), (4, .int v15_4), (5, .int v15_5), (6, .int v15_6), (7, .int x39)]) [1, 2, 3, 4, 5, 6, 7, 0] rfl ?_
          exact J74 v15_4 v15_5 x39 Gc39 hX39 ktt39 (by exact c26)
        · skip
          refine y_blk 2 tq_X12_responseNow (z := (53, [(7, .int x39), (0, .ref (ad 200)), (1, .ref (ad (420 + k))), (2, .int isGuard), (3, .int v15_3), (4, .int v15_4), (5, .int v15_5), (6, .int v15_6)], [.int (-1), .int v15_4])) rfl ?_
          refine y_icmp_eq tq_X12_responseNow 66 rfl rfl (fun c53 => ?_) (fun c53 => ?_)
          · skip
            refine y_blk 0 tq_X12_responseNow (z := (66, [(7, .int x39), (0, .ref (ad 200)), (1, .ref (ad (420 + k))), (2, .int isGuard), (3, .int v15_3), (4, .int v15_4), (5, .int v15_5), (6, .int v15_6)], [])) rfl ?_
            refine y_pick (L2 := [(0, .ref (ad 200)), (1, .ref (ad (420 + k))), (2, .int isGuard), (3, .int v15_3), (4, .int v15_4), (5, .int v15_5), (6, .int v15_6), (7, .int x39)]) [1, 2, 3, 4, 5, 6, 7, 0] rfl ?_
            exact J66 x39 Gc39 hX39 ktt39 (by exact c26)
          · skip
            refine y_blk 2 tq_X12_responseNow (z := (60, [(7, .int x39), (0, .ref (ad 200)), (1, .ref (ad (420 + k))), (2, .int isGuard), (3, .int v15_3), (4, .int v15_4), (5, .int v15_5), (6, .int v15_6)], [.int v15_4, .int x39])) rfl ?_
            refine y_icmp_lt tq_X12_responseNow 66 rfl rfl (fun c60 => ?_) (fun c60 => ?_)
            · skip
              refine y_blk 0 tq_X12_responseNow (z := (66, [(7, .int x39), (0, .ref (ad 200)), (1, .ref (ad (420 + k))), (2, .int isGuard), (3, .int v15_3), (4, .int v15_4), (5, .int v15_5), (6, .int v15_6)], [])) rfl ?_
              refine y_pick (L2 := [(0, .ref (ad 200)), (1, .ref (ad (420 + k))), (2, .int isGuard), (3, .int v15_3), (4, .int v15_4), (5, .int v15_5), (6, .int v15_6), (7, .int x39)]) [1, 2, 3, 4, 5, 6, 7, 0] rfl ?_
              exact J66 x39 Gc39 hX39 ktt39 (by exact c26)
            · skip
              refine y_blk 1 tq_X12_responseNow (z := (74, [(7, .int x39), (0, .ref (ad 200)), (1, .ref (ad (420 + k))), (2, .int isGuard), (3, .int v15_3), (4, .int v15_4), (5, .int v15_5), (6, .int v15_6)], [])) rfl ?_
              refine y_pick (L2 := [(0, .ref (ad 200)), (1, .ref (ad (420 + k))), (2, .int isGuard), (3, .int v15_3), (4, .int v15_4), (5, .int v15_5), (6, .int v15_6), (7, .int x39)]) [1, 2, 3, 4, 5, 6, 7, 0] rfl ?_
              exact J74 v15_4 v15_5 x39 Gc39 hX39 ktt39 (by exact c26)
  refine y_blk 2 tq_X12_responseNow (z := (2, [(0, .ref (ad 200)), (1, .ref (ad (420 + k))), (2, .int isGuard)], [.ref (ad (420 + k)), .ref (ad 200)])) rfl ?_
  refine y_callV hS tq_X12_responseNow rfl (As := [.ref (ad (420 + k))]) rfl cv_X12_254 hX.m (m_X12_foundNow hS hI hX (k := k) (by assumption) ) rfl (by decide) (Nat.le_of_ble_eq_true rfl) (fun r2 Gc2 q2 => ?_) (fun E9 G9 h9 => h9.elim)
  obtain ⟨⟨x2, hr_x2, rfl⟩, eG2⟩ := q2
  have eG2 := eG2.symm
  subst eG2
  refine y_blk 7 tq_X12_responseNow (z := (15, [(6, .int 0), (5, .int (-1)), (4, .int (-1)), (3, .int x2), (0, .ref (ad 200)), (1, .ref (ad (420 + k))), (2, .int isGuard)], [])) rfl ?_
  refine y_less (k2 := 2 * (6 - (Int32.toInt 0).toNat)) (n2 := 128 * (6 - (Int32.toInt 0).toNat)) (by first | decide | omega | (simp only [Nat.mul_eq]; omega) | (rw [e6]; omega) | (simp only [Nat.mul_eq, e6]; omega)) (by first | decide | omega | (simp only [Nat.mul_eq]; omega) | (rw [e6]; omega) | (simp only [Nat.mul_eq, e6]; omega)) ?_
  refine y_pick (L2 := [(0, .ref (ad 200)), (1, .ref (ad (420 + k))), (2, .int isGuard), (3, .int x2), (4, .int (-1)), (5, .int (-1)), (6, .int 0)]) [4, 5, 6, 3, 2, 1, 0] rfl ?_
  exact J15 _ x2 (-1) (-1) 0 G hX (yTg.rfl' (f := kA) (G := G)) (by first | decide | exact yposgeL (by assumption) c26) (by first | exact hr_x2 | assumption) rfl
set_option maxHeartbeats 4000000 in
set_option maxRecDepth 100000 in
theorem m_X12_intruderNow {l : Launch} {S0 : State} {A0 : Array Value} {D : va_G} {aC : Nat → ClassId} {ic : Int32 → Nat} {de : Nat} {ad : Nat → Nat} {G : AH} {ρ : RS} (hS : yS l S0 A0 D aC) (hI : yIc S0 ic de) (hX : atR aC ic de ad G ρ) (intruder : Int32) (what : Int32) (hi0 : 0 ≤ intruder.toInt) (hi1 : intruder.toInt < rZ ρ 215) : yM l S0 D yX12_intruderNow cX12_intruderNow 5 (some .int) 23 12 768 [.ref (ad 200), .int intruder, .int what] G (fun r G1 => (∃ v : Int32, r = some (.int v)) ∧ yTg kA G G1) (fun _ _ => False) := by
  refine yM.ofK K_X12_intruderNow rfl (by decide) (Nat.le_of_ble_eq_true rfl) ?_
  refine y_blk 1 tq_X12_intruderNow (z := (1, [(0, .ref (ad 200)), (1, .int intruder), (2, .int what)], [.ref (ad 200)])) rfl ?_
  refine y_get hS tq_X12_intruderNow (v := .ref (ad 215)) rfl fg_X12_42_X12 hX.m rfl ?_
  refine y_blk 1 tq_X12_intruderNow (z := (5, [(0, .ref (ad 200)), (1, .int intruder), (2, .int what)], [.int intruder, .ref (ad 215)])) rfl ?_
  refine y_callF hS tq_X12_intruderNow rfl (As := [.int intruder]) rfl cf_X12_80 (Or.inl ⟨_, (hX.ls 215 (by decide)).1⟩) (m_Rin hS hX (by assumption) (by assumption)) rfl (by decide) (Nat.le_of_ble_eq_true rfl) (fun r5 Gc5 q5 => ?_) (fun _ _ h9 => h9.elim)
  obtain ⟨rfl, eG5⟩ := q5
  have eG5 := eG5.symm
  subst eG5
  have d5 : (Int32.toNatClampNeg intruder) < rZ ρ 215 := yIx (by assumption) (by assumption)
  refine y_blk 0 tq_X12_intruderNow (z := (10, [(0, .ref (ad 200)), (1, .int intruder), (2, .int what)], [.ref (ad (420 + (Int32.toNatClampNeg intruder)))])) rfl ?_
  refine y_castG hS tq_X12_intruderNow rfl kc_X12_152 (Or.inl ⟨_, (hX.in (by assumption))⟩) ?_
  refine y_blk 2 tq_X12_intruderNow (z := (15, [(3, .ref (ad (420 + (Int32.toNatClampNeg intruder)))), (0, .ref (ad 200)), (1, .int intruder), (2, .int what)], [.int what])) rfl ?_
  by_cases s15_0 : what = 0
  · refine y_swIn tq_X12_intruderNow 60 rfl (by rw [s15_0]; decide) (by rw [s15_0]; decide) (by rw [s15_0]; rfl) rfl ?_
    refine y_blk 1 tq_X12_intruderNow (z := (61, [(3, .ref (ad (420 + (Int32.toNatClampNeg intruder)))), (0, .ref (ad 200)), (1, .int intruder), (2, .int what)], [.ref (ad (420 + (Int32.toNatClampNeg intruder)))])) rfl ?_
    refine y_get hS tq_X12_intruderNow (v := .int (rF ρ (420 + (Int32.toNatClampNeg intruder)) 0)) rfl fg_X12_249_X11 (hX.in (by assumption)) rfl ?_
    refine y_blk 0 tq_X12_intruderNow (z := (64, [(3, .ref (ad (420 + (Int32.toNatClampNeg intruder)))), (0, .ref (ad 200)), (1, .int intruder), (2, .int what)], [.int (rF ρ (420 + (Int32.toNatClampNeg intruder)) 0)])) rfl ?_
    exact y_iret tq_X12_intruderNow rfl rfl (⟨⟨_, rfl⟩, (yTg.rfl' (f := kA) (G := G))⟩)
  by_cases s15_1 : what = 1
  · refine y_swIn tq_X12_intruderNow 65 rfl (by rw [s15_1]; decide) (by rw [s15_1]; decide) (by rw [s15_1]; rfl) rfl ?_
    refine y_blk 1 tq_X12_intruderNow (z := (66, [(3, .ref (ad (420 + (Int32.toNatClampNeg intruder)))), (0, .ref (ad 200)), (1, .int intruder), (2, .int what)], [.ref (ad (420 + (Int32.toNatClampNeg intruder)))])) rfl ?_
    refine y_get hS tq_X12_intruderNow (v := .int (rF ρ (420 + (Int32.toNatClampNeg intruder)) 1)) rfl fg_X12_234_X11 (hX.in (by assumption)) rfl ?_
    refine y_blk 0 tq_X12_intruderNow (z := (69, [(3, .ref (ad (420 + (Int32.toNatClampNeg intruder)))), (0, .ref (ad 200)), (1, .int intruder), (2, .int what)], [.int (rF ρ (420 + (Int32.toNatClampNeg intruder)) 1)])) rfl ?_
    exact y_iret tq_X12_intruderNow rfl rfl (⟨⟨_, rfl⟩, (yTg.rfl' (f := kA) (G := G))⟩)
  by_cases s15_2 : what = 2
  · refine y_swIn tq_X12_intruderNow 70 rfl (by rw [s15_2]; decide) (by rw [s15_2]; decide) (by rw [s15_2]; rfl) rfl ?_
    refine y_blk 1 tq_X12_intruderNow (z := (71, [(3, .ref (ad (420 + (Int32.toNatClampNeg intruder)))), (0, .ref (ad 200)), (1, .int intruder), (2, .int what)], [.ref (ad (420 + (Int32.toNatClampNeg intruder)))])) rfl ?_
    refine y_get hS tq_X12_intruderNow (v := .ref (ad (440 + (Int32.toNatClampNeg intruder)))) rfl fg_X12_243_X11 (hX.in (by assumption)) rfl ?_
    refine y_blk 1 tq_X12_intruderNow (z := (77, [(3, .ref (ad (420 + (Int32.toNatClampNeg intruder)))), (0, .ref (ad 200)), (1, .int intruder), (2, .int what)], [.int 239, .ref (ad (440 + (Int32.toNatClampNeg intruder)))])) rfl ?_
    refine y_iald hS tq_X12_intruderNow rfl (hX.wa (by assumption)) (by first | exact yIn (by decide) (by decide) | exact yIn (by assumption) (by assumption) | (exact yIn (by omega) (by omega))) ?_
    refine y_blk 0 tq_X12_intruderNow (z := (78, [(3, .ref (ad (420 + (Int32.toNatClampNeg intruder)))), (0, .ref (ad 200)), (1, .int intruder), (2, .int what)], [.int ((rV ρ (440 + (Int32.toNatClampNeg intruder))) (Int32.toNatClampNeg 239))])) rfl ?_
    exact y_iret tq_X12_intruderNow rfl rfl (⟨⟨_, rfl⟩, (yTg.rfl' (f := kA) (G := G))⟩)
  by_cases s15_3 : what = 3
  · refine y_swIn tq_X12_intruderNow 79 rfl (by rw [s15_3]; decide) (by rw [s15_3]; decide) (by rw [s15_3]; rfl) rfl ?_
    refine y_blk 2 tq_X12_intruderNow (z := (81, [(3, .ref (ad (420 + (Int32.toNatClampNeg intruder)))), (0, .ref (ad 200)), (1, .int intruder), (2, .int what)], [.ref (ad (420 + (Int32.toNatClampNeg intruder))), .ref (ad 200)])) rfl ?_
    refine y_callV hS tq_X12_intruderNow rfl (As := [.ref (ad (420 + (Int32.toNatClampNeg intruder)))]) rfl cv_X12_254 hX.m (m_X12_foundNow hS hI hX (k := (Int32.toNatClampNeg intruder)) (by assumption) ) rfl (by decide) (Nat.le_of_ble_eq_true rfl) (fun r81 Gc81 q81 => ?_) (fun E9 G9 h9 => h9.elim)
    obtain ⟨⟨x81, hr_x81, rfl⟩, eG81⟩ := q81
    have eG81 := eG81.symm
    subst eG81
    refine y_blk 0 tq_X12_intruderNow (z := (84, [(3, .ref (ad (420 + (Int32.toNatClampNeg intruder)))), (0, .ref (ad 200)), (1, .int intruder), (2, .int what)], [.int x81])) rfl ?_
    exact y_iret tq_X12_intruderNow rfl rfl (⟨⟨_, rfl⟩, (yTg.rfl' (f := kA) (G := G))⟩)
  by_cases s15_4 : what = 4
  · refine y_swIn tq_X12_intruderNow 85 rfl (by rw [s15_4]; decide) (by rw [s15_4]; decide) (by rw [s15_4]; rfl) rfl ?_
    refine y_blk 2 tq_X12_intruderNow (z := (87, [(3, .ref (ad (420 + (Int32.toNatClampNeg intruder)))), (0, .ref (ad 200)), (1, .int intruder), (2, .int what)], [.ref (ad (420 + (Int32.toNatClampNeg intruder))), .ref (ad 200)])) rfl ?_
    refine y_callV hS tq_X12_intruderNow rfl (As := [.ref (ad (420 + (Int32.toNatClampNeg intruder)))]) rfl cv_X12_254 hX.m (m_X12_foundNow hS hI hX (k := (Int32.toNatClampNeg intruder)) (by assumption) ) rfl (by decide) (Nat.le_of_ble_eq_true rfl) (fun r87 Gc87 q87 => ?_) (fun E9 G9 h9 => h9.elim)
    obtain ⟨⟨x87, hr_x87, rfl⟩, eG87⟩ := q87
    have eG87 := eG87.symm
    subst eG87
    refine y_blk 3 tq_X12_intruderNow (z := (95, [(4, .int x87), (3, .ref (ad (420 + (Int32.toNatClampNeg intruder)))), (0, .ref (ad 200)), (1, .int intruder), (2, .int what)], [.int (-1), .int x87])) rfl ?_
    refine y_icmp_ne tq_X12_intruderNow 102 rfl rfl (fun c95 => ?_) (fun c95 => ?_)
    · skip
      obtain ⟨hf0, hf1⟩ := hr_x87.resolve_left c95
      have hfr := (hX.2.2.2.2.1 _ d5).1
      refine y_blk 2 tq_X12_intruderNow (z := (104, [(4, .int x87), (3, .ref (ad (420 + (Int32.toNatClampNeg intruder)))), (0, .ref (ad 200)), (1, .int intruder), (2, .int what)], [.ref (ad (420 + (Int32.toNatClampNeg intruder))), .ref (ad 200)])) rfl ?_
      refine y_get hS tq_X12_intruderNow (v := .ref (ad (440 + (Int32.toNatClampNeg intruder)))) rfl fg_X12_243_X11 (hX.in (by assumption)) rfl ?_
      refine y_blk 1 tq_X12_intruderNow (z := (109, [(4, .int x87), (3, .ref (ad (420 + (Int32.toNatClampNeg intruder)))), (0, .ref (ad 200)), (1, .int intruder), (2, .int what)], [.int x87, .ref (ad (440 + (Int32.toNatClampNeg intruder))), .ref (ad 200)])) rfl ?_
      refine y_iald hS tq_X12_intruderNow rfl (hX.wa (by assumption)) (by first | exact yIn (by decide) (by decide) | exact yIn (by assumption) (by assumption) | (exact yIn (by omega) (by omega))) ?_
      refine y_blk 1 tq_X12_intruderNow (z := (112, [(4, .int x87), (3, .ref (ad (420 + (Int32.toNatClampNeg intruder)))), (0, .ref (ad 200)), (1, .int intruder), (2, .int what)], [.int x87, .int ((rV ρ (440 + (Int32.toNatClampNeg intruder))) (Int32.toNatClampNeg x87)), .ref (ad 200)])) rfl ?_
      refine y_callV hS tq_X12_intruderNow rfl (As := [.int ((rV ρ (440 + (Int32.toNatClampNeg intruder))) (Int32.toNatClampNeg x87)), .int x87]) rfl cv_X12_186 hX.m (m_X12_seers hS hI hX ((rV ρ (440 + (Int32.toNatClampNeg intruder))) (Int32.toNatClampNeg x87)) x87 (by first | (with_reducible assumption) | (with_reducible exact hX.lac (by assumption)) | (with_reducible exact hX.poc (by assumption)) | (with_reducible exact hX.wac (by assumption) (by assumption) (by omega)) | assumption | exact hX.lac (by assumption) | exact hX.poc (by assumption) | exact hX.wac (by assumption) (by assumption) (by omega))) rfl (by decide) (Nat.le_of_ble_eq_true rfl) (fun r112 Gc112 q112 => ?_) (fun E9 G9 h9 => h9.elim)
      obtain ⟨⟨x112, rfl⟩, eG112⟩ := q112
      have eG112 := eG112.symm
      subst eG112
      refine y_blk 0 tq_X12_intruderNow (z := (115, [(4, .int x87), (3, .ref (ad (420 + (Int32.toNatClampNeg intruder)))), (0, .ref (ad 200)), (1, .int intruder), (2, .int what)], [.int x112])) rfl ?_
      exact y_iret tq_X12_intruderNow rfl rfl (⟨⟨_, rfl⟩, (yTg.rfl' (f := kA) (G := G))⟩)
    · skip
      refine y_blk 2 tq_X12_intruderNow (z := (115, [(4, .int x87), (3, .ref (ad (420 + (Int32.toNatClampNeg intruder)))), (0, .ref (ad 200)), (1, .int intruder), (2, .int what)], [.int 0])) rfl ?_
      exact y_iret tq_X12_intruderNow rfl rfl (⟨⟨_, rfl⟩, (yTg.rfl' (f := kA) (G := G))⟩)
  by_cases s15_5 : what = 5
  · refine y_swIn tq_X12_intruderNow 116 rfl (by rw [s15_5]; decide) (by rw [s15_5]; decide) (by rw [s15_5]; rfl) rfl ?_
    refine y_blk 3 tq_X12_intruderNow (z := (119, [(3, .ref (ad (420 + (Int32.toNatClampNeg intruder)))), (0, .ref (ad 200)), (1, .int intruder), (2, .int what)], [.int 0, .ref (ad (420 + (Int32.toNatClampNeg intruder))), .ref (ad 200)])) rfl ?_
    refine y_callV hS tq_X12_intruderNow rfl (As := [.ref (ad (420 + (Int32.toNatClampNeg intruder))), .int 0]) rfl cv_X12_262 hX.m (m_X12_responseNow hS hI hX (k := (Int32.toNatClampNeg intruder)) (by assumption) 0) rfl (by decide) (Nat.le_of_ble_eq_true rfl) (fun r119 Gc119 q119 => ?_) (fun E9 G9 h9 => h9.elim)
    obtain ⟨⟨x119, rfl⟩, kt119⟩ := q119
    have hX119 := hX.kp (kt119.narrow kA_R)
    have ktt119 := ((yTg.rfl' (f := kA) (G := G))).trans kt119
    refine y_blk 0 tq_X12_intruderNow (z := (122, [(3, .ref (ad (420 + (Int32.toNatClampNeg intruder)))), (0, .ref (ad 200)), (1, .int intruder), (2, .int what)], [.int x119])) rfl ?_
    exact y_iret tq_X12_intruderNow rfl rfl (⟨⟨_, rfl⟩, ktt119⟩)
  by_cases s15_6 : what = 6
  · refine y_swIn tq_X12_intruderNow 123 rfl (by rw [s15_6]; decide) (by rw [s15_6]; decide) (by rw [s15_6]; rfl) rfl ?_
    refine y_blk 3 tq_X12_intruderNow (z := (126, [(3, .ref (ad (420 + (Int32.toNatClampNeg intruder)))), (0, .ref (ad 200)), (1, .int intruder), (2, .int what)], [.int 1, .ref (ad (420 + (Int32.toNatClampNeg intruder))), .ref (ad 200)])) rfl ?_
    refine y_callV hS tq_X12_intruderNow rfl (As := [.ref (ad (420 + (Int32.toNatClampNeg intruder))), .int 1]) rfl cv_X12_262 hX.m (m_X12_responseNow hS hI hX (k := (Int32.toNatClampNeg intruder)) (by assumption) 1) rfl (by decide) (Nat.le_of_ble_eq_true rfl) (fun r126 Gc126 q126 => ?_) (fun E9 G9 h9 => h9.elim)
    obtain ⟨⟨x126, rfl⟩, kt126⟩ := q126
    have hX126 := hX.kp (kt126.narrow kA_R)
    have ktt126 := ((yTg.rfl' (f := kA) (G := G))).trans kt126
    refine y_blk 0 tq_X12_intruderNow (z := (129, [(3, .ref (ad (420 + (Int32.toNatClampNeg intruder)))), (0, .ref (ad 200)), (1, .int intruder), (2, .int what)], [.int x126])) rfl ?_
    exact y_iret tq_X12_intruderNow rfl rfl (⟨⟨_, rfl⟩, ktt126⟩)
  by_cases s15_7 : what = 7
  · refine y_swIn tq_X12_intruderNow 130 rfl (by rw [s15_7]; decide) (by rw [s15_7]; decide) (by rw [s15_7]; rfl) rfl ?_
    refine y_blk 1 tq_X12_intruderNow (z := (131, [(3, .ref (ad (420 + (Int32.toNatClampNeg intruder)))), (0, .ref (ad 200)), (1, .int intruder), (2, .int what)], [.ref (ad (420 + (Int32.toNatClampNeg intruder)))])) rfl ?_
    refine y_get hS tq_X12_intruderNow (v := .int (rF ρ (420 + (Int32.toNatClampNeg intruder)) 2)) rfl fg_X12_266_X11 (hX.in (by assumption)) rfl ?_
    refine y_blk 0 tq_X12_intruderNow (z := (134, [(3, .ref (ad (420 + (Int32.toNatClampNeg intruder)))), (0, .ref (ad 200)), (1, .int intruder), (2, .int what)], [.int (rF ρ (420 + (Int32.toNatClampNeg intruder)) 2)])) rfl ?_
    exact y_iret tq_X12_intruderNow rfl rfl (⟨⟨_, rfl⟩, (yTg.rfl' (f := kA) (G := G))⟩)
  refine y_swOut tq_X12_intruderNow 135 rfl (by have z0 : what.toInt ≠ 0 := fun q => s15_0 (Int32.toInt_inj.mp (q.trans (by decide))); have z1 : what.toInt ≠ 1 := fun q => s15_1 (Int32.toInt_inj.mp (q.trans (by decide))); have z2 : what.toInt ≠ 2 := fun q => s15_2 (Int32.toInt_inj.mp (q.trans (by decide))); have z3 : what.toInt ≠ 3 := fun q => s15_3 (Int32.toInt_inj.mp (q.trans (by decide))); have z4 : what.toInt ≠ 4 := fun q => s15_4 (Int32.toInt_inj.mp (q.trans (by decide))); have z5 : what.toInt ≠ 5 := fun q => s15_5 (Int32.toInt_inj.mp (q.trans (by decide))); have z6 : what.toInt ≠ 6 := fun q => s15_6 (Int32.toInt_inj.mp (q.trans (by decide))); have z7 : what.toInt ≠ 7 := fun q => s15_7 (Int32.toInt_inj.mp (q.trans (by decide))); omega) rfl ?_
  refine y_blk 1 tq_X12_intruderNow (z := (136, [(3, .ref (ad (420 + (Int32.toNatClampNeg intruder)))), (0, .ref (ad 200)), (1, .int intruder), (2, .int what)], [.ref (ad (420 + (Int32.toNatClampNeg intruder)))])) rfl ?_
  refine y_get hS tq_X12_intruderNow (v := .int (rF ρ (420 + (Int32.toNatClampNeg intruder)) 3)) rfl fg_X12_268_X11 (hX.in (by assumption)) rfl ?_
  refine y_blk 0 tq_X12_intruderNow (z := (139, [(3, .ref (ad (420 + (Int32.toNatClampNeg intruder)))), (0, .ref (ad 200)), (1, .int intruder), (2, .int what)], [.int (rF ρ (420 + (Int32.toNatClampNeg intruder)) 3)])) rfl ?_
  exact y_iret tq_X12_intruderNow rfl rfl (⟨⟨_, rfl⟩, (yTg.rfl' (f := kA) (G := G))⟩)
set_option maxHeartbeats 4000000 in
set_option maxRecDepth 100000 in
theorem m_X12_intruderNow_n {l : Launch} {S0 : State} {A0 : Array Value} {D : va_G} {aC : Nat → ClassId} {ic : Int32 → Nat} {de : Nat} {ad : Nat → Nat} {G : AH} {ρ : RS} (hS : yS l S0 A0 D aC) (hI : yIc S0 ic de) (hX : atR aC ic de ad G ρ) (intruder : Int32) (what : Int32) (hi0 : 0 ≤ intruder.toInt) (hi1 : intruder.toInt < rZ ρ 215) (h5 : ¬ what = 5) (h6 : ¬ what = 6) : yM l S0 D yX12_intruderNow cX12_intruderNow 5 (some .int) 23 0 0 [.ref (ad 200), .int intruder, .int what] G (fun r G1 => (∃ v : Int32, r = some (.int v)) ∧ G1 = G) (fun _ _ => False) := by
  refine yM.ofK K_X12_intruderNow rfl (by decide) (Nat.le_of_ble_eq_true rfl) ?_
  refine y_blk 1 tq_X12_intruderNow (z := (1, [(0, .ref (ad 200)), (1, .int intruder), (2, .int what)], [.ref (ad 200)])) rfl ?_
  refine y_get hS tq_X12_intruderNow (v := .ref (ad 215)) rfl fg_X12_42_X12 hX.m rfl ?_
  refine y_blk 1 tq_X12_intruderNow (z := (5, [(0, .ref (ad 200)), (1, .int intruder), (2, .int what)], [.int intruder, .ref (ad 215)])) rfl ?_
  refine y_callF hS tq_X12_intruderNow rfl (As := [.int intruder]) rfl cf_X12_80 (Or.inl ⟨_, (hX.ls 215 (by decide)).1⟩) (m_Rin hS hX (by assumption) (by assumption)) rfl (by decide) (Nat.le_of_ble_eq_true rfl) (fun r5 Gc5 q5 => ?_) (fun _ _ h9 => h9.elim)
  obtain ⟨rfl, eG5⟩ := q5
  have eG5 := eG5.symm
  subst eG5
  have d5 : (Int32.toNatClampNeg intruder) < rZ ρ 215 := yIx (by assumption) (by assumption)
  refine y_blk 0 tq_X12_intruderNow (z := (10, [(0, .ref (ad 200)), (1, .int intruder), (2, .int what)], [.ref (ad (420 + (Int32.toNatClampNeg intruder)))])) rfl ?_
  refine y_castG hS tq_X12_intruderNow rfl kc_X12_152 (Or.inl ⟨_, (hX.in (by assumption))⟩) ?_
  refine y_blk 2 tq_X12_intruderNow (z := (15, [(3, .ref (ad (420 + (Int32.toNatClampNeg intruder)))), (0, .ref (ad 200)), (1, .int intruder), (2, .int what)], [.int what])) rfl ?_
  by_cases s15_0 : what = 0
  · refine y_swIn tq_X12_intruderNow 60 rfl (by rw [s15_0]; decide) (by rw [s15_0]; decide) (by rw [s15_0]; rfl) rfl ?_
    refine y_blk 1 tq_X12_intruderNow (z := (61, [(3, .ref (ad (420 + (Int32.toNatClampNeg intruder)))), (0, .ref (ad 200)), (1, .int intruder), (2, .int what)], [.ref (ad (420 + (Int32.toNatClampNeg intruder)))])) rfl ?_
    refine y_get hS tq_X12_intruderNow (v := .int (rF ρ (420 + (Int32.toNatClampNeg intruder)) 0)) rfl fg_X12_249_X11 (hX.in (by assumption)) rfl ?_
    refine y_blk 0 tq_X12_intruderNow (z := (64, [(3, .ref (ad (420 + (Int32.toNatClampNeg intruder)))), (0, .ref (ad 200)), (1, .int intruder), (2, .int what)], [.int (rF ρ (420 + (Int32.toNatClampNeg intruder)) 0)])) rfl ?_
    exact y_iret tq_X12_intruderNow rfl rfl (⟨⟨_, rfl⟩, rfl⟩)
  by_cases s15_1 : what = 1
  · refine y_swIn tq_X12_intruderNow 65 rfl (by rw [s15_1]; decide) (by rw [s15_1]; decide) (by rw [s15_1]; rfl) rfl ?_
    refine y_blk 1 tq_X12_intruderNow (z := (66, [(3, .ref (ad (420 + (Int32.toNatClampNeg intruder)))), (0, .ref (ad 200)), (1, .int intruder), (2, .int what)], [.ref (ad (420 + (Int32.toNatClampNeg intruder)))])) rfl ?_
    refine y_get hS tq_X12_intruderNow (v := .int (rF ρ (420 + (Int32.toNatClampNeg intruder)) 1)) rfl fg_X12_234_X11 (hX.in (by assumption)) rfl ?_
    refine y_blk 0 tq_X12_intruderNow (z := (69, [(3, .ref (ad (420 + (Int32.toNatClampNeg intruder)))), (0, .ref (ad 200)), (1, .int intruder), (2, .int what)], [.int (rF ρ (420 + (Int32.toNatClampNeg intruder)) 1)])) rfl ?_
    exact y_iret tq_X12_intruderNow rfl rfl (⟨⟨_, rfl⟩, rfl⟩)
  by_cases s15_2 : what = 2
  · refine y_swIn tq_X12_intruderNow 70 rfl (by rw [s15_2]; decide) (by rw [s15_2]; decide) (by rw [s15_2]; rfl) rfl ?_
    refine y_blk 1 tq_X12_intruderNow (z := (71, [(3, .ref (ad (420 + (Int32.toNatClampNeg intruder)))), (0, .ref (ad 200)), (1, .int intruder), (2, .int what)], [.ref (ad (420 + (Int32.toNatClampNeg intruder)))])) rfl ?_
    refine y_get hS tq_X12_intruderNow (v := .ref (ad (440 + (Int32.toNatClampNeg intruder)))) rfl fg_X12_243_X11 (hX.in (by assumption)) rfl ?_
    refine y_blk 1 tq_X12_intruderNow (z := (77, [(3, .ref (ad (420 + (Int32.toNatClampNeg intruder)))), (0, .ref (ad 200)), (1, .int intruder), (2, .int what)], [.int 239, .ref (ad (440 + (Int32.toNatClampNeg intruder)))])) rfl ?_
    refine y_iald hS tq_X12_intruderNow rfl (hX.wa (by assumption)) (by first | exact yIn (by decide) (by decide) | exact yIn (by assumption) (by assumption) | (exact yIn (by omega) (by omega))) ?_
    refine y_blk 0 tq_X12_intruderNow (z := (78, [(3, .ref (ad (420 + (Int32.toNatClampNeg intruder)))), (0, .ref (ad 200)), (1, .int intruder), (2, .int what)], [.int ((rV ρ (440 + (Int32.toNatClampNeg intruder))) (Int32.toNatClampNeg 239))])) rfl ?_
    exact y_iret tq_X12_intruderNow rfl rfl (⟨⟨_, rfl⟩, rfl⟩)
  by_cases s15_3 : what = 3
  · refine y_swIn tq_X12_intruderNow 79 rfl (by rw [s15_3]; decide) (by rw [s15_3]; decide) (by rw [s15_3]; rfl) rfl ?_
    refine y_blk 2 tq_X12_intruderNow (z := (81, [(3, .ref (ad (420 + (Int32.toNatClampNeg intruder)))), (0, .ref (ad 200)), (1, .int intruder), (2, .int what)], [.ref (ad (420 + (Int32.toNatClampNeg intruder))), .ref (ad 200)])) rfl ?_
    refine y_callV hS tq_X12_intruderNow rfl (As := [.ref (ad (420 + (Int32.toNatClampNeg intruder)))]) rfl cv_X12_254 hX.m (m_X12_foundNow hS hI hX (k := (Int32.toNatClampNeg intruder)) (by assumption) ) rfl (by decide) (Nat.le_of_ble_eq_true rfl) (fun r81 Gc81 q81 => ?_) (fun E9 G9 h9 => h9.elim)
    obtain ⟨⟨x81, hr_x81, rfl⟩, eG81⟩ := q81
    have eG81 := eG81.symm
    subst eG81
    refine y_blk 0 tq_X12_intruderNow (z := (84, [(3, .ref (ad (420 + (Int32.toNatClampNeg intruder)))), (0, .ref (ad 200)), (1, .int intruder), (2, .int what)], [.int x81])) rfl ?_
    exact y_iret tq_X12_intruderNow rfl rfl (⟨⟨_, rfl⟩, rfl⟩)
  by_cases s15_4 : what = 4
  · refine y_swIn tq_X12_intruderNow 85 rfl (by rw [s15_4]; decide) (by rw [s15_4]; decide) (by rw [s15_4]; rfl) rfl ?_
    refine y_blk 2 tq_X12_intruderNow (z := (87, [(3, .ref (ad (420 + (Int32.toNatClampNeg intruder)))), (0, .ref (ad 200)), (1, .int intruder), (2, .int what)], [.ref (ad (420 + (Int32.toNatClampNeg intruder))), .ref (ad 200)])) rfl ?_
    refine y_callV hS tq_X12_intruderNow rfl (As := [.ref (ad (420 + (Int32.toNatClampNeg intruder)))]) rfl cv_X12_254 hX.m (m_X12_foundNow hS hI hX (k := (Int32.toNatClampNeg intruder)) (by assumption) ) rfl (by decide) (Nat.le_of_ble_eq_true rfl) (fun r87 Gc87 q87 => ?_) (fun E9 G9 h9 => h9.elim)
    obtain ⟨⟨x87, hr_x87, rfl⟩, eG87⟩ := q87
    have eG87 := eG87.symm
    subst eG87
    refine y_blk 3 tq_X12_intruderNow (z := (95, [(4, .int x87), (3, .ref (ad (420 + (Int32.toNatClampNeg intruder)))), (0, .ref (ad 200)), (1, .int intruder), (2, .int what)], [.int (-1), .int x87])) rfl ?_
    refine y_icmp_ne tq_X12_intruderNow 102 rfl rfl (fun c95 => ?_) (fun c95 => ?_)
    · skip
      obtain ⟨hf0, hf1⟩ := hr_x87.resolve_left c95
      have hfr := (hX.2.2.2.2.1 _ d5).1
      refine y_blk 2 tq_X12_intruderNow (z := (104, [(4, .int x87), (3, .ref (ad (420 + (Int32.toNatClampNeg intruder)))), (0, .ref (ad 200)), (1, .int intruder), (2, .int what)], [.ref (ad (420 + (Int32.toNatClampNeg intruder))), .ref (ad 200)])) rfl ?_
      refine y_get hS tq_X12_intruderNow (v := .ref (ad (440 + (Int32.toNatClampNeg intruder)))) rfl fg_X12_243_X11 (hX.in (by assumption)) rfl ?_
      refine y_blk 1 tq_X12_intruderNow (z := (109, [(4, .int x87), (3, .ref (ad (420 + (Int32.toNatClampNeg intruder)))), (0, .ref (ad 200)), (1, .int intruder), (2, .int what)], [.int x87, .ref (ad (440 + (Int32.toNatClampNeg intruder))), .ref (ad 200)])) rfl ?_
      refine y_iald hS tq_X12_intruderNow rfl (hX.wa (by assumption)) (by first | exact yIn (by decide) (by decide) | exact yIn (by assumption) (by assumption) | (exact yIn (by omega) (by omega))) ?_
      refine y_blk 1 tq_X12_intruderNow (z := (112, [(4, .int x87), (3, .ref (ad (420 + (Int32.toNatClampNeg intruder)))), (0, .ref (ad 200)), (1, .int intruder), (2, .int what)], [.int x87, .int ((rV ρ (440 + (Int32.toNatClampNeg intruder))) (Int32.toNatClampNeg x87)), .ref (ad 200)])) rfl ?_
      refine y_callV hS tq_X12_intruderNow rfl (As := [.int ((rV ρ (440 + (Int32.toNatClampNeg intruder))) (Int32.toNatClampNeg x87)), .int x87]) rfl cv_X12_186 hX.m (m_X12_seers hS hI hX ((rV ρ (440 + (Int32.toNatClampNeg intruder))) (Int32.toNatClampNeg x87)) x87 (by first | (with_reducible assumption) | (with_reducible exact hX.lac (by assumption)) | (with_reducible exact hX.poc (by assumption)) | (with_reducible exact hX.wac (by assumption) (by assumption) (by omega)) | assumption | exact hX.lac (by assumption) | exact hX.poc (by assumption) | exact hX.wac (by assumption) (by assumption) (by omega))) rfl (by decide) (Nat.le_of_ble_eq_true rfl) (fun r112 Gc112 q112 => ?_) (fun E9 G9 h9 => h9.elim)
      obtain ⟨⟨x112, rfl⟩, eG112⟩ := q112
      have eG112 := eG112.symm
      subst eG112
      refine y_blk 0 tq_X12_intruderNow (z := (115, [(4, .int x87), (3, .ref (ad (420 + (Int32.toNatClampNeg intruder)))), (0, .ref (ad 200)), (1, .int intruder), (2, .int what)], [.int x112])) rfl ?_
      exact y_iret tq_X12_intruderNow rfl rfl (⟨⟨_, rfl⟩, rfl⟩)
    · skip
      refine y_blk 2 tq_X12_intruderNow (z := (115, [(4, .int x87), (3, .ref (ad (420 + (Int32.toNatClampNeg intruder)))), (0, .ref (ad 200)), (1, .int intruder), (2, .int what)], [.int 0])) rfl ?_
      exact y_iret tq_X12_intruderNow rfl rfl (⟨⟨_, rfl⟩, rfl⟩)
  by_cases s15_5 : what = 5
  · exact absurd s15_5 (by assumption)
  by_cases s15_6 : what = 6
  · exact absurd s15_6 (by assumption)
  by_cases s15_7 : what = 7
  · refine y_swIn tq_X12_intruderNow 130 rfl (by rw [s15_7]; decide) (by rw [s15_7]; decide) (by rw [s15_7]; rfl) rfl ?_
    refine y_blk 1 tq_X12_intruderNow (z := (131, [(3, .ref (ad (420 + (Int32.toNatClampNeg intruder)))), (0, .ref (ad 200)), (1, .int intruder), (2, .int what)], [.ref (ad (420 + (Int32.toNatClampNeg intruder)))])) rfl ?_
    refine y_get hS tq_X12_intruderNow (v := .int (rF ρ (420 + (Int32.toNatClampNeg intruder)) 2)) rfl fg_X12_266_X11 (hX.in (by assumption)) rfl ?_
    refine y_blk 0 tq_X12_intruderNow (z := (134, [(3, .ref (ad (420 + (Int32.toNatClampNeg intruder)))), (0, .ref (ad 200)), (1, .int intruder), (2, .int what)], [.int (rF ρ (420 + (Int32.toNatClampNeg intruder)) 2)])) rfl ?_
    exact y_iret tq_X12_intruderNow rfl rfl (⟨⟨_, rfl⟩, rfl⟩)
  refine y_swOut tq_X12_intruderNow 135 rfl (by have z0 : what.toInt ≠ 0 := fun q => s15_0 (Int32.toInt_inj.mp (q.trans (by decide))); have z1 : what.toInt ≠ 1 := fun q => s15_1 (Int32.toInt_inj.mp (q.trans (by decide))); have z2 : what.toInt ≠ 2 := fun q => s15_2 (Int32.toInt_inj.mp (q.trans (by decide))); have z3 : what.toInt ≠ 3 := fun q => s15_3 (Int32.toInt_inj.mp (q.trans (by decide))); have z4 : what.toInt ≠ 4 := fun q => s15_4 (Int32.toInt_inj.mp (q.trans (by decide))); have z5 : what.toInt ≠ 5 := fun q => s15_5 (Int32.toInt_inj.mp (q.trans (by decide))); have z6 : what.toInt ≠ 6 := fun q => s15_6 (Int32.toInt_inj.mp (q.trans (by decide))); have z7 : what.toInt ≠ 7 := fun q => s15_7 (Int32.toInt_inj.mp (q.trans (by decide))); omega) rfl ?_
  refine y_blk 1 tq_X12_intruderNow (z := (136, [(3, .ref (ad (420 + (Int32.toNatClampNeg intruder)))), (0, .ref (ad 200)), (1, .int intruder), (2, .int what)], [.ref (ad (420 + (Int32.toNatClampNeg intruder)))])) rfl ?_
  refine y_get hS tq_X12_intruderNow (v := .int (rF ρ (420 + (Int32.toNatClampNeg intruder)) 3)) rfl fg_X12_268_X11 (hX.in (by assumption)) rfl ?_
  refine y_blk 0 tq_X12_intruderNow (z := (139, [(3, .ref (ad (420 + (Int32.toNatClampNeg intruder)))), (0, .ref (ad 200)), (1, .int intruder), (2, .int what)], [.int (rF ρ (420 + (Int32.toNatClampNeg intruder)) 3)])) rfl ?_
  exact y_iret tq_X12_intruderNow rfl rfl (⟨⟨_, rfl⟩, rfl⟩)
set_option maxHeartbeats 4000000 in
set_option maxRecDepth 100000 in
theorem m_X12_guardNow {l : Launch} {S0 : State} {A0 : Array Value} {D : va_G} {aC : Nat → ClassId} {ic : Int32 → Nat} {de : Nat} {ad : Nat → Nat} {G : AH} {ρ : RS} (hS : yS l S0 A0 D aC) (hI : yIc S0 ic de) (hX : atR aC ic de ad G ρ) (guard : Int32) (what : Int32) (hg0 : 0 ≤ guard.toInt) (hg1 : guard.toInt < rZ ρ 212) (hw0 : 0 ≤ what.toInt) (hw1 : what.toInt < 9) : yM l S0 D yX12_guardNow cX12_guardNow 6 (some .int) 16 1 9 [.ref (ad 200), .int guard, .int what] G (fun r G1 => (∃ v : Int32, r = some (.int v)) ∧ yTg kA G G1) (fun _ _ => False) := by
  refine yM.ofK K_X12_guardNow rfl (by decide) (Nat.le_of_ble_eq_true rfl) ?_
  have dg := yIx hg0 hg1
  have J20 : ∀ (n20 : Nat) (v20_4 : Int32) (v20_5 : Int32) (h0_20 : 0 ≤ v20_5.toInt), ((6 : Int32).toInt - v20_5.toInt).toNat = n20 → Y l S0 D K_X12_guardNow 16 1 9 (fun r G1 => (∃ v : Int32, r = some (.int v)) ∧ yTg kA G G1) (fun _ _ => False) 20 [(0, .ref (ad 200)), (1, .int guard), (2, .int what), (3, .ref (ad (360 + (Int32.toNatClampNeg guard)))), (4, .int v20_4), (5, .int v20_5)] [] G 1 9 := by
    intro n20
    induction n20 using Nat.strongRecOn with
    | _ n20 ih20 =>
    intro v20_4 v20_5 h0_20 hn20
    subst hn20
    refine y_blk 2 tq_X12_guardNow (z := (24, [(0, .ref (ad 200)), (1, .int guard), (2, .int what), (3, .ref (ad (360 + (Int32.toNatClampNeg guard)))), (4, .int v20_4), (5, .int v20_5)], [.int 6, .int v20_5])) rfl ?_
    refine y_icmp_ge tq_X12_guardNow 57 rfl rfl (fun c24 => ?_) (fun c24 => ?_)
    · skip
      refine y_blk 1 tq_X12_guardNow (z := (59, [(0, .ref (ad 200)), (1, .int guard), (2, .int what), (3, .ref (ad (360 + (Int32.toNatClampNeg guard)))), (4, .int v20_4), (5, .int v20_5)], [.int 9])) rfl ?_
      refine y_newa_int 500 hS tq_X12_guardNow (kc := 0) (ks := 0) (n := 9) rfl wd_176 (by decide) (by decide) (by decide) (fun a59 hne59 => ?_)
      have hle59 : yLe G (yup G a59 (500, .inl (aC 0, 9, .inl (fun _ => 0)))) := yLe.new hne59
      have hA59 : (yup G a59 (500, .inl (aC 0, 9, .inl (fun _ => 0)))) a59 = some (500, .inl (aC 0, 9, .inl (fun _ => 0))) := yup_s _ _ _
      generalize yup G a59 (500, .inl (aC 0, 9, .inl (fun _ => 0))) = G59 at hle59 hA59 ⊢
      have hX59 := hX.le hle59
      have kt59 := ((yTg.rfl' (f := kA) (G := G))).trans (yTg.le hle59)
      refine y_blk 3 tq_X12_guardNow (z := (64, [(0, .ref (ad 200)), (1, .int guard), (2, .int what), (3, .ref (ad (360 + (Int32.toNatClampNeg guard)))), (4, .int v20_4), (5, .int v20_5)], [.ref (ad (360 + (Int32.toNatClampNeg guard))), .int 0, .ref a59, .ref a59])) rfl ?_
      refine y_get hS tq_X12_guardNow (v := .int (rF ρ (360 + (Int32.toNatClampNeg guard)) 0)) rfl fg_X12_216_X10 (hX59.gu (by assumption)) rfl ?_
      refine y_blk 0 tq_X12_guardNow (z := (67, [(0, .ref (ad 200)), (1, .int guard), (2, .int what), (3, .ref (ad (360 + (Int32.toNatClampNeg guard)))), (4, .int v20_4), (5, .int v20_5)], [.int (rF ρ (360 + (Int32.toNatClampNeg guard)) 0), .int 0, .ref a59, .ref a59])) rfl ?_
      refine y_iast hS tq_X12_guardNow rfl hA59 (by decide) (by first | exact yIn (by decide) (by decide) | exact yIn (by assumption) (by assumption) | (exact yIn (by omega) (by omega))) ?_
      have hA67 : (yup G59 a59 (500, .inl (aC 0, 9, .inl (upd (fun _ => 0) (Int32.toNatClampNeg 0) (rF ρ (360 + (Int32.toNatClampNeg guard)) 0))))) a59 = some (500, .inl (aC 0, 9, .inl (upd (fun _ => 0) (Int32.toNatClampNeg 0) (rF ρ (360 + (Int32.toNatClampNeg guard)) 0)))) := yup_s _ _ _
      have hX67 : atR aC ic de ad (yup G59 a59 (500, .inl (aC 0, 9, .inl (upd (fun _ => 0) (Int32.toNatClampNeg 0) (rF ρ (360 + (Int32.toNatClampNeg guard)) 0))))) ρ := hX59.kp (yTg.up hA59 (by decide))
      have kt67 : yTg kA G (yup G59 a59 (500, .inl (aC 0, 9, .inl (upd (fun _ => 0) (Int32.toNatClampNeg 0) (rF ρ (360 + (Int32.toNatClampNeg guard)) 0))))) := (kt59).trans (yTg.up hA59 (by decide))
      generalize yup G59 a59 (500, .inl (aC 0, 9, .inl (upd (fun _ => 0) (Int32.toNatClampNeg 0) (rF ρ (360 + (Int32.toNatClampNeg guard)) 0)))) = G67 at hA67 hX67 kt67 ⊢
      generalize (upd (fun _ => 0) (Int32.toNatClampNeg 0) (rF ρ (360 + (Int32.toNatClampNeg guard)) 0)) = f67 at hA67
      refine y_blk 3 tq_X12_guardNow (z := (71, [(0, .ref (ad 200)), (1, .int guard), (2, .int what), (3, .ref (ad (360 + (Int32.toNatClampNeg guard)))), (4, .int v20_4), (5, .int v20_5)], [.ref (ad (360 + (Int32.toNatClampNeg guard))), .int 1, .ref a59, .ref a59])) rfl ?_
      refine y_get hS tq_X12_guardNow (v := .int (rF ρ (360 + (Int32.toNatClampNeg guard)) 1)) rfl fg_X12_219_X10 (hX67.gu (by assumption)) rfl ?_
      refine y_blk 0 tq_X12_guardNow (z := (74, [(0, .ref (ad 200)), (1, .int guard), (2, .int what), (3, .ref (ad (360 + (Int32.toNatClampNeg guard)))), (4, .int v20_4), (5, .int v20_5)], [.int (rF ρ (360 + (Int32.toNatClampNeg guard)) 1), .int 1, .ref a59, .ref a59])) rfl ?_
      refine y_iast hS tq_X12_guardNow rfl hA67 (by decide) (by first | exact yIn (by decide) (by decide) | exact yIn (by assumption) (by assumption) | (exact yIn (by omega) (by omega))) ?_
      have hA74 : (yup G67 a59 (500, .inl (aC 0, 9, .inl (upd f67 (Int32.toNatClampNeg 1) (rF ρ (360 + (Int32.toNatClampNeg guard)) 1))))) a59 = some (500, .inl (aC 0, 9, .inl (upd f67 (Int32.toNatClampNeg 1) (rF ρ (360 + (Int32.toNatClampNeg guard)) 1)))) := yup_s _ _ _
      have hX74 : atR aC ic de ad (yup G67 a59 (500, .inl (aC 0, 9, .inl (upd f67 (Int32.toNatClampNeg 1) (rF ρ (360 + (Int32.toNatClampNeg guard)) 1))))) ρ := hX67.kp (yTg.up hA67 (by decide))
      have kt74 : yTg kA G (yup G67 a59 (500, .inl (aC 0, 9, .inl (upd f67 (Int32.toNatClampNeg 1) (rF ρ (360 + (Int32.toNatClampNeg guard)) 1))))) := (kt67).trans (yTg.up hA67 (by decide))
      generalize yup G67 a59 (500, .inl (aC 0, 9, .inl (upd f67 (Int32.toNatClampNeg 1) (rF ρ (360 + (Int32.toNatClampNeg guard)) 1)))) = G74 at hA74 hX74 kt74 ⊢
      generalize (upd f67 (Int32.toNatClampNeg 1) (rF ρ (360 + (Int32.toNatClampNeg guard)) 1)) = f74 at hA74
      refine y_blk 3 tq_X12_guardNow (z := (78, [(0, .ref (ad 200)), (1, .int guard), (2, .int what), (3, .ref (ad (360 + (Int32.toNatClampNeg guard)))), (4, .int v20_4), (5, .int v20_5)], [.ref (ad (360 + (Int32.toNatClampNeg guard))), .int 2, .ref a59, .ref a59])) rfl ?_
      refine y_get hS tq_X12_guardNow (v := .int (rF ρ (360 + (Int32.toNatClampNeg guard)) 2)) rfl fg_X12_222_X10 (hX74.gu (by assumption)) rfl ?_
      refine y_blk 0 tq_X12_guardNow (z := (81, [(0, .ref (ad 200)), (1, .int guard), (2, .int what), (3, .ref (ad (360 + (Int32.toNatClampNeg guard)))), (4, .int v20_4), (5, .int v20_5)], [.int (rF ρ (360 + (Int32.toNatClampNeg guard)) 2), .int 2, .ref a59, .ref a59])) rfl ?_
      refine y_iast hS tq_X12_guardNow rfl hA74 (by decide) (by first | exact yIn (by decide) (by decide) | exact yIn (by assumption) (by assumption) | (exact yIn (by omega) (by omega))) ?_
      have hA81 : (yup G74 a59 (500, .inl (aC 0, 9, .inl (upd f74 (Int32.toNatClampNeg 2) (rF ρ (360 + (Int32.toNatClampNeg guard)) 2))))) a59 = some (500, .inl (aC 0, 9, .inl (upd f74 (Int32.toNatClampNeg 2) (rF ρ (360 + (Int32.toNatClampNeg guard)) 2)))) := yup_s _ _ _
      have hX81 : atR aC ic de ad (yup G74 a59 (500, .inl (aC 0, 9, .inl (upd f74 (Int32.toNatClampNeg 2) (rF ρ (360 + (Int32.toNatClampNeg guard)) 2))))) ρ := hX74.kp (yTg.up hA74 (by decide))
      have kt81 : yTg kA G (yup G74 a59 (500, .inl (aC 0, 9, .inl (upd f74 (Int32.toNatClampNeg 2) (rF ρ (360 + (Int32.toNatClampNeg guard)) 2))))) := (kt74).trans (yTg.up hA74 (by decide))
      generalize yup G74 a59 (500, .inl (aC 0, 9, .inl (upd f74 (Int32.toNatClampNeg 2) (rF ρ (360 + (Int32.toNatClampNeg guard)) 2)))) = G81 at hA81 hX81 kt81 ⊢
      generalize (upd f74 (Int32.toNatClampNeg 2) (rF ρ (360 + (Int32.toNatClampNeg guard)) 2)) = f81 at hA81
      refine y_blk 3 tq_X12_guardNow (z := (85, [(0, .ref (ad 200)), (1, .int guard), (2, .int what), (3, .ref (ad (360 + (Int32.toNatClampNeg guard)))), (4, .int v20_4), (5, .int v20_5)], [.ref (ad (360 + (Int32.toNatClampNeg guard))), .int 3, .ref a59, .ref a59])) rfl ?_
      refine y_get hS tq_X12_guardNow (v := .ref (ad (380 + (Int32.toNatClampNeg guard)))) rfl fg_X12_149_X10 (hX81.gu (by assumption)) rfl ?_
      refine y_blk 0 tq_X12_guardNow (z := (88, [(0, .ref (ad 200)), (1, .int guard), (2, .int what), (3, .ref (ad (360 + (Int32.toNatClampNeg guard)))), (4, .int v20_4), (5, .int v20_5)], [.ref (ad (380 + (Int32.toNatClampNeg guard))), .int 3, .ref a59, .ref a59])) rfl ?_
      refine y_callF hS tq_X12_guardNow rfl (As := []) rfl cf_X12_58 (Or.inl ⟨_, (hX81.gl (by assumption)).1⟩) (m_Jsize hS (hX81.gl (by assumption))) rfl (by decide) (Nat.le_of_ble_eq_true rfl) (fun r88 Gc88 q88 => ?_) (fun _ _ h9 => h9.elim)
      obtain ⟨rfl, eG88⟩ := q88
      have eG88 := eG88.symm
      subst eG88
      refine y_blk 0 tq_X12_guardNow (z := (93, [(0, .ref (ad 200)), (1, .int guard), (2, .int what), (3, .ref (ad (360 + (Int32.toNatClampNeg guard)))), (4, .int v20_4), (5, .int v20_5)], [.int (Int32.ofNat (rZ ρ (380 + (Int32.toNatClampNeg guard)))), .int 3, .ref a59, .ref a59])) rfl ?_
      refine y_iast hS tq_X12_guardNow rfl hA81 (by decide) (by first | exact yIn (by decide) (by decide) | exact yIn (by assumption) (by assumption) | (exact yIn (by omega) (by omega))) ?_
      have hA93 : (yup G81 a59 (500, .inl (aC 0, 9, .inl (upd f81 (Int32.toNatClampNeg 3) (Int32.ofNat (rZ ρ (380 + (Int32.toNatClampNeg guard)))))))) a59 = some (500, .inl (aC 0, 9, .inl (upd f81 (Int32.toNatClampNeg 3) (Int32.ofNat (rZ ρ (380 + (Int32.toNatClampNeg guard))))))) := yup_s _ _ _
      have hX93 : atR aC ic de ad (yup G81 a59 (500, .inl (aC 0, 9, .inl (upd f81 (Int32.toNatClampNeg 3) (Int32.ofNat (rZ ρ (380 + (Int32.toNatClampNeg guard)))))))) ρ := hX81.kp (yTg.up hA81 (by decide))
      have kt93 : yTg kA G (yup G81 a59 (500, .inl (aC 0, 9, .inl (upd f81 (Int32.toNatClampNeg 3) (Int32.ofNat (rZ ρ (380 + (Int32.toNatClampNeg guard)))))))) := (kt81).trans (yTg.up hA81 (by decide))
      generalize yup G81 a59 (500, .inl (aC 0, 9, .inl (upd f81 (Int32.toNatClampNeg 3) (Int32.ofNat (rZ ρ (380 + (Int32.toNatClampNeg guard))))))) = G93 at hA93 hX93 kt93 ⊢
      generalize (upd f81 (Int32.toNatClampNeg 3) (Int32.ofNat (rZ ρ (380 + (Int32.toNatClampNeg guard))))) = f93 at hA93
      refine y_blk 3 tq_X12_guardNow (z := (97, [(0, .ref (ad 200)), (1, .int guard), (2, .int what), (3, .ref (ad (360 + (Int32.toNatClampNeg guard)))), (4, .int v20_4), (5, .int v20_5)], [.ref (ad (360 + (Int32.toNatClampNeg guard))), .int 4, .ref a59, .ref a59])) rfl ?_
      refine y_get hS tq_X12_guardNow (v := .int (rF ρ (360 + (Int32.toNatClampNeg guard)) 3)) rfl fg_X12_86_X10 (hX93.gu (by assumption)) rfl ?_
      refine y_blk 0 tq_X12_guardNow (z := (100, [(0, .ref (ad 200)), (1, .int guard), (2, .int what), (3, .ref (ad (360 + (Int32.toNatClampNeg guard)))), (4, .int v20_4), (5, .int v20_5)], [.int (rF ρ (360 + (Int32.toNatClampNeg guard)) 3), .int 4, .ref a59, .ref a59])) rfl ?_
      refine y_iast hS tq_X12_guardNow rfl hA93 (by decide) (by first | exact yIn (by decide) (by decide) | exact yIn (by assumption) (by assumption) | (exact yIn (by omega) (by omega))) ?_
      have hA100 : (yup G93 a59 (500, .inl (aC 0, 9, .inl (upd f93 (Int32.toNatClampNeg 4) (rF ρ (360 + (Int32.toNatClampNeg guard)) 3))))) a59 = some (500, .inl (aC 0, 9, .inl (upd f93 (Int32.toNatClampNeg 4) (rF ρ (360 + (Int32.toNatClampNeg guard)) 3)))) := yup_s _ _ _
      have hX100 : atR aC ic de ad (yup G93 a59 (500, .inl (aC 0, 9, .inl (upd f93 (Int32.toNatClampNeg 4) (rF ρ (360 + (Int32.toNatClampNeg guard)) 3))))) ρ := hX93.kp (yTg.up hA93 (by decide))
      have kt100 : yTg kA G (yup G93 a59 (500, .inl (aC 0, 9, .inl (upd f93 (Int32.toNatClampNeg 4) (rF ρ (360 + (Int32.toNatClampNeg guard)) 3))))) := (kt93).trans (yTg.up hA93 (by decide))
      generalize yup G93 a59 (500, .inl (aC 0, 9, .inl (upd f93 (Int32.toNatClampNeg 4) (rF ρ (360 + (Int32.toNatClampNeg guard)) 3)))) = G100 at hA100 hX100 kt100 ⊢
      generalize (upd f93 (Int32.toNatClampNeg 4) (rF ρ (360 + (Int32.toNatClampNeg guard)) 3)) = f100 at hA100
      refine y_blk 3 tq_X12_guardNow (z := (104, [(0, .ref (ad 200)), (1, .int guard), (2, .int what), (3, .ref (ad (360 + (Int32.toNatClampNeg guard)))), (4, .int v20_4), (5, .int v20_5)], [.ref (ad (360 + (Int32.toNatClampNeg guard))), .int 5, .ref a59, .ref a59])) rfl ?_
      refine y_get hS tq_X12_guardNow (v := .int (rF ρ (360 + (Int32.toNatClampNeg guard)) 3)) rfl fg_X12_86_X10 (hX100.gu (by assumption)) rfl ?_
      refine y_blk 1 tq_X12_guardNow (z := (108, [(0, .ref (ad 200)), (1, .int guard), (2, .int what), (3, .ref (ad (360 + (Int32.toNatClampNeg guard)))), (4, .int v20_4), (5, .int v20_5)], [.int 3, .int (rF ρ (360 + (Int32.toNatClampNeg guard)) 3), .int 5, .ref a59, .ref a59])) rfl ?_
      refine y_icmp_ne tq_X12_guardNow 115 rfl rfl (fun c108 => ?_) (fun c108 => ?_)
      · skip
        refine y_blk 1 tq_X12_guardNow (z := (116, [(0, .ref (ad 200)), (1, .int guard), (2, .int what), (3, .ref (ad (360 + (Int32.toNatClampNeg guard)))), (4, .int v20_4), (5, .int v20_5)], [.int 0, .int 5, .ref a59, .ref a59])) rfl ?_
        refine y_iast hS tq_X12_guardNow rfl hA100 (by decide) (by first | exact yIn (by decide) (by decide) | exact yIn (by assumption) (by assumption) | (exact yIn (by omega) (by omega))) ?_
        have hA116 : (yup G100 a59 (500, .inl (aC 0, 9, .inl (upd f100 (Int32.toNatClampNeg 5) 0)))) a59 = some (500, .inl (aC 0, 9, .inl (upd f100 (Int32.toNatClampNeg 5) 0))) := yup_s _ _ _
        have hX116 : atR aC ic de ad (yup G100 a59 (500, .inl (aC 0, 9, .inl (upd f100 (Int32.toNatClampNeg 5) 0)))) ρ := hX100.kp (yTg.up hA100 (by decide))
        have kt116 : yTg kA G (yup G100 a59 (500, .inl (aC 0, 9, .inl (upd f100 (Int32.toNatClampNeg 5) 0)))) := (kt100).trans (yTg.up hA100 (by decide))
        generalize yup G100 a59 (500, .inl (aC 0, 9, .inl (upd f100 (Int32.toNatClampNeg 5) 0))) = G116 at hA116 hX116 kt116 ⊢
        generalize (upd f100 (Int32.toNatClampNeg 5) 0) = f116 at hA116
        refine y_blk 3 tq_X12_guardNow (z := (122, [(0, .ref (ad 200)), (1, .int guard), (2, .int what), (3, .ref (ad (360 + (Int32.toNatClampNeg guard)))), (4, .int v20_4), (5, .int v20_5)], [.int v20_4, .int 6, .ref a59, .ref a59])) rfl ?_
        refine y_iast hS tq_X12_guardNow rfl hA116 (by decide) (by first | exact yIn (by decide) (by decide) | exact yIn (by assumption) (by assumption) | (exact yIn (by omega) (by omega))) ?_
        have hA122 : (yup G116 a59 (500, .inl (aC 0, 9, .inl (upd f116 (Int32.toNatClampNeg 6) v20_4)))) a59 = some (500, .inl (aC 0, 9, .inl (upd f116 (Int32.toNatClampNeg 6) v20_4))) := yup_s _ _ _
        have hX122 : atR aC ic de ad (yup G116 a59 (500, .inl (aC 0, 9, .inl (upd f116 (Int32.toNatClampNeg 6) v20_4)))) ρ := hX116.kp (yTg.up hA116 (by decide))
        have kt122 : yTg kA G (yup G116 a59 (500, .inl (aC 0, 9, .inl (upd f116 (Int32.toNatClampNeg 6) v20_4)))) := (kt116).trans (yTg.up hA116 (by decide))
        generalize yup G116 a59 (500, .inl (aC 0, 9, .inl (upd f116 (Int32.toNatClampNeg 6) v20_4))) = G122 at hA122 hX122 kt122 ⊢
        generalize (upd f116 (Int32.toNatClampNeg 6) v20_4) = f122 at hA122
        refine y_blk 3 tq_X12_guardNow (z := (127, [(0, .ref (ad 200)), (1, .int guard), (2, .int what), (3, .ref (ad (360 + (Int32.toNatClampNeg guard)))), (4, .int v20_4), (5, .int v20_5)], [.ref (ad (360 + (Int32.toNatClampNeg guard))), .int 7, .ref a59, .ref a59])) rfl ?_
        refine y_get hS tq_X12_guardNow (v := .int (rF ρ (360 + (Int32.toNatClampNeg guard)) 4)) rfl fg_X12_89_X10 (hX122.gu (by assumption)) rfl ?_
        refine y_blk 0 tq_X12_guardNow (z := (130, [(0, .ref (ad 200)), (1, .int guard), (2, .int what), (3, .ref (ad (360 + (Int32.toNatClampNeg guard)))), (4, .int v20_4), (5, .int v20_5)], [.int (rF ρ (360 + (Int32.toNatClampNeg guard)) 4), .int 7, .ref a59, .ref a59])) rfl ?_
        refine y_iast hS tq_X12_guardNow rfl hA122 (by decide) (by first | exact yIn (by decide) (by decide) | exact yIn (by assumption) (by assumption) | (exact yIn (by omega) (by omega))) ?_
        have hA130 : (yup G122 a59 (500, .inl (aC 0, 9, .inl (upd f122 (Int32.toNatClampNeg 7) (rF ρ (360 + (Int32.toNatClampNeg guard)) 4))))) a59 = some (500, .inl (aC 0, 9, .inl (upd f122 (Int32.toNatClampNeg 7) (rF ρ (360 + (Int32.toNatClampNeg guard)) 4)))) := yup_s _ _ _
        have hX130 : atR aC ic de ad (yup G122 a59 (500, .inl (aC 0, 9, .inl (upd f122 (Int32.toNatClampNeg 7) (rF ρ (360 + (Int32.toNatClampNeg guard)) 4))))) ρ := hX122.kp (yTg.up hA122 (by decide))
        have kt130 : yTg kA G (yup G122 a59 (500, .inl (aC 0, 9, .inl (upd f122 (Int32.toNatClampNeg 7) (rF ρ (360 + (Int32.toNatClampNeg guard)) 4))))) := (kt122).trans (yTg.up hA122 (by decide))
        generalize yup G122 a59 (500, .inl (aC 0, 9, .inl (upd f122 (Int32.toNatClampNeg 7) (rF ρ (360 + (Int32.toNatClampNeg guard)) 4)))) = G130 at hA130 hX130 kt130 ⊢
        generalize (upd f122 (Int32.toNatClampNeg 7) (rF ρ (360 + (Int32.toNatClampNeg guard)) 4)) = f130 at hA130
        refine y_blk 4 tq_X12_guardNow (z := (136, [(0, .ref (ad 200)), (1, .int guard), (2, .int what), (3, .ref (ad (360 + (Int32.toNatClampNeg guard)))), (4, .int v20_4), (5, .int v20_5)], [.ref (ad (360 + (Int32.toNatClampNeg guard))), .int 0, .int 8, .ref a59, .ref a59])) rfl ?_
        refine y_get hS tq_X12_guardNow (v := .int (rF ρ (360 + (Int32.toNatClampNeg guard)) 1)) rfl fg_X12_219_X10 (hX130.gu (by assumption)) rfl ?_
        refine y_blk 1 tq_X12_guardNow (z := (140, [(0, .ref (ad 200)), (1, .int guard), (2, .int what), (3, .ref (ad (360 + (Int32.toNatClampNeg guard)))), (4, .int v20_4), (5, .int v20_5)], [.ref (ad (360 + (Int32.toNatClampNeg guard))), .int (rF ρ (360 + (Int32.toNatClampNeg guard)) 1), .int 0, .int 8, .ref a59, .ref a59])) rfl ?_
        refine y_get hS tq_X12_guardNow (v := .int (rF ρ (360 + (Int32.toNatClampNeg guard)) 0)) rfl fg_X12_216_X10 (hX130.gu (by assumption)) rfl ?_
        refine y_blk 3 tq_X12_guardNow (z := (147, [(0, .ref (ad 200)), (1, .int guard), (2, .int what), (3, .ref (ad (360 + (Int32.toNatClampNeg guard)))), (4, .int v20_4), (5, .int v20_5)], [.int (((rF ρ (360 + (Int32.toNatClampNeg guard)) 1) - (rF ρ (360 + (Int32.toNatClampNeg guard)) 0)) - 89), .int 0, .int 8, .ref a59, .ref a59])) rfl ?_
        refine y_mmax hS tq_X12_guardNow rfl ⟨by decide +kernel, by decide +kernel⟩ (Nat.le_of_ble_eq_true rfl) (by decide) ?_
        refine y_blk 0 tq_X12_guardNow (z := (150, [(0, .ref (ad 200)), (1, .int guard), (2, .int what), (3, .ref (ad (360 + (Int32.toNatClampNeg guard)))), (4, .int v20_4), (5, .int v20_5)], [.int (if 0 < (((rF ρ (360 + (Int32.toNatClampNeg guard)) 1) - (rF ρ (360 + (Int32.toNatClampNeg guard)) 0)) - 89) then (((rF ρ (360 + (Int32.toNatClampNeg guard)) 1) - (rF ρ (360 + (Int32.toNatClampNeg guard)) 0)) - 89) else 0), .int 8, .ref a59, .ref a59])) rfl ?_
        refine y_iast hS tq_X12_guardNow rfl hA130 (by decide) (by first | exact yIn (by decide) (by decide) | exact yIn (by assumption) (by assumption) | (exact yIn (by omega) (by omega))) ?_
        have hA150 : (yup G130 a59 (500, .inl (aC 0, 9, .inl (upd f130 (Int32.toNatClampNeg 8) (if 0 < (((rF ρ (360 + (Int32.toNatClampNeg guard)) 1) - (rF ρ (360 + (Int32.toNatClampNeg guard)) 0)) - 89) then (((rF ρ (360 + (Int32.toNatClampNeg guard)) 1) - (rF ρ (360 + (Int32.toNatClampNeg guard)) 0)) - 89) else 0))))) a59 = some (500, .inl (aC 0, 9, .inl (upd f130 (Int32.toNatClampNeg 8) (if 0 < (((rF ρ (360 + (Int32.toNatClampNeg guard)) 1) - (rF ρ (360 + (Int32.toNatClampNeg guard)) 0)) - 89) then (((rF ρ (360 + (Int32.toNatClampNeg guard)) 1) - (rF ρ (360 + (Int32.toNatClampNeg guard)) 0)) - 89) else 0)))) := yup_s _ _ _
        have hX150 : atR aC ic de ad (yup G130 a59 (500, .inl (aC 0, 9, .inl (upd f130 (Int32.toNatClampNeg 8) (if 0 < (((rF ρ (360 + (Int32.toNatClampNeg guard)) 1) - (rF ρ (360 + (Int32.toNatClampNeg guard)) 0)) - 89) then (((rF ρ (360 + (Int32.toNatClampNeg guard)) 1) - (rF ρ (360 + (Int32.toNatClampNeg guard)) 0)) - 89) else 0))))) ρ := hX130.kp (yTg.up hA130 (by decide))
        have kt150 : yTg kA G (yup G130 a59 (500, .inl (aC 0, 9, .inl (upd f130 (Int32.toNatClampNeg 8) (if 0 < (((rF ρ (360 + (Int32.toNatClampNeg guard)) 1) - (rF ρ (360 + (Int32.toNatClampNeg guard)) 0)) - 89) then (((rF ρ (360 + (Int32.toNatClampNeg guard)) 1) - (rF ρ (360 + (Int32.toNatClampNeg guard)) 0)) - 89) else 0))))) := (kt130).trans (yTg.up hA130 (by decide))
        generalize yup G130 a59 (500, .inl (aC 0, 9, .inl (upd f130 (Int32.toNatClampNeg 8) (if 0 < (((rF ρ (360 + (Int32.toNatClampNeg guard)) 1) - (rF ρ (360 + (Int32.toNatClampNeg guard)) 0)) - 89) then (((rF ρ (360 + (Int32.toNatClampNeg guard)) 1) - (rF ρ (360 + (Int32.toNatClampNeg guard)) 0)) - 89) else 0)))) = G150 at hA150 hX150 kt150 ⊢
        generalize (upd f130 (Int32.toNatClampNeg 8) (if 0 < (((rF ρ (360 + (Int32.toNatClampNeg guard)) 1) - (rF ρ (360 + (Int32.toNatClampNeg guard)) 0)) - 89) then (((rF ρ (360 + (Int32.toNatClampNeg guard)) 1) - (rF ρ (360 + (Int32.toNatClampNeg guard)) 0)) - 89) else 0)) = f150 at hA150
        refine y_blk 3 tq_X12_guardNow (z := (156, [(5, .ref a59), (0, .ref (ad 200)), (1, .int guard), (2, .int what), (3, .ref (ad (360 + (Int32.toNatClampNeg guard)))), (4, .int v20_4)], [.int what, .ref a59])) rfl ?_
        refine y_iald hS tq_X12_guardNow rfl hA150 (by first | exact yIn (by decide) (by decide) | exact yIn (by assumption) (by assumption) | (exact yIn (by omega) (by omega))) ?_
        refine y_blk 0 tq_X12_guardNow (z := (157, [(5, .ref a59), (0, .ref (ad 200)), (1, .int guard), (2, .int what), (3, .ref (ad (360 + (Int32.toNatClampNeg guard)))), (4, .int v20_4)], [.int (f150 (Int32.toNatClampNeg what))])) rfl ?_
        exact y_iret tq_X12_guardNow rfl rfl (⟨⟨_, rfl⟩, kt150⟩)
      · skip
        refine y_blk 2 tq_X12_guardNow (z := (116, [(0, .ref (ad 200)), (1, .int guard), (2, .int what), (3, .ref (ad (360 + (Int32.toNatClampNeg guard)))), (4, .int v20_4), (5, .int v20_5)], [.int 1, .int 5, .ref a59, .ref a59])) rfl ?_
        refine y_iast hS tq_X12_guardNow rfl hA100 (by decide) (by first | exact yIn (by decide) (by decide) | exact yIn (by assumption) (by assumption) | (exact yIn (by omega) (by omega))) ?_
        have hA116 : (yup G100 a59 (500, .inl (aC 0, 9, .inl (upd f100 (Int32.toNatClampNeg 5) 1)))) a59 = some (500, .inl (aC 0, 9, .inl (upd f100 (Int32.toNatClampNeg 5) 1))) := yup_s _ _ _
        have hX116 : atR aC ic de ad (yup G100 a59 (500, .inl (aC 0, 9, .inl (upd f100 (Int32.toNatClampNeg 5) 1)))) ρ := hX100.kp (yTg.up hA100 (by decide))
        have kt116 : yTg kA G (yup G100 a59 (500, .inl (aC 0, 9, .inl (upd f100 (Int32.toNatClampNeg 5) 1)))) := (kt100).trans (yTg.up hA100 (by decide))
        generalize yup G100 a59 (500, .inl (aC 0, 9, .inl (upd f100 (Int32.toNatClampNeg 5) 1))) = G116 at hA116 hX116 kt116 ⊢
        generalize (upd f100 (Int32.toNatClampNeg 5) 1) = f116 at hA116
        refine y_blk 3 tq_X12_guardNow (z := (122, [(0, .ref (ad 200)), (1, .int guard), (2, .int what), (3, .ref (ad (360 + (Int32.toNatClampNeg guard)))), (4, .int v20_4), (5, .int v20_5)], [.int v20_4, .int 6, .ref a59, .ref a59])) rfl ?_
        refine y_iast hS tq_X12_guardNow rfl hA116 (by decide) (by first | exact yIn (by decide) (by decide) | exact yIn (by assumption) (by assumption) | (exact yIn (by omega) (by omega))) ?_
        have hA122 : (yup G116 a59 (500, .inl (aC 0, 9, .inl (upd f116 (Int32.toNatClampNeg 6) v20_4)))) a59 = some (500, .inl (aC 0, 9, .inl (upd f116 (Int32.toNatClampNeg 6) v20_4))) := yup_s _ _ _
        have hX122 : atR aC ic de ad (yup G116 a59 (500, .inl (aC 0, 9, .inl (upd f116 (Int32.toNatClampNeg 6) v20_4)))) ρ := hX116.kp (yTg.up hA116 (by decide))
        have kt122 : yTg kA G (yup G116 a59 (500, .inl (aC 0, 9, .inl (upd f116 (Int32.toNatClampNeg 6) v20_4)))) := (kt116).trans (yTg.up hA116 (by decide))
        generalize yup G116 a59 (500, .inl (aC 0, 9, .inl (upd f116 (Int32.toNatClampNeg 6) v20_4))) = G122 at hA122 hX122 kt122 ⊢
        generalize (upd f116 (Int32.toNatClampNeg 6) v20_4) = f122 at hA122
        refine y_blk 3 tq_X12_guardNow (z := (127, [(0, .ref (ad 200)), (1, .int guard), (2, .int what), (3, .ref (ad (360 + (Int32.toNatClampNeg guard)))), (4, .int v20_4), (5, .int v20_5)], [.ref (ad (360 + (Int32.toNatClampNeg guard))), .int 7, .ref a59, .ref a59])) rfl ?_
        refine y_get hS tq_X12_guardNow (v := .int (rF ρ (360 + (Int32.toNatClampNeg guard)) 4)) rfl fg_X12_89_X10 (hX122.gu (by assumption)) rfl ?_
        refine y_blk 0 tq_X12_guardNow (z := (130, [(0, .ref (ad 200)), (1, .int guard), (2, .int what), (3, .ref (ad (360 + (Int32.toNatClampNeg guard)))), (4, .int v20_4), (5, .int v20_5)], [.int (rF ρ (360 + (Int32.toNatClampNeg guard)) 4), .int 7, .ref a59, .ref a59])) rfl ?_
        refine y_iast hS tq_X12_guardNow rfl hA122 (by decide) (by first | exact yIn (by decide) (by decide) | exact yIn (by assumption) (by assumption) | (exact yIn (by omega) (by omega))) ?_
        have hA130 : (yup G122 a59 (500, .inl (aC 0, 9, .inl (upd f122 (Int32.toNatClampNeg 7) (rF ρ (360 + (Int32.toNatClampNeg guard)) 4))))) a59 = some (500, .inl (aC 0, 9, .inl (upd f122 (Int32.toNatClampNeg 7) (rF ρ (360 + (Int32.toNatClampNeg guard)) 4)))) := yup_s _ _ _
        have hX130 : atR aC ic de ad (yup G122 a59 (500, .inl (aC 0, 9, .inl (upd f122 (Int32.toNatClampNeg 7) (rF ρ (360 + (Int32.toNatClampNeg guard)) 4))))) ρ := hX122.kp (yTg.up hA122 (by decide))
        have kt130 : yTg kA G (yup G122 a59 (500, .inl (aC 0, 9, .inl (upd f122 (Int32.toNatClampNeg 7) (rF ρ (360 + (Int32.toNatClampNeg guard)) 4))))) := (kt122).trans (yTg.up hA122 (by decide))
        generalize yup G122 a59 (500, .inl (aC 0, 9, .inl (upd f122 (Int32.toNatClampNeg 7) (rF ρ (360 + (Int32.toNatClampNeg guard)) 4)))) = G130 at hA130 hX130 kt130 ⊢
        generalize (upd f122 (Int32.toNatClampNeg 7) (rF ρ (360 + (Int32.toNatClampNeg guard)) 4)) = f130 at hA130
        refine y_blk 4 tq_X12_guardNow (z := (136, [(0, .ref (ad 200)), (1, .int guard), (2, .int what), (3, .ref (ad (360 + (Int32.toNatClampNeg guard)))), (4, .int v20_4), (5, .int v20_5)], [.ref (ad (360 + (Int32.toNatClampNeg guard))), .int 0, .int 8, .ref a59, .ref a59])) rfl ?_
        refine y_get hS tq_X12_guardNow (v := .int (rF ρ (360 + (Int32.toNatClampNeg guard)) 1)) rfl fg_X12_219_X10 (hX130.gu (by assumption)) rfl ?_
        refine y_blk 1 tq_X12_guardNow (z := (140, [(0, .ref (ad 200)), (1, .int guard), (2, .int what), (3, .ref (ad (360 + (Int32.toNatClampNeg guard)))), (4, .int v20_4), (5, .int v20_5)], [.ref (ad (360 + (Int32.toNatClampNeg guard))), .int (rF ρ (360 + (Int32.toNatClampNeg guard)) 1), .int 0, .int 8, .ref a59, .ref a59])) rfl ?_
        refine y_get hS tq_X12_guardNow (v := .int (rF ρ (360 + (Int32.toNatClampNeg guard)) 0)) rfl fg_X12_216_X10 (hX130.gu (by assumption)) rfl ?_
        refine y_blk 3 tq_X12_guardNow (z := (147, [(0, .ref (ad 200)), (1, .int guard), (2, .int what), (3, .ref (ad (360 + (Int32.toNatClampNeg guard)))), (4, .int v20_4), (5, .int v20_5)], [.int (((rF ρ (360 + (Int32.toNatClampNeg guard)) 1) - (rF ρ (360 + (Int32.toNatClampNeg guard)) 0)) - 89), .int 0, .int 8, .ref a59, .ref a59])) rfl ?_
        refine y_mmax hS tq_X12_guardNow rfl ⟨by decide +kernel, by decide +kernel⟩ (Nat.le_of_ble_eq_true rfl) (by decide) ?_
        refine y_blk 0 tq_X12_guardNow (z := (150, [(0, .ref (ad 200)), (1, .int guard), (2, .int what), (3, .ref (ad (360 + (Int32.toNatClampNeg guard)))), (4, .int v20_4), (5, .int v20_5)], [.int (if 0 < (((rF ρ (360 + (Int32.toNatClampNeg guard)) 1) - (rF ρ (360 + (Int32.toNatClampNeg guard)) 0)) - 89) then (((rF ρ (360 + (Int32.toNatClampNeg guard)) 1) - (rF ρ (360 + (Int32.toNatClampNeg guard)) 0)) - 89) else 0), .int 8, .ref a59, .ref a59])) rfl ?_
        refine y_iast hS tq_X12_guardNow rfl hA130 (by decide) (by first | exact yIn (by decide) (by decide) | exact yIn (by assumption) (by assumption) | (exact yIn (by omega) (by omega))) ?_
        have hA150 : (yup G130 a59 (500, .inl (aC 0, 9, .inl (upd f130 (Int32.toNatClampNeg 8) (if 0 < (((rF ρ (360 + (Int32.toNatClampNeg guard)) 1) - (rF ρ (360 + (Int32.toNatClampNeg guard)) 0)) - 89) then (((rF ρ (360 + (Int32.toNatClampNeg guard)) 1) - (rF ρ (360 + (Int32.toNatClampNeg guard)) 0)) - 89) else 0))))) a59 = some (500, .inl (aC 0, 9, .inl (upd f130 (Int32.toNatClampNeg 8) (if 0 < (((rF ρ (360 + (Int32.toNatClampNeg guard)) 1) - (rF ρ (360 + (Int32.toNatClampNeg guard)) 0)) - 89) then (((rF ρ (360 + (Int32.toNatClampNeg guard)) 1) - (rF ρ (360 + (Int32.toNatClampNeg guard)) 0)) - 89) else 0)))) := yup_s _ _ _
        have hX150 : atR aC ic de ad (yup G130 a59 (500, .inl (aC 0, 9, .inl (upd f130 (Int32.toNatClampNeg 8) (if 0 < (((rF ρ (360 + (Int32.toNatClampNeg guard)) 1) - (rF ρ (360 + (Int32.toNatClampNeg guard)) 0)) - 89) then (((rF ρ (360 + (Int32.toNatClampNeg guard)) 1) - (rF ρ (360 + (Int32.toNatClampNeg guard)) 0)) - 89) else 0))))) ρ := hX130.kp (yTg.up hA130 (by decide))
        have kt150 : yTg kA G (yup G130 a59 (500, .inl (aC 0, 9, .inl (upd f130 (Int32.toNatClampNeg 8) (if 0 < (((rF ρ (360 + (Int32.toNatClampNeg guard)) 1) - (rF ρ (360 + (Int32.toNatClampNeg guard)) 0)) - 89) then (((rF ρ (360 + (Int32.toNatClampNeg guard)) 1) - (rF ρ (360 + (Int32.toNatClampNeg guard)) 0)) - 89) else 0))))) := (kt130).trans (yTg.up hA130 (by decide))
        generalize yup G130 a59 (500, .inl (aC 0, 9, .inl (upd f130 (Int32.toNatClampNeg 8) (if 0 < (((rF ρ (360 + (Int32.toNatClampNeg guard)) 1) - (rF ρ (360 + (Int32.toNatClampNeg guard)) 0)) - 89) then (((rF ρ (360 + (Int32.toNatClampNeg guard)) 1) - (rF ρ (360 + (Int32.toNatClampNeg guard)) 0)) - 89) else 0)))) = G150 at hA150 hX150 kt150 ⊢
        generalize (upd f130 (Int32.toNatClampNeg 8) (if 0 < (((rF ρ (360 + (Int32.toNatClampNeg guard)) 1) - (rF ρ (360 + (Int32.toNatClampNeg guard)) 0)) - 89) then (((rF ρ (360 + (Int32.toNatClampNeg guard)) 1) - (rF ρ (360 + (Int32.toNatClampNeg guard)) 0)) - 89) else 0)) = f150 at hA150
        refine y_blk 3 tq_X12_guardNow (z := (156, [(5, .ref a59), (0, .ref (ad 200)), (1, .int guard), (2, .int what), (3, .ref (ad (360 + (Int32.toNatClampNeg guard)))), (4, .int v20_4)], [.int what, .ref a59])) rfl ?_
        refine y_iald hS tq_X12_guardNow rfl hA150 (by first | exact yIn (by decide) (by decide) | exact yIn (by assumption) (by assumption) | (exact yIn (by omega) (by omega))) ?_
        refine y_blk 0 tq_X12_guardNow (z := (157, [(5, .ref a59), (0, .ref (ad 200)), (1, .int guard), (2, .int what), (3, .ref (ad (360 + (Int32.toNatClampNeg guard)))), (4, .int v20_4)], [.int (f150 (Int32.toNatClampNeg what))])) rfl ?_
        exact y_iret tq_X12_guardNow rfl rfl (⟨⟨_, rfl⟩, kt150⟩)
    · skip
      have b24 : v20_5.toInt < 6 := by rw [yle] at c24; have z9 : (6 : Int32).toInt = 6 := (by decide); omega
      refine y_blk 2 tq_X12_guardNow (z := (30, [(0, .ref (ad 200)), (1, .int guard), (2, .int what), (3, .ref (ad (360 + (Int32.toNatClampNeg guard)))), (4, .int v20_4), (5, .int v20_5)], [.ref (ad 200), .int v20_4])) rfl ?_
      refine y_get hS tq_X12_guardNow (v := .ref (ad 203)) rfl fg_X12_39_X12 hX.m rfl ?_
      refine y_blk 1 tq_X12_guardNow (z := (35, [(0, .ref (ad 200)), (1, .int guard), (2, .int what), (3, .ref (ad (360 + (Int32.toNatClampNeg guard)))), (4, .int v20_4), (5, .int v20_5)], [.int v20_5, .ref (ad 203), .int v20_4])) rfl ?_
      refine y_iald hS tq_X12_guardNow rfl hX.ke (by first | exact yIn (by decide) (by decide) | exact yIn (by assumption) (by assumption) | (exact yIn (by omega) (by omega))) ?_
      refine y_blk 1 tq_X12_guardNow (z := (37, [(0, .ref (ad 200)), (1, .int guard), (2, .int what), (3, .ref (ad (360 + (Int32.toNatClampNeg guard)))), (4, .int v20_4), (5, .int v20_5)], [.int guard, .int ((rV ρ 203) (Int32.toNatClampNeg v20_5)), .int v20_4])) rfl ?_
      refine y_icmp_ne tq_X12_guardNow 47 rfl rfl (fun c37 => ?_) (fun c37 => ?_)
      · skip
        refine y_blk 5 tq_X12_guardNow (z := (20, [(5, .int (v20_5 + 1)), (4, .int (v20_4 ||| 0)), (0, .ref (ad 200)), (1, .int guard), (2, .int what), (3, .ref (ad (360 + (Int32.toNatClampNeg guard))))], [])) rfl ?_
        refine y_pick (L2 := [(0, .ref (ad 200)), (1, .int guard), (2, .int what), (3, .ref (ad (360 + (Int32.toNatClampNeg guard)))), (4, .int (v20_4 ||| 0)), (5, .int (v20_5 + 1))]) [2, 3, 4, 5, 1, 0] rfl ?_
        exact ih20 _ (by exact ydec c24) (v20_4 ||| 0) (v20_5 + 1) (by first | decide | assumption | exact Int.le_refl _ | exact yposgeL (by assumption) c24) rfl
      · skip
        refine y_blk 8 tq_X12_guardNow (z := (20, [(5, .int (v20_5 + 1)), (4, .int (v20_4 ||| (1 <<< (v20_5 &&& 31)))), (0, .ref (ad 200)), (1, .int guard), (2, .int what), (3, .ref (ad (360 + (Int32.toNatClampNeg guard))))], [])) rfl ?_
        refine y_pick (L2 := [(0, .ref (ad 200)), (1, .int guard), (2, .int what), (3, .ref (ad (360 + (Int32.toNatClampNeg guard)))), (4, .int (v20_4 ||| (1 <<< (v20_5 &&& 31)))), (5, .int (v20_5 + 1))]) [2, 3, 4, 5, 1, 0] rfl ?_
        exact ih20 _ (by exact ydec c24) (v20_4 ||| (1 <<< (v20_5 &&& 31))) (v20_5 + 1) (by first | decide | assumption | exact Int.le_refl _ | exact yposgeL (by assumption) c24) rfl
  refine y_blk 1 tq_X12_guardNow (z := (1, [(0, .ref (ad 200)), (1, .int guard), (2, .int what)], [.ref (ad 200)])) rfl ?_
  refine y_get hS tq_X12_guardNow (v := .ref (ad 212)) rfl fg_X12_27_X12 hX.m rfl ?_
  refine y_blk 1 tq_X12_guardNow (z := (5, [(0, .ref (ad 200)), (1, .int guard), (2, .int what)], [.int guard, .ref (ad 212)])) rfl ?_
  refine y_callF hS tq_X12_guardNow rfl (As := [.int guard]) rfl cf_X12_80 (Or.inl ⟨_, (hX.ls 212 (by decide)).1⟩) (m_Rgu hS hX (by assumption) (by assumption)) rfl (by decide) (Nat.le_of_ble_eq_true rfl) (fun r5 Gc5 q5 => ?_) (fun _ _ h9 => h9.elim)
  obtain ⟨rfl, eG5⟩ := q5
  have eG5 := eG5.symm
  subst eG5
  have d5 : (Int32.toNatClampNeg guard) < rZ ρ 212 := yIx (by assumption) (by assumption)
  refine y_blk 0 tq_X12_guardNow (z := (10, [(0, .ref (ad 200)), (1, .int guard), (2, .int what)], [.ref (ad (360 + (Int32.toNatClampNeg guard)))])) rfl ?_
  refine y_castG hS tq_X12_guardNow rfl kc_X12_84 (Or.inl ⟨_, (hX.gu (by assumption))⟩) ?_
  refine y_blk 5 tq_X12_guardNow (z := (20, [(5, .int 0), (4, .int 0), (3, .ref (ad (360 + (Int32.toNatClampNeg guard)))), (0, .ref (ad 200)), (1, .int guard), (2, .int what)], [])) rfl ?_
  refine y_pick (L2 := [(0, .ref (ad 200)), (1, .int guard), (2, .int what), (3, .ref (ad (360 + (Int32.toNatClampNeg guard)))), (4, .int 0), (5, .int 0)]) [3, 4, 5, 2, 1, 0] rfl ?_
  exact J20 _ 0 0 (by first | decide | assumption | exact Int.le_refl _ | exact yposgeL (by assumption) c24) rfl
set_option maxHeartbeats 4000000 in
set_option maxRecDepth 100000 in
theorem m_X12_manyNow {l : Launch} {S0 : State} {A0 : Array Value} {D : va_G} {aC : Nat → ClassId} {ic : Int32 → Nat} {de : Nat} {ad : Nat → Nat} {G : AH} {ρ : RS} (hS : yS l S0 A0 D aC) (hI : yIc S0 ic de) (hX : atR aC ic de ad G ρ) (what : Int32) (hw0 : 0 ≤ what.toInt) (hw1 : what.toInt < 13) : yM l S0 D yX12_manyNow cX12_manyNow 10 (some .int) 22 1 13 [.ref (ad 200), .int what] G (fun r G1 => (∃ v : Int32, r = some (.int v)) ∧ yTg kA G G1) (fun _ _ => False) := by
  refine yM.ofK K_X12_manyNow rfl (by decide) (Nat.le_of_ble_eq_true rfl) ?_
  have J164 : ∀ (n164 : Nat) (v164_2 : Int32) (v164_3 : Int32) (v164_4 : Int32) (v164_5 : Int32) (v164_6 : Int32) (v164_8 : Int32) (h0_164 : 0 ≤ v164_6.toInt), ((239 : Int32).toInt + 1 - v164_6.toInt).toNat = n164 → Y l S0 D K_X12_manyNow 22 1 13 (fun r G1 => (∃ v : Int32, r = some (.int v)) ∧ yTg kA G G1) (fun _ _ => False) 164 [(0, .ref (ad 200)), (1, .int what), (2, .int v164_2), (3, .int v164_3), (4, .int v164_4), (5, .int v164_5), (6, .int v164_6), (7, .int (Int32.ofNat 6)), (8, .int v164_8)] [] G 1 13 := by
    intro n164
    induction n164 using Nat.strongRecOn with
    | _ n164 ih164 =>
    intro v164_2 v164_3 v164_4 v164_5 v164_6 v164_8 h0_164 hn164
    subst hn164
    refine y_blk 2 tq_X12_manyNow (z := (169, [(0, .ref (ad 200)), (1, .int what), (2, .int v164_2), (3, .int v164_3), (4, .int v164_4), (5, .int v164_5), (6, .int v164_6), (7, .int (Int32.ofNat 6)), (8, .int v164_8)], [.int 239, .int v164_6])) rfl ?_
    refine y_icmp_gt tq_X12_manyNow 204 rfl rfl (fun c169 => ?_) (fun c169 => ?_)
    · skip
      refine y_blk 1 tq_X12_manyNow (z := (206, [(0, .ref (ad 200)), (1, .int what), (2, .int v164_2), (3, .int v164_3), (4, .int v164_4), (5, .int v164_5), (6, .int v164_6), (7, .int (Int32.ofNat 6)), (8, .int v164_8)], [.int 13])) rfl ?_
      refine y_newa_int 500 hS tq_X12_manyNow (kc := 0) (ks := 0) (n := 13) rfl wd_176 (by decide) (by decide) (by decide) (fun a206 hne206 => ?_)
      have hle206 : yLe G (yup G a206 (500, .inl (aC 0, 13, .inl (fun _ => 0)))) := yLe.new hne206
      have hA206 : (yup G a206 (500, .inl (aC 0, 13, .inl (fun _ => 0)))) a206 = some (500, .inl (aC 0, 13, .inl (fun _ => 0))) := yup_s _ _ _
      generalize yup G a206 (500, .inl (aC 0, 13, .inl (fun _ => 0))) = G206 at hle206 hA206 ⊢
      have hX206 := hX.le hle206
      have kt206 := ((yTg.rfl' (f := kA) (G := G))).trans (yTg.le hle206)
      refine y_blk 3 tq_X12_manyNow (z := (211, [(0, .ref (ad 200)), (1, .int what), (2, .int v164_2), (3, .int v164_3), (4, .int v164_4), (5, .int v164_5), (6, .int v164_6), (7, .int (Int32.ofNat 6)), (8, .int v164_8)], [.ref (ad 200), .int 0, .ref a206, .ref a206])) rfl ?_
      refine y_get hS tq_X12_manyNow (v := .ref (ad 201)) rfl fg_X12_7_X12 hX206.m rfl ?_
      refine y_blk 0 tq_X12_manyNow (z := (214, [(0, .ref (ad 200)), (1, .int what), (2, .int v164_2), (3, .int v164_3), (4, .int v164_4), (5, .int v164_5), (6, .int v164_6), (7, .int (Int32.ofNat 6)), (8, .int v164_8)], [.ref (ad 201), .int 0, .ref a206, .ref a206])) rfl ?_
      refine y_alen hS tq_X12_manyNow 0 rfl rfl hX206.ki ?_
      refine y_blk 0 tq_X12_manyNow (z := (215, [(0, .ref (ad 200)), (1, .int what), (2, .int v164_2), (3, .int v164_3), (4, .int v164_4), (5, .int v164_5), (6, .int v164_6), (7, .int (Int32.ofNat 6)), (8, .int v164_8)], [.int (Int32.ofNat (rZ ρ 201)), .int 0, .ref a206, .ref a206])) rfl ?_
      refine y_iast hS tq_X12_manyNow rfl hA206 (by decide) (by first | exact yIn (by decide) (by decide) | exact yIn (by assumption) (by assumption) | (exact yIn (by omega) (by omega))) ?_
      have hA215 : (yup G206 a206 (500, .inl (aC 0, 13, .inl (upd (fun _ => 0) (Int32.toNatClampNeg 0) (Int32.ofNat (rZ ρ 201)))))) a206 = some (500, .inl (aC 0, 13, .inl (upd (fun _ => 0) (Int32.toNatClampNeg 0) (Int32.ofNat (rZ ρ 201))))) := yup_s _ _ _
      have hX215 : atR aC ic de ad (yup G206 a206 (500, .inl (aC 0, 13, .inl (upd (fun _ => 0) (Int32.toNatClampNeg 0) (Int32.ofNat (rZ ρ 201)))))) ρ := hX206.kp (yTg.up hA206 (by decide))
      have kt215 : yTg kA G (yup G206 a206 (500, .inl (aC 0, 13, .inl (upd (fun _ => 0) (Int32.toNatClampNeg 0) (Int32.ofNat (rZ ρ 201)))))) := (kt206).trans (yTg.up hA206 (by decide))
      generalize yup G206 a206 (500, .inl (aC 0, 13, .inl (upd (fun _ => 0) (Int32.toNatClampNeg 0) (Int32.ofNat (rZ ρ 201))))) = G215 at hA215 hX215 kt215 ⊢
      generalize (upd (fun _ => 0) (Int32.toNatClampNeg 0) (Int32.ofNat (rZ ρ 201))) = f215 at hA215
      refine y_blk 3 tq_X12_manyNow (z := (219, [(0, .ref (ad 200)), (1, .int what), (2, .int v164_2), (3, .int v164_3), (4, .int v164_4), (5, .int v164_5), (6, .int v164_6), (7, .int (Int32.ofNat 6)), (8, .int v164_8)], [.ref (ad 200), .int 1, .ref a206, .ref a206])) rfl ?_
      refine y_get hS tq_X12_manyNow (v := .ref (ad 210)) rfl fg_X12_20_X12 hX215.m rfl ?_
      refine y_blk 0 tq_X12_manyNow (z := (222, [(0, .ref (ad 200)), (1, .int what), (2, .int v164_2), (3, .int v164_3), (4, .int v164_4), (5, .int v164_5), (6, .int v164_6), (7, .int (Int32.ofNat 6)), (8, .int v164_8)], [.ref (ad 210), .int 1, .ref a206, .ref a206])) rfl ?_
      refine y_callF hS tq_X12_manyNow rfl (As := []) rfl cf_X12_58 (Or.inl ⟨_, (hX215.ls 210 (by decide)).1⟩) (m_Jsize hS (hX215.ls 210 (by decide))) rfl (by decide) (Nat.le_of_ble_eq_true rfl) (fun r222 Gc222 q222 => ?_) (fun _ _ h9 => h9.elim)
      obtain ⟨rfl, eG222⟩ := q222
      have eG222 := eG222.symm
      subst eG222
      refine y_blk 0 tq_X12_manyNow (z := (227, [(0, .ref (ad 200)), (1, .int what), (2, .int v164_2), (3, .int v164_3), (4, .int v164_4), (5, .int v164_5), (6, .int v164_6), (7, .int (Int32.ofNat 6)), (8, .int v164_8)], [.int (Int32.ofNat (rZ ρ 210)), .int 1, .ref a206, .ref a206])) rfl ?_
      refine y_iast hS tq_X12_manyNow rfl hA215 (by decide) (by first | exact yIn (by decide) (by decide) | exact yIn (by assumption) (by assumption) | (exact yIn (by omega) (by omega))) ?_
      have hA227 : (yup G215 a206 (500, .inl (aC 0, 13, .inl (upd f215 (Int32.toNatClampNeg 1) (Int32.ofNat (rZ ρ 210)))))) a206 = some (500, .inl (aC 0, 13, .inl (upd f215 (Int32.toNatClampNeg 1) (Int32.ofNat (rZ ρ 210))))) := yup_s _ _ _
      have hX227 : atR aC ic de ad (yup G215 a206 (500, .inl (aC 0, 13, .inl (upd f215 (Int32.toNatClampNeg 1) (Int32.ofNat (rZ ρ 210)))))) ρ := hX215.kp (yTg.up hA215 (by decide))
      have kt227 : yTg kA G (yup G215 a206 (500, .inl (aC 0, 13, .inl (upd f215 (Int32.toNatClampNeg 1) (Int32.ofNat (rZ ρ 210)))))) := (kt215).trans (yTg.up hA215 (by decide))
      generalize yup G215 a206 (500, .inl (aC 0, 13, .inl (upd f215 (Int32.toNatClampNeg 1) (Int32.ofNat (rZ ρ 210))))) = G227 at hA227 hX227 kt227 ⊢
      generalize (upd f215 (Int32.toNatClampNeg 1) (Int32.ofNat (rZ ρ 210))) = f227 at hA227
      refine y_blk 3 tq_X12_manyNow (z := (231, [(0, .ref (ad 200)), (1, .int what), (2, .int v164_2), (3, .int v164_3), (4, .int v164_4), (5, .int v164_5), (6, .int v164_6), (7, .int (Int32.ofNat 6)), (8, .int v164_8)], [.int v164_2, .int 2, .ref a206, .ref a206])) rfl ?_
      refine y_iast hS tq_X12_manyNow rfl hA227 (by decide) (by first | exact yIn (by decide) (by decide) | exact yIn (by assumption) (by assumption) | (exact yIn (by omega) (by omega))) ?_
      have hA231 : (yup G227 a206 (500, .inl (aC 0, 13, .inl (upd f227 (Int32.toNatClampNeg 2) v164_2)))) a206 = some (500, .inl (aC 0, 13, .inl (upd f227 (Int32.toNatClampNeg 2) v164_2))) := yup_s _ _ _
      have hX231 : atR aC ic de ad (yup G227 a206 (500, .inl (aC 0, 13, .inl (upd f227 (Int32.toNatClampNeg 2) v164_2)))) ρ := hX227.kp (yTg.up hA227 (by decide))
      have kt231 : yTg kA G (yup G227 a206 (500, .inl (aC 0, 13, .inl (upd f227 (Int32.toNatClampNeg 2) v164_2)))) := (kt227).trans (yTg.up hA227 (by decide))
      generalize yup G227 a206 (500, .inl (aC 0, 13, .inl (upd f227 (Int32.toNatClampNeg 2) v164_2))) = G231 at hA231 hX231 kt231 ⊢
      generalize (upd f227 (Int32.toNatClampNeg 2) v164_2) = f231 at hA231
      refine y_blk 3 tq_X12_manyNow (z := (235, [(0, .ref (ad 200)), (1, .int what), (2, .int v164_2), (3, .int v164_3), (4, .int v164_4), (5, .int v164_5), (6, .int v164_6), (7, .int (Int32.ofNat 6)), (8, .int v164_8)], [.ref (ad 200), .int 3, .ref a206, .ref a206])) rfl ?_
      refine y_get hS tq_X12_manyNow (v := .ref (ad 212)) rfl fg_X12_27_X12 hX231.m rfl ?_
      refine y_blk 0 tq_X12_manyNow (z := (238, [(0, .ref (ad 200)), (1, .int what), (2, .int v164_2), (3, .int v164_3), (4, .int v164_4), (5, .int v164_5), (6, .int v164_6), (7, .int (Int32.ofNat 6)), (8, .int v164_8)], [.ref (ad 212), .int 3, .ref a206, .ref a206])) rfl ?_
      refine y_callF hS tq_X12_manyNow rfl (As := []) rfl cf_X12_58 (Or.inl ⟨_, (hX231.ls 212 (by decide)).1⟩) (m_Jsize hS (hX231.ls 212 (by decide))) rfl (by decide) (Nat.le_of_ble_eq_true rfl) (fun r238 Gc238 q238 => ?_) (fun _ _ h9 => h9.elim)
      obtain ⟨rfl, eG238⟩ := q238
      have eG238 := eG238.symm
      subst eG238
      refine y_blk 0 tq_X12_manyNow (z := (243, [(0, .ref (ad 200)), (1, .int what), (2, .int v164_2), (3, .int v164_3), (4, .int v164_4), (5, .int v164_5), (6, .int v164_6), (7, .int (Int32.ofNat 6)), (8, .int v164_8)], [.int (Int32.ofNat (rZ ρ 212)), .int 3, .ref a206, .ref a206])) rfl ?_
      refine y_iast hS tq_X12_manyNow rfl hA231 (by decide) (by first | exact yIn (by decide) (by decide) | exact yIn (by assumption) (by assumption) | (exact yIn (by omega) (by omega))) ?_
      have hA243 : (yup G231 a206 (500, .inl (aC 0, 13, .inl (upd f231 (Int32.toNatClampNeg 3) (Int32.ofNat (rZ ρ 212)))))) a206 = some (500, .inl (aC 0, 13, .inl (upd f231 (Int32.toNatClampNeg 3) (Int32.ofNat (rZ ρ 212))))) := yup_s _ _ _
      have hX243 : atR aC ic de ad (yup G231 a206 (500, .inl (aC 0, 13, .inl (upd f231 (Int32.toNatClampNeg 3) (Int32.ofNat (rZ ρ 212)))))) ρ := hX231.kp (yTg.up hA231 (by decide))
      have kt243 : yTg kA G (yup G231 a206 (500, .inl (aC 0, 13, .inl (upd f231 (Int32.toNatClampNeg 3) (Int32.ofNat (rZ ρ 212)))))) := (kt231).trans (yTg.up hA231 (by decide))
      generalize yup G231 a206 (500, .inl (aC 0, 13, .inl (upd f231 (Int32.toNatClampNeg 3) (Int32.ofNat (rZ ρ 212))))) = G243 at hA243 hX243 kt243 ⊢
      generalize (upd f231 (Int32.toNatClampNeg 3) (Int32.ofNat (rZ ρ 212))) = f243 at hA243
      refine y_blk 3 tq_X12_manyNow (z := (247, [(0, .ref (ad 200)), (1, .int what), (2, .int v164_2), (3, .int v164_3), (4, .int v164_4), (5, .int v164_5), (6, .int v164_6), (7, .int (Int32.ofNat 6)), (8, .int v164_8)], [.ref (ad 200), .int 4, .ref a206, .ref a206])) rfl ?_
      refine y_get hS tq_X12_manyNow (v := .ref (ad 213)) rfl fg_X12_30_X12 hX243.m rfl ?_
      refine y_blk 0 tq_X12_manyNow (z := (250, [(0, .ref (ad 200)), (1, .int what), (2, .int v164_2), (3, .int v164_3), (4, .int v164_4), (5, .int v164_5), (6, .int v164_6), (7, .int (Int32.ofNat 6)), (8, .int v164_8)], [.ref (ad 213), .int 4, .ref a206, .ref a206])) rfl ?_
      refine y_callF hS tq_X12_manyNow rfl (As := []) rfl cf_X12_58 (Or.inl ⟨_, (hX243.ls 213 (by decide)).1⟩) (m_Jsize hS (hX243.ls 213 (by decide))) rfl (by decide) (Nat.le_of_ble_eq_true rfl) (fun r250 Gc250 q250 => ?_) (fun _ _ h9 => h9.elim)
      obtain ⟨rfl, eG250⟩ := q250
      have eG250 := eG250.symm
      subst eG250
      refine y_blk 0 tq_X12_manyNow (z := (255, [(0, .ref (ad 200)), (1, .int what), (2, .int v164_2), (3, .int v164_3), (4, .int v164_4), (5, .int v164_5), (6, .int v164_6), (7, .int (Int32.ofNat 6)), (8, .int v164_8)], [.int (Int32.ofNat (rZ ρ 213)), .int 4, .ref a206, .ref a206])) rfl ?_
      refine y_iast hS tq_X12_manyNow rfl hA243 (by decide) (by first | exact yIn (by decide) (by decide) | exact yIn (by assumption) (by assumption) | (exact yIn (by omega) (by omega))) ?_
      have hA255 : (yup G243 a206 (500, .inl (aC 0, 13, .inl (upd f243 (Int32.toNatClampNeg 4) (Int32.ofNat (rZ ρ 213)))))) a206 = some (500, .inl (aC 0, 13, .inl (upd f243 (Int32.toNatClampNeg 4) (Int32.ofNat (rZ ρ 213))))) := yup_s _ _ _
      have hX255 : atR aC ic de ad (yup G243 a206 (500, .inl (aC 0, 13, .inl (upd f243 (Int32.toNatClampNeg 4) (Int32.ofNat (rZ ρ 213)))))) ρ := hX243.kp (yTg.up hA243 (by decide))
      have kt255 : yTg kA G (yup G243 a206 (500, .inl (aC 0, 13, .inl (upd f243 (Int32.toNatClampNeg 4) (Int32.ofNat (rZ ρ 213)))))) := (kt243).trans (yTg.up hA243 (by decide))
      generalize yup G243 a206 (500, .inl (aC 0, 13, .inl (upd f243 (Int32.toNatClampNeg 4) (Int32.ofNat (rZ ρ 213))))) = G255 at hA255 hX255 kt255 ⊢
      generalize (upd f243 (Int32.toNatClampNeg 4) (Int32.ofNat (rZ ρ 213))) = f255 at hA255
      refine y_blk 3 tq_X12_manyNow (z := (259, [(0, .ref (ad 200)), (1, .int what), (2, .int v164_2), (3, .int v164_3), (4, .int v164_4), (5, .int v164_5), (6, .int v164_6), (7, .int (Int32.ofNat 6)), (8, .int v164_8)], [.ref (ad 200), .int 5, .ref a206, .ref a206])) rfl ?_
      refine y_get hS tq_X12_manyNow (v := .ref (ad 215)) rfl fg_X12_42_X12 hX255.m rfl ?_
      refine y_blk 0 tq_X12_manyNow (z := (262, [(0, .ref (ad 200)), (1, .int what), (2, .int v164_2), (3, .int v164_3), (4, .int v164_4), (5, .int v164_5), (6, .int v164_6), (7, .int (Int32.ofNat 6)), (8, .int v164_8)], [.ref (ad 215), .int 5, .ref a206, .ref a206])) rfl ?_
      refine y_callF hS tq_X12_manyNow rfl (As := []) rfl cf_X12_58 (Or.inl ⟨_, (hX255.ls 215 (by decide)).1⟩) (m_Jsize hS (hX255.ls 215 (by decide))) rfl (by decide) (Nat.le_of_ble_eq_true rfl) (fun r262 Gc262 q262 => ?_) (fun _ _ h9 => h9.elim)
      obtain ⟨rfl, eG262⟩ := q262
      have eG262 := eG262.symm
      subst eG262
      refine y_blk 0 tq_X12_manyNow (z := (267, [(0, .ref (ad 200)), (1, .int what), (2, .int v164_2), (3, .int v164_3), (4, .int v164_4), (5, .int v164_5), (6, .int v164_6), (7, .int (Int32.ofNat 6)), (8, .int v164_8)], [.int (Int32.ofNat (rZ ρ 215)), .int 5, .ref a206, .ref a206])) rfl ?_
      refine y_iast hS tq_X12_manyNow rfl hA255 (by decide) (by first | exact yIn (by decide) (by decide) | exact yIn (by assumption) (by assumption) | (exact yIn (by omega) (by omega))) ?_
      have hA267 : (yup G255 a206 (500, .inl (aC 0, 13, .inl (upd f255 (Int32.toNatClampNeg 5) (Int32.ofNat (rZ ρ 215)))))) a206 = some (500, .inl (aC 0, 13, .inl (upd f255 (Int32.toNatClampNeg 5) (Int32.ofNat (rZ ρ 215))))) := yup_s _ _ _
      have hX267 : atR aC ic de ad (yup G255 a206 (500, .inl (aC 0, 13, .inl (upd f255 (Int32.toNatClampNeg 5) (Int32.ofNat (rZ ρ 215)))))) ρ := hX255.kp (yTg.up hA255 (by decide))
      have kt267 : yTg kA G (yup G255 a206 (500, .inl (aC 0, 13, .inl (upd f255 (Int32.toNatClampNeg 5) (Int32.ofNat (rZ ρ 215)))))) := (kt255).trans (yTg.up hA255 (by decide))
      generalize yup G255 a206 (500, .inl (aC 0, 13, .inl (upd f255 (Int32.toNatClampNeg 5) (Int32.ofNat (rZ ρ 215))))) = G267 at hA267 hX267 kt267 ⊢
      generalize (upd f255 (Int32.toNatClampNeg 5) (Int32.ofNat (rZ ρ 215))) = f267 at hA267
      refine y_blk 3 tq_X12_manyNow (z := (272, [(0, .ref (ad 200)), (1, .int what), (2, .int v164_2), (3, .int v164_3), (4, .int v164_4), (5, .int v164_5), (6, .int v164_6), (7, .int (Int32.ofNat 6)), (8, .int v164_8)], [.int v164_3, .int 6, .ref a206, .ref a206])) rfl ?_
      refine y_iast hS tq_X12_manyNow rfl hA267 (by decide) (by first | exact yIn (by decide) (by decide) | exact yIn (by assumption) (by assumption) | (exact yIn (by omega) (by omega))) ?_
      have hA272 : (yup G267 a206 (500, .inl (aC 0, 13, .inl (upd f267 (Int32.toNatClampNeg 6) v164_3)))) a206 = some (500, .inl (aC 0, 13, .inl (upd f267 (Int32.toNatClampNeg 6) v164_3))) := yup_s _ _ _
      have hX272 : atR aC ic de ad (yup G267 a206 (500, .inl (aC 0, 13, .inl (upd f267 (Int32.toNatClampNeg 6) v164_3)))) ρ := hX267.kp (yTg.up hA267 (by decide))
      have kt272 : yTg kA G (yup G267 a206 (500, .inl (aC 0, 13, .inl (upd f267 (Int32.toNatClampNeg 6) v164_3)))) := (kt267).trans (yTg.up hA267 (by decide))
      generalize yup G267 a206 (500, .inl (aC 0, 13, .inl (upd f267 (Int32.toNatClampNeg 6) v164_3))) = G272 at hA272 hX272 kt272 ⊢
      generalize (upd f267 (Int32.toNatClampNeg 6) v164_3) = f272 at hA272
      refine y_blk 3 tq_X12_manyNow (z := (277, [(0, .ref (ad 200)), (1, .int what), (2, .int v164_2), (3, .int v164_3), (4, .int v164_4), (5, .int v164_5), (6, .int v164_6), (7, .int (Int32.ofNat 6)), (8, .int v164_8)], [.ref (ad 200), .int 7, .ref a206, .ref a206])) rfl ?_
      refine y_get hS tq_X12_manyNow (v := .ref (ad 216)) rfl fg_X12_45_X12 hX272.m rfl ?_
      refine y_blk 0 tq_X12_manyNow (z := (280, [(0, .ref (ad 200)), (1, .int what), (2, .int v164_2), (3, .int v164_3), (4, .int v164_4), (5, .int v164_5), (6, .int v164_6), (7, .int (Int32.ofNat 6)), (8, .int v164_8)], [.ref (ad 216), .int 7, .ref a206, .ref a206])) rfl ?_
      refine y_callF hS tq_X12_manyNow rfl (As := []) rfl cf_X12_58 (Or.inl ⟨_, (hX272.ls 216 (by decide)).1⟩) (m_Jsize hS (hX272.ls 216 (by decide))) rfl (by decide) (Nat.le_of_ble_eq_true rfl) (fun r280 Gc280 q280 => ?_) (fun _ _ h9 => h9.elim)
      obtain ⟨rfl, eG280⟩ := q280
      have eG280 := eG280.symm
      subst eG280
      refine y_blk 0 tq_X12_manyNow (z := (285, [(0, .ref (ad 200)), (1, .int what), (2, .int v164_2), (3, .int v164_3), (4, .int v164_4), (5, .int v164_5), (6, .int v164_6), (7, .int (Int32.ofNat 6)), (8, .int v164_8)], [.int (Int32.ofNat (rZ ρ 216)), .int 7, .ref a206, .ref a206])) rfl ?_
      refine y_iast hS tq_X12_manyNow rfl hA272 (by decide) (by first | exact yIn (by decide) (by decide) | exact yIn (by assumption) (by assumption) | (exact yIn (by omega) (by omega))) ?_
      have hA285 : (yup G272 a206 (500, .inl (aC 0, 13, .inl (upd f272 (Int32.toNatClampNeg 7) (Int32.ofNat (rZ ρ 216)))))) a206 = some (500, .inl (aC 0, 13, .inl (upd f272 (Int32.toNatClampNeg 7) (Int32.ofNat (rZ ρ 216))))) := yup_s _ _ _
      have hX285 : atR aC ic de ad (yup G272 a206 (500, .inl (aC 0, 13, .inl (upd f272 (Int32.toNatClampNeg 7) (Int32.ofNat (rZ ρ 216)))))) ρ := hX272.kp (yTg.up hA272 (by decide))
      have kt285 : yTg kA G (yup G272 a206 (500, .inl (aC 0, 13, .inl (upd f272 (Int32.toNatClampNeg 7) (Int32.ofNat (rZ ρ 216)))))) := (kt272).trans (yTg.up hA272 (by decide))
      generalize yup G272 a206 (500, .inl (aC 0, 13, .inl (upd f272 (Int32.toNatClampNeg 7) (Int32.ofNat (rZ ρ 216))))) = G285 at hA285 hX285 kt285 ⊢
      generalize (upd f272 (Int32.toNatClampNeg 7) (Int32.ofNat (rZ ρ 216))) = f285 at hA285
      refine y_blk 3 tq_X12_manyNow (z := (291, [(0, .ref (ad 200)), (1, .int what), (2, .int v164_2), (3, .int v164_3), (4, .int v164_4), (5, .int v164_5), (6, .int v164_6), (7, .int (Int32.ofNat 6)), (8, .int v164_8)], [.int v164_4, .int 8, .ref a206, .ref a206])) rfl ?_
      refine y_iast hS tq_X12_manyNow rfl hA285 (by decide) (by first | exact yIn (by decide) (by decide) | exact yIn (by assumption) (by assumption) | (exact yIn (by omega) (by omega))) ?_
      have hA291 : (yup G285 a206 (500, .inl (aC 0, 13, .inl (upd f285 (Int32.toNatClampNeg 8) v164_4)))) a206 = some (500, .inl (aC 0, 13, .inl (upd f285 (Int32.toNatClampNeg 8) v164_4))) := yup_s _ _ _
      have hX291 : atR aC ic de ad (yup G285 a206 (500, .inl (aC 0, 13, .inl (upd f285 (Int32.toNatClampNeg 8) v164_4)))) ρ := hX285.kp (yTg.up hA285 (by decide))
      have kt291 : yTg kA G (yup G285 a206 (500, .inl (aC 0, 13, .inl (upd f285 (Int32.toNatClampNeg 8) v164_4)))) := (kt285).trans (yTg.up hA285 (by decide))
      generalize yup G285 a206 (500, .inl (aC 0, 13, .inl (upd f285 (Int32.toNatClampNeg 8) v164_4))) = G291 at hA291 hX291 kt291 ⊢
      generalize (upd f285 (Int32.toNatClampNeg 8) v164_4) = f291 at hA291
      refine y_blk 3 tq_X12_manyNow (z := (296, [(0, .ref (ad 200)), (1, .int what), (2, .int v164_2), (3, .int v164_3), (4, .int v164_4), (5, .int v164_5), (6, .int v164_6), (7, .int (Int32.ofNat 6)), (8, .int v164_8)], [.ref (ad 200), .int 9, .ref a206, .ref a206])) rfl ?_
      refine y_get hS tq_X12_manyNow (v := .int (rI ρ 6)) rfl fg_X12_74_X12 hX291.m rfl ?_
      refine y_blk 0 tq_X12_manyNow (z := (299, [(0, .ref (ad 200)), (1, .int what), (2, .int v164_2), (3, .int v164_3), (4, .int v164_4), (5, .int v164_5), (6, .int v164_6), (7, .int (Int32.ofNat 6)), (8, .int v164_8)], [.int (rI ρ 6), .int 9, .ref a206, .ref a206])) rfl ?_
      refine y_iast hS tq_X12_manyNow rfl hA291 (by decide) (by first | exact yIn (by decide) (by decide) | exact yIn (by assumption) (by assumption) | (exact yIn (by omega) (by omega))) ?_
      have hA299 : (yup G291 a206 (500, .inl (aC 0, 13, .inl (upd f291 (Int32.toNatClampNeg 9) (rI ρ 6))))) a206 = some (500, .inl (aC 0, 13, .inl (upd f291 (Int32.toNatClampNeg 9) (rI ρ 6)))) := yup_s _ _ _
      have hX299 : atR aC ic de ad (yup G291 a206 (500, .inl (aC 0, 13, .inl (upd f291 (Int32.toNatClampNeg 9) (rI ρ 6))))) ρ := hX291.kp (yTg.up hA291 (by decide))
      have kt299 : yTg kA G (yup G291 a206 (500, .inl (aC 0, 13, .inl (upd f291 (Int32.toNatClampNeg 9) (rI ρ 6))))) := (kt291).trans (yTg.up hA291 (by decide))
      generalize yup G291 a206 (500, .inl (aC 0, 13, .inl (upd f291 (Int32.toNatClampNeg 9) (rI ρ 6)))) = G299 at hA299 hX299 kt299 ⊢
      generalize (upd f291 (Int32.toNatClampNeg 9) (rI ρ 6)) = f299 at hA299
      refine y_blk 3 tq_X12_manyNow (z := (304, [(0, .ref (ad 200)), (1, .int what), (2, .int v164_2), (3, .int v164_3), (4, .int v164_4), (5, .int v164_5), (6, .int v164_6), (7, .int (Int32.ofNat 6)), (8, .int v164_8)], [.ref (ad 200), .int 10, .ref a206, .ref a206])) rfl ?_
      refine y_get hS tq_X12_manyNow (v := .int (rI ρ 8)) rfl fg_X12_77_X12 hX299.m rfl ?_
      refine y_blk 0 tq_X12_manyNow (z := (307, [(0, .ref (ad 200)), (1, .int what), (2, .int v164_2), (3, .int v164_3), (4, .int v164_4), (5, .int v164_5), (6, .int v164_6), (7, .int (Int32.ofNat 6)), (8, .int v164_8)], [.int (rI ρ 8), .int 10, .ref a206, .ref a206])) rfl ?_
      refine y_iast hS tq_X12_manyNow rfl hA299 (by decide) (by first | exact yIn (by decide) (by decide) | exact yIn (by assumption) (by assumption) | (exact yIn (by omega) (by omega))) ?_
      have hA307 : (yup G299 a206 (500, .inl (aC 0, 13, .inl (upd f299 (Int32.toNatClampNeg 10) (rI ρ 8))))) a206 = some (500, .inl (aC 0, 13, .inl (upd f299 (Int32.toNatClampNeg 10) (rI ρ 8)))) := yup_s _ _ _
      have hX307 : atR aC ic de ad (yup G299 a206 (500, .inl (aC 0, 13, .inl (upd f299 (Int32.toNatClampNeg 10) (rI ρ 8))))) ρ := hX299.kp (yTg.up hA299 (by decide))
      have kt307 : yTg kA G (yup G299 a206 (500, .inl (aC 0, 13, .inl (upd f299 (Int32.toNatClampNeg 10) (rI ρ 8))))) := (kt299).trans (yTg.up hA299 (by decide))
      generalize yup G299 a206 (500, .inl (aC 0, 13, .inl (upd f299 (Int32.toNatClampNeg 10) (rI ρ 8)))) = G307 at hA307 hX307 kt307 ⊢
      generalize (upd f299 (Int32.toNatClampNeg 10) (rI ρ 8)) = f307 at hA307
      refine y_blk 3 tq_X12_manyNow (z := (313, [(0, .ref (ad 200)), (1, .int what), (2, .int v164_2), (3, .int v164_3), (4, .int v164_4), (5, .int v164_5), (6, .int v164_6), (7, .int (Int32.ofNat 6)), (8, .int v164_8)], [.int v164_5, .int 11, .ref a206, .ref a206])) rfl ?_
      refine y_iast hS tq_X12_manyNow rfl hA307 (by decide) (by first | exact yIn (by decide) (by decide) | exact yIn (by assumption) (by assumption) | (exact yIn (by omega) (by omega))) ?_
      have hA313 : (yup G307 a206 (500, .inl (aC 0, 13, .inl (upd f307 (Int32.toNatClampNeg 11) v164_5)))) a206 = some (500, .inl (aC 0, 13, .inl (upd f307 (Int32.toNatClampNeg 11) v164_5))) := yup_s _ _ _
      have hX313 : atR aC ic de ad (yup G307 a206 (500, .inl (aC 0, 13, .inl (upd f307 (Int32.toNatClampNeg 11) v164_5)))) ρ := hX307.kp (yTg.up hA307 (by decide))
      have kt313 : yTg kA G (yup G307 a206 (500, .inl (aC 0, 13, .inl (upd f307 (Int32.toNatClampNeg 11) v164_5)))) := (kt307).trans (yTg.up hA307 (by decide))
      generalize yup G307 a206 (500, .inl (aC 0, 13, .inl (upd f307 (Int32.toNatClampNeg 11) v164_5))) = G313 at hA313 hX313 kt313 ⊢
      generalize (upd f307 (Int32.toNatClampNeg 11) v164_5) = f313 at hA313
      refine y_blk 3 tq_X12_manyNow (z := (318, [(0, .ref (ad 200)), (1, .int what), (2, .int v164_2), (3, .int v164_3), (4, .int v164_4), (5, .int v164_5), (6, .int v164_6), (7, .int (Int32.ofNat 6)), (8, .int v164_8)], [.ref (ad 200), .int 12, .ref a206, .ref a206])) rfl ?_
      refine y_get hS tq_X12_manyNow (v := .int (rI ρ 9)) rfl fg_X12_294_X12 hX313.m rfl ?_
      refine y_blk 0 tq_X12_manyNow (z := (321, [(0, .ref (ad 200)), (1, .int what), (2, .int v164_2), (3, .int v164_3), (4, .int v164_4), (5, .int v164_5), (6, .int v164_6), (7, .int (Int32.ofNat 6)), (8, .int v164_8)], [.int (rI ρ 9), .int 12, .ref a206, .ref a206])) rfl ?_
      refine y_iast hS tq_X12_manyNow rfl hA313 (by decide) (by first | exact yIn (by decide) (by decide) | exact yIn (by assumption) (by assumption) | (exact yIn (by omega) (by omega))) ?_
      have hA321 : (yup G313 a206 (500, .inl (aC 0, 13, .inl (upd f313 (Int32.toNatClampNeg 12) (rI ρ 9))))) a206 = some (500, .inl (aC 0, 13, .inl (upd f313 (Int32.toNatClampNeg 12) (rI ρ 9)))) := yup_s _ _ _
      have hX321 : atR aC ic de ad (yup G313 a206 (500, .inl (aC 0, 13, .inl (upd f313 (Int32.toNatClampNeg 12) (rI ρ 9))))) ρ := hX313.kp (yTg.up hA313 (by decide))
      have kt321 : yTg kA G (yup G313 a206 (500, .inl (aC 0, 13, .inl (upd f313 (Int32.toNatClampNeg 12) (rI ρ 9))))) := (kt313).trans (yTg.up hA313 (by decide))
      generalize yup G313 a206 (500, .inl (aC 0, 13, .inl (upd f313 (Int32.toNatClampNeg 12) (rI ρ 9)))) = G321 at hA321 hX321 kt321 ⊢
      generalize (upd f313 (Int32.toNatClampNeg 12) (rI ρ 9)) = f321 at hA321
      refine y_blk 3 tq_X12_manyNow (z := (327, [(6, .ref a206), (0, .ref (ad 200)), (1, .int what), (2, .int v164_2), (3, .int v164_3), (4, .int v164_4), (5, .int v164_5), (7, .int (Int32.ofNat 6)), (8, .int v164_8)], [.int what, .ref a206])) rfl ?_
      refine y_iald hS tq_X12_manyNow rfl hA321 (by first | exact yIn (by decide) (by decide) | exact yIn (by assumption) (by assumption) | (exact yIn (by omega) (by omega))) ?_
      refine y_blk 0 tq_X12_manyNow (z := (328, [(6, .ref a206), (0, .ref (ad 200)), (1, .int what), (2, .int v164_2), (3, .int v164_3), (4, .int v164_4), (5, .int v164_5), (7, .int (Int32.ofNat 6)), (8, .int v164_8)], [.int (f321 (Int32.toNatClampNeg what))])) rfl ?_
      exact y_iret tq_X12_manyNow rfl rfl (⟨⟨_, rfl⟩, kt321⟩)
    · skip
      have b169 : v164_6.toInt ≤ 239 := by rw [ylt] at c169; have z9 : (239 : Int32).toInt = 239 := (by decide); omega
      refine y_blk 2 tq_X12_manyNow (z := (175, [(0, .ref (ad 200)), (1, .int what), (2, .int v164_2), (3, .int v164_3), (4, .int v164_4), (5, .int v164_5), (6, .int v164_6), (7, .int (Int32.ofNat 6)), (8, .int v164_8)], [.int 11, .int what])) rfl ?_
      refine y_icmp_ne tq_X12_manyNow 204 rfl rfl (fun c175 => ?_) (fun c175 => ?_)
      · skip
        refine y_blk 1 tq_X12_manyNow (z := (206, [(0, .ref (ad 200)), (1, .int what), (2, .int v164_2), (3, .int v164_3), (4, .int v164_4), (5, .int v164_5), (6, .int v164_6), (7, .int (Int32.ofNat 6)), (8, .int v164_8)], [.int 13])) rfl ?_
        refine y_newa_int 500 hS tq_X12_manyNow (kc := 0) (ks := 0) (n := 13) rfl wd_176 (by decide) (by decide) (by decide) (fun a206 hne206 => ?_)
        have hle206 : yLe G (yup G a206 (500, .inl (aC 0, 13, .inl (fun _ => 0)))) := yLe.new hne206
        have hA206 : (yup G a206 (500, .inl (aC 0, 13, .inl (fun _ => 0)))) a206 = some (500, .inl (aC 0, 13, .inl (fun _ => 0))) := yup_s _ _ _
        generalize yup G a206 (500, .inl (aC 0, 13, .inl (fun _ => 0))) = G206 at hle206 hA206 ⊢
        have hX206 := hX.le hle206
        have kt206 := ((yTg.rfl' (f := kA) (G := G))).trans (yTg.le hle206)
        refine y_blk 3 tq_X12_manyNow (z := (211, [(0, .ref (ad 200)), (1, .int what), (2, .int v164_2), (3, .int v164_3), (4, .int v164_4), (5, .int v164_5), (6, .int v164_6), (7, .int (Int32.ofNat 6)), (8, .int v164_8)], [.ref (ad 200), .int 0, .ref a206, .ref a206])) rfl ?_
        refine y_get hS tq_X12_manyNow (v := .ref (ad 201)) rfl fg_X12_7_X12 hX206.m rfl ?_
        refine y_blk 0 tq_X12_manyNow (z := (214, [(0, .ref (ad 200)), (1, .int what), (2, .int v164_2), (3, .int v164_3), (4, .int v164_4), (5, .int v164_5), (6, .int v164_6), (7, .int (Int32.ofNat 6)), (8, .int v164_8)], [.ref (ad 201), .int 0, .ref a206, .ref a206])) rfl ?_
        refine y_alen hS tq_X12_manyNow 0 rfl rfl hX206.ki ?_
        refine y_blk 0 tq_X12_manyNow (z := (215, [(0, .ref (ad 200)), (1, .int what), (2, .int v164_2), (3, .int v164_3), (4, .int v164_4), (5, .int v164_5), (6, .int v164_6), (7, .int (Int32.ofNat 6)), (8, .int v164_8)], [.int (Int32.ofNat (rZ ρ 201)), .int 0, .ref a206, .ref a206])) rfl ?_
        refine y_iast hS tq_X12_manyNow rfl hA206 (by decide) (by first | exact yIn (by decide) (by decide) | exact yIn (by assumption) (by assumption) | (exact yIn (by omega) (by omega))) ?_
        have hA215 : (yup G206 a206 (500, .inl (aC 0, 13, .inl (upd (fun _ => 0) (Int32.toNatClampNeg 0) (Int32.ofNat (rZ ρ 201)))))) a206 = some (500, .inl (aC 0, 13, .inl (upd (fun _ => 0) (Int32.toNatClampNeg 0) (Int32.ofNat (rZ ρ 201))))) := yup_s _ _ _
        have hX215 : atR aC ic de ad (yup G206 a206 (500, .inl (aC 0, 13, .inl (upd (fun _ => 0) (Int32.toNatClampNeg 0) (Int32.ofNat (rZ ρ 201)))))) ρ := hX206.kp (yTg.up hA206 (by decide))
        have kt215 : yTg kA G (yup G206 a206 (500, .inl (aC 0, 13, .inl (upd (fun _ => 0) (Int32.toNatClampNeg 0) (Int32.ofNat (rZ ρ 201)))))) := (kt206).trans (yTg.up hA206 (by decide))
        generalize yup G206 a206 (500, .inl (aC 0, 13, .inl (upd (fun _ => 0) (Int32.toNatClampNeg 0) (Int32.ofNat (rZ ρ 201))))) = G215 at hA215 hX215 kt215 ⊢
        generalize (upd (fun _ => 0) (Int32.toNatClampNeg 0) (Int32.ofNat (rZ ρ 201))) = f215 at hA215
        refine y_blk 3 tq_X12_manyNow (z := (219, [(0, .ref (ad 200)), (1, .int what), (2, .int v164_2), (3, .int v164_3), (4, .int v164_4), (5, .int v164_5), (6, .int v164_6), (7, .int (Int32.ofNat 6)), (8, .int v164_8)], [.ref (ad 200), .int 1, .ref a206, .ref a206])) rfl ?_
        refine y_get hS tq_X12_manyNow (v := .ref (ad 210)) rfl fg_X12_20_X12 hX215.m rfl ?_
        refine y_blk 0 tq_X12_manyNow (z := (222, [(0, .ref (ad 200)), (1, .int what), (2, .int v164_2), (3, .int v164_3), (4, .int v164_4), (5, .int v164_5), (6, .int v164_6), (7, .int (Int32.ofNat 6)), (8, .int v164_8)], [.ref (ad 210), .int 1, .ref a206, .ref a206])) rfl ?_
        refine y_callF hS tq_X12_manyNow rfl (As := []) rfl cf_X12_58 (Or.inl ⟨_, (hX215.ls 210 (by decide)).1⟩) (m_Jsize hS (hX215.ls 210 (by decide))) rfl (by decide) (Nat.le_of_ble_eq_true rfl) (fun r222 Gc222 q222 => ?_) (fun _ _ h9 => h9.elim)
        obtain ⟨rfl, eG222⟩ := q222
        have eG222 := eG222.symm
        subst eG222
        refine y_blk 0 tq_X12_manyNow (z := (227, [(0, .ref (ad 200)), (1, .int what), (2, .int v164_2), (3, .int v164_3), (4, .int v164_4), (5, .int v164_5), (6, .int v164_6), (7, .int (Int32.ofNat 6)), (8, .int v164_8)], [.int (Int32.ofNat (rZ ρ 210)), .int 1, .ref a206, .ref a206])) rfl ?_
        refine y_iast hS tq_X12_manyNow rfl hA215 (by decide) (by first | exact yIn (by decide) (by decide) | exact yIn (by assumption) (by assumption) | (exact yIn (by omega) (by omega))) ?_
        have hA227 : (yup G215 a206 (500, .inl (aC 0, 13, .inl (upd f215 (Int32.toNatClampNeg 1) (Int32.ofNat (rZ ρ 210)))))) a206 = some (500, .inl (aC 0, 13, .inl (upd f215 (Int32.toNatClampNeg 1) (Int32.ofNat (rZ ρ 210))))) := yup_s _ _ _
        have hX227 : atR aC ic de ad (yup G215 a206 (500, .inl (aC 0, 13, .inl (upd f215 (Int32.toNatClampNeg 1) (Int32.ofNat (rZ ρ 210)))))) ρ := hX215.kp (yTg.up hA215 (by decide))
        have kt227 : yTg kA G (yup G215 a206 (500, .inl (aC 0, 13, .inl (upd f215 (Int32.toNatClampNeg 1) (Int32.ofNat (rZ ρ 210)))))) := (kt215).trans (yTg.up hA215 (by decide))
        generalize yup G215 a206 (500, .inl (aC 0, 13, .inl (upd f215 (Int32.toNatClampNeg 1) (Int32.ofNat (rZ ρ 210))))) = G227 at hA227 hX227 kt227 ⊢
        generalize (upd f215 (Int32.toNatClampNeg 1) (Int32.ofNat (rZ ρ 210))) = f227 at hA227
        refine y_blk 3 tq_X12_manyNow (z := (231, [(0, .ref (ad 200)), (1, .int what), (2, .int v164_2), (3, .int v164_3), (4, .int v164_4), (5, .int v164_5), (6, .int v164_6), (7, .int (Int32.ofNat 6)), (8, .int v164_8)], [.int v164_2, .int 2, .ref a206, .ref a206])) rfl ?_
        refine y_iast hS tq_X12_manyNow rfl hA227 (by decide) (by first | exact yIn (by decide) (by decide) | exact yIn (by assumption) (by assumption) | (exact yIn (by omega) (by omega))) ?_
        have hA231 : (yup G227 a206 (500, .inl (aC 0, 13, .inl (upd f227 (Int32.toNatClampNeg 2) v164_2)))) a206 = some (500, .inl (aC 0, 13, .inl (upd f227 (Int32.toNatClampNeg 2) v164_2))) := yup_s _ _ _
        have hX231 : atR aC ic de ad (yup G227 a206 (500, .inl (aC 0, 13, .inl (upd f227 (Int32.toNatClampNeg 2) v164_2)))) ρ := hX227.kp (yTg.up hA227 (by decide))
        have kt231 : yTg kA G (yup G227 a206 (500, .inl (aC 0, 13, .inl (upd f227 (Int32.toNatClampNeg 2) v164_2)))) := (kt227).trans (yTg.up hA227 (by decide))
        generalize yup G227 a206 (500, .inl (aC 0, 13, .inl (upd f227 (Int32.toNatClampNeg 2) v164_2))) = G231 at hA231 hX231 kt231 ⊢
        generalize (upd f227 (Int32.toNatClampNeg 2) v164_2) = f231 at hA231
        refine y_blk 3 tq_X12_manyNow (z := (235, [(0, .ref (ad 200)), (1, .int what), (2, .int v164_2), (3, .int v164_3), (4, .int v164_4), (5, .int v164_5), (6, .int v164_6), (7, .int (Int32.ofNat 6)), (8, .int v164_8)], [.ref (ad 200), .int 3, .ref a206, .ref a206])) rfl ?_
        refine y_get hS tq_X12_manyNow (v := .ref (ad 212)) rfl fg_X12_27_X12 hX231.m rfl ?_
        refine y_blk 0 tq_X12_manyNow (z := (238, [(0, .ref (ad 200)), (1, .int what), (2, .int v164_2), (3, .int v164_3), (4, .int v164_4), (5, .int v164_5), (6, .int v164_6), (7, .int (Int32.ofNat 6)), (8, .int v164_8)], [.ref (ad 212), .int 3, .ref a206, .ref a206])) rfl ?_
        refine y_callF hS tq_X12_manyNow rfl (As := []) rfl cf_X12_58 (Or.inl ⟨_, (hX231.ls 212 (by decide)).1⟩) (m_Jsize hS (hX231.ls 212 (by decide))) rfl (by decide) (Nat.le_of_ble_eq_true rfl) (fun r238 Gc238 q238 => ?_) (fun _ _ h9 => h9.elim)
        obtain ⟨rfl, eG238⟩ := q238
        have eG238 := eG238.symm
        subst eG238
        refine y_blk 0 tq_X12_manyNow (z := (243, [(0, .ref (ad 200)), (1, .int what), (2, .int v164_2), (3, .int v164_3), (4, .int v164_4), (5, .int v164_5), (6, .int v164_6), (7, .int (Int32.ofNat 6)), (8, .int v164_8)], [.int (Int32.ofNat (rZ ρ 212)), .int 3, .ref a206, .ref a206])) rfl ?_
        refine y_iast hS tq_X12_manyNow rfl hA231 (by decide) (by first | exact yIn (by decide) (by decide) | exact yIn (by assumption) (by assumption) | (exact yIn (by omega) (by omega))) ?_
        have hA243 : (yup G231 a206 (500, .inl (aC 0, 13, .inl (upd f231 (Int32.toNatClampNeg 3) (Int32.ofNat (rZ ρ 212)))))) a206 = some (500, .inl (aC 0, 13, .inl (upd f231 (Int32.toNatClampNeg 3) (Int32.ofNat (rZ ρ 212))))) := yup_s _ _ _
        have hX243 : atR aC ic de ad (yup G231 a206 (500, .inl (aC 0, 13, .inl (upd f231 (Int32.toNatClampNeg 3) (Int32.ofNat (rZ ρ 212)))))) ρ := hX231.kp (yTg.up hA231 (by decide))
        have kt243 : yTg kA G (yup G231 a206 (500, .inl (aC 0, 13, .inl (upd f231 (Int32.toNatClampNeg 3) (Int32.ofNat (rZ ρ 212)))))) := (kt231).trans (yTg.up hA231 (by decide))
        generalize yup G231 a206 (500, .inl (aC 0, 13, .inl (upd f231 (Int32.toNatClampNeg 3) (Int32.ofNat (rZ ρ 212))))) = G243 at hA243 hX243 kt243 ⊢
        generalize (upd f231 (Int32.toNatClampNeg 3) (Int32.ofNat (rZ ρ 212))) = f243 at hA243
        refine y_blk 3 tq_X12_manyNow (z := (247, [(0, .ref (ad 200)), (1, .int what), (2, .int v164_2), (3, .int v164_3), (4, .int v164_4), (5, .int v164_5), (6, .int v164_6), (7, .int (Int32.ofNat 6)), (8, .int v164_8)], [.ref (ad 200), .int 4, .ref a206, .ref a206])) rfl ?_
        refine y_get hS tq_X12_manyNow (v := .ref (ad 213)) rfl fg_X12_30_X12 hX243.m rfl ?_
        refine y_blk 0 tq_X12_manyNow (z := (250, [(0, .ref (ad 200)), (1, .int what), (2, .int v164_2), (3, .int v164_3), (4, .int v164_4), (5, .int v164_5), (6, .int v164_6), (7, .int (Int32.ofNat 6)), (8, .int v164_8)], [.ref (ad 213), .int 4, .ref a206, .ref a206])) rfl ?_
        refine y_callF hS tq_X12_manyNow rfl (As := []) rfl cf_X12_58 (Or.inl ⟨_, (hX243.ls 213 (by decide)).1⟩) (m_Jsize hS (hX243.ls 213 (by decide))) rfl (by decide) (Nat.le_of_ble_eq_true rfl) (fun r250 Gc250 q250 => ?_) (fun _ _ h9 => h9.elim)
        obtain ⟨rfl, eG250⟩ := q250
        have eG250 := eG250.symm
        subst eG250
        refine y_blk 0 tq_X12_manyNow (z := (255, [(0, .ref (ad 200)), (1, .int what), (2, .int v164_2), (3, .int v164_3), (4, .int v164_4), (5, .int v164_5), (6, .int v164_6), (7, .int (Int32.ofNat 6)), (8, .int v164_8)], [.int (Int32.ofNat (rZ ρ 213)), .int 4, .ref a206, .ref a206])) rfl ?_
        refine y_iast hS tq_X12_manyNow rfl hA243 (by decide) (by first | exact yIn (by decide) (by decide) | exact yIn (by assumption) (by assumption) | (exact yIn (by omega) (by omega))) ?_
        have hA255 : (yup G243 a206 (500, .inl (aC 0, 13, .inl (upd f243 (Int32.toNatClampNeg 4) (Int32.ofNat (rZ ρ 213)))))) a206 = some (500, .inl (aC 0, 13, .inl (upd f243 (Int32.toNatClampNeg 4) (Int32.ofNat (rZ ρ 213))))) := yup_s _ _ _
        have hX255 : atR aC ic de ad (yup G243 a206 (500, .inl (aC 0, 13, .inl (upd f243 (Int32.toNatClampNeg 4) (Int32.ofNat (rZ ρ 213)))))) ρ := hX243.kp (yTg.up hA243 (by decide))
        have kt255 : yTg kA G (yup G243 a206 (500, .inl (aC 0, 13, .inl (upd f243 (Int32.toNatClampNeg 4) (Int32.ofNat (rZ ρ 213)))))) := (kt243).trans (yTg.up hA243 (by decide))
        generalize yup G243 a206 (500, .inl (aC 0, 13, .inl (upd f243 (Int32.toNatClampNeg 4) (Int32.ofNat (rZ ρ 213))))) = G255 at hA255 hX255 kt255 ⊢
        generalize (upd f243 (Int32.toNatClampNeg 4) (Int32.ofNat (rZ ρ 213))) = f255 at hA255
        refine y_blk 3 tq_X12_manyNow (z := (259, [(0, .ref (ad 200)), (1, .int what), (2, .int v164_2), (3, .int v164_3), (4, .int v164_4), (5, .int v164_5), (6, .int v164_6), (7, .int (Int32.ofNat 6)), (8, .int v164_8)], [.ref (ad 200), .int 5, .ref a206, .ref a206])) rfl ?_
        refine y_get hS tq_X12_manyNow (v := .ref (ad 215)) rfl fg_X12_42_X12 hX255.m rfl ?_
        refine y_blk 0 tq_X12_manyNow (z := (262, [(0, .ref (ad 200)), (1, .int what), (2, .int v164_2), (3, .int v164_3), (4, .int v164_4), (5, .int v164_5), (6, .int v164_6), (7, .int (Int32.ofNat 6)), (8, .int v164_8)], [.ref (ad 215), .int 5, .ref a206, .ref a206])) rfl ?_
        refine y_callF hS tq_X12_manyNow rfl (As := []) rfl cf_X12_58 (Or.inl ⟨_, (hX255.ls 215 (by decide)).1⟩) (m_Jsize hS (hX255.ls 215 (by decide))) rfl (by decide) (Nat.le_of_ble_eq_true rfl) (fun r262 Gc262 q262 => ?_) (fun _ _ h9 => h9.elim)
        obtain ⟨rfl, eG262⟩ := q262
        have eG262 := eG262.symm
        subst eG262
        refine y_blk 0 tq_X12_manyNow (z := (267, [(0, .ref (ad 200)), (1, .int what), (2, .int v164_2), (3, .int v164_3), (4, .int v164_4), (5, .int v164_5), (6, .int v164_6), (7, .int (Int32.ofNat 6)), (8, .int v164_8)], [.int (Int32.ofNat (rZ ρ 215)), .int 5, .ref a206, .ref a206])) rfl ?_
        refine y_iast hS tq_X12_manyNow rfl hA255 (by decide) (by first | exact yIn (by decide) (by decide) | exact yIn (by assumption) (by assumption) | (exact yIn (by omega) (by omega))) ?_
        have hA267 : (yup G255 a206 (500, .inl (aC 0, 13, .inl (upd f255 (Int32.toNatClampNeg 5) (Int32.ofNat (rZ ρ 215)))))) a206 = some (500, .inl (aC 0, 13, .inl (upd f255 (Int32.toNatClampNeg 5) (Int32.ofNat (rZ ρ 215))))) := yup_s _ _ _
        have hX267 : atR aC ic de ad (yup G255 a206 (500, .inl (aC 0, 13, .inl (upd f255 (Int32.toNatClampNeg 5) (Int32.ofNat (rZ ρ 215)))))) ρ := hX255.kp (yTg.up hA255 (by decide))
        have kt267 : yTg kA G (yup G255 a206 (500, .inl (aC 0, 13, .inl (upd f255 (Int32.toNatClampNeg 5) (Int32.ofNat (rZ ρ 215)))))) := (kt255).trans (yTg.up hA255 (by decide))
        generalize yup G255 a206 (500, .inl (aC 0, 13, .inl (upd f255 (Int32.toNatClampNeg 5) (Int32.ofNat (rZ ρ 215))))) = G267 at hA267 hX267 kt267 ⊢
        generalize (upd f255 (Int32.toNatClampNeg 5) (Int32.ofNat (rZ ρ 215))) = f267 at hA267
        refine y_blk 3 tq_X12_manyNow (z := (272, [(0, .ref (ad 200)), (1, .int what), (2, .int v164_2), (3, .int v164_3), (4, .int v164_4), (5, .int v164_5), (6, .int v164_6), (7, .int (Int32.ofNat 6)), (8, .int v164_8)], [.int v164_3, .int 6, .ref a206, .ref a206])) rfl ?_
        refine y_iast hS tq_X12_manyNow rfl hA267 (by decide) (by first | exact yIn (by decide) (by decide) | exact yIn (by assumption) (by assumption) | (exact yIn (by omega) (by omega))) ?_
        have hA272 : (yup G267 a206 (500, .inl (aC 0, 13, .inl (upd f267 (Int32.toNatClampNeg 6) v164_3)))) a206 = some (500, .inl (aC 0, 13, .inl (upd f267 (Int32.toNatClampNeg 6) v164_3))) := yup_s _ _ _
        have hX272 : atR aC ic de ad (yup G267 a206 (500, .inl (aC 0, 13, .inl (upd f267 (Int32.toNatClampNeg 6) v164_3)))) ρ := hX267.kp (yTg.up hA267 (by decide))
        have kt272 : yTg kA G (yup G267 a206 (500, .inl (aC 0, 13, .inl (upd f267 (Int32.toNatClampNeg 6) v164_3)))) := (kt267).trans (yTg.up hA267 (by decide))
        generalize yup G267 a206 (500, .inl (aC 0, 13, .inl (upd f267 (Int32.toNatClampNeg 6) v164_3))) = G272 at hA272 hX272 kt272 ⊢
        generalize (upd f267 (Int32.toNatClampNeg 6) v164_3) = f272 at hA272
        refine y_blk 3 tq_X12_manyNow (z := (277, [(0, .ref (ad 200)), (1, .int what), (2, .int v164_2), (3, .int v164_3), (4, .int v164_4), (5, .int v164_5), (6, .int v164_6), (7, .int (Int32.ofNat 6)), (8, .int v164_8)], [.ref (ad 200), .int 7, .ref a206, .ref a206])) rfl ?_
        refine y_get hS tq_X12_manyNow (v := .ref (ad 216)) rfl fg_X12_45_X12 hX272.m rfl ?_
        refine y_blk 0 tq_X12_manyNow (z := (280, [(0, .ref (ad 200)), (1, .int what), (2, .int v164_2), (3, .int v164_3), (4, .int v164_4), (5, .int v164_5), (6, .int v164_6), (7, .int (Int32.ofNat 6)), (8, .int v164_8)], [.ref (ad 216), .int 7, .ref a206, .ref a206])) rfl ?_
        refine y_callF hS tq_X12_manyNow rfl (As := []) rfl cf_X12_58 (Or.inl ⟨_, (hX272.ls 216 (by decide)).1⟩) (m_Jsize hS (hX272.ls 216 (by decide))) rfl (by decide) (Nat.le_of_ble_eq_true rfl) (fun r280 Gc280 q280 => ?_) (fun _ _ h9 => h9.elim)
        obtain ⟨rfl, eG280⟩ := q280
        have eG280 := eG280.symm
        subst eG280
        refine y_blk 0 tq_X12_manyNow (z := (285, [(0, .ref (ad 200)), (1, .int what), (2, .int v164_2), (3, .int v164_3), (4, .int v164_4), (5, .int v164_5), (6, .int v164_6), (7, .int (Int32.ofNat 6)), (8, .int v164_8)], [.int (Int32.ofNat (rZ ρ 216)), .int 7, .ref a206, .ref a206])) rfl ?_
        refine y_iast hS tq_X12_manyNow rfl hA272 (by decide) (by first | exact yIn (by decide) (by decide) | exact yIn (by assumption) (by assumption) | (exact yIn (by omega) (by omega))) ?_
        have hA285 : (yup G272 a206 (500, .inl (aC 0, 13, .inl (upd f272 (Int32.toNatClampNeg 7) (Int32.ofNat (rZ ρ 216)))))) a206 = some (500, .inl (aC 0, 13, .inl (upd f272 (Int32.toNatClampNeg 7) (Int32.ofNat (rZ ρ 216))))) := yup_s _ _ _
        have hX285 : atR aC ic de ad (yup G272 a206 (500, .inl (aC 0, 13, .inl (upd f272 (Int32.toNatClampNeg 7) (Int32.ofNat (rZ ρ 216)))))) ρ := hX272.kp (yTg.up hA272 (by decide))
        have kt285 : yTg kA G (yup G272 a206 (500, .inl (aC 0, 13, .inl (upd f272 (Int32.toNatClampNeg 7) (Int32.ofNat (rZ ρ 216)))))) := (kt272).trans (yTg.up hA272 (by decide))
        generalize yup G272 a206 (500, .inl (aC 0, 13, .inl (upd f272 (Int32.toNatClampNeg 7) (Int32.ofNat (rZ ρ 216))))) = G285 at hA285 hX285 kt285 ⊢
        generalize (upd f272 (Int32.toNatClampNeg 7) (Int32.ofNat (rZ ρ 216))) = f285 at hA285
        refine y_blk 3 tq_X12_manyNow (z := (291, [(0, .ref (ad 200)), (1, .int what), (2, .int v164_2), (3, .int v164_3), (4, .int v164_4), (5, .int v164_5), (6, .int v164_6), (7, .int (Int32.ofNat 6)), (8, .int v164_8)], [.int v164_4, .int 8, .ref a206, .ref a206])) rfl ?_
        refine y_iast hS tq_X12_manyNow rfl hA285 (by decide) (by first | exact yIn (by decide) (by decide) | exact yIn (by assumption) (by assumption) | (exact yIn (by omega) (by omega))) ?_
        have hA291 : (yup G285 a206 (500, .inl (aC 0, 13, .inl (upd f285 (Int32.toNatClampNeg 8) v164_4)))) a206 = some (500, .inl (aC 0, 13, .inl (upd f285 (Int32.toNatClampNeg 8) v164_4))) := yup_s _ _ _
        have hX291 : atR aC ic de ad (yup G285 a206 (500, .inl (aC 0, 13, .inl (upd f285 (Int32.toNatClampNeg 8) v164_4)))) ρ := hX285.kp (yTg.up hA285 (by decide))
        have kt291 : yTg kA G (yup G285 a206 (500, .inl (aC 0, 13, .inl (upd f285 (Int32.toNatClampNeg 8) v164_4)))) := (kt285).trans (yTg.up hA285 (by decide))
        generalize yup G285 a206 (500, .inl (aC 0, 13, .inl (upd f285 (Int32.toNatClampNeg 8) v164_4))) = G291 at hA291 hX291 kt291 ⊢
        generalize (upd f285 (Int32.toNatClampNeg 8) v164_4) = f291 at hA291
        refine y_blk 3 tq_X12_manyNow (z := (296, [(0, .ref (ad 200)), (1, .int what), (2, .int v164_2), (3, .int v164_3), (4, .int v164_4), (5, .int v164_5), (6, .int v164_6), (7, .int (Int32.ofNat 6)), (8, .int v164_8)], [.ref (ad 200), .int 9, .ref a206, .ref a206])) rfl ?_
        refine y_get hS tq_X12_manyNow (v := .int (rI ρ 6)) rfl fg_X12_74_X12 hX291.m rfl ?_
        refine y_blk 0 tq_X12_manyNow (z := (299, [(0, .ref (ad 200)), (1, .int what), (2, .int v164_2), (3, .int v164_3), (4, .int v164_4), (5, .int v164_5), (6, .int v164_6), (7, .int (Int32.ofNat 6)), (8, .int v164_8)], [.int (rI ρ 6), .int 9, .ref a206, .ref a206])) rfl ?_
        refine y_iast hS tq_X12_manyNow rfl hA291 (by decide) (by first | exact yIn (by decide) (by decide) | exact yIn (by assumption) (by assumption) | (exact yIn (by omega) (by omega))) ?_
        have hA299 : (yup G291 a206 (500, .inl (aC 0, 13, .inl (upd f291 (Int32.toNatClampNeg 9) (rI ρ 6))))) a206 = some (500, .inl (aC 0, 13, .inl (upd f291 (Int32.toNatClampNeg 9) (rI ρ 6)))) := yup_s _ _ _
        have hX299 : atR aC ic de ad (yup G291 a206 (500, .inl (aC 0, 13, .inl (upd f291 (Int32.toNatClampNeg 9) (rI ρ 6))))) ρ := hX291.kp (yTg.up hA291 (by decide))
        have kt299 : yTg kA G (yup G291 a206 (500, .inl (aC 0, 13, .inl (upd f291 (Int32.toNatClampNeg 9) (rI ρ 6))))) := (kt291).trans (yTg.up hA291 (by decide))
        generalize yup G291 a206 (500, .inl (aC 0, 13, .inl (upd f291 (Int32.toNatClampNeg 9) (rI ρ 6)))) = G299 at hA299 hX299 kt299 ⊢
        generalize (upd f291 (Int32.toNatClampNeg 9) (rI ρ 6)) = f299 at hA299
        refine y_blk 3 tq_X12_manyNow (z := (304, [(0, .ref (ad 200)), (1, .int what), (2, .int v164_2), (3, .int v164_3), (4, .int v164_4), (5, .int v164_5), (6, .int v164_6), (7, .int (Int32.ofNat 6)), (8, .int v164_8)], [.ref (ad 200), .int 10, .ref a206, .ref a206])) rfl ?_
        refine y_get hS tq_X12_manyNow (v := .int (rI ρ 8)) rfl fg_X12_77_X12 hX299.m rfl ?_
        refine y_blk 0 tq_X12_manyNow (z := (307, [(0, .ref (ad 200)), (1, .int what), (2, .int v164_2), (3, .int v164_3), (4, .int v164_4), (5, .int v164_5), (6, .int v164_6), (7, .int (Int32.ofNat 6)), (8, .int v164_8)], [.int (rI ρ 8), .int 10, .ref a206, .ref a206])) rfl ?_
        refine y_iast hS tq_X12_manyNow rfl hA299 (by decide) (by first | exact yIn (by decide) (by decide) | exact yIn (by assumption) (by assumption) | (exact yIn (by omega) (by omega))) ?_
        have hA307 : (yup G299 a206 (500, .inl (aC 0, 13, .inl (upd f299 (Int32.toNatClampNeg 10) (rI ρ 8))))) a206 = some (500, .inl (aC 0, 13, .inl (upd f299 (Int32.toNatClampNeg 10) (rI ρ 8)))) := yup_s _ _ _
        have hX307 : atR aC ic de ad (yup G299 a206 (500, .inl (aC 0, 13, .inl (upd f299 (Int32.toNatClampNeg 10) (rI ρ 8))))) ρ := hX299.kp (yTg.up hA299 (by decide))
        have kt307 : yTg kA G (yup G299 a206 (500, .inl (aC 0, 13, .inl (upd f299 (Int32.toNatClampNeg 10) (rI ρ 8))))) := (kt299).trans (yTg.up hA299 (by decide))
        generalize yup G299 a206 (500, .inl (aC 0, 13, .inl (upd f299 (Int32.toNatClampNeg 10) (rI ρ 8)))) = G307 at hA307 hX307 kt307 ⊢
        generalize (upd f299 (Int32.toNatClampNeg 10) (rI ρ 8)) = f307 at hA307
        refine y_blk 3 tq_X12_manyNow (z := (313, [(0, .ref (ad 200)), (1, .int what), (2, .int v164_2), (3, .int v164_3), (4, .int v164_4), (5, .int v164_5), (6, .int v164_6), (7, .int (Int32.ofNat 6)), (8, .int v164_8)], [.int v164_5, .int 11, .ref a206, .ref a206])) rfl ?_
        refine y_iast hS tq_X12_manyNow rfl hA307 (by decide) (by first | exact yIn (by decide) (by decide) | exact yIn (by assumption) (by assumption) | (exact yIn (by omega) (by omega))) ?_
        have hA313 : (yup G307 a206 (500, .inl (aC 0, 13, .inl (upd f307 (Int32.toNatClampNeg 11) v164_5)))) a206 = some (500, .inl (aC 0, 13, .inl (upd f307 (Int32.toNatClampNeg 11) v164_5))) := yup_s _ _ _
        have hX313 : atR aC ic de ad (yup G307 a206 (500, .inl (aC 0, 13, .inl (upd f307 (Int32.toNatClampNeg 11) v164_5)))) ρ := hX307.kp (yTg.up hA307 (by decide))
        have kt313 : yTg kA G (yup G307 a206 (500, .inl (aC 0, 13, .inl (upd f307 (Int32.toNatClampNeg 11) v164_5)))) := (kt307).trans (yTg.up hA307 (by decide))
        generalize yup G307 a206 (500, .inl (aC 0, 13, .inl (upd f307 (Int32.toNatClampNeg 11) v164_5))) = G313 at hA313 hX313 kt313 ⊢
        generalize (upd f307 (Int32.toNatClampNeg 11) v164_5) = f313 at hA313
        refine y_blk 3 tq_X12_manyNow (z := (318, [(0, .ref (ad 200)), (1, .int what), (2, .int v164_2), (3, .int v164_3), (4, .int v164_4), (5, .int v164_5), (6, .int v164_6), (7, .int (Int32.ofNat 6)), (8, .int v164_8)], [.ref (ad 200), .int 12, .ref a206, .ref a206])) rfl ?_
        refine y_get hS tq_X12_manyNow (v := .int (rI ρ 9)) rfl fg_X12_294_X12 hX313.m rfl ?_
        refine y_blk 0 tq_X12_manyNow (z := (321, [(0, .ref (ad 200)), (1, .int what), (2, .int v164_2), (3, .int v164_3), (4, .int v164_4), (5, .int v164_5), (6, .int v164_6), (7, .int (Int32.ofNat 6)), (8, .int v164_8)], [.int (rI ρ 9), .int 12, .ref a206, .ref a206])) rfl ?_
        refine y_iast hS tq_X12_manyNow rfl hA313 (by decide) (by first | exact yIn (by decide) (by decide) | exact yIn (by assumption) (by assumption) | (exact yIn (by omega) (by omega))) ?_
        have hA321 : (yup G313 a206 (500, .inl (aC 0, 13, .inl (upd f313 (Int32.toNatClampNeg 12) (rI ρ 9))))) a206 = some (500, .inl (aC 0, 13, .inl (upd f313 (Int32.toNatClampNeg 12) (rI ρ 9)))) := yup_s _ _ _
        have hX321 : atR aC ic de ad (yup G313 a206 (500, .inl (aC 0, 13, .inl (upd f313 (Int32.toNatClampNeg 12) (rI ρ 9))))) ρ := hX313.kp (yTg.up hA313 (by decide))
        have kt321 : yTg kA G (yup G313 a206 (500, .inl (aC 0, 13, .inl (upd f313 (Int32.toNatClampNeg 12) (rI ρ 9))))) := (kt313).trans (yTg.up hA313 (by decide))
        generalize yup G313 a206 (500, .inl (aC 0, 13, .inl (upd f313 (Int32.toNatClampNeg 12) (rI ρ 9)))) = G321 at hA321 hX321 kt321 ⊢
        generalize (upd f313 (Int32.toNatClampNeg 12) (rI ρ 9)) = f321 at hA321
        refine y_blk 3 tq_X12_manyNow (z := (327, [(6, .ref a206), (0, .ref (ad 200)), (1, .int what), (2, .int v164_2), (3, .int v164_3), (4, .int v164_4), (5, .int v164_5), (7, .int (Int32.ofNat 6)), (8, .int v164_8)], [.int what, .ref a206])) rfl ?_
        refine y_iald hS tq_X12_manyNow rfl hA321 (by first | exact yIn (by decide) (by decide) | exact yIn (by assumption) (by assumption) | (exact yIn (by omega) (by omega))) ?_
        refine y_blk 0 tq_X12_manyNow (z := (328, [(6, .ref a206), (0, .ref (ad 200)), (1, .int what), (2, .int v164_2), (3, .int v164_3), (4, .int v164_4), (5, .int v164_5), (7, .int (Int32.ofNat 6)), (8, .int v164_8)], [.int (f321 (Int32.toNatClampNeg what))])) rfl ?_
        exact y_iret tq_X12_manyNow rfl rfl (⟨⟨_, rfl⟩, kt321⟩)
      · skip
        refine y_blk 4 tq_X12_manyNow (z := (184, [(0, .ref (ad 200)), (1, .int what), (2, .int v164_2), (3, .int v164_3), (4, .int v164_4), (5, .int v164_5), (6, .int v164_6), (7, .int (Int32.ofNat 6)), (8, .int v164_8)], [.int 4, .int v164_6, .ref (ad 200), .int v164_5])) rfl ?_
        refine y_callV hS tq_X12_manyNow rfl (As := [.int v164_6, .int 4]) rfl cv_X12_205 hX.m (m_X12_minuteNow hS hI hX v164_6 4) rfl (by decide) (Nat.le_of_ble_eq_true rfl) (fun r184 Gc184 q184 => ?_) (fun E9 G9 h9 => h9.elim)
        obtain ⟨⟨x184, rfl⟩, eG184⟩ := q184
        have eG184 := eG184.symm
        subst eG184
        refine y_blk 0 tq_X12_manyNow (z := (187, [(0, .ref (ad 200)), (1, .int what), (2, .int v164_2), (3, .int v164_3), (4, .int v164_4), (5, .int v164_5), (6, .int v164_6), (7, .int (Int32.ofNat 6)), (8, .int v164_8)], [.int x184, .int v164_5])) rfl ?_
        refine y_if_le tq_X12_manyNow 194 rfl rfl (fun c187 => ?_) (fun c187 => ?_)
        · skip
          refine y_blk 5 tq_X12_manyNow (z := (164, [(6, .int (v164_6 + 1)), (5, .int (v164_5 + 0)), (0, .ref (ad 200)), (1, .int what), (2, .int v164_2), (3, .int v164_3), (4, .int v164_4), (7, .int (Int32.ofNat 6)), (8, .int v164_8)], [])) rfl ?_
          refine y_pick (L2 := [(0, .ref (ad 200)), (1, .int what), (2, .int v164_2), (3, .int v164_3), (4, .int v164_4), (5, .int (v164_5 + 0)), (6, .int (v164_6 + 1)), (7, .int (Int32.ofNat 6)), (8, .int v164_8)]) [2, 3, 4, 5, 6, 1, 0, 7, 8] rfl ?_
          exact ih164 _ (by exact ydec2 c169 (by decide)) v164_2 v164_3 v164_4 (v164_5 + 0) (v164_6 + 1) v164_8 (by first | decide | assumption | exact Int.le_refl _ | exact yposgtL (by assumption) c169 (by decide)) rfl
        · skip
          refine y_blk 6 tq_X12_manyNow (z := (164, [(6, .int (v164_6 + 1)), (5, .int (v164_5 + 1)), (0, .ref (ad 200)), (1, .int what), (2, .int v164_2), (3, .int v164_3), (4, .int v164_4), (7, .int (Int32.ofNat 6)), (8, .int v164_8)], [])) rfl ?_
          refine y_pick (L2 := [(0, .ref (ad 200)), (1, .int what), (2, .int v164_2), (3, .int v164_3), (4, .int v164_4), (5, .int (v164_5 + 1)), (6, .int (v164_6 + 1)), (7, .int (Int32.ofNat 6)), (8, .int v164_8)]) [2, 3, 4, 5, 6, 1, 0, 7, 8] rfl ?_
          exact ih164 _ (by exact ydec2 c169 (by decide)) v164_2 v164_3 v164_4 (v164_5 + 1) (v164_6 + 1) v164_8 (by first | decide | assumption | exact Int.le_refl _ | exact yposgtL (by assumption) c169 (by decide)) rfl
  have J125 : ∀ (n125 : Nat) (v125_2 : Int32) (v125_3 : Int32) (v125_4 : Int32) (v125_5 : Int32) (v125_8 : Int32) (hb_v125_5 : v125_5 = 0 ∨ v125_5 = 1) (h0_125 : 0 ≤ v125_8.toInt), (((Int32.ofNat 6) : Int32).toInt - v125_8.toInt).toNat = n125 → Y l S0 D K_X12_manyNow 22 1 13 (fun r G1 => (∃ v : Int32, r = some (.int v)) ∧ yTg kA G G1) (fun _ _ => False) 125 [(0, .ref (ad 200)), (1, .int what), (2, .int v125_2), (3, .int v125_3), (4, .int v125_4), (5, .int v125_5), (6, .ref (ad 203)), (7, .int (Int32.ofNat 6)), (8, .int v125_8)] [] G 1 13 := by
    intro n125
    induction n125 using Nat.strongRecOn with
    | _ n125 ih125 =>
    intro v125_2 v125_3 v125_4 v125_5 v125_8 hb_v125_5 h0_125 hn125
    subst hn125
    refine y_blk 2 tq_X12_manyNow (z := (129, [(0, .ref (ad 200)), (1, .int what), (2, .int v125_2), (3, .int v125_3), (4, .int v125_4), (5, .int v125_5), (6, .ref (ad 203)), (7, .int (Int32.ofNat 6)), (8, .int v125_8)], [.int (Int32.ofNat 6), .int v125_8])) rfl ?_
    refine y_icmp_ge tq_X12_manyNow 161 rfl rfl (fun c129 => ?_) (fun c129 => ?_)
    · skip
      refine y_blk 2 tq_X12_manyNow (z := (164, [(6, .int 0), (0, .ref (ad 200)), (1, .int what), (2, .int v125_2), (3, .int v125_3), (4, .int v125_4), (5, .int v125_5), (7, .int (Int32.ofNat 6)), (8, .int v125_8)], [])) rfl ?_
      refine y_pick (L2 := [(0, .ref (ad 200)), (1, .int what), (2, .int v125_2), (3, .int v125_3), (4, .int v125_4), (5, .int v125_5), (6, .int 0), (7, .int (Int32.ofNat 6)), (8, .int v125_8)]) [1, 2, 3, 4, 5, 6, 0, 7, 8] rfl ?_
      exact J164 _ v125_2 v125_3 v125_4 v125_5 0 v125_8 (by first | decide | assumption | exact Int.le_refl _ | exact yposgtL (by assumption) c169 (by decide)) rfl
    · skip
      have b129 : v125_8.toInt < ((6 : Nat) : Int) := yIy (by decide) h0_125 c129
      refine y_blk 2 tq_X12_manyNow (z := (136, [(0, .ref (ad 200)), (1, .int what), (2, .int v125_2), (3, .int v125_3), (4, .int v125_4), (5, .int v125_5), (6, .ref (ad 203)), (7, .int (Int32.ofNat 6)), (8, .int v125_8)], [.int v125_8, .ref (ad 203)])) rfl ?_
      refine y_iald hS tq_X12_manyNow rfl hX.ke (by first | exact yIn (by decide) (by decide) | exact yIn (by assumption) (by assumption) | (exact yIn (by omega) (by omega))) ?_
      refine y_blk 4 tq_X12_manyNow (z := (144, [(9, .int ((rV ρ 203) (Int32.toNatClampNeg v125_8))), (0, .ref (ad 200)), (1, .int what), (2, .int v125_2), (3, .int v125_3), (4, .int v125_4), (5, .int v125_5), (6, .ref (ad 203)), (7, .int (Int32.ofNat 6)), (8, .int v125_8)], [.int (-1), .int ((rV ρ 203) (Int32.toNatClampNeg v125_8)), .int v125_4])) rfl ?_
      refine y_icmp_ne tq_X12_manyNow 151 rfl rfl (fun c144 => ?_) (fun c144 => ?_)
      · skip
        refine y_blk 5 tq_X12_manyNow (z := (125, [(8, .int (v125_8 + 1)), (4, .int (v125_4 + 1)), (9, .int ((rV ρ 203) (Int32.toNatClampNeg v125_8))), (0, .ref (ad 200)), (1, .int what), (2, .int v125_2), (3, .int v125_3), (5, .int v125_5), (6, .ref (ad 203)), (7, .int (Int32.ofNat 6))], [])) rfl ?_
        refine y_pick (L2 := [(0, .ref (ad 200)), (1, .int what), (2, .int v125_2), (3, .int v125_3), (4, .int (v125_4 + 1)), (5, .int v125_5), (6, .ref (ad 203)), (7, .int (Int32.ofNat 6)), (8, .int (v125_8 + 1))]) [3, 4, 5, 6, 1, 7, 8, 9, 0] rfl ?_
        exact ih125 _ (by exact ydec c129) v125_2 v125_3 (v125_4 + 1) v125_5 (v125_8 + 1) hb_v125_5 (by first | decide | assumption | exact Int.le_refl _ | exact yposgeL (by assumption) c129) rfl
      · skip
        refine y_blk 6 tq_X12_manyNow (z := (125, [(8, .int (v125_8 + 1)), (4, .int (v125_4 + 0)), (9, .int ((rV ρ 203) (Int32.toNatClampNeg v125_8))), (0, .ref (ad 200)), (1, .int what), (2, .int v125_2), (3, .int v125_3), (5, .int v125_5), (6, .ref (ad 203)), (7, .int (Int32.ofNat 6))], [])) rfl ?_
        refine y_pick (L2 := [(0, .ref (ad 200)), (1, .int what), (2, .int v125_2), (3, .int v125_3), (4, .int (v125_4 + 0)), (5, .int v125_5), (6, .ref (ad 203)), (7, .int (Int32.ofNat 6)), (8, .int (v125_8 + 1))]) [3, 4, 5, 6, 1, 7, 8, 9, 0] rfl ?_
        exact ih125 _ (by exact ydec c129) v125_2 v125_3 (v125_4 + 0) v125_5 (v125_8 + 1) hb_v125_5 (by first | decide | assumption | exact Int.le_refl _ | exact yposgeL (by assumption) c129) rfl
  have J55 : ∀ (n55 : Nat) (v55_2 : Int32) (v55_3 : Int32) (v55_4 : Int32) (v55_5 : Int32) (v55_6 : Int32) (hb_v55_4 : v55_4 = 0 ∨ v55_4 = 1) (hb_v55_5 : v55_5 = 0 ∨ v55_5 = 1) (h0_55 : 0 ≤ v55_6.toInt), (((Int32.ofNat (rZ ρ 215)) : Int32).toInt - v55_6.toInt).toNat = n55 → Y l S0 D K_X12_manyNow 22 1 13 (fun r G1 => (∃ v : Int32, r = some (.int v)) ∧ yTg kA G G1) (fun _ _ => False) 55 [(0, .ref (ad 200)), (1, .int what), (2, .int v55_2), (3, .int v55_3), (4, .int v55_4), (5, .int v55_5), (6, .int v55_6)] [] G 1 13 := by
    intro n55
    induction n55 using Nat.strongRecOn with
    | _ n55 ih55 =>
    intro v55_2 v55_3 v55_4 v55_5 v55_6 hb_v55_4 hb_v55_5 h0_55 hn55
    subst hn55
    refine y_blk 2 tq_X12_manyNow (z := (58, [(0, .ref (ad 200)), (1, .int what), (2, .int v55_2), (3, .int v55_3), (4, .int v55_4), (5, .int v55_5), (6, .int v55_6)], [.ref (ad 200), .int v55_6])) rfl ?_
    refine y_get hS tq_X12_manyNow (v := .ref (ad 215)) rfl fg_X12_42_X12 hX.m rfl ?_
    refine y_blk 0 tq_X12_manyNow (z := (61, [(0, .ref (ad 200)), (1, .int what), (2, .int v55_2), (3, .int v55_3), (4, .int v55_4), (5, .int v55_5), (6, .int v55_6)], [.ref (ad 215), .int v55_6])) rfl ?_
    refine y_callF hS tq_X12_manyNow rfl (As := []) rfl cf_X12_58 (Or.inl ⟨_, (hX.ls 215 (by decide)).1⟩) (m_Jsize hS (hX.ls 215 (by decide))) rfl (by decide) (Nat.le_of_ble_eq_true rfl) (fun r61 Gc61 q61 => ?_) (fun _ _ h9 => h9.elim)
    obtain ⟨rfl, eG61⟩ := q61
    have eG61 := eG61.symm
    subst eG61
    refine y_blk 0 tq_X12_manyNow (z := (66, [(0, .ref (ad 200)), (1, .int what), (2, .int v55_2), (3, .int v55_3), (4, .int v55_4), (5, .int v55_5), (6, .int v55_6)], [.int (Int32.ofNat (rZ ρ 215)), .int v55_6])) rfl ?_
    refine y_icmp_ge tq_X12_manyNow 111 rfl rfl (fun c66 => ?_) (fun c66 => ?_)
    · skip
      refine y_blk 1 tq_X12_manyNow (z := (112, [(0, .ref (ad 200)), (1, .int what), (2, .int v55_2), (3, .int v55_3), (4, .int v55_4), (5, .int v55_5), (6, .int v55_6)], [.ref (ad 200)])) rfl ?_
      refine y_get hS tq_X12_manyNow (v := .ref (ad 203)) rfl fg_X12_39_X12 hX.m rfl ?_
      refine y_blk 2 tq_X12_manyNow (z := (119, [(6, .ref (ad 203)), (0, .ref (ad 200)), (1, .int what), (2, .int v55_2), (3, .int v55_3), (4, .int v55_4), (5, .int v55_5)], [.ref (ad 203)])) rfl ?_
      refine y_alen hS tq_X12_manyNow 0 rfl rfl hX.ke ?_
      refine y_blk 3 tq_X12_manyNow (z := (125, [(8, .int 0), (7, .int (Int32.ofNat 6)), (6, .ref (ad 203)), (0, .ref (ad 200)), (1, .int what), (2, .int v55_2), (3, .int v55_3), (4, .int v55_4), (5, .int v55_5)], [])) rfl ?_
      refine y_pick (L2 := [(0, .ref (ad 200)), (1, .int what), (2, .int v55_2), (3, .int v55_3), (4, .int v55_4), (5, .int v55_5), (6, .ref (ad 203)), (7, .int (Int32.ofNat 6)), (8, .int 0)]) [3, 4, 5, 6, 7, 8, 2, 1, 0] rfl ?_
      exact J125 _ v55_2 v55_3 v55_4 v55_5 0 hb_v55_5 (by first | decide | assumption | exact Int.le_refl _ | exact yposgeL (by assumption) c129) rfl
    · skip
      have hn66 := hX.2.le10 215 (by decide)
      have b66 : v55_6.toInt < rZ ρ 215 := yIy (by omega) h0_55 c66
      have d66 : Int32.toNatClampNeg v55_6 < rZ ρ 215 := yIx h0_55 b66
      refine y_blk 2 tq_X12_manyNow (z := (72, [(0, .ref (ad 200)), (1, .int what), (2, .int v55_2), (3, .int v55_3), (4, .int v55_4), (5, .int v55_5), (6, .int v55_6)], [.int 6, .int what])) rfl ?_
      refine y_icmp_ne tq_X12_manyNow 111 rfl rfl (fun c72 => ?_) (fun c72 => ?_)
      · skip
        refine y_blk 1 tq_X12_manyNow (z := (112, [(0, .ref (ad 200)), (1, .int what), (2, .int v55_2), (3, .int v55_3), (4, .int v55_4), (5, .int v55_5), (6, .int v55_6)], [.ref (ad 200)])) rfl ?_
        refine y_get hS tq_X12_manyNow (v := .ref (ad 203)) rfl fg_X12_39_X12 hX.m rfl ?_
        refine y_blk 2 tq_X12_manyNow (z := (119, [(6, .ref (ad 203)), (0, .ref (ad 200)), (1, .int what), (2, .int v55_2), (3, .int v55_3), (4, .int v55_4), (5, .int v55_5)], [.ref (ad 203)])) rfl ?_
        refine y_alen hS tq_X12_manyNow 0 rfl rfl hX.ke ?_
        refine y_blk 3 tq_X12_manyNow (z := (125, [(8, .int 0), (7, .int (Int32.ofNat 6)), (6, .ref (ad 203)), (0, .ref (ad 200)), (1, .int what), (2, .int v55_2), (3, .int v55_3), (4, .int v55_4), (5, .int v55_5)], [])) rfl ?_
        refine y_pick (L2 := [(0, .ref (ad 200)), (1, .int what), (2, .int v55_2), (3, .int v55_3), (4, .int v55_4), (5, .int v55_5), (6, .ref (ad 203)), (7, .int (Int32.ofNat 6)), (8, .int 0)]) [3, 4, 5, 6, 7, 8, 2, 1, 0] rfl ?_
        exact J125 _ v55_2 v55_3 v55_4 v55_5 0 hb_v55_5 (by first | decide | assumption | exact Int.le_refl _ | exact yposgeL (by assumption) c129) rfl
      · skip
        refine y_blk 3 tq_X12_manyNow (z := (78, [(0, .ref (ad 200)), (1, .int what), (2, .int v55_2), (3, .int v55_3), (4, .int v55_4), (5, .int v55_5), (6, .int v55_6)], [.ref (ad 200), .ref (ad 200), .int v55_3])) rfl ?_
        refine y_get hS tq_X12_manyNow (v := .ref (ad 215)) rfl fg_X12_42_X12 hX.m rfl ?_
        refine y_blk 1 tq_X12_manyNow (z := (83, [(0, .ref (ad 200)), (1, .int what), (2, .int v55_2), (3, .int v55_3), (4, .int v55_4), (5, .int v55_5), (6, .int v55_6)], [.int v55_6, .ref (ad 215), .ref (ad 200), .int v55_3])) rfl ?_
        refine y_callF hS tq_X12_manyNow rfl (As := [.int v55_6]) rfl cf_X12_80 (Or.inl ⟨_, (hX.ls 215 (by decide)).1⟩) (m_Rin hS hX (by assumption) (by assumption)) rfl (by decide) (Nat.le_of_ble_eq_true rfl) (fun r83 Gc83 q83 => ?_) (fun _ _ h9 => h9.elim)
        obtain ⟨rfl, eG83⟩ := q83
        have eG83 := eG83.symm
        subst eG83
        have d83 : (Int32.toNatClampNeg v55_6) < rZ ρ 215 := yIx (by assumption) (by assumption)
        refine y_blk 0 tq_X12_manyNow (z := (88, [(0, .ref (ad 200)), (1, .int what), (2, .int v55_2), (3, .int v55_3), (4, .int v55_4), (5, .int v55_5), (6, .int v55_6)], [.ref (ad (420 + (Int32.toNatClampNeg v55_6))), .ref (ad 200), .int v55_3])) rfl ?_
        refine y_castG hS tq_X12_manyNow rfl kc_X12_152 (Or.inl ⟨_, (hX.in (by assumption))⟩) ?_
        refine y_blk 0 tq_X12_manyNow (z := (91, [(0, .ref (ad 200)), (1, .int what), (2, .int v55_2), (3, .int v55_3), (4, .int v55_4), (5, .int v55_5), (6, .int v55_6)], [.ref (ad (420 + (Int32.toNatClampNeg v55_6))), .ref (ad 200), .int v55_3])) rfl ?_
        refine y_callV hS tq_X12_manyNow rfl (As := [.ref (ad (420 + (Int32.toNatClampNeg v55_6)))]) rfl cv_X12_254 hX.m (m_X12_foundNow hS hI hX (k := (Int32.toNatClampNeg v55_6)) (by assumption) ) rfl (by decide) (Nat.le_of_ble_eq_true rfl) (fun r91 Gc91 q91 => ?_) (fun E9 G9 h9 => h9.elim)
        obtain ⟨⟨x91, hr_x91, rfl⟩, eG91⟩ := q91
        have eG91 := eG91.symm
        subst eG91
        refine y_blk 1 tq_X12_manyNow (z := (95, [(0, .ref (ad 200)), (1, .int what), (2, .int v55_2), (3, .int v55_3), (4, .int v55_4), (5, .int v55_5), (6, .int v55_6)], [.int (-1), .int x91, .int v55_3])) rfl ?_
        refine y_icmp_ne tq_X12_manyNow 102 rfl rfl (fun c95 => ?_) (fun c95 => ?_)
        · skip
          refine y_blk 5 tq_X12_manyNow (z := (55, [(6, .int (v55_6 + 1)), (3, .int (v55_3 + 1)), (0, .ref (ad 200)), (1, .int what), (2, .int v55_2), (4, .int v55_4), (5, .int v55_5)], [])) rfl ?_
          refine y_pick (L2 := [(0, .ref (ad 200)), (1, .int what), (2, .int v55_2), (3, .int (v55_3 + 1)), (4, .int v55_4), (5, .int v55_5), (6, .int (v55_6 + 1))]) [2, 3, 4, 1, 5, 6, 0] rfl ?_
          exact ih55 _ (by exact ydec c66) v55_2 (v55_3 + 1) v55_4 v55_5 (v55_6 + 1) hb_v55_4 hb_v55_5 (by first | decide | assumption | exact Int.le_refl _ | exact yposgeL (by assumption) c66) rfl
        · skip
          refine y_blk 6 tq_X12_manyNow (z := (55, [(6, .int (v55_6 + 1)), (3, .int (v55_3 + 0)), (0, .ref (ad 200)), (1, .int what), (2, .int v55_2), (4, .int v55_4), (5, .int v55_5)], [])) rfl ?_
          refine y_pick (L2 := [(0, .ref (ad 200)), (1, .int what), (2, .int v55_2), (3, .int (v55_3 + 0)), (4, .int v55_4), (5, .int v55_5), (6, .int (v55_6 + 1))]) [2, 3, 4, 1, 5, 6, 0] rfl ?_
          exact ih55 _ (by exact ydec c66) v55_2 (v55_3 + 0) v55_4 v55_5 (v55_6 + 1) hb_v55_4 hb_v55_5 (by first | decide | assumption | exact Int.le_refl _ | exact yposgeL (by assumption) c66) rfl
  have J13 : ∀ (n13 : Nat) (v13_2 : Int32) (v13_3 : Int32) (v13_4 : Int32) (v13_5 : Int32) (v13_6 : Int32) (hb_v13_3 : v13_3 = 0 ∨ v13_3 = 1) (hb_v13_4 : v13_4 = 0 ∨ v13_4 = 1) (hb_v13_5 : v13_5 = 0 ∨ v13_5 = 1) (h0_13 : 0 ≤ v13_6.toInt), (((Int32.ofNat (rZ ρ 210)) : Int32).toInt - v13_6.toInt).toNat = n13 → Y l S0 D K_X12_manyNow 22 1 13 (fun r G1 => (∃ v : Int32, r = some (.int v)) ∧ yTg kA G G1) (fun _ _ => False) 13 [(0, .ref (ad 200)), (1, .int what), (2, .int v13_2), (3, .int v13_3), (4, .int v13_4), (5, .int v13_5), (6, .int v13_6)] [] G 1 13 := by
    intro n13
    induction n13 using Nat.strongRecOn with
    | _ n13 ih13 =>
    intro v13_2 v13_3 v13_4 v13_5 v13_6 hb_v13_3 hb_v13_4 hb_v13_5 h0_13 hn13
    subst hn13
    refine y_blk 2 tq_X12_manyNow (z := (16, [(0, .ref (ad 200)), (1, .int what), (2, .int v13_2), (3, .int v13_3), (4, .int v13_4), (5, .int v13_5), (6, .int v13_6)], [.ref (ad 200), .int v13_6])) rfl ?_
    refine y_get hS tq_X12_manyNow (v := .ref (ad 210)) rfl fg_X12_20_X12 hX.m rfl ?_
    refine y_blk 0 tq_X12_manyNow (z := (19, [(0, .ref (ad 200)), (1, .int what), (2, .int v13_2), (3, .int v13_3), (4, .int v13_4), (5, .int v13_5), (6, .int v13_6)], [.ref (ad 210), .int v13_6])) rfl ?_
    refine y_callF hS tq_X12_manyNow rfl (As := []) rfl cf_X12_58 (Or.inl ⟨_, (hX.ls 210 (by decide)).1⟩) (m_Jsize hS (hX.ls 210 (by decide))) rfl (by decide) (Nat.le_of_ble_eq_true rfl) (fun r19 Gc19 q19 => ?_) (fun _ _ h9 => h9.elim)
    obtain ⟨rfl, eG19⟩ := q19
    have eG19 := eG19.symm
    subst eG19
    refine y_blk 0 tq_X12_manyNow (z := (24, [(0, .ref (ad 200)), (1, .int what), (2, .int v13_2), (3, .int v13_3), (4, .int v13_4), (5, .int v13_5), (6, .int v13_6)], [.int (Int32.ofNat (rZ ρ 210)), .int v13_6])) rfl ?_
    refine y_icmp_ge tq_X12_manyNow 52 rfl rfl (fun c24 => ?_) (fun c24 => ?_)
    · skip
      refine y_blk 2 tq_X12_manyNow (z := (55, [(6, .int 0), (0, .ref (ad 200)), (1, .int what), (2, .int v13_2), (3, .int v13_3), (4, .int v13_4), (5, .int v13_5)], [])) rfl ?_
      refine y_pick (L2 := [(0, .ref (ad 200)), (1, .int what), (2, .int v13_2), (3, .int v13_3), (4, .int v13_4), (5, .int v13_5), (6, .int 0)]) [1, 2, 3, 4, 5, 6, 0] rfl ?_
      exact J55 _ v13_2 v13_3 v13_4 v13_5 0 hb_v13_4 hb_v13_5 (by first | decide | assumption | exact Int.le_refl _ | exact yposgeL (by assumption) c66) rfl
    · skip
      have hn24 := hX.2.le10 210 (by decide)
      have b24 : v13_6.toInt < rZ ρ 210 := yIy (by omega) h0_13 c24
      have d24 : Int32.toNatClampNeg v13_6 < rZ ρ 210 := yIx h0_13 b24
      refine y_blk 2 tq_X12_manyNow (z := (29, [(0, .ref (ad 200)), (1, .int what), (2, .int v13_2), (3, .int v13_3), (4, .int v13_4), (5, .int v13_5), (6, .int v13_6)], [.ref (ad 200), .int v13_2])) rfl ?_
      refine y_get hS tq_X12_manyNow (v := .ref (ad 210)) rfl fg_X12_20_X12 hX.m rfl ?_
      refine y_blk 1 tq_X12_manyNow (z := (34, [(0, .ref (ad 200)), (1, .int what), (2, .int v13_2), (3, .int v13_3), (4, .int v13_4), (5, .int v13_5), (6, .int v13_6)], [.int v13_6, .ref (ad 210), .int v13_2])) rfl ?_
      refine y_callF hS tq_X12_manyNow rfl (As := [.int v13_6]) rfl cf_X12_80 (Or.inl ⟨_, (hX.ls 210 (by decide)).1⟩) (m_Rla hS hX (by assumption) (by assumption)) rfl (by decide) (Nat.le_of_ble_eq_true rfl) (fun r34 Gc34 q34 => ?_) (fun _ _ h9 => h9.elim)
      obtain ⟨rfl, eG34⟩ := q34
      have eG34 := eG34.symm
      subst eG34
      have d34 : (Int32.toNatClampNeg v13_6) < rZ ρ 210 := yIx (by assumption) (by assumption)
      refine y_blk 0 tq_X12_manyNow (z := (39, [(0, .ref (ad 200)), (1, .int what), (2, .int v13_2), (3, .int v13_3), (4, .int v13_4), (5, .int v13_5), (6, .int v13_6)], [.ref (ad (300 + (Int32.toNatClampNeg v13_6))), .int v13_2])) rfl ?_
      refine y_castA hS tq_X12_manyNow rfl kc_X12_116 (Or.inl ⟨_, (hX.la (by assumption))⟩) ?_
      refine y_blk 1 tq_X12_manyNow (z := (43, [(0, .ref (ad 200)), (1, .int what), (2, .int v13_2), (3, .int v13_3), (4, .int v13_4), (5, .int v13_5), (6, .int v13_6)], [.int 2, .ref (ad (300 + (Int32.toNatClampNeg v13_6))), .int v13_2])) rfl ?_
      refine y_iald hS tq_X12_manyNow rfl (hX.la (by assumption)) (by first | exact yIn (by decide) (by decide) | exact yIn (by assumption) (by assumption) | (exact yIn (by omega) (by omega))) ?_
      refine y_blk 4 tq_X12_manyNow (z := (13, [(6, .int (v13_6 + 1)), (2, .int (v13_2 + ((rV ρ (300 + (Int32.toNatClampNeg v13_6))) (Int32.toNatClampNeg 2)))), (0, .ref (ad 200)), (1, .int what), (3, .int v13_3), (4, .int v13_4), (5, .int v13_5)], [])) rfl ?_
      refine y_pick (L2 := [(0, .ref (ad 200)), (1, .int what), (2, .int (v13_2 + ((rV ρ (300 + (Int32.toNatClampNeg v13_6))) (Int32.toNatClampNeg 2)))), (3, .int v13_3), (4, .int v13_4), (5, .int v13_5), (6, .int (v13_6 + 1))]) [2, 3, 1, 4, 5, 6, 0] rfl ?_
      exact ih13 _ (by exact ydec c24) (v13_2 + ((rV ρ (300 + (Int32.toNatClampNeg v13_6))) (Int32.toNatClampNeg 2))) v13_3 v13_4 v13_5 (v13_6 + 1) hb_v13_3 hb_v13_4 hb_v13_5 (by first | decide | assumption | exact Int.le_refl _ | exact yposgeL (by assumption) c24) rfl
  refine y_blk 10 tq_X12_manyNow (z := (13, [(6, .int 0), (5, .int 0), (4, .int 0), (3, .int 0), (2, .int 0), (0, .ref (ad 200)), (1, .int what)], [])) rfl ?_
  refine y_pick (L2 := [(0, .ref (ad 200)), (1, .int what), (2, .int 0), (3, .int 0), (4, .int 0), (5, .int 0), (6, .int 0)]) [5, 6, 4, 3, 2, 1, 0] rfl ?_
  exact J13 _ 0 0 0 0 0 (Or.inl rfl) (Or.inl rfl) (Or.inl rfl) (by first | decide | assumption | exact Int.le_refl _ | exact yposgeL (by assumption) c24) rfl
set_option maxHeartbeats 4000000 in
set_option maxRecDepth 100000 in
theorem m_X12_at {l : Launch} {S0 : State} {A0 : Array Value} {D : va_G} {aC : Nat → ClassId} {ic : Int32 → Nat} {de : Nat} {ad : Nat → Nat} {G : AH} {ρ : RS} (hS : yS l S0 A0 D aC) (hI : yIc S0 ic de) (hX : atR aC ic de ad G ρ) (cell : Int32) (minute : Int32) (hcell : rcell ρ cell) : yM l S0 D yX12_at cX12_at 4 (some (.array .boolean)) 22 1 64 [.ref (ad 200), .int cell, .int minute] G (fun r G1 => ∃ (a : Nat) (f : Nat → Int32), r = some (.ref a) ∧ G1 a = some (501, .inl (aC 2, rZ ρ 201, .inl f)) ∧ yTg kA G G1) (fun _ _ => False) := by
  refine yM.ofK K_X12_at rfl (by decide) (Nat.le_of_ble_eq_true rfl) ?_
  have hn64 := hX.2.n64
  have hc0 := hcell.1
  have hc1 := hcell.2
  refine y_blk 1 tq_X12_at (z := (1, [(0, .ref (ad 200)), (1, .int cell), (2, .int minute)], [.ref (ad 200)])) rfl ?_
  refine y_get hS tq_X12_at (v := .ref (ad 201)) rfl fg_X12_7_X12 hX.m rfl ?_
  refine y_blk 0 tq_X12_at (z := (4, [(0, .ref (ad 200)), (1, .int cell), (2, .int minute)], [.ref (ad 201)])) rfl ?_
  refine y_alen hS tq_X12_at 0 rfl rfl hX.ki ?_
  refine y_blk 0 tq_X12_at (z := (5, [(0, .ref (ad 200)), (1, .int cell), (2, .int minute)], [.int (Int32.ofNat (rZ ρ 201))])) rfl ?_
  refine y_less (k2 := 0 + 1) (n2 := 0 + (rZ ρ 201)) (by omega) (by omega) ?_
  refine y_newa_bool 501 hS tq_X12_at rfl wd_2116 (by rw [ylt, yl_0, yofn (by omega)]; omega) (yofc (by omega)) (by omega) (fun a5 hne5 => ?_)
  have hle5 : yLe G (yup G a5 (501, .inl (aC 2, (rZ ρ 201), .inl (fun _ => 0)))) := yLe.new hne5
  have hA5 : (yup G a5 (501, .inl (aC 2, (rZ ρ 201), .inl (fun _ => 0)))) a5 = some (501, .inl (aC 2, (rZ ρ 201), .inl (fun _ => 0))) := yup_s _ _ _
  generalize yup G a5 (501, .inl (aC 2, (rZ ρ 201), .inl (fun _ => 0))) = G5 at hle5 hA5 ⊢
  have hX5 := hX.le hle5
  have kt5 := ((yTg.rfl' (f := kA) (G := G))).trans (yTg.le hle5)
  refine y_blk 6 tq_X12_at (z := (13, [(3, .ref a5), (0, .ref (ad 200)), (1, .int cell), (2, .int minute)], [.int minute, .int cell, .ref (ad 200), .int cell, .ref a5])) rfl ?_
  refine y_callV hS tq_X12_at rfl (As := [.int cell, .int minute]) rfl cv_X12_280 hX5.m (m_X12_isUnseen hS hI hX5 cell minute (by first | (with_reducible assumption) | (with_reducible exact hX5.lac (by assumption)) | (with_reducible exact hX5.poc (by assumption)) | (with_reducible exact hX5.wac (by assumption) (by assumption) (by omega)) | assumption | exact hX5.lac (by assumption) | exact hX5.poc (by assumption) | exact hX5.wac (by assumption) (by assumption) (by omega))) rfl (by decide) (Nat.le_of_ble_eq_true rfl) (fun r13 Gc13 q13 => ?_) (fun E9 G9 h9 => h9.elim)
  obtain ⟨⟨x13, hb_x13, rfl⟩, eG13⟩ := q13
  have eG13 := eG13.symm
  subst eG13
  refine y_blk 0 tq_X12_at (z := (16, [(3, .ref a5), (0, .ref (ad 200)), (1, .int cell), (2, .int minute)], [.int x13, .int cell, .ref a5])) rfl ?_
  refine y_zast hS tq_X12_at rfl hA5 (by decide) (by first | exact yIn (by decide) (by decide) | exact yIn (by assumption) (by assumption) | (exact yIn (by omega) (by omega))) ?_
  have hA16 : (yup G5 a5 (501, .inl (aC 2, (rZ ρ 201), .inl (upd (fun _ => 0) (Int32.toNatClampNeg cell) (vp_nar .boolean x13))))) a5 = some (501, .inl (aC 2, (rZ ρ 201), .inl (upd (fun _ => 0) (Int32.toNatClampNeg cell) (vp_nar .boolean x13)))) := yup_s _ _ _
  have hX16 : atR aC ic de ad (yup G5 a5 (501, .inl (aC 2, (rZ ρ 201), .inl (upd (fun _ => 0) (Int32.toNatClampNeg cell) (vp_nar .boolean x13))))) ρ := hX5.kp (yTg.up hA5 (by decide))
  have kt16 : yTg kA G (yup G5 a5 (501, .inl (aC 2, (rZ ρ 201), .inl (upd (fun _ => 0) (Int32.toNatClampNeg cell) (vp_nar .boolean x13))))) := (kt5).trans (yTg.up hA5 (by decide))
  generalize yup G5 a5 (501, .inl (aC 2, (rZ ρ 201), .inl (upd (fun _ => 0) (Int32.toNatClampNeg cell) (vp_nar .boolean x13)))) = G16 at hA16 hX16 kt16 ⊢
  generalize (upd (fun _ => 0) (Int32.toNatClampNeg cell) (vp_nar .boolean x13)) = f16 at hA16
  refine y_blk 1 tq_X12_at (z := (18, [(3, .ref a5), (0, .ref (ad 200)), (1, .int cell), (2, .int minute)], [.ref a5])) rfl ?_
  exact y_aret tq_X12_at rfl rfl (Or.inr ⟨_, rfl⟩) (Or.inr ⟨_, rfl⟩) (⟨_, _, rfl, hA16, kt16⟩)
set_option maxHeartbeats 4000000 in
set_option maxRecDepth 100000 in
theorem m_X12_onward {l : Launch} {S0 : State} {A0 : Array Value} {D : va_G} {aC : Nat → ClassId} {ic : Int32 → Nat} {de : Nat} {ad : Nat → Nat} {G : AH} {ρ : RS} (hS : yS l S0 A0 D aC) (hI : yIc S0 ic de) (hX : atR aC ic de ad G ρ) (minute : Int32) {w : Nat} {fw : Nat → Int32} (hw : G w = some (501, .inl (aC 2, rZ ρ 201, .inl fw))) : yM l S0 D yX12_onward cX12_onward 7 (some (.array .boolean)) 22 1 64 [.ref (ad 200), .ref w, .int minute] G (fun r G1 => ∃ (a : Nat) (f : Nat → Int32), r = some (.ref a) ∧ G1 a = some (501, .inl (aC 2, rZ ρ 201, .inl f)) ∧ yTg kA G G1) (fun _ _ => False) := by
  refine yM.ofK K_X12_onward rfl (by decide) (Nat.le_of_ble_eq_true rfl) ?_
  have hn64 := hX.2.n64
  refine y_retag (t2 := 500) hw (by decide) ?_
  have hw0 : (yup G w (500, .inl (aC 2, (rZ ρ 201), .inl fw))) w = some (500, .inl (aC 2, (rZ ρ 201), .inl fw)) := yup_s _ _ _
  have hX0 : atR aC ic de ad (yup G w (500, .inl (aC 2, (rZ ρ 201), .inl fw))) ρ := hX.kp (yTg.ret hw (by decide))
  have kt0 : yTg kA G (yup G w (500, .inl (aC 2, (rZ ρ 201), .inl fw))) := yTg.ret hw (by decide)
  generalize yup G w (500, .inl (aC 2, (rZ ρ 201), .inl fw)) = G0 at hw0 hX0 kt0 ⊢
  have J8 : ∀ (n8 : Nat) (v8_3 : Nat) (v8_4 : Int32) (G8 : AH) (f18 : Nat → Int32) (f38 : Nat → Int32) (hX8 : atR aC ic de ad G8 ρ) (kt8 : yTg kA G G8) (pA18 : G8 w = some (500, .inl (aC 2, rZ ρ 201, .inl f18))) (pA38 : G8 v8_3 = some (501, .inl (aC 2, rZ ρ 201, .inl f38))) (h0_8 : 0 ≤ v8_4.toInt), ((Int32.ofNat (rZ ρ 201) : Int32).toInt - v8_4.toInt).toNat = n8 → Y l S0 D K_X12_onward 22 1 64 (fun r G1 => ∃ (a : Nat) (f : Nat → Int32), r = some (.ref a) ∧ G1 a = some (501, .inl (aC 2, rZ ρ 201, .inl f)) ∧ yTg kA G G1) (fun _ _ => False) 8 [(0, .ref (ad 200)), (1, .ref w), (2, .int minute), (3, .ref v8_3), (4, .int v8_4)] [] G8 0 0 := by
    intro n8
    induction n8 using Nat.strongRecOn with
    | _ n8 ih8 =>
    intro v8_3 v8_4 G8 f18 f38 hX8 kt8 pA18 pA38 h0_8 hn8
    subst hn8
    have J74 : ∀ (G74 : AH) (f174 : Nat → Int32) (f374 : Nat → Int32) (hX74 : atR aC ic de ad G74 ρ) (kt74 : yTg kA G G74) (pA174 : G74 w = some (500, .inl (aC 2, rZ ρ 201, .inl f174))) (pA374 : G74 v8_3 = some (501, .inl (aC 2, rZ ρ 201, .inl f374))) (c12 : ¬ (Int32.ofNat (rZ ρ 201) : Int32) ≤ v8_4), Y l S0 D K_X12_onward 22 1 64 (fun r G1 => ∃ (a : Nat) (f : Nat → Int32), r = some (.ref a) ∧ G1 a = some (501, .inl (aC 2, rZ ρ 201, .inl f)) ∧ yTg kA G G1) (fun _ _ => False) 74 [(0, .ref (ad 200)), (1, .ref w), (2, .int minute), (3, .ref v8_3), (4, .int v8_4)] [] G74 0 0 := by
      intro G74 f174 f374 hX74 kt74 pA174 pA374 c12
      have b12 : v8_4.toInt < rZ ρ 201 := yIy (by omega) h0_8 c12
      have e12 : rcell ρ v8_4 := ⟨h0_8, b12⟩
      refine y_blk 2 tq_X12_onward (z := (8, [(4, .int (v8_4 + 1)), (0, .ref (ad 200)), (1, .ref w), (2, .int minute), (3, .ref v8_3)], [])) rfl ?_
      refine y_pick (L2 := [(0, .ref (ad 200)), (1, .ref w), (2, .int minute), (3, .ref v8_3), (4, .int (v8_4 + 1))]) [1, 2, 3, 4, 0] rfl ?_
      exact ih8 _ (by exact ydec c12) v8_3 (v8_4 + 1) G74 f174 f374 hX74 kt74 pA174 pA374 (by first | decide | assumption | exact yposgeL (by assumption) c12) rfl
    have J28 : ∀ (n28 : Nat) (v28_5 : Int32) (G28 : AH) (f128 : Nat → Int32) (f328 : Nat → Int32) (hX28 : atR aC ic de ad G28 ρ) (kt28 : yTg kA G G28) (pA128 : G28 w = some (500, .inl (aC 2, rZ ρ 201, .inl f128))) (pA328 : G28 v8_3 = some (501, .inl (aC 2, rZ ρ 201, .inl f328))) (h0_28 : 0 ≤ v28_5.toInt) (c12 : ¬ (Int32.ofNat (rZ ρ 201) : Int32) ≤ v8_4), ((4 : Int32).toInt + 1 - v28_5.toInt).toNat = n28 → Y l S0 D K_X12_onward 22 1 64 (fun r G1 => ∃ (a : Nat) (f : Nat → Int32), r = some (.ref a) ∧ G1 a = some (501, .inl (aC 2, rZ ρ 201, .inl f)) ∧ yTg kA G G1) (fun _ _ => False) 28 [(0, .ref (ad 200)), (1, .ref w), (2, .int minute), (3, .ref v8_3), (4, .int v8_4), (5, .int v28_5)] [] G28 0 0 := by
      intro n28
      induction n28 using Nat.strongRecOn with
      | _ n28 ih28 =>
      intro v28_5 G28 f128 f328 hX28 kt28 pA128 pA328 h0_28 c12 hn28
      subst hn28
      have b12 : v8_4.toInt < rZ ρ 201 := yIy (by omega) h0_8 c12
      have e12 : rcell ρ v8_4 := ⟨h0_8, b12⟩
      have J68 : ∀ (v68_6 : Int32) (G68 : AH) (f168 : Nat → Int32) (f368 : Nat → Int32) (hX68 : atR aC ic de ad G68 ρ) (kt68 : yTg kA G G68) (pA168 : G68 w = some (500, .inl (aC 2, rZ ρ 201, .inl f168))) (pA368 : G68 v8_3 = some (501, .inl (aC 2, rZ ρ 201, .inl f368))) (c31 : ¬ (4 : Int32) < v28_5) (c12 : ¬ (Int32.ofNat (rZ ρ 201) : Int32) ≤ v8_4), Y l S0 D K_X12_onward 22 1 64 (fun r G1 => ∃ (a : Nat) (f : Nat → Int32), r = some (.ref a) ∧ G1 a = some (501, .inl (aC 2, rZ ρ 201, .inl f)) ∧ yTg kA G G1) (fun _ _ => False) 68 [(0, .ref (ad 200)), (1, .ref w), (2, .int minute), (3, .ref v8_3), (4, .int v8_4), (5, .int v28_5), (6, .int v68_6)] [] G68 0 0 := by
        intro v68_6 G68 f168 f368 hX68 kt68 pA168 pA368 c31 c12
        have b31 : v28_5.toInt ≤ 4 := by rw [ylt] at c31; have z9 : (4 : Int32).toInt = 4 := (by decide); omega
        have b12 : v8_4.toInt < rZ ρ 201 := yIy (by omega) h0_8 c12
        have e12 : rcell ρ v8_4 := ⟨h0_8, b12⟩
        refine y_blk 2 tq_X12_onward (z := (28, [(5, .int (v28_5 + 1)), (0, .ref (ad 200)), (1, .ref w), (2, .int minute), (3, .ref v8_3), (4, .int v8_4), (6, .int v68_6)], [])) rfl ?_
        refine y_pick (L2 := [(0, .ref (ad 200)), (1, .ref w), (2, .int minute), (3, .ref v8_3), (4, .int v8_4), (5, .int (v28_5 + 1))]) [1, 2, 3, 4, 5, 0] rfl ?_
        exact ih28 _ (by exact ydec2 c31 (by decide)) (v28_5 + 1) G68 f168 f368 hX68 kt68 pA168 pA368 (by first | decide | assumption | exact Int.le_refl _ | exact yposgtL (by assumption) c31 (by decide)) (by exact c12) rfl
      refine y_blk 2 tq_X12_onward (z := (31, [(0, .ref (ad 200)), (1, .ref w), (2, .int minute), (3, .ref v8_3), (4, .int v8_4), (5, .int v28_5)], [.int 4, .int v28_5])) rfl ?_
      refine y_icmp_gt tq_X12_onward 74 rfl rfl (fun c31 => ?_) (fun c31 => ?_)
      · skip
        refine y_blk 0 tq_X12_onward (z := (74, [(0, .ref (ad 200)), (1, .ref w), (2, .int minute), (3, .ref v8_3), (4, .int v8_4), (5, .int v28_5)], [])) rfl ?_
        refine y_pick (L2 := [(0, .ref (ad 200)), (1, .ref w), (2, .int minute), (3, .ref v8_3), (4, .int v8_4)]) [0, 1, 2, 3, 4] rfl ?_
        exact J74 G28 f128 f328 hX28 kt28 pA128 pA328 (by exact c12)
      · skip
        have b31 : v28_5.toInt ≤ 4 := by rw [ylt] at c31; have z9 : (4 : Int32).toInt = 4 := (by decide); omega
        refine y_blk 3 tq_X12_onward (z := (39, [(0, .ref (ad 200)), (1, .ref w), (2, .int minute), (3, .ref v8_3), (4, .int v8_4), (5, .int v28_5)], [.int v28_5, .int v8_4, .ref (ad 200)])) rfl ?_
        refine y_callV hS tq_X12_onward rfl (As := [.int v8_4, .int v28_5]) rfl cv_X12_240 hX28.m (m_X12_moved hS hI hX28 v8_4 v28_5 (by first | (with_reducible assumption) | (with_reducible exact hX28.lac (by assumption)) | (with_reducible exact hX28.poc (by assumption)) | (with_reducible exact hX28.wac (by assumption) (by assumption) (by omega)) | assumption | exact hX28.lac (by assumption) | exact hX28.poc (by assumption) | exact hX28.wac (by assumption) (by assumption) (by omega))) rfl (by decide) (Nat.le_of_ble_eq_true rfl) (fun r39 Gc39 q39 => ?_) (fun E9 G9 h9 => h9.elim)
        obtain ⟨⟨x39, hr_x39, rfl⟩, eG39⟩ := q39
        have eG39 := eG39.symm
        subst eG39
        refine y_blk 3 tq_X12_onward (z := (47, [(6, .int x39), (0, .ref (ad 200)), (1, .ref w), (2, .int minute), (3, .ref v8_3), (4, .int v8_4), (5, .int v28_5)], [.int (-1), .int x39])) rfl ?_
        refine y_icmp_eq tq_X12_onward 68 rfl rfl (fun c47 => ?_) (fun c47 => ?_)
        · skip
          refine y_blk 0 tq_X12_onward (z := (68, [(6, .int x39), (0, .ref (ad 200)), (1, .ref w), (2, .int minute), (3, .ref v8_3), (4, .int v8_4), (5, .int v28_5)], [])) rfl ?_
          refine y_pick (L2 := [(0, .ref (ad 200)), (1, .ref w), (2, .int minute), (3, .ref v8_3), (4, .int v8_4), (5, .int v28_5), (6, .int x39)]) [1, 2, 3, 4, 5, 6, 0] rfl ?_
          exact J68 x39 G28 f128 f328 hX28 kt28 pA128 pA328 (by exact c31) (by exact c12)
        · skip
          have hmv := hr_x39.1.resolve_left c47
          have hm0 := hmv.1
          have hm1 := hmv.2
          refine y_blk 2 tq_X12_onward (z := (53, [(6, .int x39), (0, .ref (ad 200)), (1, .ref w), (2, .int minute), (3, .ref v8_3), (4, .int v8_4), (5, .int v28_5)], [.int x39, .ref v8_3])) rfl ?_
          refine y_zald hS tq_X12_onward rfl pA328 (by first | exact yIn (by decide) (by decide) | exact yIn (by assumption) (by assumption) | (exact yIn (by omega) (by omega))) ?_
          refine y_blk 0 tq_X12_onward (z := (54, [(6, .int x39), (0, .ref (ad 200)), (1, .ref w), (2, .int minute), (3, .ref v8_3), (4, .int v8_4), (5, .int v28_5)], [.int (f328 (Int32.toNatClampNeg x39))])) rfl ?_
          refine y_if_ne tq_X12_onward 68 rfl rfl (fun c54 => ?_) (fun c54 => ?_)
          · skip
            refine y_blk 0 tq_X12_onward (z := (68, [(6, .int x39), (0, .ref (ad 200)), (1, .ref w), (2, .int minute), (3, .ref v8_3), (4, .int v8_4), (5, .int v28_5)], [])) rfl ?_
            refine y_pick (L2 := [(0, .ref (ad 200)), (1, .ref w), (2, .int minute), (3, .ref v8_3), (4, .int v8_4), (5, .int v28_5), (6, .int x39)]) [1, 2, 3, 4, 5, 6, 0] rfl ?_
            exact J68 x39 G28 f128 f328 hX28 kt28 pA128 pA328 (by exact c31) (by exact c12)
          · skip
            refine y_blk 5 tq_X12_onward (z := (64, [(6, .int x39), (0, .ref (ad 200)), (1, .ref w), (2, .int minute), (3, .ref v8_3), (4, .int v8_4), (5, .int v28_5)], [.int minute, .int x39, .ref (ad 200), .int x39, .ref v8_3])) rfl ?_
            refine y_callV hS tq_X12_onward rfl (As := [.int x39, .int minute]) rfl cv_X12_280 hX28.m (m_X12_isUnseen hS hI hX28 x39 minute (by first | (with_reducible assumption) | (with_reducible exact hX28.lac (by assumption)) | (with_reducible exact hX28.poc (by assumption)) | (with_reducible exact hX28.wac (by assumption) (by assumption) (by omega)) | assumption | exact hX28.lac (by assumption) | exact hX28.poc (by assumption) | exact hX28.wac (by assumption) (by assumption) (by omega))) rfl (by decide) (Nat.le_of_ble_eq_true rfl) (fun r64 Gc64 q64 => ?_) (fun E9 G9 h9 => h9.elim)
            obtain ⟨⟨x64, hb_x64, rfl⟩, eG64⟩ := q64
            have eG64 := eG64.symm
            subst eG64
            refine y_blk 0 tq_X12_onward (z := (67, [(6, .int x39), (0, .ref (ad 200)), (1, .ref w), (2, .int minute), (3, .ref v8_3), (4, .int v8_4), (5, .int v28_5)], [.int x64, .int x39, .ref v8_3])) rfl ?_
            refine y_zast hS tq_X12_onward rfl pA328 (by decide) (by first | exact yIn (by decide) (by decide) | exact yIn (by assumption) (by assumption) | (exact yIn (by omega) (by omega))) ?_
            have hA67 : (yup G28 v8_3 (501, .inl (aC 2, (rZ ρ 201), .inl (upd f328 (Int32.toNatClampNeg x39) (vp_nar .boolean x64))))) v8_3 = some (501, .inl (aC 2, (rZ ρ 201), .inl (upd f328 (Int32.toNatClampNeg x39) (vp_nar .boolean x64)))) := yup_s _ _ _
            have hX67 : atR aC ic de ad (yup G28 v8_3 (501, .inl (aC 2, (rZ ρ 201), .inl (upd f328 (Int32.toNatClampNeg x39) (vp_nar .boolean x64))))) ρ := hX28.kp (yTg.up pA328 (by decide))
            have kt67 : yTg kA G (yup G28 v8_3 (501, .inl (aC 2, (rZ ρ 201), .inl (upd f328 (Int32.toNatClampNeg x39) (vp_nar .boolean x64))))) := (kt28).trans (yTg.up pA328 (by decide))
            have hB67_w : (yup G28 v8_3 (501, .inl (aC 2, (rZ ρ 201), .inl (upd f328 (Int32.toNatClampNeg x39) (vp_nar .boolean x64))))) w = some (500, .inl (aC 2, (rZ ρ 201), .inl f128)) := yup_o pA128 pA328 (by decide)
            generalize yup G28 v8_3 (501, .inl (aC 2, (rZ ρ 201), .inl (upd f328 (Int32.toNatClampNeg x39) (vp_nar .boolean x64)))) = G67 at hA67 hX67 kt67 hB67_w ⊢
            generalize (upd f328 (Int32.toNatClampNeg x39) (vp_nar .boolean x64)) = f67 at hA67
            refine y_blk 0 tq_X12_onward (z := (68, [(6, .int x39), (0, .ref (ad 200)), (1, .ref w), (2, .int minute), (3, .ref v8_3), (4, .int v8_4), (5, .int v28_5)], [])) rfl ?_
            refine y_pick (L2 := [(0, .ref (ad 200)), (1, .ref w), (2, .int minute), (3, .ref v8_3), (4, .int v8_4), (5, .int v28_5), (6, .int x39)]) [1, 2, 3, 4, 5, 6, 0] rfl ?_
            exact J68 x39 G67 f128 f67 hX67 kt67 hB67_w hA67 (by exact c31) (by exact c12)
    refine y_blk 2 tq_X12_onward (z := (11, [(0, .ref (ad 200)), (1, .ref w), (2, .int minute), (3, .ref v8_3), (4, .int v8_4)], [.ref w, .int v8_4])) rfl ?_
    refine y_alen hS tq_X12_onward 2 rfl rfl pA18 ?_
    refine y_blk 0 tq_X12_onward (z := (12, [(0, .ref (ad 200)), (1, .ref w), (2, .int minute), (3, .ref v8_3), (4, .int v8_4)], [.int (Int32.ofNat (rZ ρ 201)), .int v8_4])) rfl ?_
    refine y_icmp_ge tq_X12_onward 80 rfl rfl (fun c12 => ?_) (fun c12 => ?_)
    · skip
      refine y_blk 1 tq_X12_onward (z := (81, [(0, .ref (ad 200)), (1, .ref w), (2, .int minute), (3, .ref v8_3), (4, .int v8_4)], [.ref v8_3])) rfl ?_
      exact y_aret tq_X12_onward rfl rfl (Or.inr ⟨_, rfl⟩) (Or.inr ⟨_, rfl⟩) (⟨_, _, rfl, pA38, kt8⟩)
    · skip
      have b12 : v8_4.toInt < rZ ρ 201 := yIy (by omega) h0_8 c12
      have e12 : rcell ρ v8_4 := ⟨h0_8, b12⟩
      refine y_blk 2 tq_X12_onward (z := (18, [(0, .ref (ad 200)), (1, .ref w), (2, .int minute), (3, .ref v8_3), (4, .int v8_4)], [.int v8_4, .ref w])) rfl ?_
      refine y_zald hS tq_X12_onward rfl pA18 (by first | exact yIn (by decide) (by decide) | exact yIn (by assumption) (by assumption) | (exact yIn (by omega) (by omega))) ?_
      refine y_blk 0 tq_X12_onward (z := (19, [(0, .ref (ad 200)), (1, .ref w), (2, .int minute), (3, .ref v8_3), (4, .int v8_4)], [.int (f18 (Int32.toNatClampNeg v8_4))])) rfl ?_
      refine y_if_ne tq_X12_onward 25 rfl rfl (fun c19 => ?_) (fun c19 => ?_)
      · skip
        refine y_blk 2 tq_X12_onward (z := (28, [(5, .int 0), (0, .ref (ad 200)), (1, .ref w), (2, .int minute), (3, .ref v8_3), (4, .int v8_4)], [])) rfl ?_
        refine y_pick (L2 := [(0, .ref (ad 200)), (1, .ref w), (2, .int minute), (3, .ref v8_3), (4, .int v8_4), (5, .int 0)]) [1, 2, 3, 4, 5, 0] rfl ?_
        exact J28 _ 0 G8 f18 f38 hX8 kt8 pA18 pA38 (by first | decide | assumption | exact Int.le_refl _ | exact yposgtL (by assumption) c31 (by decide)) (by exact c12) rfl
      · skip
        refine y_blk 1 tq_X12_onward (z := (74, [(0, .ref (ad 200)), (1, .ref w), (2, .int minute), (3, .ref v8_3), (4, .int v8_4)], [])) rfl ?_
        exact J74 G8 f18 f38 hX8 kt8 pA18 pA38 (by exact c12)
  refine y_blk 1 tq_X12_onward (z := (1, [(0, .ref (ad 200)), (1, .ref w), (2, .int minute)], [.ref w])) rfl ?_
  refine y_alen hS tq_X12_onward 2 rfl rfl hw0 ?_
  refine y_blk 0 tq_X12_onward (z := (2, [(0, .ref (ad 200)), (1, .ref w), (2, .int minute)], [.int (Int32.ofNat (rZ ρ 201))])) rfl ?_
  refine y_less (k2 := 0 + 1) (n2 := 0 + (rZ ρ 201)) (by omega) (by omega) ?_
  refine y_newa_bool 501 hS tq_X12_onward rfl wd_2116 (by rw [ylt, yl_0, yofn (by omega)]; omega) (yofc (by omega)) (by omega) (fun a2 hne2 => ?_)
  have hle2 : yLe G0 (yup G0 a2 (501, .inl (aC 2, (rZ ρ 201), .inl (fun _ => 0)))) := yLe.new hne2
  have hA2 : (yup G0 a2 (501, .inl (aC 2, (rZ ρ 201), .inl (fun _ => 0)))) a2 = some (501, .inl (aC 2, (rZ ρ 201), .inl (fun _ => 0))) := yup_s _ _ _
  generalize yup G0 a2 (501, .inl (aC 2, (rZ ρ 201), .inl (fun _ => 0))) = G2 at hle2 hA2 ⊢
  have hX2 := hX0.le hle2
  have kt2 := (kt0).trans (yTg.le hle2)
  refine y_blk 3 tq_X12_onward (z := (8, [(4, .int 0), (3, .ref a2), (0, .ref (ad 200)), (1, .ref w), (2, .int minute)], [])) rfl ?_
  refine y_pick (L2 := [(0, .ref (ad 200)), (1, .ref w), (2, .int minute), (3, .ref a2), (4, .int 0)]) [2, 3, 4, 1, 0] rfl ?_
  exact J8 _ a2 0 G2 fw (fun _ => 0) hX2 kt2 (hle2 _ _ hw0) hA2 (by first | decide | assumption | exact yposgeL (by assumption) c12) rfl
