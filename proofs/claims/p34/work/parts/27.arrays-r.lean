/-! ===== contracts of the reference: rows of its own ===== -/
/-- tags that a call of the reference leaves as they are, where it only asks -/
abbrev kA : Nat → Prop := fun t => t < 500 ∨ 600 ≤ t
theorem kA_R : ∀ t, (200 ≤ t ∧ t < 500) → kA t := fun _ h => Or.inl h.2
theorem yup_o {G : AH} {a b ta tb : Nat} {ea ea1 eb : va_E} (hb : G b = some (tb, eb)) (ha : G a = some (ta, ea)) (h : tb ≠ ta) : yup G a (ta, ea1) b = some (tb, eb) := by
  rw [yup_n _ (fun e => by rw [e, ha] at hb; cases hb; exact h rfl)]
  exact hb
/-- how many of the first n aren't NONE -/
def cntN (f : Nat → Int32) : Nat → Nat
  | 0 => 0
  | n + 1 => cntN f n + (if f n = -1 then 0 else 1)
theorem cntN_le (f : Nat → Int32) : ∀ n, cntN f n ≤ n
  | 0 => Nat.le_refl _
  | n + 1 => by
    have h := cntN_le f n
    rw [cntN]
    split <;> omega
theorem cntN_lt {f : Nat → Int32} {i : Nat} (hi : f i = -1) : ∀ n, i < n → cntN f n < n
  | 0, h => absurd h (Nat.not_lt_zero _)
  | n + 1, h => by
    rw [cntN]
    by_cases e : i = n
    · subst e
      rw [if_pos hi]
      have := cntN_le f i
      omega
    · have := cntN_lt hi n (by omega)
      split <;> omega
theorem cntN_out {f : Nat → Int32} {i : Nat} {v : Int32} : ∀ n, n ≤ i → cntN (upd f i v) n = cntN f n
  | 0, _ => rfl
  | n + 1, h => by
    rw [cntN, cntN, cntN_out n (by omega), pk_un (by omega)]
theorem cntN_in {f : Nat → Int32} {i : Nat} {v : Int32} (hi : f i = -1) (hv : v ≠ -1) : ∀ n, i < n → cntN (upd f i v) n = cntN f n + 1
  | 0, h => absurd h (Nat.not_lt_zero _)
  | n + 1, h => by
    rw [cntN, cntN]
    by_cases e : i = n
    · subst e
      rw [cntN_out _ (Nat.le_refl _), pk_us, if_neg hv, if_pos hi]
    · rw [cntN_in hi hv n (by omega), pk_un (by omega)]
      omega
theorem cntN_none {f : Nat → Int32} : ∀ n, (∀ i, i < n → f i = -1) → cntN f n = 0
  | 0, _ => rfl
  | n + 1, h => by
    rw [cntN, cntN_none n (fun i hi => h i (by omega)), if_pos (h n (by omega))]
/-- the search in breadth: what was found is in the queue, and counted -/
def stQ (ρ : RS) (f2 f3 : Nat → Int32) (many : Int32) : Prop := (cntN f2 (rZ ρ 201) : Int) = many.toInt ∧ (∀ j : Nat, (j : Int) < many.toInt → rcell ρ (f3 j) ∧ f2 (f3 j).toNatClampNeg ≠ -1) ∧ ∀ i, i < rZ ρ 201 → -1 ≤ (f2 i).toInt ∧ (f2 i).toInt < many.toInt
section YST
variable {ρ : RS} {f2 f3 : Nat → Int32} {many k next : Int32}
theorem stQ_i0 {f : Nat → Int32} : ∀ j : Nat, (j : Int) < (0 : Int32).toInt → f j = -1 := fun j h => by
  rw [yl_0] at h
  omega
theorem stQ_i1 {i : Int32} {N : Nat} {f : Nat → Int32} (h0 : 0 ≤ i.toInt) (hN : i.toInt < N) (h : ∀ j : Nat, (j : Int) < i.toInt → f j = -1) : ∀ j : Nat, (j : Int) < (i + 1).toInt → upd f (Int32.toNatClampNeg i) (-1) j = -1 := by
  intro j hj
  by_cases e : j = Int32.toNatClampNeg i
  · rw [e, pk_us]
  · rw [pk_un e]
    have hr := yrng i
    have e1 : (Int32.toNatClampNeg i : Int) = i.toInt := by
      show ((i.toInt.toNat : Nat) : Int) = i.toInt
      omega
    have e2 : (i + 1).toInt ≤ i.toInt + 1 := by
      by_cases q : i.toInt + 1 < 2147483648
      · rw [yadd (by rw [yl_1]; omega) (by rw [yl_1]; omega), yl_1]
        exact Int.le_refl _
      · have := yrng (i + 1)
        omega
    exact h j (by omega)
theorem stQ_all (hb : rb ρ) {i : Int32} {f : Nat → Int32} (h : ∀ j : Nat, (j : Int) < i.toInt → f j = -1) (hc : Int32.ofNat (rZ ρ 201) ≤ i) : ∀ j, j < rZ ρ 201 → f j = -1 := by
  intro j hj
  have hn := hb.n64
  rw [yle, yofn (by omega)] at hc
  exact h j (by omega)
theorem stQ_init (hb : rb ρ) {f : Int32} (hf : rcell ρ f) (h : ∀ j, j < rZ ρ 201 → f2 j = -1) : stQ ρ (upd f2 (Int32.toNatClampNeg f) 0) (upd f3 (Int32.toNatClampNeg 0) f) 1 := by
  have e1 : (Int32.toNatClampNeg f : Int) = f.toInt := by
    show ((f.toInt.toNat : Nat) : Int) = f.toInt
    have := hf.1
    omega
  have h1 := hf.2
  have h0 := hf.1
  refine ⟨?_, fun j hj => ?_, fun i hi => ?_⟩
  · rw [cntN_in (h _ (by omega)) (by decide) _ (by omega), cntN_none _ h]
    rfl
  · rw [yl_1] at hj
    obtain rfl : j = 0 := by omega
    rw [show Int32.toNatClampNeg 0 = 0 from rfl, pk_us, pk_us]
    exact ⟨hf, by decide⟩
  · rw [yl_1]
    by_cases e : i = Int32.toNatClampNeg f
    · rw [e, pk_us, yl_0]
      omega
    · rw [pk_un e, h i hi, yl_m1]
      omega
theorem stQ_c (_ : stQ ρ f2 f3 many) (h : ¬ many ≤ k) : k.toInt < many.toInt := by
  rw [yle] at h
  omega
theorem stQ_many (hb : rb ρ) (h : stQ ρ f2 f3 many) : 0 ≤ many.toInt ∧ many.toInt ≤ rZ ρ 201 ∧ many.toInt ≤ 64 := by
  have h1 := cntN_le f2 (rZ ρ 201)
  have h2 := h.1
  have h3 := hb.n64
  omega
theorem stQ_dec (h : stQ ρ f2 f3 many) (hn : rZ ρ 201 ≤ 64) (h0 : 0 ≤ k.toInt) {m2 : Int32} (hc : ¬ m2 ≤ k) {h9 : stQ ρ f2 f3 many} (hk : k.toInt < many.toInt) : (65 - (k + 1).toInt).toNat < (65 - k.toInt).toNat := by
  have h1 := cntN_le f2 (rZ ρ 201)
  have h2 := h.1
  rw [yadd (by rw [yl_1]; omega) (by rw [yl_1]; omega), yl_1]
  omega
theorem stQ_get (h : stQ ρ f2 f3 many) (h0 : 0 ≤ k.toInt) (hk : k.toInt < many.toInt) : rcell ρ (f3 (Int32.toNatClampNeg k)) ∧ f2 (f3 (Int32.toNatClampNeg k)).toNatClampNeg ≠ -1 := by
  refine h.2.1 _ ?_
  show ((k.toInt.toNat : Nat) : Int) < _
  omega
theorem stQ_vin (hb : rb ρ) (h : stQ ρ f2 f3 many) (h0 : 0 ≤ k.toInt) (hk : k.toInt < many.toInt) : vp_in k (rZ ρ 201) := by
  have h1 := stQ_many hb h
  exact yIn h0 (by omega)
theorem stQ_nx (hb : rb ρ) (h : stQ ρ f2 f3 many) (hn : rcell ρ next) (hf : f2 (Int32.toNatClampNeg next) = -1) : many.toInt < rZ ρ 201 := by
  have e1 : (Int32.toNatClampNeg next : Int) = next.toInt := by
    show ((next.toInt.toNat : Nat) : Int) = next.toInt
    have := hn.1
    omega
  have h1 := hn.2
  have h2 := cntN_lt hf (rZ ρ 201) (by omega)
  have h3 := h.1
  omega
theorem stQ_vin2 (hb : rb ρ) (h : stQ ρ f2 f3 many) (hn : rcell ρ next) (hf : f2 (Int32.toNatClampNeg next) = -1) : vp_in many (rZ ρ 201) := yIn (stQ_many hb h).1 (stQ_nx hb h hn hf)
theorem stQ_push (hb : rb ρ) (h : stQ ρ f2 f3 many) (h0 : 0 ≤ k.toInt) (hk : k.toInt < many.toInt) (hn : rcell ρ next) (hf : f2 (Int32.toNatClampNeg next) = -1) : stQ ρ (upd f2 (Int32.toNatClampNeg next) (f2 (Int32.toNatClampNeg (f3 (Int32.toNatClampNeg k))) + 1)) (upd f3 (Int32.toNatClampNeg many) next) (many + 1) := by
  obtain ⟨q1, q2⟩ := stQ_get h h0 hk
  obtain ⟨m0, m1, m2⟩ := stQ_many hb h
  have hnx := stQ_nx hb h hn hf
  have e1 : (Int32.toNatClampNeg next : Int) = next.toInt := by
    show ((next.toInt.toNat : Nat) : Int) = next.toInt
    have := hn.1
    omega
  have e2 : (Int32.toNatClampNeg (f3 (Int32.toNatClampNeg k)) : Int) = (f3 (Int32.toNatClampNeg k)).toInt := by
    show (((f3 (Int32.toNatClampNeg k)).toInt.toNat : Nat) : Int) = _
    have := q1.1
    omega
  have e3 : (Int32.toNatClampNeg many : Int) = many.toInt := by
    show ((many.toInt.toNat : Nat) : Int) = many.toInt
    omega
  have hn1 := hn.2
  have q11 := q1.2
  obtain ⟨b1, b2⟩ := h.2.2 _ (show Int32.toNatClampNeg (f3 (Int32.toNatClampNeg k)) < rZ ρ 201 by omega)
  generalize f2 (Int32.toNatClampNeg (f3 (Int32.toNatClampNeg k))) = w at *
  have b3 : w.toInt ≠ -1 := fun e => q2 (Int32.toInt_inj.mp (e.trans yl_m1.symm))
  have ew : (w + 1).toInt = w.toInt + 1 := by rw [yadd (by rw [yl_1]; omega) (by rw [yl_1]; omega), yl_1]
  have em : (many + 1).toInt = many.toInt + 1 := by rw [yadd (by rw [yl_1]; omega) (by rw [yl_1]; omega), yl_1]
  have hw : w + 1 ≠ -1 := fun e => by
    have := congrArg Int32.toInt e
    rw [ew, yl_m1] at this
    omega
  refine ⟨?_, fun j hj => ?_, fun i hi => ?_⟩
  · rw [cntN_in hf hw _ (by omega), em]
    have := h.1
    omega
  · rw [em] at hj
    by_cases e : j = Int32.toNatClampNeg many
    · rw [e, pk_us, pk_us]
      exact ⟨hn, hw⟩
    · rw [pk_un e]
      obtain ⟨g1, g2⟩ := h.2.1 j (by omega)
      refine ⟨g1, ?_⟩
      by_cases e9 : (f3 j).toNatClampNeg = Int32.toNatClampNeg next
      · rw [e9, pk_us]
        exact hw
      · rw [pk_un e9]
        exact g2
  · rw [em]
    by_cases e : i = Int32.toNatClampNeg next
    · rw [e, pk_us, ew]
      omega
    · rw [pk_un e]
      have := h.2.2 i hi
      omega
theorem stQ_lt (hb : rb ρ) (h : stQ ρ f2 f3 many) (hk : k.toInt < many.toInt) : k.toInt < (many + 1).toInt := by
  obtain ⟨m0, m1, m2⟩ := stQ_many hb h
  rw [yadd (by rw [yl_1]; omega) (by rw [yl_1]; omega), yl_1]
  omega
end YST
set_option maxHeartbeats 4000000 in
set_option maxRecDepth 100000 in
theorem m_X10_place_d {l : Launch} {S0 : State} {A0 : Array Value} {D : va_G} {aC : Nat → ClassId} {ic : Int32 → Nat} {de : Nat} {ad : Nat → Nat} {G : AH} {ρ : RS} (hS : yS l S0 A0 D aC) (hI : yIc S0 ic de) (hX : atR aC ic de ad G ρ) {k : Nat} (hk : k < rZ ρ 212) (minute : Int32) (hd : (rF ρ (360 + k) 0) ≤ minute ∧ minute ≤ (rF ρ (360 + k) 1)) : yM l S0 D yX10_place cX10_place 2 (some .int) 18 0 0 [.ref (ad (360 + k)), .int minute] G (fun r G1 => (∃ v : Int32, rcell ρ v ∧ r = some (.int v)) ∧ G1 = G) (fun _ _ => False) := by
  refine yM.ofK K_X10_place rfl (by decide) (Nat.le_of_ble_eq_true rfl) ?_
  have hg := hX.2.2.2.1 k hk
  obtain ⟨hg0, hg1, hg2, hg3, hg4⟩ := hg
  refine y_blk 2 tq_X10_place (z := (2, [(0, .ref (ad (360 + k))), (1, .int minute)], [.int minute, .ref (ad (360 + k))])) rfl ?_
  refine y_callV hS tq_X10_place rfl (As := [.int minute]) rfl cv_X10_44 (hX.gu (by assumption)) (m_X10_isOnDuty hS hI hX (k := k) (by assumption) minute) rfl (by decide) (Nat.le_of_ble_eq_true rfl) (fun r2 Gc2 q2 => ?_) (fun E9 G9 h9 => h9.elim)
  obtain ⟨rfl, eG2⟩ := q2
  have eG2 := eG2.symm
  subst eG2
  refine y_blk 0 tq_X10_place (z := (5, [(0, .ref (ad (360 + k))), (1, .int minute)], [.int (if (rF ρ (360 + k) 0) ≤ minute ∧ minute ≤ (rF ρ (360 + k) 1) then 1 else 0)])) rfl ?_
  refine y_if_eq tq_X10_place 47 rfl rfl (fun c5 => ?_) (fun c5 => ?_)
  · exact absurd c5 (by rw [if_pos hd]; decide)
  · skip
    have hin := yif1 c5
    have h60 : 0 ≤ (minute - rF ρ (360 + k) 0).toInt := by
      have z1 := yle.mp hin.1
      have z2 := yrng minute
      rw [ysub (by omega) (by omega)]
      omega
    obtain ⟨hq0, hq1⟩ := ymodn (s := rZ ρ (380 + k)) hg2 (by omega) h60 hg1
    refine y_blk 1 tq_X10_place (z := (9, [(0, .ref (ad (360 + k))), (1, .int minute)], [.ref (ad (360 + k))])) rfl ?_
    refine y_get hS tq_X10_place (v := .ref (ad (380 + k))) rfl fg_X10_12_X10 (hX.gu (by assumption)) rfl ?_
    refine y_blk 2 tq_X10_place (z := (14, [(0, .ref (ad (360 + k))), (1, .int minute)], [.ref (ad (360 + k)), .int minute, .ref (ad (380 + k))])) rfl ?_
    refine y_get hS tq_X10_place (v := .int (rF ρ (360 + k) 0)) rfl fg_X10_30_X10 (hX.gu (by assumption)) rfl ?_
    refine y_blk 2 tq_X10_place (z := (19, [(0, .ref (ad (360 + k))), (1, .int minute)], [.ref (ad (360 + k)), .int (minute - (rF ρ (360 + k) 0)), .ref (ad (380 + k))])) rfl ?_
    refine y_get hS tq_X10_place (v := .int (rF ρ (360 + k) 2)) rfl fg_X10_37_X10 (hX.gu (by assumption)) rfl ?_
    refine y_blk 0 tq_X10_place (z := (22, [(0, .ref (ad (360 + k))), (1, .int minute)], [.int (rF ρ (360 + k) 2), .int (minute - (rF ρ (360 + k) 0)), .ref (ad (380 + k))])) rfl ?_
    refine y_idiv tq_X10_place rfl (by intro q; rw [q, yl_0] at hg1; omega) ?_
    refine y_blk 1 tq_X10_place (z := (24, [(0, .ref (ad (360 + k))), (1, .int minute)], [.ref (ad (360 + k)), .int ((minute - (rF ρ (360 + k) 0)) / (rF ρ (360 + k) 2)), .ref (ad (380 + k))])) rfl ?_
    refine y_get hS tq_X10_place (v := .ref (ad (380 + k))) rfl fg_X10_12_X10 (hX.gu (by assumption)) rfl ?_
    refine y_blk 0 tq_X10_place (z := (27, [(0, .ref (ad (360 + k))), (1, .int minute)], [.ref (ad (380 + k)), .int ((minute - (rF ρ (360 + k) 0)) / (rF ρ (360 + k) 2)), .ref (ad (380 + k))])) rfl ?_
    refine y_callF hS tq_X10_place rfl (As := []) rfl cf_X10_48 (Or.inl ⟨_, (hX.gl (by assumption)).1⟩) (m_Jsize hS (hX.gl (by assumption))) rfl (by decide) (Nat.le_of_ble_eq_true rfl) (fun r27 Gc27 q27 => ?_) (fun _ _ h9 => h9.elim)
    obtain ⟨rfl, eG27⟩ := q27
    have eG27 := eG27.symm
    subst eG27
    refine y_blk 0 tq_X10_place (z := (32, [(0, .ref (ad (360 + k))), (1, .int minute)], [.int (Int32.ofNat (rZ ρ (380 + k))), .int ((minute - (rF ρ (360 + k) 0)) / (rF ρ (360 + k) 2)), .ref (ad (380 + k))])) rfl ?_
    refine y_irem tq_X10_place rfl (by intro q; have q2 := congrArg Int32.toInt q; rw [yofn (by omega), yl_0] at q2; omega) ?_
    refine y_blk 0 tq_X10_place (z := (33, [(0, .ref (ad (360 + k))), (1, .int minute)], [.int (((minute - (rF ρ (360 + k) 0)) / (rF ρ (360 + k) 2)) - ((minute - (rF ρ (360 + k) 0)) / (rF ρ (360 + k) 2)) / (Int32.ofNat (rZ ρ (380 + k))) * (Int32.ofNat (rZ ρ (380 + k)))), .ref (ad (380 + k))])) rfl ?_
    refine y_callF hS tq_X10_place rfl (As := [.int (((minute - (rF ρ (360 + k) 0)) / (rF ρ (360 + k) 2)) - ((minute - (rF ρ (360 + k) 0)) / (rF ρ (360 + k) 2)) / (Int32.ofNat (rZ ρ (380 + k))) * (Int32.ofNat (rZ ρ (380 + k))))]) rfl cf_X10_52 (Or.inl ⟨_, (hX.gl (by assumption)).1⟩) (m_Rgc hS hX (by assumption) (by assumption) (by assumption)) rfl (by decide) (Nat.le_of_ble_eq_true rfl) (fun r33 Gc33 q33 => ?_) (fun _ _ h9 => h9.elim)
    obtain ⟨rfl, eG33⟩ := q33
    have eG33 := eG33.symm
    subst eG33
    have d33 : (Int32.toNatClampNeg (((minute - (rF ρ (360 + k) 0)) / (rF ρ (360 + k) 2)) - ((minute - (rF ρ (360 + k) 0)) / (rF ρ (360 + k) 2)) / (Int32.ofNat (rZ ρ (380 + k))) * (Int32.ofNat (rZ ρ (380 + k))))) < rZ ρ (380 + k) := yIx (by assumption) (by assumption)
    refine y_blk 0 tq_X10_place (z := (38, [(0, .ref (ad (360 + k))), (1, .int minute)], [.ref (ic (rV ρ (380 + k) (Int32.toNatClampNeg (((minute - (rF ρ (360 + k) 0)) / (rF ρ (360 + k) 2)) - ((minute - (rF ρ (360 + k) 0)) / (rF ρ (360 + k) 2)) / (Int32.ofNat (rZ ρ (380 + k))) * (Int32.ofNat (rZ ρ (380 + k)))))))])) rfl ?_
    refine y_castI hS tq_X10_place rfl kc_X10_19 (hX.gc hI (by assumption) (by assumption)) ?_
    refine y_blk 0 tq_X10_place (z := (41, [(0, .ref (ad (360 + k))), (1, .int minute)], [.ref (ic (rV ρ (380 + k) (Int32.toNatClampNeg (((minute - (rF ρ (360 + k) 0)) / (rF ρ (360 + k) 2)) - ((minute - (rF ρ (360 + k) 0)) / (rF ρ (360 + k) 2)) / (Int32.ofNat (rZ ρ (380 + k))) * (Int32.ofNat (rZ ρ (380 + k)))))))])) rfl ?_
    refine y_callVO hS tq_X10_place rfl (As := []) rfl cv_X10_56 (yIntO (hX.gc hI (by assumption) (by assumption))) (m_JintValue hS (hX.gc hI (by assumption) (by assumption))) rfl (by decide) (Nat.le_of_ble_eq_true rfl) (fun r41 Gc41 q41 => ?_) (fun _ _ h9 => h9.elim)
    obtain ⟨rfl, eG41⟩ := q41
    have eG41 := eG41.symm
    subst eG41
    refine y_blk 1 tq_X10_place (z := (48, [(0, .ref (ad (360 + k))), (1, .int minute)], [.int (rV ρ (380 + k) (Int32.toNatClampNeg (((minute - (rF ρ (360 + k) 0)) / (rF ρ (360 + k) 2)) - ((minute - (rF ρ (360 + k) 0)) / (rF ρ (360 + k) 2)) / (Int32.ofNat (rZ ρ (380 + k))) * (Int32.ofNat (rZ ρ (380 + k))))))])) rfl ?_
    exact y_iret tq_X10_place rfl rfl (⟨⟨_, hX.gcc (by assumption) (by assumption), rfl⟩, rfl⟩)
set_option maxHeartbeats 4000000 in
set_option maxRecDepth 100000 in
theorem m_X12_steps {l : Launch} {S0 : State} {A0 : Array Value} {D : va_G} {aC : Nat → ClassId} {ic : Int32 → Nat} {de : Nat} {ad : Nat → Nat} {G : AH} {ρ : RS} (hS : yS l S0 A0 D aC) (hI : yIc S0 ic de) (hX : atR aC ic de ad G ρ) (from_ : Int32) (hfrom : rcell ρ from_) : yM l S0 D yX12_steps cX12_steps 8 (some (.array .int)) 17 2 128 [.ref (ad 200), .int from_] G (fun r G1 => ∃ (a : Nat) (f : Nat → Int32), r = some (.ref a) ∧ G1 a = some (500, .inl (aC 0, rZ ρ 201, .inl f)) ∧ yTg kA G G1) (fun _ _ => False) := by
  refine yM.ofK K_X12_steps rfl (by decide) (Nat.le_of_ble_eq_true rfl) ?_
  have hn64 := hX.2.n64
  have J51 : ∀ (n51 : Nat) (v51_2 : Nat) (v51_3 : Nat) (v51_4 : Int32) (v51_5 : Int32) (G51 : AH) (f251 : Nat → Int32) (f351 : Nat → Int32) (hX51 : atR aC ic de ad G51 ρ) (kt51 : yTg kA G G51) (pA251 : G51 v51_2 = some (500, .inl (aC 0, rZ ρ 201, .inl f251))) (pA351 : G51 v51_3 = some (501, .inl (aC 0, rZ ρ 201, .inl f351))) (h0_51 : 0 ≤ v51_5.toInt) (h0_51 : 0 ≤ v51_5.toInt) (hq51 : stQ ρ f251 f351 v51_4), (65 - v51_5.toInt).toNat = n51 → Y l S0 D K_X12_steps 17 2 128 (fun r G1 => ∃ (a : Nat) (f : Nat → Int32), r = some (.ref a) ∧ G1 a = some (500, .inl (aC 0, rZ ρ 201, .inl f)) ∧ yTg kA G G1) (fun _ _ => False) 51 [(0, .ref (ad 200)), (1, .int from_), (2, .ref v51_2), (3, .ref v51_3), (4, .int v51_4), (5, .int v51_5)] [] G51 0 0 := by
    intro n51
    induction n51 using Nat.strongRecOn with
    | _ n51 ih51 =>
    intro v51_2 v51_3 v51_4 v51_5 G51 f251 f351 hX51 kt51 pA251 pA351 h0_51 h0_51 hq51 hn51
    subst hn51
    have J61 : ∀ (n61 : Nat) (v61_4 : Int32) (v61_6 : Int32) (G61 : AH) (f261 : Nat → Int32) (f361 : Nat → Int32) (hX61 : atR aC ic de ad G61 ρ) (kt61 : yTg kA G G61) (pA261 : G61 v51_2 = some (500, .inl (aC 0, rZ ρ 201, .inl f261))) (pA361 : G61 v51_3 = some (501, .inl (aC 0, rZ ρ 201, .inl f361))) (h0_61 : 0 ≤ v61_6.toInt) (hq61 : stQ ρ f261 f361 v61_4) (c55n : v51_5.toInt < v61_4.toInt) (c55 : ¬ v61_4 ≤ v51_5), ((4 : Int32).toInt + 1 - v61_6.toInt).toNat = n61 → Y l S0 D K_X12_steps 17 2 128 (fun r G1 => ∃ (a : Nat) (f : Nat → Int32), r = some (.ref a) ∧ G1 a = some (500, .inl (aC 0, rZ ρ 201, .inl f)) ∧ yTg kA G G1) (fun _ _ => False) 61 [(0, .ref (ad 200)), (1, .int from_), (2, .ref v51_2), (3, .ref v51_3), (4, .int v61_4), (5, .int v51_5), (6, .int v61_6)] [] G61 0 0 := by
      intro n61
      induction n61 using Nat.strongRecOn with
      | _ n61 ih61 =>
      intro v61_4 v61_6 G61 f261 f361 hX61 kt61 pA261 pA361 h0_61 hq61 c55n c55 hn61
      subst hn61
      have J128 : ∀ (v128_4 : Int32) (v128_7 : Int32) (G128 : AH) (f2128 : Nat → Int32) (f3128 : Nat → Int32) (hX128 : atR aC ic de ad G128 ρ) (kt128 : yTg kA G G128) (pA2128 : G128 v51_2 = some (500, .inl (aC 0, rZ ρ 201, .inl f2128))) (pA3128 : G128 v51_3 = some (501, .inl (aC 0, rZ ρ 201, .inl f3128))) (hq128 : stQ ρ f2128 f3128 v128_4) (c55k : v51_5.toInt < v128_4.toInt) (c55 : ¬ v128_4 ≤ v51_5) (c64 : ¬ (4 : Int32) < v61_6), Y l S0 D K_X12_steps 17 2 128 (fun r G1 => ∃ (a : Nat) (f : Nat → Int32), r = some (.ref a) ∧ G1 a = some (500, .inl (aC 0, rZ ρ 201, .inl f)) ∧ yTg kA G G1) (fun _ _ => False) 128 [(0, .ref (ad 200)), (1, .int from_), (2, .ref v51_2), (3, .ref v51_3), (4, .int v128_4), (5, .int v51_5), (6, .int v61_6), (7, .int v128_7)] [] G128 0 0 := by
        intro v128_4 v128_7 G128 f2128 f3128 hX128 kt128 pA2128 pA3128 hq128 c55k c55 c64
        refine y_blk 2 tq_X12_steps (z := (61, [(6, .int (v61_6 + 1)), (0, .ref (ad 200)), (1, .int from_), (2, .ref v51_2), (3, .ref v51_3), (4, .int v128_4), (5, .int v51_5), (7, .int v128_7)], [])) rfl ?_
        refine y_pick (L2 := [(0, .ref (ad 200)), (1, .int from_), (2, .ref v51_2), (3, .ref v51_3), (4, .int v128_4), (5, .int v51_5), (6, .int (v61_6 + 1))]) [1, 2, 3, 4, 5, 6, 0] rfl ?_
        exact ih61 _ (by exact ydec2 c64 (by decide)) v128_4 (v61_6 + 1) G128 f2128 f3128 hX128 kt128 pA2128 pA3128 (by first | decide | assumption | exact Int.le_refl _ | exact yposgtL (by assumption) c64 (by decide)) (by assumption) (by first | exact c55m | assumption) (by exact c55) rfl
      refine y_blk 2 tq_X12_steps (z := (64, [(0, .ref (ad 200)), (1, .int from_), (2, .ref v51_2), (3, .ref v51_3), (4, .int v61_4), (5, .int v51_5), (6, .int v61_6)], [.int 4, .int v61_6])) rfl ?_
      refine y_icmp_gt tq_X12_steps 134 rfl rfl (fun c64 => ?_) (fun c64 => ?_)
      · skip
        refine y_blk 2 tq_X12_steps (z := (51, [(5, .int (v51_5 + 1)), (0, .ref (ad 200)), (1, .int from_), (2, .ref v51_2), (3, .ref v51_3), (4, .int v61_4), (6, .int v61_6)], [])) rfl ?_
        refine y_pick (L2 := [(0, .ref (ad 200)), (1, .int from_), (2, .ref v51_2), (3, .ref v51_3), (4, .int v61_4), (5, .int (v51_5 + 1))]) [1, 2, 3, 4, 5, 0] rfl ?_
        exact ih51 _ (by exact stQ_dec hq128 hn64 h0_51 c55) v51_2 v51_3 v61_4 (v51_5 + 1) G61 f261 f361 hX61 kt61 pA261 pA361 (by first | decide | assumption | exact Int.le_refl _ | exact yposgeL (by assumption) c55) (by first | decide | exact yposgeL (by assumption) c55m) (by first | exact stQ_init hX.2 hfrom hall | assumption) rfl
      · skip
        have b64 : v61_6.toInt ≤ 4 := by rw [ylt] at c64; have z9 : (4 : Int32).toInt = 4 := (by decide); omega
        refine y_blk 3 tq_X12_steps (z := (71, [(0, .ref (ad 200)), (1, .int from_), (2, .ref v51_2), (3, .ref v51_3), (4, .int v61_4), (5, .int v51_5), (6, .int v61_6)], [.int v51_5, .ref v51_3, .ref (ad 200)])) rfl ?_
        obtain ⟨hqc, hqd⟩ := stQ_get hq61 h0_51 c55n
        refine y_iald hS tq_X12_steps rfl pA361 (by first | exact yIn (by assumption) (by assumption) | (exact yIn (by omega) (by omega))) ?_
        refine y_blk 1 tq_X12_steps (z := (74, [(0, .ref (ad 200)), (1, .int from_), (2, .ref v51_2), (3, .ref v51_3), (4, .int v61_4), (5, .int v51_5), (6, .int v61_6)], [.int v61_6, .int (f361 (Int32.toNatClampNeg v51_5)), .ref (ad 200)])) rfl ?_
        refine y_callV hS tq_X12_steps rfl (As := [.int (f361 (Int32.toNatClampNeg v51_5)), .int v61_6]) rfl cv_X12_240 hX61.m (m_X12_moved hS hI hX61 (f361 (Int32.toNatClampNeg v51_5)) v61_6 (by first | assumption | exact hX61.lac (by assumption) | exact hX61.poc (by assumption) | exact hX61.wac (by assumption) (by assumption) (by omega))) rfl (by decide) (Nat.le_of_ble_eq_true rfl) (fun r74 Gc74 q74 => ?_) (fun E9 G9 h9 => h9.elim)
        obtain ⟨⟨x74, hr_x74, rfl⟩, eG74⟩ := q74
        have eG74 := eG74.symm
        subst eG74
        refine y_blk 3 tq_X12_steps (z := (82, [(7, .int x74), (0, .ref (ad 200)), (1, .int from_), (2, .ref v51_2), (3, .ref v51_3), (4, .int v61_4), (5, .int v51_5), (6, .int v61_6)], [.int (-1), .int x74])) rfl ?_
        refine y_icmp_eq tq_X12_steps 128 rfl rfl (fun c82 => ?_) (fun c82 => ?_)
        · skip
          refine y_blk 0 tq_X12_steps (z := (128, [(7, .int x74), (0, .ref (ad 200)), (1, .int from_), (2, .ref v51_2), (3, .ref v51_3), (4, .int v61_4), (5, .int v51_5), (6, .int v61_6)], [])) rfl ?_
          refine y_pick (L2 := [(0, .ref (ad 200)), (1, .int from_), (2, .ref v51_2), (3, .ref v51_3), (4, .int v61_4), (5, .int v51_5), (6, .int v61_6), (7, .int x74)]) [1, 2, 3, 4, 5, 6, 7, 0] rfl ?_
          exact J128 v61_4 x74 G61 f261 f361 hX61 kt61 pA261 pA361 (by first | assumption | exact stQ_push hX.2 hq61 h0_51 c55n hmv (by assumption)) (by first | assumption | exact stQ_lt hX.2 hq61 c55n) (by exact c55) (by exact c64)
        · skip
          refine y_blk 1 tq_X12_steps (z := (86, [(7, .int x74), (0, .ref (ad 200)), (1, .int from_), (2, .ref v51_2), (3, .ref v51_3), (4, .int v61_4), (5, .int v51_5), (6, .int v61_6)], [.ref (ad 200)])) rfl ?_
          refine y_get hS tq_X12_steps (v := .ref (ad 201)) rfl fg_X12_7_X12 hX61.m rfl ?_
          refine y_blk 1 tq_X12_steps (z := (91, [(7, .int x74), (0, .ref (ad 200)), (1, .int from_), (2, .ref v51_2), (3, .ref v51_3), (4, .int v61_4), (5, .int v51_5), (6, .int v61_6)], [.int x74, .ref (ad 201)])) rfl ?_
          have hmv := hr_x74.resolve_left c82
          have hm0 := hmv.1
          have hm1 := hmv.2
          refine y_iald hS tq_X12_steps rfl hX61.ki (by first | exact yIn (by assumption) (by assumption) | (exact yIn (by omega) (by omega))) ?_
          refine y_blk 1 tq_X12_steps (z := (93, [(7, .int x74), (0, .ref (ad 200)), (1, .int from_), (2, .ref v51_2), (3, .ref v51_3), (4, .int v61_4), (5, .int v51_5), (6, .int v61_6)], [.int 1, .int ((rV ρ 201) (Int32.toNatClampNeg x74))])) rfl ?_
          refine y_icmp_eq tq_X12_steps 128 rfl rfl (fun c93 => ?_) (fun c93 => ?_)
          · skip
            refine y_blk 0 tq_X12_steps (z := (128, [(7, .int x74), (0, .ref (ad 200)), (1, .int from_), (2, .ref v51_2), (3, .ref v51_3), (4, .int v61_4), (5, .int v51_5), (6, .int v61_6)], [])) rfl ?_
            refine y_pick (L2 := [(0, .ref (ad 200)), (1, .int from_), (2, .ref v51_2), (3, .ref v51_3), (4, .int v61_4), (5, .int v51_5), (6, .int v61_6), (7, .int x74)]) [1, 2, 3, 4, 5, 6, 7, 0] rfl ?_
            exact J128 v61_4 x74 G61 f261 f361 hX61 kt61 pA261 pA361 (by first | assumption | exact stQ_push hX.2 hq61 h0_51 c55n hmv (by assumption)) (by first | assumption | exact stQ_lt hX.2 hq61 c55n) (by exact c55) (by exact c64)
          · skip
            refine y_blk 2 tq_X12_steps (z := (99, [(7, .int x74), (0, .ref (ad 200)), (1, .int from_), (2, .ref v51_2), (3, .ref v51_3), (4, .int v61_4), (5, .int v51_5), (6, .int v61_6)], [.int x74, .ref v51_2])) rfl ?_
            refine y_iald hS tq_X12_steps rfl pA261 (by first | exact yIn (by assumption) (by assumption) | (exact yIn (by omega) (by omega))) ?_
            refine y_blk 1 tq_X12_steps (z := (101, [(7, .int x74), (0, .ref (ad 200)), (1, .int from_), (2, .ref v51_2), (3, .ref v51_3), (4, .int v61_4), (5, .int v51_5), (6, .int v61_6)], [.int (-1), .int (f261 (Int32.toNatClampNeg x74))])) rfl ?_
            refine y_icmp_eq tq_X12_steps 107 rfl rfl (fun c101 => ?_) (fun c101 => ?_)
            · skip
              refine y_blk 5 tq_X12_steps (z := (114, [(7, .int x74), (0, .ref (ad 200)), (1, .int from_), (2, .ref v51_2), (3, .ref v51_3), (4, .int v61_4), (5, .int v51_5), (6, .int v61_6)], [.int v51_5, .ref v51_3, .ref v51_2, .int x74, .ref v51_2])) rfl ?_
              obtain ⟨hqc, hqd⟩ := stQ_get hq61 h0_51 c55n
              have hqc0 := hqc.1
              have hqc1 := hqc.2
              refine y_iald hS tq_X12_steps rfl pA361 (by first | exact yIn (by assumption) (by assumption) | (exact yIn (by omega) (by omega))) ?_
              refine y_blk 0 tq_X12_steps (z := (115, [(7, .int x74), (0, .ref (ad 200)), (1, .int from_), (2, .ref v51_2), (3, .ref v51_3), (4, .int v61_4), (5, .int v51_5), (6, .int v61_6)], [.int (f361 (Int32.toNatClampNeg v51_5)), .ref v51_2, .int x74, .ref v51_2])) rfl ?_
              refine y_iald hS tq_X12_steps rfl pA261 (by first | exact yIn (by assumption) (by assumption) | (exact yIn (by omega) (by omega))) ?_
              refine y_blk 2 tq_X12_steps (z := (118, [(7, .int x74), (0, .ref (ad 200)), (1, .int from_), (2, .ref v51_2), (3, .ref v51_3), (4, .int v61_4), (5, .int v51_5), (6, .int v61_6)], [.int ((f261 (Int32.toNatClampNeg (f361 (Int32.toNatClampNeg v51_5)))) + 1), .int x74, .ref v51_2])) rfl ?_
              refine y_iast hS tq_X12_steps rfl pA261 (by decide) (by first | exact yIn (by assumption) (by assumption) | (exact yIn (by omega) (by omega))) ?_
              have hA118 : (yup G61 v51_2 (500, .inl (aC 0, (rZ ρ 201), .inl (upd f261 (Int32.toNatClampNeg x74) ((f261 (Int32.toNatClampNeg (f361 (Int32.toNatClampNeg v51_5)))) + 1))))) v51_2 = some (500, .inl (aC 0, (rZ ρ 201), .inl (upd f261 (Int32.toNatClampNeg x74) ((f261 (Int32.toNatClampNeg (f361 (Int32.toNatClampNeg v51_5)))) + 1)))) := yup_s _ _ _
              have hX118 : atR aC ic de ad (yup G61 v51_2 (500, .inl (aC 0, (rZ ρ 201), .inl (upd f261 (Int32.toNatClampNeg x74) ((f261 (Int32.toNatClampNeg (f361 (Int32.toNatClampNeg v51_5)))) + 1))))) ρ := hX61.kp (yTg.up pA261 (by decide))
              have kt118 : yTg kA G (yup G61 v51_2 (500, .inl (aC 0, (rZ ρ 201), .inl (upd f261 (Int32.toNatClampNeg x74) ((f261 (Int32.toNatClampNeg (f361 (Int32.toNatClampNeg v51_5)))) + 1))))) := (kt61).trans (yTg.up pA261 (by decide))
              have hB118_v51_3 : (yup G61 v51_2 (500, .inl (aC 0, (rZ ρ 201), .inl (upd f261 (Int32.toNatClampNeg x74) ((f261 (Int32.toNatClampNeg (f361 (Int32.toNatClampNeg v51_5)))) + 1))))) v51_3 = some (501, .inl (aC 0, (rZ ρ 201), .inl f361)) := yup_o pA361 pA261 (by decide)
              generalize yup G61 v51_2 (500, .inl (aC 0, (rZ ρ 201), .inl (upd f261 (Int32.toNatClampNeg x74) ((f261 (Int32.toNatClampNeg (f361 (Int32.toNatClampNeg v51_5)))) + 1)))) = G118 at hA118 hX118 kt118 hB118_v51_3 ⊢
              refine y_blk 4 tq_X12_steps (z := (127, [(4, .int (v61_4 + 1)), (7, .int x74), (0, .ref (ad 200)), (1, .int from_), (2, .ref v51_2), (3, .ref v51_3), (5, .int v51_5), (6, .int v61_6)], [.int x74, .int v61_4, .ref v51_3])) rfl ?_
              refine y_iast hS tq_X12_steps rfl hB118_v51_3 (by decide) (by exact stQ_vin2 hX.2 hq61 hmv (by assumption)) ?_
              have hA127 : (yup G118 v51_3 (501, .inl (aC 0, (rZ ρ 201), .inl (upd f361 (Int32.toNatClampNeg v61_4) x74)))) v51_3 = some (501, .inl (aC 0, (rZ ρ 201), .inl (upd f361 (Int32.toNatClampNeg v61_4) x74))) := yup_s _ _ _
              have hX127 : atR aC ic de ad (yup G118 v51_3 (501, .inl (aC 0, (rZ ρ 201), .inl (upd f361 (Int32.toNatClampNeg v61_4) x74)))) ρ := hX118.kp (yTg.up hB118_v51_3 (by decide))
              have kt127 : yTg kA G (yup G118 v51_3 (501, .inl (aC 0, (rZ ρ 201), .inl (upd f361 (Int32.toNatClampNeg v61_4) x74)))) := (kt118).trans (yTg.up hB118_v51_3 (by decide))
              have hB127_v51_2 : (yup G118 v51_3 (501, .inl (aC 0, (rZ ρ 201), .inl (upd f361 (Int32.toNatClampNeg v61_4) x74)))) v51_2 = some (500, .inl (aC 0, (rZ ρ 201), .inl (upd f261 (Int32.toNatClampNeg x74) ((f261 (Int32.toNatClampNeg (f361 (Int32.toNatClampNeg v51_5)))) + 1)))) := yup_o hA118 hB118_v51_3 (by decide)
              generalize yup G118 v51_3 (501, .inl (aC 0, (rZ ρ 201), .inl (upd f361 (Int32.toNatClampNeg v61_4) x74))) = G127 at hA127 hX127 kt127 hB127_v51_2 ⊢
              refine y_blk 0 tq_X12_steps (z := (128, [(4, .int (v61_4 + 1)), (7, .int x74), (0, .ref (ad 200)), (1, .int from_), (2, .ref v51_2), (3, .ref v51_3), (5, .int v51_5), (6, .int v61_6)], [])) rfl ?_
              refine y_pick (L2 := [(0, .ref (ad 200)), (1, .int from_), (2, .ref v51_2), (3, .ref v51_3), (4, .int (v61_4 + 1)), (5, .int v51_5), (6, .int v61_6), (7, .int x74)]) [2, 3, 4, 5, 0, 6, 7, 1] rfl ?_
              exact J128 (v61_4 + 1) x74 G127 (upd f261 (Int32.toNatClampNeg x74) ((f261 (Int32.toNatClampNeg (f361 (Int32.toNatClampNeg v51_5)))) + 1)) (upd f361 (Int32.toNatClampNeg v61_4) x74) hX127 kt127 hB127_v51_2 hA127 (by first | assumption | exact stQ_push hX.2 hq61 h0_51 c55n hmv (by assumption)) (by first | assumption | exact stQ_lt hX.2 hq61 c55n) (by exact c55) (by exact c64)
            · skip
              refine y_blk 1 tq_X12_steps (z := (128, [(7, .int x74), (0, .ref (ad 200)), (1, .int from_), (2, .ref v51_2), (3, .ref v51_3), (4, .int v61_4), (5, .int v51_5), (6, .int v61_6)], [])) rfl ?_
              refine y_pick (L2 := [(0, .ref (ad 200)), (1, .int from_), (2, .ref v51_2), (3, .ref v51_3), (4, .int v61_4), (5, .int v51_5), (6, .int v61_6), (7, .int x74)]) [1, 2, 3, 4, 5, 6, 7, 0] rfl ?_
              exact J128 v61_4 x74 G61 f261 f361 hX61 kt61 pA261 pA361 (by first | assumption | exact stQ_push hX.2 hq61 h0_51 c55n hmv (by assumption)) (by first | assumption | exact stQ_lt hX.2 hq61 c55n) (by exact c55) (by exact c64)
    refine y_blk 2 tq_X12_steps (z := (55, [(0, .ref (ad 200)), (1, .int from_), (2, .ref v51_2), (3, .ref v51_3), (4, .int v51_4), (5, .int v51_5)], [.int v51_4, .int v51_5])) rfl ?_
    refine y_icmp_ge tq_X12_steps 140 rfl rfl (fun c55 => ?_) (fun c55 => ?_)
    · skip
      refine y_blk 1 tq_X12_steps (z := (141, [(0, .ref (ad 200)), (1, .int from_), (2, .ref v51_2), (3, .ref v51_3), (4, .int v51_4), (5, .int v51_5)], [.ref v51_2])) rfl ?_
    · skip
      have c55m : v51_5.toInt < v51_4.toInt := stQ_c hq51 c55
      refine y_blk 2 tq_X12_steps (z := (61, [(6, .int 1), (0, .ref (ad 200)), (1, .int from_), (2, .ref v51_2), (3, .ref v51_3), (4, .int v51_4), (5, .int v51_5)], [])) rfl ?_
      refine y_pick (L2 := [(0, .ref (ad 200)), (1, .int from_), (2, .ref v51_2), (3, .ref v51_3), (4, .int v51_4), (5, .int v51_5), (6, .int 1)]) [1, 2, 3, 4, 5, 6, 0] rfl ?_
      exact J61 _ v51_4 1 G51 f251 f351 hX51 kt51 pA251 pA351 (by first | decide | assumption | exact Int.le_refl _ | exact yposgtL (by assumption) c64 (by decide)) (by assumption) (by first | exact c55m | assumption) (by exact c55) rfl
  have J19 : ∀ (n19 : Nat) (v19_2 : Nat) (v19_3 : Nat) (v19_4 : Int32) (G19 : AH) (f219 : Nat → Int32) (f319 : Nat → Int32) (hX19 : atR aC ic de ad G19 ρ) (kt19 : yTg kA G G19) (pA219 : G19 v19_2 = some (500, .inl (aC 0, rZ ρ 201, .inl f219))) (pA319 : G19 v19_3 = some (501, .inl (aC 0, rZ ρ 201, .inl f319))) (h0_19 : 0 ≤ v19_4.toInt) (h0_19 : 0 ≤ v19_4.toInt) (h19 : ∀ j : Nat, (j : Int) < v19_4.toInt → f219 j = -1), ((Int32.ofNat (rZ ρ 201) : Int32).toInt - v19_4.toInt).toNat = n19 → Y l S0 D K_X12_steps 17 2 128 (fun r G1 => ∃ (a : Nat) (f : Nat → Int32), r = some (.ref a) ∧ G1 a = some (500, .inl (aC 0, rZ ρ 201, .inl f)) ∧ yTg kA G G1) (fun _ _ => False) 19 [(0, .ref (ad 200)), (1, .int from_), (2, .ref v19_2), (3, .ref v19_3), (4, .int v19_4)] [] G19 0 0 := by
    intro n19
    induction n19 using Nat.strongRecOn with
    | _ n19 ih19 =>
    intro v19_2 v19_3 v19_4 G19 f219 f319 hX19 kt19 pA219 pA319 h0_19 h0_19 h19 hn19
    subst hn19
    refine y_blk 2 tq_X12_steps (z := (22, [(0, .ref (ad 200)), (1, .int from_), (2, .ref v19_2), (3, .ref v19_3), (4, .int v19_4)], [.ref v19_2, .int v19_4])) rfl ?_
    refine y_alen hS tq_X12_steps 0 rfl rfl pA219 ?_
    refine y_blk 0 tq_X12_steps (z := (23, [(0, .ref (ad 200)), (1, .int from_), (2, .ref v19_2), (3, .ref v19_3), (4, .int v19_4)], [.int (Int32.ofNat (rZ ρ 201)), .int v19_4])) rfl ?_
    refine y_icmp_ge tq_X12_steps 37 rfl rfl (fun c23 => ?_) (fun c23 => ?_)
    · skip
      have hall : ∀ j, j < rZ ρ 201 → f219 j = -1 := stQ_all hX.2 h19 c23
      refine y_blk 3 tq_X12_steps (z := (40, [(0, .ref (ad 200)), (1, .int from_), (2, .ref v19_2), (3, .ref v19_3), (4, .int v19_4)], [.int 0, .int from_, .ref v19_2])) rfl ?_
      refine y_iast hS tq_X12_steps rfl pA219 (by decide) (by exact yIn hfrom.1 hfrom.2) ?_
      have hA40 : (yup G19 v19_2 (500, .inl (aC 0, (rZ ρ 201), .inl (upd f219 (Int32.toNatClampNeg from_) 0)))) v19_2 = some (500, .inl (aC 0, (rZ ρ 201), .inl (upd f219 (Int32.toNatClampNeg from_) 0))) := yup_s _ _ _
      have hX40 : atR aC ic de ad (yup G19 v19_2 (500, .inl (aC 0, (rZ ρ 201), .inl (upd f219 (Int32.toNatClampNeg from_) 0)))) ρ := hX19.kp (yTg.up pA219 (by decide))
      have kt40 : yTg kA G (yup G19 v19_2 (500, .inl (aC 0, (rZ ρ 201), .inl (upd f219 (Int32.toNatClampNeg from_) 0)))) := (kt19).trans (yTg.up pA219 (by decide))
      have hB40_v19_3 : (yup G19 v19_2 (500, .inl (aC 0, (rZ ρ 201), .inl (upd f219 (Int32.toNatClampNeg from_) 0)))) v19_3 = some (501, .inl (aC 0, (rZ ρ 201), .inl f319)) := yup_o pA319 pA219 (by decide)
      generalize yup G19 v19_2 (500, .inl (aC 0, (rZ ρ 201), .inl (upd f219 (Int32.toNatClampNeg from_) 0))) = G40 at hA40 hX40 kt40 hB40_v19_3 ⊢
      refine y_blk 3 tq_X12_steps (z := (44, [(0, .ref (ad 200)), (1, .int from_), (2, .ref v19_2), (3, .ref v19_3), (4, .int v19_4)], [.int from_, .int 0, .ref v19_3])) rfl ?_
      refine y_iast hS tq_X12_steps rfl hB40_v19_3 (by decide) (by exact yIn (by decide) (by have := hfrom.1; have := hfrom.2; rw [yl_0]; omega)) ?_
      have hA44 : (yup G40 v19_3 (501, .inl (aC 0, (rZ ρ 201), .inl (upd f319 (Int32.toNatClampNeg 0) from_)))) v19_3 = some (501, .inl (aC 0, (rZ ρ 201), .inl (upd f319 (Int32.toNatClampNeg 0) from_))) := yup_s _ _ _
      have hX44 : atR aC ic de ad (yup G40 v19_3 (501, .inl (aC 0, (rZ ρ 201), .inl (upd f319 (Int32.toNatClampNeg 0) from_)))) ρ := hX40.kp (yTg.up hB40_v19_3 (by decide))
      have kt44 : yTg kA G (yup G40 v19_3 (501, .inl (aC 0, (rZ ρ 201), .inl (upd f319 (Int32.toNatClampNeg 0) from_)))) := (kt40).trans (yTg.up hB40_v19_3 (by decide))
      have hB44_v19_2 : (yup G40 v19_3 (501, .inl (aC 0, (rZ ρ 201), .inl (upd f319 (Int32.toNatClampNeg 0) from_)))) v19_2 = some (500, .inl (aC 0, (rZ ρ 201), .inl (upd f219 (Int32.toNatClampNeg from_) 0))) := yup_o hA40 hB40_v19_3 (by decide)
      generalize yup G40 v19_3 (501, .inl (aC 0, (rZ ρ 201), .inl (upd f319 (Int32.toNatClampNeg 0) from_))) = G44 at hA44 hX44 kt44 hB44_v19_2 ⊢
      refine y_blk 4 tq_X12_steps (z := (51, [(5, .int 0), (4, .int 1), (0, .ref (ad 200)), (1, .int from_), (2, .ref v19_2), (3, .ref v19_3)], [])) rfl ?_
      refine y_pick (L2 := [(0, .ref (ad 200)), (1, .int from_), (2, .ref v19_2), (3, .ref v19_3), (4, .int 1), (5, .int 0)]) [2, 3, 4, 5, 1, 0] rfl ?_
      exact J51 _ v19_2 v19_3 1 0 G44 (upd f219 (Int32.toNatClampNeg from_) 0) (upd f319 (Int32.toNatClampNeg 0) from_) hX44 kt44 hB44_v19_2 hA44 (by first | decide | assumption | exact Int.le_refl _ | exact yposgeL (by assumption) c55) (by first | decide | exact yposgeL (by assumption) c55m) (by first | exact stQ_init hX.2 hfrom hall | assumption) rfl
    · skip
      have b23 : v19_4.toInt < rZ ρ 201 := yIy (by omega) h0_19 c23
      refine y_blk 3 tq_X12_steps (z := (30, [(0, .ref (ad 200)), (1, .int from_), (2, .ref v19_2), (3, .ref v19_3), (4, .int v19_4)], [.int (-1), .int v19_4, .ref v19_2])) rfl ?_
      refine y_iast hS tq_X12_steps rfl pA219 (by decide) (by exact yIn h0_19 b23) ?_
      have hA30 : (yup G19 v19_2 (500, .inl (aC 0, (rZ ρ 201), .inl (upd f219 (Int32.toNatClampNeg v19_4) (-1))))) v19_2 = some (500, .inl (aC 0, (rZ ρ 201), .inl (upd f219 (Int32.toNatClampNeg v19_4) (-1)))) := yup_s _ _ _
      have hX30 : atR aC ic de ad (yup G19 v19_2 (500, .inl (aC 0, (rZ ρ 201), .inl (upd f219 (Int32.toNatClampNeg v19_4) (-1))))) ρ := hX19.kp (yTg.up pA219 (by decide))
      have kt30 : yTg kA G (yup G19 v19_2 (500, .inl (aC 0, (rZ ρ 201), .inl (upd f219 (Int32.toNatClampNeg v19_4) (-1))))) := (kt19).trans (yTg.up pA219 (by decide))
      have hB30_v19_3 : (yup G19 v19_2 (500, .inl (aC 0, (rZ ρ 201), .inl (upd f219 (Int32.toNatClampNeg v19_4) (-1))))) v19_3 = some (501, .inl (aC 0, (rZ ρ 201), .inl f319)) := yup_o pA319 pA219 (by decide)
      generalize yup G19 v19_2 (500, .inl (aC 0, (rZ ρ 201), .inl (upd f219 (Int32.toNatClampNeg v19_4) (-1)))) = G30 at hA30 hX30 kt30 hB30_v19_3 ⊢
      refine y_blk 2 tq_X12_steps (z := (19, [(4, .int (v19_4 + 1)), (0, .ref (ad 200)), (1, .int from_), (2, .ref v19_2), (3, .ref v19_3)], [])) rfl ?_
      refine y_pick (L2 := [(0, .ref (ad 200)), (1, .int from_), (2, .ref v19_2), (3, .ref v19_3), (4, .int (v19_4 + 1))]) [1, 2, 3, 4, 0] rfl ?_
      exact ih19 _ (by exact ydec c23) v19_2 v19_3 (v19_4 + 1) G30 (upd f219 (Int32.toNatClampNeg v19_4) (-1)) f319 hX30 kt30 hA30 hB30_v19_3 (by first | decide | assumption | exact Int.le_refl _ | exact yposgeL (by assumption) c23) (by first | decide | exact yposgeL (by assumption) c23) (by first | exact stQ_i0 | exact stQ_i1 h0_19 b23 h19) rfl
  refine y_blk 1 tq_X12_steps (z := (1, [(0, .ref (ad 200)), (1, .int from_)], [.ref (ad 200)])) rfl ?_
  refine y_get hS tq_X12_steps (v := .ref (ad 201)) rfl fg_X12_7_X12 hX.m rfl ?_
  refine y_blk 0 tq_X12_steps (z := (4, [(0, .ref (ad 200)), (1, .int from_)], [.ref (ad 201)])) rfl ?_
  refine y_alen hS tq_X12_steps 0 rfl rfl hX.ki ?_
  refine y_blk 0 tq_X12_steps (z := (5, [(0, .ref (ad 200)), (1, .int from_)], [.int (Int32.ofNat (rZ ρ 201))])) rfl ?_
  refine y_less (k2 := 1 + 1) (n2 := 64 + (rZ ρ 201)) (by omega) (by omega) ?_
  refine y_newa_int 500 hS tq_X12_steps rfl wd_176 (by rw [ylt, yl_0, yofn (by omega)]; omega) (yofc (by omega)) (by omega) (fun a5 hne5 => ?_)
  have hle5 : yLe G (yup G a5 (500, .inl (aC 0, (rZ ρ 201), .inl (fun _ => 0)))) := yLe.new hne5
  have hA5 : (yup G a5 (500, .inl (aC 0, (rZ ρ 201), .inl (fun _ => 0)))) a5 = some (500, .inl (aC 0, (rZ ρ 201), .inl (fun _ => 0))) := yup_s _ _ _
  generalize yup G a5 (500, .inl (aC 0, (rZ ρ 201), .inl (fun _ => 0))) = G5 at hle5 hA5 ⊢
  have hX5 := hX.le hle5
  have kt5 := (yTg.rfl').trans (yTg.le hle5)
  refine y_blk 2 tq_X12_steps (z := (9, [(2, .ref a5), (0, .ref (ad 200)), (1, .int from_)], [.ref (ad 200)])) rfl ?_
  refine y_get hS tq_X12_steps (v := .ref (ad 201)) rfl fg_X12_7_X12 hX5.m rfl ?_
  refine y_blk 0 tq_X12_steps (z := (12, [(2, .ref a5), (0, .ref (ad 200)), (1, .int from_)], [.ref (ad 201)])) rfl ?_
  refine y_alen hS tq_X12_steps 0 rfl rfl hX5.ki ?_
  refine y_blk 0 tq_X12_steps (z := (13, [(2, .ref a5), (0, .ref (ad 200)), (1, .int from_)], [.int (Int32.ofNat (rZ ρ 201))])) rfl ?_
  refine y_less (k2 := 0 + 1) (n2 := 0 + (rZ ρ 201)) (by omega) (by omega) ?_
  refine y_newa_int 501 hS tq_X12_steps rfl wd_176 (by rw [ylt, yl_0, yofn (by omega)]; omega) (yofc (by omega)) (by omega) (fun a13 hne13 => ?_)
  have hle13 : yLe G5 (yup G5 a13 (501, .inl (aC 0, (rZ ρ 201), .inl (fun _ => 0)))) := yLe.new hne13
  have hA13 : (yup G5 a13 (501, .inl (aC 0, (rZ ρ 201), .inl (fun _ => 0)))) a13 = some (501, .inl (aC 0, (rZ ρ 201), .inl (fun _ => 0))) := yup_s _ _ _
  generalize yup G5 a13 (501, .inl (aC 0, (rZ ρ 201), .inl (fun _ => 0))) = G13 at hle13 hA13 ⊢
  have hX13 := hX5.le hle13
  have kt13 := (kt5).trans (yTg.le hle13)
  refine y_blk 3 tq_X12_steps (z := (19, [(4, .int 0), (3, .ref a13), (2, .ref a5), (0, .ref (ad 200)), (1, .int from_)], [])) rfl ?_
  refine y_pick (L2 := [(0, .ref (ad 200)), (1, .int from_), (2, .ref a5), (3, .ref a13), (4, .int 0)]) [3, 4, 2, 1, 0] rfl ?_
  exact J19 _ a5 a13 0 G13 (fun _ => 0) (fun _ => 0) hX13 kt13 (hle13 _ _ hA5) hA13 (by first | decide | assumption | exact Int.le_refl _ | exact yposgeL (by assumption) c23) (by first | decide | exact yposgeL (by assumption) c23) (by first | exact stQ_i0 | exact stQ_i1 h0_19 b23 h19) rfl
