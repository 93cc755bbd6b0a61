/-! ===== how class and reference are tied: 36c ===== -/
/-! ===== how class and reference are tied ===== -/
/-- kinds -/
def cpK (σ : XS) (ρ : RS) : Prop := ∀ c : Nat, c < 64 → bt (σ.2.2.2.1 2) c = (decide (c < rZ ρ 201) && decide (rV ρ 201 c = 1)) ∧ bt (σ.2.2.2.1 3) c = (decide (c < rZ ρ 201) && decide (rV ρ 201 c = 2)) ∧ bt (σ.2.2.2.1 4) c = (decide (c < rZ ρ 201) && decide (rV ρ 201 c = 3)) ∧ (c < rZ ρ 201 → 0 ≤ rV ρ 201 c ∧ rV ρ 201 c ≤ 3)
theorem cpK.x {σ σ1 : XS} {ρ : RS} {m : List Nat} (h : cpK σ ρ) (hx : xfr m σ σ1) (h2 : ¬ 56 + 2 ∈ m := by decide) (h3 : ¬ 56 + 3 ∈ m := by decide) (h4 : ¬ 56 + 4 ∈ m := by decide) : cpK σ1 ρ := by
  intro c hc
  rw [hx.2.2.2.1 2 h2, hx.2.2.2.1 3 h3, hx.2.2.2.1 4 h4]
  exact h c hc
theorem cpK.r {σ : XS} {ρ ρ1 : RS} (h : cpK σ ρ) (hz : rZ ρ1 201 = rZ ρ 201) (hv : rV ρ1 201 = rV ρ 201) : cpK σ ρ1 := by
  intro c hc
  rw [hz, hv]
  exact h c hc
theorem cpK.lay {σ σ1 : XS} {ρ : RS} {cell kind : Int32} {m : Nat} (h : cpK σ ρ) (hs : xsk σ σ1 cell kind) (hc : cell.toInt = (m : Int)) (hm : m < rZ ρ 201) (h64 : rZ ρ 201 ≤ 64) (hk : 0 ≤ kind ∧ kind ≤ 3) : cpK σ1 (rar (rin ρ 0 0) 201 (upd (rV ρ 201) m kind)) := by
  have m64 : m < 64 := by omega
  intro c hc2
  obtain ⟨a1, a2, a3, a4⟩ := h c hc2
  show bt (σ1.2.2.2.1 2) c = (decide (c < rZ ρ 201) && decide (upd (rV ρ 201) m kind c = 1)) ∧ bt (σ1.2.2.2.1 3) c = (decide (c < rZ ρ 201) && decide (upd (rV ρ 201) m kind c = 2)) ∧ bt (σ1.2.2.2.1 4) c = (decide (c < rZ ρ 201) && decide (upd (rV ρ 201) m kind c = 3)) ∧ (c < rZ ρ 201 → 0 ≤ upd (rV ρ 201) m kind c ∧ upd (rV ρ 201) m kind c ≤ 3)
  rw [hs.1, hs.2.1, hs.2.2, bt_sk hc m64 hc2, bt_sk hc m64 hc2, bt_sk hc m64 hc2]
  by_cases q : c = m
  · subst q
    rw [if_pos rfl, if_pos rfl, if_pos rfl, pk_us, decide_eq_true hm, Bool.true_and, Bool.true_and, Bool.true_and]
    exact ⟨rfl, rfl, rfl, fun _ => hk⟩
  · rw [if_neg q, if_neg q, if_neg q, pk_un q]
    exact ⟨a1, a2, a3, a4⟩
theorem cpK.wall {σ : XS} {ρ : RS} {cell : Int32} {m : Nat} (h : cpK σ ρ) (hc : cell.toInt = (m : Int)) (hm : m < rZ ρ 201) (h64 : rZ ρ 201 ≤ 64) : xis (σ.2.2.2.1 2) cell ↔ rV ρ 201 m = 1 := by
  rw [xis_bt hc (by omega), (h m (by omega)).1, decide_eq_true hm, Bool.true_and, decide_eq_true_eq]
theorem cpK.kind {σ : XS} {ρ : RS} {cell : Int32} {m : Nat} (h : cpK σ ρ) (hc : cell.toInt = (m : Int)) (hm : m < rZ ρ 201) (h64 : rZ ρ 201 ≤ 64) : xkf σ cell = rV ρ 201 m := by
  obtain ⟨a1, a2, a3, a4⟩ := h m (by omega)
  have b1 := h.wall hc hm h64
  have b2 : xis (σ.2.2.2.1 3) cell ↔ rV ρ 201 m = 2 := by rw [xis_bt hc (by omega), a2, decide_eq_true hm, Bool.true_and, decide_eq_true_eq]
  have b3 : xis (σ.2.2.2.1 4) cell ↔ rV ρ 201 m = 3 := by rw [xis_bt hc (by omega), a3, decide_eq_true hm, Bool.true_and, decide_eq_true_eq]
  unfold xkf
  by_cases q1 : rV ρ 201 m = 1
  · rw [if_pos (b1.mpr q1), q1]
  · rw [if_neg (fun z => q1 (b1.mp z))]
    by_cases q2 : rV ρ 201 m = 2
    · rw [if_pos (b2.mpr q2), q2]
    · rw [if_neg (fun z => q2 (b2.mp z))]
      by_cases q3 : rV ρ 201 m = 3
      · rw [if_pos (b3.mpr q3), q3]
      · rw [if_neg (fun z => q3 (b3.mp z))]
        have e0 : (0 : Int32).toInt = 0 := by decide
        have e3 : (3 : Int32).toInt = 3 := by decide
        obtain ⟨c1, c2⟩ := a4 hm
        rw [yle, e0] at c1
        rw [yle, e3] at c2
        have n1 : ¬ (rV ρ 201 m).toInt = 1 := fun z => q1 (Int32.toInt_inj.mp (z.trans (by decide)))
        have n2 : ¬ (rV ρ 201 m).toInt = 2 := fun z => q2 (Int32.toInt_inj.mp (z.trans (by decide)))
        have n3 : ¬ (rV ρ 201 m).toInt = 3 := fun z => q3 (Int32.toInt_inj.mp (z.trans (by decide)))
        exact Int32.toInt_inj.mp (by rw [e0]; omega)
/-- how many gates there are, as the class counts them -/
theorem cpK.gates {σ : XS} {ρ : RS} (h : cpK σ ρ) (h64 : rZ ρ 201 ≤ 64) : bcL (σ.2.2.2.1 4) = Int32.ofNat (cnt (rgt ρ) (rZ ρ 201)) := by
  rw [bL_eq, pcn_cnt]
  refine congrArg Int32.ofNat ?_
  refine (cnt_up (p := fun j => (bN (σ.2.2.2.1 4)).testBit j) 64 h64 (fun j h2 h3 => (h j h3).2.2.1.trans ((congrArg (fun b : Bool => b && decide (rV ρ 201 j = 3)) (decide_eq_false (Nat.not_lt.mpr h2))).trans (Bool.false_and _)))).trans ?_
  exact cnt_cg _ (fun j hj => (h j (by omega)).2.2.1.trans ((congrArg (fun b : Bool => b && decide (rV ρ 201 j = 3)) (decide_eq_true hj)).trans (Bool.true_and _)))
/-- when gates are open -/
def cpT (σ : XS) (ρ : RS) : Prop := ∀ m : Int32, (0 ≤ m ∧ m ≤ 239) → ((σ.2.2.1 2 ≤ m ∧ m ≤ σ.2.2.1 3) ↔ (rI ρ 3 ≤ m ∧ m ≤ rI ρ 4))
theorem cpT.x {σ σ1 : XS} {ρ : RS} {m : List Nat} (h : cpT σ ρ) (hx : xfr m σ σ1) (h2 : ¬ 48 + 2 ∈ m := by decide) (h3 : ¬ 48 + 3 ∈ m := by decide) : cpT σ1 ρ := by
  intro v hv
  rw [hx.2.2.1 2 h2, hx.2.2.1 3 h3]
  exact h v hv
theorem cpT.r {σ : XS} {ρ ρ1 : RS} (h : cpT σ ρ) (h3 : rI ρ1 3 = rI ρ 3) (h4 : rI ρ1 4 = rI ρ 4) : cpT σ ρ1 := by
  intro v hv
  rw [h3, h4]
  exact h v hv
/-- a list of n numbers in a row of the class, against a function -/
def cpR (σ : XS) (k n : Nat) (f : Nat → Int32) : Prop := ∀ i : Nat, i < n → σ.2.1 k i = f i
theorem cpR.x {σ σ1 : XS} {k n : Nat} {f : Nat → Int32} {m : List Nat} (h : cpR σ k n f) (hx : xfr m σ σ1) (hk : ¬ 24 + k ∈ m := by decide) : cpR σ1 k n f := fun i hi => (congrFun (hx.2.1 k hk) i).trans (h i hi)
theorem cpR.r {σ : XS} {k n n1 : Nat} {f f1 : Nat → Int32} (h : cpR σ k n f) (hn : n1 = n) (hf : ∀ i : Nat, i < n → f1 i = f i) : cpR σ k n1 f1 := by
  subst hn
  exact fun i hi => (h i hi).trans (hf i hi).symm
/-- one more -/
theorem cpR.add {σ σ1 : XS} {k n : Nat} {f f1 : Nat → Int32} {v : Int32} (h : cpR σ k n f) (hr : σ1.2.1 k = upd (σ.2.1 k) n v) (hf : ∀ i : Nat, i < n → f1 i = f i) (hv : f1 n = v) : cpR σ1 k (n + 1) f1 := by
  intro i hi
  rw [hr]
  by_cases q : i = n
  · rw [q, pk_us, hv]
  · rw [pk_un q]
    exact (h i (by omega)).trans (hf i (by omega)).symm
/-- an added number's place -/
theorem xadd_row {σ : XS} {k n : Nat} {v : Int32} (hs : σ.1 k = Int32.ofNat n) (hn : n < xcap k) : (xadd σ k v).2.1 k = upd (σ.2.1 k) n v ∧ (xadd σ k v).1 k = Int32.ofNat (n + 1) := by
  have hc := xcap_le k
  have e : (σ.1 k).toInt = (n : Int) := by rw [hs, yofNat (by omega)]
  have e1 : (1 : Int32).toInt = 1 := by decide
  refine ⟨?_, ?_⟩
  · rw [xadd_ar1 (by omega) (by omega)]
    have ek : (σ.1 k).toNatClampNeg = n := by
      show (σ.1 k).toInt.toNat = n
      omega
    rw [ek]
  · rw [xadd_sz1 (by omega), hs]
    refine Int32.toInt_inj.mp ?_
    rw [yadd (by rw [yofNat (by omega), e1]; omega) (by rw [yofNat (by omega), e1]; omega), yofNat (by omega), yofNat (by omega), e1]
    omega
theorem ofN1 {n : Nat} (h : n ≤ 1000) : Int32.ofNat (n + 1) = Int32.ofNat n + 1 := by
  refine Int32.toInt_inj.mp ?_
  have e1 : (1 : Int32).toInt = 1 := by decide
  rw [yofNat (by omega), yadd (by rw [yofNat (by omega), e1]; omega) (by rw [yofNat (by omega), e1]; omega), yofNat (by omega), e1]
  omega
/-- what stays at some places of the reference -/
def rAt (ρ ρ1 : RS) (b n : Nat) : Prop := ∀ k : Nat, k < n → rV ρ1 (b + k) = rV ρ (b + k)
theorem rSm.at {ρ ρ1 : RS} (h : rSm ρ ρ1) {b n lt : Nat} (hc : (b = 300 ∧ lt = 210) ∨ (b = 320 ∧ lt = 211) ∨ (b = 340 ∧ lt = 216) ∨ (b = 380 ∧ lt = 212) ∨ (b = 440 ∧ lt = 215)) (hn : n = rZ ρ lt) (h9 : n ≤ 8) : rAt ρ ρ1 b n := by
  intro k hk
  refine h.2.2.1 _ (fun q => ?_)
  obtain ⟨q1, q2, q3, q4, q5, q6, q7, q8, q9, q10⟩ := q
  rcases hc with ⟨rfl, rfl⟩ | ⟨rfl, rfl⟩ | ⟨rfl, rfl⟩ | ⟨rfl, rfl⟩ | ⟨rfl, rfl⟩ <;> omega
theorem rSm.lo {ρ ρ1 : RS} (h : rSm ρ ρ1) {t : Nat} (ht : t < 300) : rV ρ1 t = rV ρ t := h.2.2.1 t (fun q => by have := q.1; omega)
def cpA (σ : XS) (ρ : RS) : Prop := rZ ρ 210 ≤ 6 ∧ (σ.1 0 = Int32.ofNat (rZ ρ 210) ∧ σ.1 1 = Int32.ofNat (rZ ρ 210) ∧ σ.1 2 = Int32.ofNat (rZ ρ 210)) ∧ (cpR σ 0 (rZ ρ 210) (fun k => rV ρ (300 + k) 0) ∧ cpR σ 1 (rZ ρ 210) (fun k => rV ρ (300 + k) 1) ∧ cpR σ 2 (rZ ρ 210) (fun k => rV ρ (300 + k) 2))
theorem cpA.x {σ σ1 : XS} {ρ : RS} {m : List Nat} (h : cpA σ ρ) (hx : xfr m σ σ1) (d0 : ¬ 0 ∈ m := by decide) (e0 : ¬ 24 + 0 ∈ m := by decide) (d1 : ¬ 1 ∈ m := by decide) (e1 : ¬ 24 + 1 ∈ m := by decide) (d2 : ¬ 2 ∈ m := by decide) (e2 : ¬ 24 + 2 ∈ m := by decide) : cpA σ1 ρ := by
  obtain ⟨h0, ⟨s0, s1, s2⟩, r0, r1, r2⟩ := h
  exact ⟨h0, ⟨hx.z s0 d0, hx.z s1 d1, hx.z s2 d2⟩, r0.x hx e0, r1.x hx e1, r2.x hx e2⟩
theorem cpA.r {σ : XS} {ρ ρ1 : RS} (h : cpA σ ρ) (hz : rZ ρ1 210 = rZ ρ 210) (hv : rAt ρ ρ1 300 (rZ ρ 210)) : cpA σ ρ1 := by
  obtain ⟨h0, ⟨s0, s1, s2⟩, r0, r1, r2⟩ := h
  refine ⟨by rw [hz]; exact h0, ⟨by rw [hz]; exact s0, by rw [hz]; exact s1, by rw [hz]; exact s2⟩, r0.r hz (fun i hi => congrFun (hv i hi) 0), r1.r hz (fun i hi => congrFun (hv i hi) 1), r2.r hz (fun i hi => congrFun (hv i hi) 2)⟩
theorem cpA.add {σ : XS} {ρ : RS} {v0 v1 v2 : Int32} {f : Nat → Int32} (h : cpA σ ρ) (hn : rZ ρ 210 < 6) (hf0 : f 0 = v0) (hf1 : f 1 = v1) (hf2 : f 2 = v2) : cpA (xadd (xadd (xadd σ 0 v0) 1 v1) 2 v2) (rAdd (rar (rin ρ 0 0) (300 + rZ ρ 210) f) 210) := by
  obtain ⟨h0, ⟨s0, s1, s2⟩, r0, r1, r2⟩ := h
  have a0 := xadd_row (σ := σ) (k := 0) (v := v0) s0 (by rw [show xcap 0 = 6 from by decide]; exact hn)
  have a1 := xadd_row (σ := (xadd σ 0 v0)) (k := 1) (v := v1) ((xadd_szn (σ := σ) (k := 0) (j := 1) (v := v0) (by decide)).trans s1) (by rw [show xcap 1 = 6 from by decide]; exact hn)
  have a2 := xadd_row (σ := (xadd (xadd σ 0 v0) 1 v1)) (k := 2) (v := v2) ((xadd_szn (σ := (xadd σ 0 v0)) (k := 1) (j := 2) (v := v1) (by decide)).trans ((xadd_szn (σ := σ) (k := 0) (j := 2) (v := v0) (by decide)).trans s2)) (by rw [show xcap 2 = 6 from by decide]; exact hn)
  have ez : rZ (rAdd (rar (rin ρ 0 0) (300 + rZ ρ 210) f) 210) 210 = rZ ρ 210 + 1 := rfl
  have ev : ∀ i : Nat, i < rZ ρ 210 → rV (rAdd (rar (rin ρ 0 0) (300 + rZ ρ 210) f) 210) (300 + i) = rV ρ (300 + i) := fun i hi => by
    show (if 300 + i = 300 + rZ ρ 210 then f else rV ρ (300 + i)) = _
    exact if_neg (by omega)
  have en : rV (rAdd (rar (rin ρ 0 0) (300 + rZ ρ 210) f) 210) (300 + rZ ρ 210) = f := by
    show (if 300 + rZ ρ 210 = 300 + rZ ρ 210 then f else rV ρ (300 + rZ ρ 210)) = _
    exact if_pos rfl
  refine ⟨by rw [ez]; omega, ⟨by rw [ez]; exact ((xadd_szn (σ := (xadd (xadd σ 0 v0) 1 v1)) (k := 2) (j := 0) (v := v2) (by decide)).trans ((xadd_szn (σ := (xadd σ 0 v0)) (k := 1) (j := 0) (v := v1) (by decide)).trans a0.2)), by rw [ez]; exact ((xadd_szn (σ := (xadd (xadd σ 0 v0) 1 v1)) (k := 2) (j := 1) (v := v2) (by decide)).trans a1.2), by rw [ez]; exact a2.2⟩, by rw [ez]; exact r0.add ((xadd_arn (σ := (xadd (xadd σ 0 v0) 1 v1)) (k := 2) (j := 0) (v := v2) (by decide)).trans ((xadd_arn (σ := (xadd σ 0 v0)) (k := 1) (j := 0) (v := v1) (by decide)).trans a0.1)) (fun i hi => congrFun (ev i hi) 0) ((congrFun en 0).trans hf0), by rw [ez]; exact r1.add ((xadd_arn (σ := (xadd (xadd σ 0 v0) 1 v1)) (k := 2) (j := 1) (v := v2) (by decide)).trans (a1.1.trans (congrArg (fun z : Nat → Int32 => upd z (rZ ρ 210) v1) (xadd_arn (σ := σ) (k := 0) (j := 1) (v := v0) (by decide))))) (fun i hi => congrFun (ev i hi) 1) ((congrFun en 1).trans hf1), by rw [ez]; exact r2.add (a2.1.trans (congrArg (fun z : Nat → Int32 => upd z (rZ ρ 210) v2) ((xadd_arn (σ := (xadd σ 0 v0)) (k := 1) (j := 2) (v := v1) (by decide)).trans (xadd_arn (σ := σ) (k := 0) (j := 2) (v := v0) (by decide))))) (fun i hi => congrFun (ev i hi) 2) ((congrFun en 2).trans hf2)⟩
def cpF (σ : XS) (ρ : RS) : Prop := rZ ρ 211 ≤ 8 ∧ (σ.1 3 = Int32.ofNat (rZ ρ 211) ∧ σ.1 4 = Int32.ofNat (rZ ρ 211)) ∧ (cpR σ 3 (rZ ρ 211) (fun k => rV ρ (320 + k) 0) ∧ cpR σ 4 (rZ ρ 211) (fun k => rV ρ (320 + k) 1))
theorem cpF.x {σ σ1 : XS} {ρ : RS} {m : List Nat} (h : cpF σ ρ) (hx : xfr m σ σ1) (d3 : ¬ 3 ∈ m := by decide) (e3 : ¬ 24 + 3 ∈ m := by decide) (d4 : ¬ 4 ∈ m := by decide) (e4 : ¬ 24 + 4 ∈ m := by decide) : cpF σ1 ρ := by
  obtain ⟨h0, ⟨s3, s4⟩, r3, r4⟩ := h
  exact ⟨h0, ⟨hx.z s3 d3, hx.z s4 d4⟩, r3.x hx e3, r4.x hx e4⟩
theorem cpF.r {σ : XS} {ρ ρ1 : RS} (h : cpF σ ρ) (hz : rZ ρ1 211 = rZ ρ 211) (hv : rAt ρ ρ1 320 (rZ ρ 211)) : cpF σ ρ1 := by
  obtain ⟨h0, ⟨s3, s4⟩, r3, r4⟩ := h
  refine ⟨by rw [hz]; exact h0, ⟨by rw [hz]; exact s3, by rw [hz]; exact s4⟩, r3.r hz (fun i hi => congrFun (hv i hi) 0), r4.r hz (fun i hi => congrFun (hv i hi) 1)⟩
theorem cpF.add {σ : XS} {ρ : RS} {v0 v1 : Int32} {f : Nat → Int32} (h : cpF σ ρ) (hn : rZ ρ 211 < 8) (hf0 : f 0 = v0) (hf1 : f 1 = v1) : cpF (xadd (xadd σ 3 v0) 4 v1) (rAdd (rar (rin ρ 0 0) (320 + rZ ρ 211) f) 211) := by
  obtain ⟨h0, ⟨s3, s4⟩, r3, r4⟩ := h
  have a3 := xadd_row (σ := σ) (k := 3) (v := v0) s3 (by rw [show xcap 3 = 8 from by decide]; exact hn)
  have a4 := xadd_row (σ := (xadd σ 3 v0)) (k := 4) (v := v1) ((xadd_szn (σ := σ) (k := 3) (j := 4) (v := v0) (by decide)).trans s4) (by rw [show xcap 4 = 8 from by decide]; exact hn)
  have ez : rZ (rAdd (rar (rin ρ 0 0) (320 + rZ ρ 211) f) 211) 211 = rZ ρ 211 + 1 := rfl
  have ev : ∀ i : Nat, i < rZ ρ 211 → rV (rAdd (rar (rin ρ 0 0) (320 + rZ ρ 211) f) 211) (320 + i) = rV ρ (320 + i) := fun i hi => by
    show (if 320 + i = 320 + rZ ρ 211 then f else rV ρ (320 + i)) = _
    exact if_neg (by omega)
  have en : rV (rAdd (rar (rin ρ 0 0) (320 + rZ ρ 211) f) 211) (320 + rZ ρ 211) = f := by
    show (if 320 + rZ ρ 211 = 320 + rZ ρ 211 then f else rV ρ (320 + rZ ρ 211)) = _
    exact if_pos rfl
  refine ⟨by rw [ez]; omega, ⟨by rw [ez]; exact ((xadd_szn (σ := (xadd σ 3 v0)) (k := 4) (j := 3) (v := v1) (by decide)).trans a3.2), by rw [ez]; exact a4.2⟩, by rw [ez]; exact r3.add ((xadd_arn (σ := (xadd σ 3 v0)) (k := 4) (j := 3) (v := v1) (by decide)).trans a3.1) (fun i hi => congrFun (ev i hi) 0) ((congrFun en 0).trans hf0), by rw [ez]; exact r4.add (a4.1.trans (congrArg (fun z : Nat → Int32 => upd z (rZ ρ 211) v1) (xadd_arn (σ := σ) (k := 3) (j := 4) (v := v0) (by decide)))) (fun i hi => congrFun (ev i hi) 1) ((congrFun en 1).trans hf1)⟩
def cpW (σ : XS) (ρ : RS) : Prop := rZ ρ 216 ≤ 5 ∧ (σ.1 22 = Int32.ofNat (rZ ρ 216) ∧ σ.1 23 = Int32.ofNat (rZ ρ 216)) ∧ (cpR σ 22 (rZ ρ 216) (fun k => rV ρ (340 + k) 0) ∧ cpR σ 23 (rZ ρ 216) (fun k => rV ρ (340 + k) 1))
theorem cpW.x {σ σ1 : XS} {ρ : RS} {m : List Nat} (h : cpW σ ρ) (hx : xfr m σ σ1) (d22 : ¬ 22 ∈ m := by decide) (e22 : ¬ 24 + 22 ∈ m := by decide) (d23 : ¬ 23 ∈ m := by decide) (e23 : ¬ 24 + 23 ∈ m := by decide) : cpW σ1 ρ := by
  obtain ⟨h0, ⟨s22, s23⟩, r22, r23⟩ := h
  exact ⟨h0, ⟨hx.z s22 d22, hx.z s23 d23⟩, r22.x hx e22, r23.x hx e23⟩
theorem cpW.r {σ : XS} {ρ ρ1 : RS} (h : cpW σ ρ) (hz : rZ ρ1 216 = rZ ρ 216) (hv : rAt ρ ρ1 340 (rZ ρ 216)) : cpW σ ρ1 := by
  obtain ⟨h0, ⟨s22, s23⟩, r22, r23⟩ := h
  refine ⟨by rw [hz]; exact h0, ⟨by rw [hz]; exact s22, by rw [hz]; exact s23⟩, r22.r hz (fun i hi => congrFun (hv i hi) 0), r23.r hz (fun i hi => congrFun (hv i hi) 1)⟩
theorem cpW.add {σ : XS} {ρ : RS} {v0 v1 : Int32} {f : Nat → Int32} (h : cpW σ ρ) (hn : rZ ρ 216 < 5) (hf0 : f 0 = v0) (hf1 : f 1 = v1) : cpW (xadd (xadd σ 22 v0) 23 v1) (rAdd (rar (rin ρ 0 0) (340 + rZ ρ 216) f) 216) := by
  obtain ⟨h0, ⟨s22, s23⟩, r22, r23⟩ := h
  have a22 := xadd_row (σ := σ) (k := 22) (v := v0) s22 (by rw [show xcap 22 = 5 from by decide]; exact hn)
  have a23 := xadd_row (σ := (xadd σ 22 v0)) (k := 23) (v := v1) ((xadd_szn (σ := σ) (k := 22) (j := 23) (v := v0) (by decide)).trans s23) (by rw [show xcap 23 = 5 from by decide]; exact hn)
  have ez : rZ (rAdd (rar (rin ρ 0 0) (340 + rZ ρ 216) f) 216) 216 = rZ ρ 216 + 1 := rfl
  have ev : ∀ i : Nat, i < rZ ρ 216 → rV (rAdd (rar (rin ρ 0 0) (340 + rZ ρ 216) f) 216) (340 + i) = rV ρ (340 + i) := fun i hi => by
    show (if 340 + i = 340 + rZ ρ 216 then f else rV ρ (340 + i)) = _
    exact if_neg (by omega)
  have en : rV (rAdd (rar (rin ρ 0 0) (340 + rZ ρ 216) f) 216) (340 + rZ ρ 216) = f := by
    show (if 340 + rZ ρ 216 = 340 + rZ ρ 216 then f else rV ρ (340 + rZ ρ 216)) = _
    exact if_pos rfl
  refine ⟨by rw [ez]; omega, ⟨by rw [ez]; exact ((xadd_szn (σ := (xadd σ 22 v0)) (k := 23) (j := 22) (v := v1) (by decide)).trans a22.2), by rw [ez]; exact a23.2⟩, by rw [ez]; exact r22.add ((xadd_arn (σ := (xadd σ 22 v0)) (k := 23) (j := 22) (v := v1) (by decide)).trans a22.1) (fun i hi => congrFun (ev i hi) 0) ((congrFun en 0).trans hf0), by rw [ez]; exact r23.add (a23.1.trans (congrArg (fun z : Nat → Int32 => upd z (rZ ρ 216) v1) (xadd_arn (σ := σ) (k := 22) (j := 23) (v := v0) (by decide)))) (fun i hi => congrFun (ev i hi) 1) ((congrFun en 1).trans hf1)⟩
def cpP (σ : XS) (ρ : RS) : Prop := rZ ρ 213 ≤ 4 ∧ σ.1 10 = Int32.ofNat (rZ ρ 213) ∧ cpR σ 10 (rZ ρ 213) (rV ρ 213)
theorem cpP.x {σ σ1 : XS} {ρ : RS} {m : List Nat} (h : cpP σ ρ) (hx : xfr m σ σ1) (d : ¬ 10 ∈ m := by decide) (e : ¬ 24 + 10 ∈ m := by decide) : cpP σ1 ρ := ⟨h.1, hx.z h.2.1 d, h.2.2.x hx e⟩
theorem cpP.r {σ : XS} {ρ ρ1 : RS} (h : cpP σ ρ) (hz : rZ ρ1 213 = rZ ρ 213) (hv : rV ρ1 213 = rV ρ 213) : cpP σ ρ1 := ⟨by rw [hz]; exact h.1, by rw [hz]; exact h.2.1, by rw [hv]; exact h.2.2.r hz (fun _ _ => rfl)⟩
theorem cpP.add {σ : XS} {ρ : RS} {v : Int32} (h : cpP σ ρ) (hn : rZ ρ 213 < 4) : cpP (xadd σ 10 v) (rAdd (rar (rin ρ 0 0) 213 (rpush ρ 213 v)) 213) := by
  obtain ⟨h0, s, r⟩ := h
  have a := xadd_row (σ := σ) (k := 10) (v := v) s (by rw [show xcap 10 = 4 from by decide]; exact hn)
  refine ⟨?_, a.2, ?_⟩
  · show rZ ρ 213 + 1 ≤ 4
    omega
  · show cpR (xadd σ 10 v) 10 (rZ ρ 213 + 1) (rpush ρ 213 v)
    exact r.add a.1 (fun i hi => if_neg (by omega)) (if_pos rfl)
def cpY (σ : XS) (ρ : RS) : Prop := cpR σ 15 6 (rV ρ 203)
theorem cpY.put {σ : XS} {ρ : RS} {key guard : Int32} {n : Nat} (h : cpY σ ρ) (hk : key.toInt = (n : Int)) (hn : n < 6) : cpY (xput σ 15 key guard) (rar (rin ρ 0 0) 203 (upd (rV ρ 203) n guard)) := by
  have ec : xcap 15 = 6 := by decide
  have ek : key.toNatClampNeg = n := by
    show key.toInt.toNat = n
    omega
  intro i hi
  unfold xput
  rw [ec, if_pos (by omega), ek]
  show (if 15 = 15 then upd (σ.2.1 15) n guard else σ.2.1 15) i = upd (rV ρ 203) n guard i
  rw [if_pos rfl]
  by_cases q : i = n
  · rw [q, pk_us, pk_us]
  · rw [pk_un q, pk_un q]
    exact h i hi
theorem xat_in {σ : XS} {k n : Nat} (hn : n < xcap k) : xat σ k (Int32.ofNat n) = σ.2.1 k n := by
  have hc := xcap_le k
  have e : (Int32.ofNat n).toInt = (n : Int) := yofNat (by omega)
  unfold xat
  rw [e, if_pos (by omega)]
  have ek : (Int32.ofNat n).toNatClampNeg = n := by
    show (Int32.ofNat n).toInt.toNat = n
    omega
  rw [ek]
/-- a row's cells, against a list's -/
theorem cp_as {σ : XS} {k n : Nat} {f : Nat → Int32} {cell : Int32} {c : Nat} (h : cpR σ k n f) (hn : n ≤ xcap k) (hs : σ.1 k = Int32.ofNat n) (hc : cell.toInt = (c : Int)) : xasQ σ k (σ.1 k).toInt.toNat c ↔ ∃ p, p < n ∧ f p = cell := by
  have h60 := xcap_le k
  have e : (σ.1 k).toInt.toNat = n := by
    rw [hs, yofNat (by omega)]
    omega
  unfold xasQ
  rw [e]
  constructor
  · rintro ⟨p, h1, h2⟩
    refine ⟨p, h1, ?_⟩
    rw [xat_in (by omega), h p h1] at h2
    exact Int32.toInt_inj.mp (h2.trans hc.symm)
  · rintro ⟨p, h1, h2⟩
    refine ⟨p, h1, ?_⟩
    rw [xat_in (by omega), h p h1, h2]
    exact hc
/-- guards -/
def cpG (σ : XS) (ρ : RS) : Prop := rZ ρ 212 ≤ 6 ∧ (σ.1 5 = Int32.ofNat (rZ ρ 212) ∧ σ.1 6 = Int32.ofNat (rZ ρ 212) ∧ σ.1 7 = Int32.ofNat (rZ ρ 212) ∧ σ.1 8 = Int32.ofNat (rZ ρ 212)) ∧ (cpR σ 5 (rZ ρ 212) (fun k => rF ρ (360 + k) 0) ∧ cpR σ 6 (rZ ρ 212) (fun k => rF ρ (360 + k) 1) ∧ cpR σ 7 (rZ ρ 212) (fun k => rF ρ (360 + k) 2) ∧ cpR σ 8 (rZ ρ 212) (fun k => Int32.ofNat (rZ ρ (380 + k)))) ∧ (∀ k : Nat, k < rZ ρ 212 → rZ ρ (380 + k) ≤ 6 ∧ ∀ i : Nat, i < rZ ρ (380 + k) → σ.2.1 9 (6 * k + i) = rV ρ (380 + k) i)
theorem cpG.x {σ σ1 : XS} {ρ : RS} {m : List Nat} (h : cpG σ ρ) (hx : xfr m σ σ1) (d5 : ¬ 5 ∈ m := by decide) (d6 : ¬ 6 ∈ m := by decide) (d7 : ¬ 7 ∈ m := by decide) (d8 : ¬ 8 ∈ m := by decide) (e5 : ¬ 24 + 5 ∈ m := by decide) (e6 : ¬ 24 + 6 ∈ m := by decide) (e7 : ¬ 24 + 7 ∈ m := by decide) (e8 : ¬ 24 + 8 ∈ m := by decide) (e9 : ¬ 24 + 9 ∈ m := by decide) : cpG σ1 ρ := by
  obtain ⟨h0, ⟨s5, s6, s7, s8⟩, ⟨r5, r6, r7, r8⟩, hr⟩ := h
  exact ⟨h0, ⟨hx.z s5 d5, hx.z s6 d6, hx.z s7 d7, hx.z s8 d8⟩, ⟨r5.x hx e5, r6.x hx e6, r7.x hx e7, r8.x hx e8⟩, fun k hk => ⟨(hr k hk).1, fun i hi => (congrFun (hx.2.1 9 e9) _).trans ((hr k hk).2 i hi)⟩⟩
theorem cpG.r {σ : XS} {ρ ρ1 : RS} (h : cpG σ ρ) (hz : rZ ρ1 212 = rZ ρ 212) (hzl : ∀ k : Nat, k < rZ ρ 212 → rZ ρ1 (380 + k) = rZ ρ (380 + k)) (hv : rAt ρ ρ1 380 (rZ ρ 212)) (hF : ∀ k n : Nat, k < rZ ρ 212 → n < 3 → rF ρ1 (360 + k) n = rF ρ (360 + k) n) : cpG σ ρ1 := by
  obtain ⟨h0, ⟨s5, s6, s7, s8⟩, ⟨r5, r6, r7, r8⟩, hr⟩ := h
  refine ⟨by rw [hz]; exact h0, ⟨by rw [hz]; exact s5, by rw [hz]; exact s6, by rw [hz]; exact s7, by rw [hz]; exact s8⟩, ⟨r5.r hz (fun i hi => hF i 0 hi (by decide)), r6.r hz (fun i hi => hF i 1 hi (by decide)), r7.r hz (fun i hi => hF i 2 hi (by decide)), r8.r hz (fun i hi => congrArg Int32.ofNat (hzl i hi))⟩, fun k hk => ?_⟩
  rw [hz] at hk
  obtain ⟨a, b⟩ := hr k hk
  rw [hzl k hk, hv k hk]
  exact ⟨a, b⟩
theorem ofN6 {g l : Nat} {guard : Int32} (hg : guard.toInt = (g : Int)) (h6 : g ≤ 6) (hl : l ≤ 6) : (guard * 6 + Int32.ofNat l).toInt = ((6 * g + l : Nat) : Int) := by
  have e6 : (6 : Int32).toInt = 6 := by decide
  have el : (Int32.ofNat l).toInt = (l : Int) := yofNat (by omega)
  have em : (guard * 6).toInt = guard.toInt * 6 := by rw [ymul (by rw [e6]; omega) (by rw [e6]; omega), e6]
  rw [yadd (by omega) (by omega)]
  omega
theorem xat_g {σ : XS} {k g : Nat} {guard : Int32} (hg : guard.toInt = (g : Int)) (hn : g < xcap k) : xat σ k guard = σ.2.1 k g := by
  have e : guard = Int32.ofNat g := Int32.toInt_inj.mp (by
    have hc := xcap_le k
    rw [yofNat (by omega), hg])
  rw [e]
  exact xat_in hn
theorem xput_g {σ : XS} {k g : Nat} {i v : Int32} (hi : i.toInt = (g : Int)) (hn : g < xcap k) : (xput σ k i v).2.1 k = upd (σ.2.1 k) g v := by
  unfold xput
  rw [if_pos (by omega)]
  show (if k = k then upd (σ.2.1 k) i.toNatClampNeg v else σ.2.1 k) = _
  rw [if_pos rfl]
  have ek : i.toNatClampNeg = g := by
    show i.toInt.toNat = g
    omega
  rw [ek]
theorem xput_n {σ : XS} {k j : Nat} {i v : Int32} (h : j ≠ k) : (xput σ k i v).2.1 j = σ.2.1 j := by
  unfold xput
  split
  · exact if_neg h
  · rfl
/-- a round lengthened -/
theorem cpG.len {σ : XS} {ρ : RS} {guard cell : Int32} {g : Nat} (h : cpG σ ρ) (hg : guard.toInt = (g : Int)) (hgn : g < rZ ρ 212) (hl : rZ ρ (380 + g) < 6) : cpG (xlen σ guard cell) (rAdd (rar (rin ρ 0 0) (380 + g) (rpush ρ (380 + g) cell)) (380 + g)) := by
  obtain ⟨h0, ⟨s5, s6, s7, s8⟩, ⟨r5, r6, r7, r8⟩, hr⟩ := h
  have c8 : xcap 8 = 6 := by decide
  have c9 : xcap 9 = 36 := by decide
  have e8 : xat σ 8 guard = Int32.ofNat (rZ ρ (380 + g)) := (xat_g hg (by rw [c8]; omega)).trans (r8 g hgn)
  have ei := ofN6 (l := rZ ρ (380 + g)) hg (by omega) (by omega)
  have w9 : (xlen σ guard cell).2.1 9 = upd (σ.2.1 9) (6 * g + rZ ρ (380 + g)) cell := by
    unfold xlen
    rw [xput_n (by decide), e8]
    exact xput_g ei (by rw [c9]; omega)
  have w8 : (xlen σ guard cell).2.1 8 = upd (σ.2.1 8) g (Int32.ofNat (rZ ρ (380 + g)) + 1) := by
    unfold xlen
    rw [xput_g (g := g) hg (by rw [c8]; omega), xput_n (by decide), e8]
  have hx : xfr [33, 32] σ (xlen σ guard cell) := xlen.kn
  have z212 : rZ (rAdd (rar (rin ρ 0 0) (380 + g) (rpush ρ (380 + g) cell)) (380 + g)) 212 = rZ ρ 212 := if_neg (by omega)
  have zl : ∀ k : Nat, rZ (rAdd (rar (rin ρ 0 0) (380 + g) (rpush ρ (380 + g) cell)) (380 + g)) (380 + k) = if k = g then rZ ρ (380 + g) + 1 else rZ ρ (380 + k) := fun k => by
    show (if 380 + k = 380 + g then rZ ρ (380 + g) + 1 else rZ ρ (380 + k)) = _
    by_cases q : k = g
    · rw [q, if_pos rfl, if_pos rfl]
    · rw [if_neg q, if_neg (by omega)]
  have vl : ∀ k : Nat, rV (rAdd (rar (rin ρ 0 0) (380 + g) (rpush ρ (380 + g) cell)) (380 + g)) (380 + k) = if k = g then rpush ρ (380 + g) cell else rV ρ (380 + k) := fun k => by
    show (if 380 + k = 380 + g then rpush ρ (380 + g) cell else rV ρ (380 + k)) = _
    by_cases q : k = g
    · rw [q, if_pos rfl, if_pos rfl]
    · rw [if_neg q, if_neg (by omega)]
  refine ⟨by rw [z212]; exact h0, ⟨by rw [z212]; exact hx.z s5, by rw [z212]; exact hx.z s6, by rw [z212]; exact hx.z s7, by rw [z212]; exact hx.z s8⟩, ⟨by rw [z212]; exact r5.x hx, by rw [z212]; exact r6.x hx, by rw [z212]; exact r7.x hx, ?_⟩, fun k hk => ?_⟩
  · rw [z212]
    intro i hi
    refine Eq.trans ?_ (congrArg Int32.ofNat (zl i)).symm
    rw [w8]
    by_cases q : i = g
    · rw [q, pk_us, if_pos rfl]
      exact (ofN1 (by omega)).symm
    · rw [pk_un q, if_neg q]
      exact r8 i hi
  · rw [z212] at hk
    obtain ⟨a, b⟩ := hr k hk
    rw [zl k, vl k, w9]
    by_cases q : k = g
    · rw [if_pos q, if_pos q]
      refine ⟨by omega, fun i hi => ?_⟩
      show _ = (if i = rZ ρ (380 + g) then cell else rV ρ (380 + g) i)
      by_cases z : i = rZ ρ (380 + g)
      · rw [if_pos z, z, q, pk_us]
      · rw [if_neg z, pk_un (by omega), q]
        rw [q] at b
        exact b i (by omega)
    · rw [if_neg q, if_neg q]
      refine ⟨a, fun i hi => ?_⟩
      rw [pk_un (by omega)]
      exact b i hi
/-- four rows lengthened at once -/
theorem xadd4 {σ : XS} {a b c d n : Nat} {va vb vc vd : Int32} (ab : a ≠ b) (ac : a ≠ c) (ad : a ≠ d) (bc : b ≠ c) (bd : b ≠ d) (cd : c ≠ d) (sa : σ.1 a = Int32.ofNat n) (sb : σ.1 b = Int32.ofNat n) (sc : σ.1 c = Int32.ofNat n) (sd : σ.1 d = Int32.ofNat n) (na : n < xcap a) (nb : n < xcap b) (nc : n < xcap c) (nd : n < xcap d) :
    ((xadd (xadd (xadd (xadd σ a va) b vb) c vc) d vd).1 a = Int32.ofNat (n + 1) ∧ (xadd (xadd (xadd (xadd σ a va) b vb) c vc) d vd).1 b = Int32.ofNat (n + 1) ∧ (xadd (xadd (xadd (xadd σ a va) b vb) c vc) d vd).1 c = Int32.ofNat (n + 1) ∧ (xadd (xadd (xadd (xadd σ a va) b vb) c vc) d vd).1 d = Int32.ofNat (n + 1)) ∧ ((xadd (xadd (xadd (xadd σ a va) b vb) c vc) d vd).2.1 a = upd (σ.2.1 a) n va ∧ (xadd (xadd (xadd (xadd σ a va) b vb) c vc) d vd).2.1 b = upd (σ.2.1 b) n vb ∧ (xadd (xadd (xadd (xadd σ a va) b vb) c vc) d vd).2.1 c = upd (σ.2.1 c) n vc ∧ (xadd (xadd (xadd (xadd σ a va) b vb) c vc) d vd).2.1 d = upd (σ.2.1 d) n vd) ∧ ∀ j : Nat, j ≠ a → j ≠ b → j ≠ c → j ≠ d → (xadd (xadd (xadd (xadd σ a va) b vb) c vc) d vd).2.1 j = σ.2.1 j := by
  have h1 := xadd_row (σ := σ) (k := a) (v := va) sa na
  have z1 : ∀ j : Nat, j ≠ a → (xadd σ a va).1 j = σ.1 j := fun j hj => xadd_szn (σ := σ) (k := a) (j := j) (v := va) hj
  have r1 : ∀ j : Nat, j ≠ a → (xadd σ a va).2.1 j = σ.2.1 j := fun j hj => xadd_arn (σ := σ) (k := a) (j := j) (v := va) hj
  generalize xadd σ a va = s1 at h1 z1 r1 ⊢
  have h2 := xadd_row (σ := s1) (k := b) (v := vb) ((z1 b (Ne.symm ab)).trans sb) nb
  have z2 : ∀ j : Nat, j ≠ b → (xadd s1 b vb).1 j = s1.1 j := fun j hj => xadd_szn (σ := s1) (k := b) (j := j) (v := vb) hj
  have r2 : ∀ j : Nat, j ≠ b → (xadd s1 b vb).2.1 j = s1.2.1 j := fun j hj => xadd_arn (σ := s1) (k := b) (j := j) (v := vb) hj
  generalize xadd s1 b vb = s2 at h2 z2 r2 ⊢
  have h3 := xadd_row (σ := s2) (k := c) (v := vc) ((z2 c (Ne.symm bc)).trans ((z1 c (Ne.symm ac)).trans sc)) nc
  have z3 : ∀ j : Nat, j ≠ c → (xadd s2 c vc).1 j = s2.1 j := fun j hj => xadd_szn (σ := s2) (k := c) (j := j) (v := vc) hj
  have r3 : ∀ j : Nat, j ≠ c → (xadd s2 c vc).2.1 j = s2.2.1 j := fun j hj => xadd_arn (σ := s2) (k := c) (j := j) (v := vc) hj
  generalize xadd s2 c vc = s3 at h3 z3 r3 ⊢
  have h4 := xadd_row (σ := s3) (k := d) (v := vd) ((z3 d (Ne.symm cd)).trans ((z2 d (Ne.symm bd)).trans ((z1 d (Ne.symm ad)).trans sd))) nd
  have z4 : ∀ j : Nat, j ≠ d → (xadd s3 d vd).1 j = s3.1 j := fun j hj => xadd_szn (σ := s3) (k := d) (j := j) (v := vd) hj
  have r4 : ∀ j : Nat, j ≠ d → (xadd s3 d vd).2.1 j = s3.2.1 j := fun j hj => xadd_arn (σ := s3) (k := d) (j := j) (v := vd) hj
  generalize xadd s3 d vd = s4 at h4 z4 r4 ⊢
  refine ⟨⟨(z4 a ad).trans ((z3 a ac).trans ((z2 a ab).trans h1.2)), (z4 b bd).trans ((z3 b bc).trans h2.2), (z4 c cd).trans h3.2, h4.2⟩, ⟨(r4 a ad).trans ((r3 a ac).trans ((r2 a ab).trans h1.1)), ?_, ?_, ?_⟩, fun j ja jb jc jd => (r4 j jd).trans ((r3 j jc).trans ((r2 j jb).trans (r1 j ja)))⟩
  · rw [r4 b bd, r3 b bc, h2.1, r1 b (Ne.symm ab)]
  · rw [r4 c cd, h3.1, r2 c (Ne.symm bc), r1 c (Ne.symm ac)]
  · rw [h4.1, r3 d (Ne.symm cd), r2 d (Ne.symm bd), r1 d (Ne.symm ad)]
/-- a guard enlisted, out of what is known of both -/
theorem cpG.enlA {σ σ1 : XS} {ρ ρ1 : RS} {n : Nat} {cell from_ to stay : Int32} (h : cpG σ ρ) (en : rZ ρ 212 = n) (hn : n < 6) (z212 : rZ ρ1 212 = n + 1) (zl : ∀ k : Nat, rZ ρ1 (380 + k) = if k = n then 1 else rZ ρ (380 + k)) (vl : ∀ k i : Nat, rV ρ1 (380 + k) i = if k = n then (if i = 0 then cell else 0) else rV ρ (380 + k) i) (fl : ∀ k i : Nat, rF ρ1 (360 + k) i = if k = n then rgF from_ to stay i else rF ρ (360 + k) i) (b5 : σ1.1 5 = Int32.ofNat (n + 1)) (b6 : σ1.1 6 = Int32.ofNat (n + 1)) (b7 : σ1.1 7 = Int32.ofNat (n + 1)) (b8 : σ1.1 8 = Int32.ofNat (n + 1)) (f5 : σ1.2.1 5 = upd (σ.2.1 5) n from_) (f6 : σ1.2.1 6 = upd (σ.2.1 6) n to) (f7 : σ1.2.1 7 = upd (σ.2.1 7) n stay) (f8 : σ1.2.1 8 = upd (σ.2.1 8) n 1) (f9 : σ1.2.1 9 = upd (σ.2.1 9) (6 * n) cell) : cpG σ1 ρ1 := by
  obtain ⟨h0, ⟨s5, s6, s7, s8⟩, ⟨r5, r6, r7, r8⟩, hr⟩ := h
  rw [en] at h0 r5 r6 r7 r8 hr
  have hz2 : ∀ k : Nat, k < n → ¬ k = n := fun k hk => by omega
  unfold cpG
  rw [z212]
  refine ⟨by omega, ⟨b5, b6, b7, b8⟩, ⟨r5.add f5 (fun i hi => (fl i 0).trans (if_neg (hz2 i hi))) ((fl n 0).trans (if_pos rfl)), r6.add f6 (fun i hi => (fl i 1).trans (if_neg (hz2 i hi))) ((fl n 1).trans (if_pos rfl)), r7.add f7 (fun i hi => (fl i 2).trans (if_neg (hz2 i hi))) ((fl n 2).trans (if_pos rfl)), r8.add f8 (fun i hi => congrArg Int32.ofNat ((zl i).trans (if_neg (hz2 i hi)))) ((congrArg Int32.ofNat ((zl n).trans (if_pos rfl))).trans (by decide))⟩, fun k hk => ?_⟩
  by_cases q : k = n
  · rw [zl k, if_pos q]
    refine ⟨by omega, fun i hi => ?_⟩
    have ei0 : i = 0 := by omega
    rw [vl k i, if_pos q, if_pos ei0, ei0, f9, q, Nat.add_zero, pk_us]
  · obtain ⟨a, b⟩ := hr k (by omega)
    rw [zl k, if_neg q]
    refine ⟨a, fun i hi => ?_⟩
    rw [vl k i, if_neg q, f9, pk_un (by omega)]
    exact b i hi
theorem xenl_w {σ : XS} {n : Nat} {cell from_ to stay : Int32} (hn : n < 6) (s5 : σ.1 5 = Int32.ofNat n) (s6 : σ.1 6 = Int32.ofNat n) (s7 : σ.1 7 = Int32.ofNat n) (s8 : σ.1 8 = Int32.ofNat n) : ((xenl σ cell from_ to stay).1 5 = Int32.ofNat (n + 1) ∧ (xenl σ cell from_ to stay).1 6 = Int32.ofNat (n + 1) ∧ (xenl σ cell from_ to stay).1 7 = Int32.ofNat (n + 1) ∧ (xenl σ cell from_ to stay).1 8 = Int32.ofNat (n + 1)) ∧ (xenl σ cell from_ to stay).2.1 5 = upd (σ.2.1 5) n from_ ∧ (xenl σ cell from_ to stay).2.1 6 = upd (σ.2.1 6) n to ∧ (xenl σ cell from_ to stay).2.1 7 = upd (σ.2.1 7) n stay ∧ (xenl σ cell from_ to stay).2.1 8 = upd (σ.2.1 8) n 1 ∧ (xenl σ cell from_ to stay).2.1 9 = upd (σ.2.1 9) (6 * n) cell := by
  have c8 : xcap 8 = 6 := by decide
  have c9 : xcap 9 = 36 := by decide
  have h4 := xadd4 (σ := σ) (a := 5) (b := 6) (c := 7) (d := 8) (n := n) (va := from_) (vb := to) (vc := stay) (vd := 0) (by decide) (by decide) (by decide) (by decide) (by decide) (by decide) s5 s6 s7 s8 (by rw [show xcap 5 = 6 from by decide]; exact hn) (by rw [show xcap 6 = 6 from by decide]; exact hn) (by rw [show xcap 7 = 6 from by decide]; exact hn) (by rw [c8]; exact hn)
  unfold xenl xen4
  generalize xadd (xadd (xadd (xadd σ 5 from_) 6 to) 7 stay) 8 0 = s at h4 ⊢
  obtain ⟨⟨b5, b6, b7, b8⟩, ⟨f5, f6, f7, f8⟩, fj⟩ := h4
  have f9 := fj 9 (by decide) (by decide) (by decide) (by decide)
  have hg : (s.1 5 - 1).toInt = (n : Int) := by
    have e1 : (1 : Int32).toInt = 1 := by decide
    have e5 : (Int32.ofNat (n + 1)).toInt = ((n + 1 : Nat) : Int) := yofNat (by omega)
    rw [b5, ysub (by rw [e5, e1]; omega) (by rw [e5, e1]; omega), e5, e1]
    omega
  generalize s.1 5 - 1 = p at hg ⊢
  have e8 : xat s 8 p = Int32.ofNat 0 := (xat_g hg (by rw [c8]; omega)).trans ((congrFun f8 n).trans (pk_us ..))
  have ei := ofN6 (l := 0) hg (by omega) (by omega)
  have hx : xfr [33, 32] s (xlen s p cell) := xlen.kn
  have w9 : (xlen s p cell).2.1 9 = upd (σ.2.1 9) (6 * n) cell := by
    unfold xlen
    rw [xput_n (by decide), e8, xput_g ei (by rw [c9]; omega), f9, Nat.add_zero]
  have w8 : (xlen s p cell).2.1 8 = upd (σ.2.1 8) n 1 := by
    unfold xlen
    rw [xput_g (g := n) hg (by rw [c8]; omega), xput_n (by decide), e8, f8]
    funext i
    by_cases q : i = n
    · rw [q, pk_us, pk_us]
      decide
    · rw [pk_un q, pk_un q, pk_un q]
  exact ⟨⟨hx.z b5, hx.z b6, hx.z b7, hx.z b8⟩, hx.r f5, hx.r f6, hx.r f7, w8, w9⟩
theorem cpG.enl {σ : XS} {ρ : RS} {cell from_ to stay : Int32} (h : cpG σ ρ) (hn : rZ ρ 212 < 6) : cpG (xenl σ cell from_ to stay) (rAdd (rgNew (rin ρ 0 0) (rZ ρ 212) (rgF from_ to stay) cell (0 + 1)) 212) := by
  have h9 := h.2.1
  have hw := xenl_w (σ := σ) (cell := cell) (from_ := from_) (to := to) (stay := stay) hn h9.1 h9.2.1 h9.2.2.1 h9.2.2.2
  have z212 : rZ (rAdd (rgNew (rin ρ 0 0) (rZ ρ 212) (rgF from_ to stay) cell (0 + 1)) 212) 212 = rZ ρ 212 + 1 := by
    show (if 212 = 380 + rZ ρ 212 then 1 else rZ ρ 212) + 1 = _
    rw [if_neg (by omega)]
  have zl : ∀ k : Nat, rZ (rAdd (rgNew (rin ρ 0 0) (rZ ρ 212) (rgF from_ to stay) cell (0 + 1)) 212) (380 + k) = if k = rZ ρ 212 then 1 else rZ ρ (380 + k) := fun k => by
    show (if 380 + k = 212 then _ else if 380 + k = 380 + rZ ρ 212 then 1 else rZ ρ (380 + k)) = _
    rw [if_neg (by omega)]
    by_cases q : k = rZ ρ 212
    · rw [if_pos q, if_pos (by omega)]
    · rw [if_neg q, if_neg (by omega)]
  have vl : ∀ k i : Nat, rV (rAdd (rgNew (rin ρ 0 0) (rZ ρ 212) (rgF from_ to stay) cell (0 + 1)) 212) (380 + k) i = if k = rZ ρ 212 then (if i = 0 then cell else 0) else rV ρ (380 + k) i := fun k i => by
    show (if 380 + k = 380 + rZ ρ 212 then (fun i : Nat => if i = 0 then cell else 0) else rV ρ (380 + k)) i = _
    by_cases q : k = rZ ρ 212
    · rw [if_pos q, if_pos (by omega)]
    · rw [if_neg q, if_neg (by omega)]
  have fl : ∀ k i : Nat, rF (rAdd (rgNew (rin ρ 0 0) (rZ ρ 212) (rgF from_ to stay) cell (0 + 1)) 212) (360 + k) i = if k = rZ ρ 212 then rgF from_ to stay i else rF ρ (360 + k) i := fun k i => by
    show (if 360 + k = 360 + rZ ρ 212 then rgF from_ to stay i else rF ρ (360 + k) i) = _
    by_cases q : k = rZ ρ 212
    · rw [if_pos q, if_pos (by omega)]
    · rw [if_neg q, if_neg (by omega)]
  generalize rAdd (rgNew (rin ρ 0 0) (rZ ρ 212) (rgF from_ to stay) cell (0 + 1)) 212 = ρ1 at z212 zl vl fl ⊢
  generalize xenl σ cell from_ to stay = σ1 at hw ⊢
  obtain ⟨⟨b5, b6, b7, b8⟩, f5, f6, f7, f8, f9⟩ := hw
  exact h.enlA rfl hn z212 zl vl fl b5 b6 b7 b8 f5 f6 f7 f8 f9
/-- intruders: when they come, how many moves are told, their ways -/
def cpI (σ : XS) (ρ : RS) : Prop := rZ ρ 215 ≤ 4 ∧ (σ.1 16 = Int32.ofNat (rZ ρ 215) ∧ σ.1 17 = Int32.ofNat (rZ ρ 215) ∧ σ.1 18 = Int32.ofNat (rZ ρ 215)) ∧ (cpR σ 16 (rZ ρ 215) (fun k => rF ρ (420 + k) 0) ∧ cpR σ 17 (rZ ρ 215) (fun k => rF ρ (420 + k) 1)) ∧ ∀ k : Nat, k < rZ ρ 215 → ∃ f v : Nat, (rF ρ (420 + k) 0).toInt = (f : Int) ∧ (σ.2.1 18 k).toInt = (v : Int) ∧ v ≤ 14 ∧ f + v ≤ 239 ∧ ∀ m : Nat, f ≤ m → m ≤ 239 → rV ρ (440 + k) m = σ.2.1 19 (15 * k + (if m - f < v then m - f else v))
theorem cpI.x {σ σ1 : XS} {ρ : RS} {m : List Nat} (h : cpI σ ρ) (hx : xfr m σ σ1) (d16 : ¬ 16 ∈ m := by decide) (d17 : ¬ 17 ∈ m := by decide) (d18 : ¬ 18 ∈ m := by decide) (e16 : ¬ 24 + 16 ∈ m := by decide) (e17 : ¬ 24 + 17 ∈ m := by decide) (e18 : ¬ 24 + 18 ∈ m := by decide) (e19 : ¬ 24 + 19 ∈ m := by decide) : cpI σ1 ρ := by
  obtain ⟨h0, ⟨s16, s17, s18⟩, ⟨r16, r17⟩, hr⟩ := h
  refine ⟨h0, ⟨hx.z s16 d16, hx.z s17 d17, hx.z s18 d18⟩, ⟨r16.x hx e16, r17.x hx e17⟩, fun k hk => ?_⟩
  obtain ⟨f, v, a, b, c, d, e⟩ := hr k hk
  refine ⟨f, v, a, ?_, c, d, fun m h1 h2 => ?_⟩
  · rw [hx.2.1 18 e18]
    exact b
  · rw [hx.2.1 19 e19]
    exact e m h1 h2
theorem cpI.r {σ : XS} {ρ ρ1 : RS} (h : cpI σ ρ) (hz : rZ ρ1 215 = rZ ρ 215) (hv : rAt ρ ρ1 440 (rZ ρ 215)) (hF : ∀ k n : Nat, k < rZ ρ 215 → n < 2 → rF ρ1 (420 + k) n = rF ρ (420 + k) n) : cpI σ ρ1 := by
  obtain ⟨h0, ⟨s16, s17, s18⟩, ⟨r16, r17⟩, hr⟩ := h
  refine ⟨by rw [hz]; exact h0, ⟨by rw [hz]; exact s16, by rw [hz]; exact s17, by rw [hz]; exact s18⟩, ⟨r16.r hz (fun i hi => hF i 0 hi (by decide)), r17.r hz (fun i hi => hF i 1 hi (by decide))⟩, fun k hk => ?_⟩
  rw [hz] at hk
  rw [hF k 0 hk (by decide), hv k hk]
  exact hr k hk
theorem ofN15 {g l : Nat} (h6 : g ≤ 4) (hl : l ≤ 14) : (Int32.ofNat g * 15 + Int32.ofNat l).toInt = ((15 * g + l : Nat) : Int) := by
  have e6 : (15 : Int32).toInt = 15 := by decide
  have el : (Int32.ofNat l).toInt = (l : Int) := yofNat (by omega)
  have eg : (Int32.ofNat g).toInt = (g : Int) := yofNat (by omega)
  have em : (Int32.ofNat g * 15).toInt = (Int32.ofNat g).toInt * 15 := by rw [ymul (by rw [e6]; omega) (by rw [e6]; omega), e6]
  rw [yadd (by omega) (by omega)]
  omega
/-- the rounds' cells -/
theorem cp_rc {σ : XS} {ρ : RS} {cell : Int32} {c : Nat} (h : cpG σ ρ) (hc : cell.toInt = (c : Int)) : xrcQ σ (σ.1 5).toInt.toNat c ↔ ∃ k, k < rZ ρ 212 ∧ ∃ i, i < rZ ρ (380 + k) ∧ rV ρ (380 + k) i = cell := by
  obtain ⟨h0, ⟨s5, s6, s7, s8⟩, ⟨r5, r6, r7, r8⟩, hr⟩ := h
  have c8 : xcap 8 = 6 := by decide
  have c9 : xcap 9 = 36 := by decide
  have e5 : (σ.1 5).toInt.toNat = rZ ρ 212 := by
    rw [s5, yofNat (by omega)]
    omega
  have key : ∀ k : Nat, k < rZ ρ 212 → (xrcR σ (Int32.ofNat k) (xat σ 8 (Int32.ofNat k)).toInt.toNat c ↔ ∃ i, i < rZ ρ (380 + k) ∧ rV ρ (380 + k) i = cell) := by
    intro k hk
    obtain ⟨a, b⟩ := hr k hk
    have ek : (Int32.ofNat k).toInt = (k : Int) := yofNat (by omega)
    have e8 : xat σ 8 (Int32.ofNat k) = Int32.ofNat (rZ ρ (380 + k)) := (xat_g ek (by rw [c8]; omega)).trans (r8 k hk)
    have el : (xat σ 8 (Int32.ofNat k)).toInt.toNat = rZ ρ (380 + k) := by
      rw [e8, yofNat (by omega)]
      omega
    have ev : ∀ i : Nat, i < rZ ρ (380 + k) → xat σ 9 (Int32.ofNat k * 6 + Int32.ofNat i) = rV ρ (380 + k) i := fun i hi => (xat_g (g := 6 * k + i) (ofN6 ek (by omega) (by omega)) (by rw [c9]; omega)).trans (b i hi)
    unfold xrcR
    rw [el]
    constructor
    · rintro ⟨p, h1, h2⟩
      rw [ev p h1] at h2
      exact ⟨p, h1, Int32.toInt_inj.mp (h2.trans hc.symm)⟩
    · rintro ⟨p, h1, h2⟩
      refine ⟨p, h1, ?_⟩
      rw [ev p h1, h2]
      exact hc
  unfold xrcQ
  rw [e5]
  constructor
  · rintro ⟨k, hk, q⟩
    exact ⟨k, hk, (key k hk).mp q⟩
  · rintro ⟨k, hk, q⟩
    exact ⟨k, hk, (key k hk).mpr q⟩
/-- the ways' cells -/
theorem cp_wy {σ : XS} {ρ : RS} {cell : Int32} {c : Nat} (h : cpI σ ρ) (hc : cell.toInt = (c : Int)) : xwyQ σ (σ.1 16).toInt.toNat c ↔ ∃ k, k < rZ ρ 215 ∧ ∃ m, m < 240 ∧ rwh ρ k m = cell := by
  obtain ⟨h0, ⟨s16, s17, s18⟩, ⟨r16, r17⟩, hr⟩ := h
  have c18 : xcap 18 = 4 := by decide
  have c19 : xcap 19 = 60 := by decide
  have em1 : (-1 : Int32).toInt = -1 := by decide
  have e5 : (σ.1 16).toInt.toNat = rZ ρ 215 := by
    rw [s16, yofNat (by omega)]
    omega
  have key : ∀ k : Nat, k < rZ ρ 215 → (xwyR σ (Int32.ofNat k) ((xat σ 18 (Int32.ofNat k)).toInt + 1).toNat c ↔ ∃ m, m < 240 ∧ rwh ρ k m = cell) := by
    intro k hk
    obtain ⟨f, v, hf, hv, v14, fv, hw⟩ := hr k hk
    have ek : (Int32.ofNat k).toInt = (k : Int) := yofNat (by omega)
    have e8 : xat σ 18 (Int32.ofNat k) = σ.2.1 18 k := xat_g ek (by rw [c18]; omega)
    have el : ((xat σ 18 (Int32.ofNat k)).toInt + 1).toNat = v + 1 := by
      rw [e8, hv]
      omega
    have ev : ∀ i : Nat, i ≤ v → xat σ 19 (Int32.ofNat k * 15 + Int32.ofNat i) = σ.2.1 19 (15 * k + i) := fun i hi => xat_g (g := 15 * k + i) (ofN15 (by omega) (by omega)) (by rw [c19]; omega)
    unfold xwyR
    rw [el]
    constructor
    · rintro ⟨p, h1, h2⟩
      rw [ev p (by omega)] at h2
      refine ⟨f + p, by omega, ?_⟩
      have e := hw (f + p) (by omega) (by omega)
      have ei : (if f + p - f < v then f + p - f else v) = p := by
        split <;> omega
      rw [ei] at e
      unfold rwh
      rw [if_neg (by rw [hf]; omega), e]
      exact Int32.toInt_inj.mp (h2.trans hc.symm)
    · rintro ⟨m, h1, h2⟩
      unfold rwh at h2
      by_cases q : (m : Int) < (rF ρ (420 + k) 0).toInt
      · rw [if_pos q] at h2
        exfalso
        rw [← h2, em1] at hc
        omega
      · rw [if_neg q] at h2
        rw [hf] at q
        have e := hw m (by omega) (by omega)
        refine ⟨if m - f < v then m - f else v, by split <;> omega, ?_⟩
        rw [ev _ (by split <;> omega), ← e, h2]
        exact hc
  unfold xwyQ
  rw [e5]
  constructor
  · rintro ⟨k, hk, q⟩
    exact ⟨k, hk, (key k hk).mp q⟩
  · rintro ⟨k, hk, q⟩
    exact ⟨k, hk, (key k hk).mpr q⟩
/-- a cell is taken for the class as for the reference -/
theorem cp_taken {σ : XS} {ρ : RS} {cell : Int32} {c : Nat} (hA : cpA σ ρ) (hP : cpP σ ρ) (hG : cpG σ ρ) (hI : cpI σ ρ) (hc : cell.toInt = (c : Int)) : ¬ xtkQ σ c ↔ rfree ρ cell := by
  have a1 := cp_as hA.2.2.1 (by rw [show xcap 0 = 6 from by decide]; exact hA.1) hA.2.1.1 hc
  have a2 := cp_as hP.2.2 (by rw [show xcap 10 = 4 from by decide]; exact hP.1) hP.2.1 hc
  have a3 := cp_rc hG hc
  have a4 := cp_wy hI hc
  unfold xtkQ
  rw [a1, a2, a3, a4]
  constructor
  · intro h
    refine ⟨fun k hk q => h (Or.inl (Or.inl (Or.inl ⟨k, hk, q⟩))), fun k hk q => h (Or.inl (Or.inl (Or.inr ⟨k, hk, q⟩))), fun k hk i hi q => h (Or.inl (Or.inr ⟨k, hk, i, hi, q⟩)), fun k hk m hm q => h (Or.inr ⟨k, hk, m, hm, q⟩)⟩
  · rintro ⟨f1, f2, f3, f4⟩ (((⟨k, hk, q⟩ | ⟨k, hk, q⟩) | ⟨k, hk, i, hi, q⟩) | ⟨k, hk, m, hm, q⟩)
    · exact f1 k hk q
    · exact f2 k hk q
    · exact f3 k hk i hi q
    · exact f4 k hk m hm q
/-! ===== the whole coupling ===== -/
abbrev cpL (σ : XS) (ρ : RS) : Prop := σ.2.2.1 4 = rI ρ 5 ∧ σ.1 12 = rI ρ 6 ∧ yaft (σ.2.2.1 5) = rI ρ 7 ∧ ∀ j : Nat, j < 4 → σ.2.1 11 j = rV ρ 202 j
theorem cpL.x {σ σ1 : XS} {ρ : RS} {m : List Nat} (h : cpL σ ρ) (hx : xfr m σ σ1) (d4 : ¬ 48 + 4 ∈ m := by decide) (d12 : ¬ 12 ∈ m := by decide) (d5 : ¬ 48 + 5 ∈ m := by decide) (d11 : ¬ 24 + 11 ∈ m := by decide) : cpL σ1 ρ := ⟨hx.i h.1 d4, hx.z h.2.1 d12, (congrArg yaft (hx.2.2.1 5 d5)).trans h.2.2.1, fun j hj => (congrFun (hx.2.1 11 d11) j).trans (h.2.2.2 j hj)⟩
theorem cpL.r {σ : XS} {ρ ρ1 : RS} (h : cpL σ ρ) (h5 : rI ρ1 5 = rI ρ 5) (h6 : rI ρ1 6 = rI ρ 6) (h7 : rI ρ1 7 = rI ρ 7) (hv : rV ρ1 202 = rV ρ 202) : cpL σ ρ1 := ⟨h.1.trans h5.symm, h.2.1.trans h6.symm, h.2.2.1.trans h7.symm, fun j hj => (h.2.2.2 j hj).trans (congrFun hv.symm j)⟩
/-- how wide and how high -/
def cpD (σ : XS) (ρ : RS) : Prop := σ.2.2.1 0 = rI ρ 1 ∧ σ.2.2.1 1 = rI ρ 2 ∧ σ.2.2.1 0 * σ.2.2.1 1 = Int32.ofNat (rZ ρ 201)
theorem cpD.x {σ σ1 : XS} {ρ : RS} {m : List Nat} (h : cpD σ ρ) (hx : xfr m σ σ1) (d0 : ¬ 48 + 0 ∈ m := by decide) (d1 : ¬ 48 + 1 ∈ m := by decide) : cpD σ1 ρ := by
  unfold cpD
  rw [hx.2.2.1 0 d0, hx.2.2.1 1 d1]
  exact h
theorem cpD.r {σ : XS} {ρ ρ1 : RS} (h : cpD σ ρ) (h1 : rI ρ1 1 = rI ρ 1) (h2 : rI ρ1 2 = rI ρ 2) (hz : rZ ρ1 201 = rZ ρ 201) : cpD σ ρ1 := by
  unfold cpD
  rw [h1, h2, hz]
  exact h
theorem cpY.x {σ σ1 : XS} {ρ : RS} {m : List Nat} (h : cpY σ ρ) (hx : xfr m σ σ1) (d : ¬ 24 + 15 ∈ m := by decide) : cpY σ1 ρ := cpR.x h hx d
theorem cpY.r {σ : XS} {ρ ρ1 : RS} (h : cpY σ ρ) (hv : ∀ i : Nat, i < 6 → rV ρ1 203 i = rV ρ 203 i) : cpY σ ρ1 := cpR.r h rfl hv
def cph (σ : XS) (ρ : RS) : Prop := (σ.2.2.1 7 = rI ρ 9) ∧ cpL σ ρ ∧ cpD σ ρ ∧ cpK σ ρ ∧ cpT σ ρ ∧ cpA σ ρ ∧ cpF σ ρ ∧ cpW σ ρ ∧ cpP σ ρ ∧ cpY σ ρ ∧ cpG σ ρ ∧ cpI σ ρ
theorem cph.k {σ : XS} {ρ : RS} (h : cph σ ρ) : σ.2.2.1 7 = rI ρ 9 := h.1
theorem cph.L {σ : XS} {ρ : RS} (h : cph σ ρ) : cpL σ ρ := h.2.1
theorem cph.D {σ : XS} {ρ : RS} (h : cph σ ρ) : cpD σ ρ := h.2.2.1
theorem cph.K {σ : XS} {ρ : RS} (h : cph σ ρ) : cpK σ ρ := h.2.2.2.1
theorem cph.T {σ : XS} {ρ : RS} (h : cph σ ρ) : cpT σ ρ := h.2.2.2.2.1
theorem cph.A {σ : XS} {ρ : RS} (h : cph σ ρ) : cpA σ ρ := h.2.2.2.2.2.1
theorem cph.F {σ : XS} {ρ : RS} (h : cph σ ρ) : cpF σ ρ := h.2.2.2.2.2.2.1
theorem cph.W {σ : XS} {ρ : RS} (h : cph σ ρ) : cpW σ ρ := h.2.2.2.2.2.2.2.1
theorem cph.P {σ : XS} {ρ : RS} (h : cph σ ρ) : cpP σ ρ := h.2.2.2.2.2.2.2.2.1
theorem cph.Y {σ : XS} {ρ : RS} (h : cph σ ρ) : cpY σ ρ := h.2.2.2.2.2.2.2.2.2.1
theorem cph.G {σ : XS} {ρ : RS} (h : cph σ ρ) : cpG σ ρ := h.2.2.2.2.2.2.2.2.2.2.1
theorem cph.I {σ : XS} {ρ : RS} (h : cph σ ρ) : cpI σ ρ := h.2.2.2.2.2.2.2.2.2.2.2
/-- what stays in the reference but one size, two sizes, a row, an object's fields -/
def rFrm (J : List Nat) (z1 z2 v1 f1 : Nat) (ρ ρ1 : RS) : Prop := (∀ k : Nat, ¬ k ∈ J → rI ρ1 k = rI ρ k) ∧ (∀ t : Nat, t ≠ z1 → t ≠ z2 → rZ ρ1 t = rZ ρ t) ∧ (∀ t : Nat, t ≠ v1 → rV ρ1 t = rV ρ t) ∧ (∀ t n : Nat, t ≠ f1 → rF ρ1 t n = rF ρ t n)
theorem rFrm.i {J : List Nat} {z1 z2 v1 f1 : Nat} {ρ ρ1 : RS} (h : rFrm J z1 z2 v1 f1 ρ ρ1) : ∀ k : Nat, ¬ k ∈ J → rI ρ1 k = rI ρ k := h.1
theorem rFrm.z {J : List Nat} {z1 z2 v1 f1 : Nat} {ρ ρ1 : RS} (h : rFrm J z1 z2 v1 f1 ρ ρ1) : ∀ t : Nat, t ≠ z1 → t ≠ z2 → rZ ρ1 t = rZ ρ t := h.2.1
theorem rFrm.v {J : List Nat} {z1 z2 v1 f1 : Nat} {ρ ρ1 : RS} (h : rFrm J z1 z2 v1 f1 ρ ρ1) : ∀ t : Nat, t ≠ v1 → rV ρ1 t = rV ρ t := h.2.2.1
theorem rFrm.f {J : List Nat} {z1 z2 v1 f1 : Nat} {ρ ρ1 : RS} (h : rFrm J z1 z2 v1 f1 ρ ρ1) : ∀ t n : Nat, t ≠ f1 → rF ρ1 t n = rF ρ t n := h.2.2.2
/-- what of the class the coupling doesn't speak of -/
abbrev NH : List Nat := [13, 14, 19, 20, 21, 37, 38, 44, 45, 54, 56, 57, 61]
