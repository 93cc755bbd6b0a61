abbrev xoEmpty (p0 p1 : Int32) (r : Option Value) (nv : Int64) (σ σ1 : XS) : Prop := (((0 ≤ p0 ∧ p0 ≤ σ.1 10 - 1)) ∧ r = some (.int 0) ∧ nv = Int32.toInt64 (if p1 = 0 then xemN σ p0 else xem1 σ p0) ∧ xfr [] σ σ1 ∧ σ1 = σ) ∨ ((¬ (0 ≤ p0 ∧ p0 ≤ σ.1 10 - 1)) ∧ r = some (.int 1) ∧ σ1 = σ)
abbrev xoOfWire (p0 p1 : Int32) (r : Option Value) (nv : Int64) (σ σ1 : XS) : Prop := (((0 ≤ p0 ∧ p0 ≤ σ.1 22 - 1) ∧ (0 ≤ p1 ∧ p1 ≤ 4)) ∧ r = some (.int 0) ∧ nv = Int32.toInt64 (if p1 = 0 then xat σ 22 p0 else if p1 = 1 then xat σ 23 p0 else if p1 = 2 then xrgN σ p0 0 else if p1 = 3 then xrgN σ p0 1 else xtrN σ p0) ∧ xfr [] σ σ1 ∧ σ1 = σ) ∨ ((¬ (0 ≤ p0 ∧ p0 ≤ σ.1 22 - 1)) ∧ r = some (.int 1) ∧ σ1 = σ) ∨ (((0 ≤ p0 ∧ p0 ≤ σ.1 22 - 1) ∧ (¬ (0 ≤ p1 ∧ p1 ≤ 4))) ∧ r = some (.int 2) ∧ σ1 = σ)
/-! ===== posts that are empty, wires that ring ===== -/
theorem i32or {a b : Int32} : a ||| b = 0 ↔ a = 0 ∧ b = 0 := by
  have e0_w : (0 : Int32).toBitVec = 0#32 := rfl
  rw [← Int32.toBitVec_inj, ← Int32.toBitVec_inj, ← Int32.toBitVec_inj, Int32.toBitVec_or, e0_w]
  exact BitVec.or_eq_zero_iff
theorem i32sh : ∀ n : Nat, n < 8 → ¬ (1 : Int32) <<< (Int32.ofNat n &&& 31) = 0 := by decide
theorem ofNat_cl {j : Nat} (h : j ≤ 1000) : Int32.toNatClampNeg (Int32.ofNat j) = j := by
  show (Int32.ofNat j).toInt.toNat = j
  rw [yofNat (by omega)]
  omega
theorem cnN {n : Nat} (h : n ≤ 1000) : (Int32.ofNat n).toInt.toNat = n := ofNat_cl h
/-- how often, counted up -/
theorem itI_cnt {P : Int32 → Prop} [DecidablePred P] : ∀ n : Nat, n ≤ 1000 → 0 ≤ (itI (fun p (a : Int32) => a + (if P p then 1 else 0)) 0 n).toInt ∧ (itI (fun p (a : Int32) => a + (if P p then 1 else 0)) 0 n).toInt ≤ (n : Int)
  | 0, _ => ⟨(by show 0 ≤ (0 : Int32).toInt; decide), (by show (0 : Int32).toInt ≤ ((0 : Nat) : Int); decide)⟩
  | n + 1, h => by
    have e1 : (1 : Int32).toInt = 1 := by decide
    have e0_w : (0 : Int32).toInt = 0 := by decide
    obtain ⟨a, b⟩ := itI_cnt (P := P) n (by omega)
    show 0 ≤ (itI (fun p (a : Int32) => a + (if P p then 1 else 0)) 0 n + (if P (Int32.ofNat n) then 1 else 0)).toInt ∧ (itI (fun p (a : Int32) => a + (if P p then 1 else 0)) 0 n + (if P (Int32.ofNat n) then 1 else 0)).toInt ≤ ((n + 1 : Nat) : Int)
    generalize itI (fun p (a : Int32) => a + (if P p then 1 else 0)) 0 n = x at a b ⊢
    split
    · rw [yadd (by rw [e1]; omega) (by rw [e1]; omega), e1]
      omega
    · rw [yadd (by rw [e0_w]; omega) (by rw [e0_w]; omega), e0_w]
      omega
theorem xhld_set {σ : XS} {m : Int32} : ∀ n : Nat, xse (itI (xhldF σ m) 0 n) (fun c => ∃ p, p < n ∧ (xsta σ (Int32.ofNat p) m).toInt = (c : Int))
  | 0 => xse.z.cg (fun _ _ => ex0.symm)
  | n + 1 => (xhld_set n).or1.cg (fun c _ => by rw [exS])
theorem ronc_0 {ρ : RS} {cell m : Int32} : ∀ n : Nat, n ≤ 6 → (itI (roncF ρ cell m) 0 n = 0 ↔ ∀ p : Nat, p < n → ¬ rpl ρ p m = cell)
  | 0, _ => ⟨fun _ p hp => absurd hp (Nat.not_lt_zero p), fun _ => rfl⟩
  | n + 1, h => by
    have ih_w := ronc_0 (ρ := ρ) (cell := cell) (m := m) n (by omega)
    have hs := i32sh n (by omega)
    show itI (roncF ρ cell m) 0 n ||| (if rpl ρ (Int32.toNatClampNeg (Int32.ofNat n)) m = cell then 1 <<< (Int32.ofNat n &&& 31) else 0) = 0 ↔ _
    rw [i32or, ih_w, ofNat_cl (by omega)]
    constructor
    · rintro ⟨h1, h2⟩ p hp
      by_cases q : p = n
      · subst q
        intro z
        rw [if_pos z] at h2
        exact hs h2
      · exact h1 p (by omega)
    · intro h1
      exact ⟨fun p hp => h1 p (by omega), if_neg (h1 n (by omega))⟩
section YRI
variable {ρ : RS} {g w : Nat} {c m : Int32}
theorem ronc_in : ronc (rin ρ 0 0) c m = ronc ρ c m := rfl
theorem rthN_in : rthN (rin ρ 0 0) c m = rthN ρ c m := rfl
theorem remC_in : remC (rin ρ 0 0) g = remC ρ g := by
  funext i a
  show (if ronc (rin ρ 0 0) (rV ρ 213 g) i = 0 then a + 1 else a) = (if ronc ρ (rV ρ 213 g) i = 0 then a + 1 else a)
  rw [ronc_in]
theorem remF_in : ffF (remQ (rin ρ 0 0) g) = ffF (remQ ρ g) := by
  funext i a
  show (if a = -1 ∧ ronc (rin ρ 0 0) (rV ρ 213 g) i = 0 then i else a) = (if a = -1 ∧ ronc ρ (rV ρ 213 g) i = 0 then i else a)
  rw [ronc_in]
theorem remN_in {f : Int32} : remN (rin ρ 0 0) g f = remN ρ g f := by
  unfold remN
  rw [remC_in, remF_in]
theorem rrgF_in : rrgF (rin ρ 0 0) w = rrgF ρ w := by
  funext i a
  show (if rV ρ (340 + w) 1 ≤ rnoi ρ w i + 5 * rthN (rin ρ 0 0) (rV ρ (340 + w) 0) i then a + 1 else a) = (if rV ρ (340 + w) 1 ≤ rnoi ρ w i + 5 * rthN ρ (rV ρ (340 + w) 0) i then a + 1 else a)
  rw [rthN_in]
theorem rrfF_in : rrfF (rin ρ 0 0) w = rrfF ρ w := by
  funext i a
  show (if rV ρ (340 + w) 1 ≤ rnoi ρ w i + 5 * rthN (rin ρ 0 0) (rV ρ (340 + w) 0) i then a + (if rthN (rin ρ 0 0) (rV ρ (340 + w) 0) i = 0 then 1 else 0) else a) = (if rV ρ (340 + w) 1 ≤ rnoi ρ w i + 5 * rthN ρ (rV ρ (340 + w) 0) i then a + (if rthN ρ (rV ρ (340 + w) 0) i = 0 then 1 else 0) else a)
  rw [rthN_in]
theorem rrtF_in : rrtF (rin ρ 0 0) w = rrtF ρ w := by
  funext i a
  show (if rV ρ (340 + w) 1 ≤ rnoi ρ w i + 5 * rthN (rin ρ 0 0) (rV ρ (340 + w) 0) i then (if 0 < rthN (rin ρ 0 0) (rV ρ (340 + w) 0) i then (if a = -1 then i else a) else a) else a) = (if rV ρ (340 + w) 1 ≤ rnoi ρ w i + 5 * rthN ρ (rV ρ (340 + w) 0) i then (if 0 < rthN ρ (rV ρ (340 + w) 0) i then (if a = -1 then i else a) else a) else a)
  rw [rthN_in]
theorem rwnN_in {what : Int32} : rwnN (rin ρ 0 0) w what = rwnN ρ w what := by
  unfold rwnN
  rw [rrgF_in, rrfF_in, rrtF_in]
end YRI
section YCR
variable {σ σ1 : XS} {ρ ρ1 : RS} {v1 v2 : Int32} {nv1 : Int64}
theorem xem_eq {p0 m : Int32} {g mm : Nat} (hr : rb ρ) (hc : cph σ ρ) (hg : p0.toInt = (g : Int)) (hg2 : g < rZ ρ 213) (hm : m.toInt = (mm : Int)) (hm2 : mm ≤ 239) : xemQ σ p0 m ↔ remQ ρ g m := by
  have h4 := hc.P.1
  have h6 := hc.G.1
  have n64 := hr.n64
  have ex : xat σ 10 p0 = rV ρ 213 g := (xat_g hg (by rw [show xcap 10 = 4 from by decide]; omega)).trans (hc.P.2.2 g hg2)
  obtain ⟨k0_w, k1_w⟩ := hr.2.2.2.2.2.2.2 g hg2
  have hk : (rV ρ 213 g).toInt = ((rV ρ 213 g).toInt.toNat : Int) := by omega
  have en : (σ.1 5).toInt.toNat = rZ ρ 212 := by rw [hc.G.2.1.1, cnN (by omega)]
  have en2 : (Int32.ofNat (rZ ρ 212)).toInt.toNat = rZ ρ 212 := cnN (by omega)
  unfold xemQ remQ xhld ronc
  rw [ex, en, en2, ronc_0 _ (by omega), xis_bt hk (by omega), (xhld_set (rZ ρ 212) _ (by omega))]
  have key_w : ∀ p : Nat, p < rZ ρ 212 → xsta σ (Int32.ofNat p) m = rpl ρ p m := fun p hp => sta_pl hr hc (yofNat (by omega)) hp hm hm2
  constructor
  · intro h p hp q
    refine h ⟨p, hp, ?_⟩
    rw [key_w p hp, q]
    exact hk
  · rintro h ⟨p, hp, q⟩
    rw [key_w p hp] at q
    exact h p hp (Int32.toInt_inj.mp (q.trans hk.symm))
theorem c240 : (240 : Int32).toInt.toNat = 240 := by decide
theorem cp_empty {p0 p1 : Int32} (hr : rb ρ) (hc : cph σ ρ) (h1 : xoEmpty p0 p1 (some (.int v1)) nv1 σ σ1) (h2 : roEmpty p0 p1 (some (.int v2)) ρ ρ1) : CPR σ1 ρ1 v1 nv1 v2 := by
  have e1 : (0 ≤ p0 ∧ p0 ≤ σ.1 10 - 1) ↔ (0 ≤ p0 ∧ p0 ≤ Int32.ofNat (rZ ρ 213) - 1) := by rw [hc.P.2.1]
  rcases uno h1 h2 e1 with ⟨c1_w, ⟨a1_w, a2, a3, a4⟩, b1, b2, b3⟩ | b
  · cases a1_w
    cases b1
    have a4 := a4.symm
    subst a4
    have h4 := hc.P.1
    obtain ⟨g, hg, hg2, hk⟩ := guardN (by omega) c1_w
    refine ⟨hc.sm b3, b2, fun _ => ?_⟩
    have key_w : ∀ j : Nat, j < 240 → (xemQ σ p0 (Int32.ofNat j) ↔ remQ ρ g (Int32.ofNat j)) := fun j hj => xem_eq hr hc hg hg2 (yofNat (by omega)) (by omega)
    rw [a2, hk, remN_in]
    refine congrArg Int32.toInt64 ?_
    unfold remN xemN xem1
    rw [c240]
    by_cases q : p1 = 0
    · rw [if_pos q, if_pos q]
      refine itI_cg (fun j hj => ?_)
      funext a
      show (if xemQ σ p0 (Int32.ofNat j) then a + 1 else a) = (if remQ ρ g (Int32.ofNat j) then a + 1 else a)
      by_cases z : remQ ρ g (Int32.ofNat j)
      · rw [if_pos z, if_pos ((key_w j hj).mpr z)]
      · rw [if_neg z, if_neg (fun w => z ((key_w j hj).mp w))]
    · rw [if_neg q, if_neg q]
      refine itI_cg (fun j hj => ?_)
      funext a
      show (if xemQ σ p0 (Int32.ofNat j) then (if a = -1 then Int32.ofNat j else a) else a) = (if a = -1 ∧ remQ ρ g (Int32.ofNat j) then Int32.ofNat j else a)
      by_cases z : remQ ρ g (Int32.ofNat j)
      · rw [if_pos ((key_w j hj).mpr z)]
        by_cases w : a = -1
        · rw [if_pos w, if_pos ⟨w, z⟩]
        · rw [if_neg w, if_neg (fun t => w t.1)]
      · rw [if_neg (fun w => z ((key_w j hj).mp w)), if_neg (fun t => z t.2)]
  · exact cfail hc (by decide) b
theorem xon_eq {cell m : Int32} {mm : Nat} (hc : cph σ ρ) (hm : m.toInt = (mm : Int)) (hm2 : mm ≤ 239) : xonN σ cell m = rthN ρ cell m := by
  have h4 := hc.I.1
  unfold xonN rthN
  rw [hc.I.2.1.1, cnN (by omega)]
  refine itI_cg (fun j hj => ?_)
  funext a
  have em : Int32.toNatClampNeg m = mm := by
    show m.toInt.toNat = mm
    omega
  have e := cel_wh (p0 := Int32.ofNat j) (p1 := m) hc (yofNat (by omega)) hj hm hm2
  show a + (if xcel σ (Int32.ofNat j) m = cell then 1 else 0) = a + (if rwh ρ (Int32.toNatClampNeg (Int32.ofNat j)) (Int32.toNatClampNeg m) = cell then 1 else 0)
  rw [e, ofNat_cl (by omega), em]
theorem rth_0 {cell m : Int32} (hc : cph σ ρ) : 0 ≤ (rthN ρ cell m).toInt := by
  have h4 := hc.I.1
  unfold rthN
  rw [cnN (by omega)]
  exact (itI_cnt (P := fun p => rwh ρ (Int32.toNatClampNeg p) (Int32.toNatClampNeg m) = cell) _ (by omega)).1
theorem cp_ofWire {p0 p1 : Int32} (hc : cph σ ρ) (h1 : xoOfWire p0 p1 (some (.int v1)) nv1 σ σ1) (h2 : roOfWire p0 p1 (some (.int v2)) ρ ρ1) : CPR σ1 ρ1 v1 nv1 v2 := by
  have e1 : (0 ≤ p0 ∧ p0 ≤ σ.1 22 - 1) ↔ (0 ≤ p0 ∧ p0 ≤ Int32.ofNat (rZ ρ 216) - 1) := by rw [hc.W.2.1.1]
  have h3 : ((0 ≤ p0 ∧ p0 ≤ Int32.ofNat (rZ ρ 216) - 1) ∧ (0 ≤ p1 ∧ p1 ≤ 4) ∧ (some (Value.int v2) = some (.int (rwnN (rin ρ 0 0) (Int32.toNatClampNeg p0) p1)) ∧ rI ρ1 0 = 0 ∧ rSm ρ ρ1)) ∨ (¬ (0 ≤ p0 ∧ p0 ≤ Int32.ofNat (rZ ρ 216) - 1) ∧ (rI ρ1 0 = 1 ∧ rSm ρ ρ1)) ∨ (((0 ≤ p0 ∧ p0 ≤ Int32.ofNat (rZ ρ 216) - 1) ∧ ¬ (0 ≤ p1 ∧ p1 ≤ 4)) ∧ (rI ρ1 0 = 2 ∧ rSm ρ ρ1)) := by
    rcases h2 with ⟨⟨q1_w, q2_w⟩, q3_w⟩ | q | q
    · exact Or.inl ⟨q1_w, q2_w, q3_w⟩
    · exact Or.inr (Or.inl q)
    · exact Or.inr (Or.inr q)
  rcases duo h1 h3 e1 (fun _ => Iff.rfl) with ⟨⟨c1_w, c3_w⟩, ⟨a1_w, a2, a3, a4⟩, b1, b2, b3⟩ | b | b
  · cases a1_w
    cases b1
    have a4 := a4.symm
    subst a4
    have h5 := hc.W.1
    obtain ⟨g, hg, hg2, hk⟩ := guardN (by omega) c1_w
    refine ⟨hc.sm b3, b2, fun _ => ?_⟩
    have f22 : xat σ 22 p0 = rV ρ (340 + g) 0 := (xat_g hg (by rw [show xcap 22 = 5 from by decide]; omega)).trans (hc.W.2.2.1 g hg2)
    have f23 : xat σ 23 p0 = rV ρ (340 + g) 1 := (xat_g hg (by rw [show xcap 23 = 5 from by decide]; omega)).trans (hc.W.2.2.2 g hg2)
    have ez : (0 : Int32).toInt = 0 := by decide
    have kn : ∀ j : Nat, j < 240 → xonN σ (xat σ 22 p0) (Int32.ofNat j) = rthN ρ (rV ρ (340 + g) 0) (Int32.ofNat j) := fun j hj => by
      rw [f22]
      exact xon_eq hc (yofNat (by omega)) (by omega)
    have kq : ∀ j : Nat, j < 240 → (xrgQ σ p0 (Int32.ofNat j) ↔ rrgQ ρ g (Int32.ofNat j)) := fun j hj => by
      unfold xrgQ rrgQ xnoi rnoi
      rw [kn j hj, f22, f23]
    have ki : ∀ j : Nat, j < 240 → (xiwQ σ p0 (Int32.ofNat j) ↔ rtwQ ρ g (Int32.ofNat j)) := fun j hj => by
      unfold xiwQ rtwQ
      rw [kn j hj]
    have kz : ∀ j : Nat, (rthN ρ (rV ρ (340 + g) 0) (Int32.ofNat j) = 0 ↔ ¬ rtwQ ρ g (Int32.ofNat j)) := fun j => by
      have t := rth_0 (cell := rV ρ (340 + g) 0) (m := Int32.ofNat j) hc
      unfold rtwQ
      rw [ylt, ez]
      constructor
      · intro q
        rw [q, ez]
        omega
      · intro q
        exact Int32.toInt_inj.mp (by rw [ez]; omega)
    rw [a2, hk, rwnN_in]
    refine congrArg Int32.toInt64 ?_
    have n0 : ¬ (0 : Int32) = 1 := by decide
    unfold rwnN xrgN xtrN
    rw [c240]
    obtain ⟨c30_w, c34_w⟩ := c3_w
    have l0 : (0 : Int32) < 2 := by decide
    have l1 : (1 : Int32) < 2 := by decide
    by_cases q0 : p1 = 0
    · subst q0
      rw [if_pos rfl, if_pos l0]
      exact f22
    · rw [if_neg q0]
      by_cases q1_w : p1 = 1
      · subst q1_w
        rw [if_pos rfl, if_pos l1]
        exact f23
      · rw [if_neg q1_w]
        have ng : ¬ p1 < 2 := fun z => by
          have e4_w : (4 : Int32).toInt = 4 := by decide
          have e2_w : (2 : Int32).toInt = 2 := by decide
          rw [ylt, e2_w] at z
          rw [yle, ez] at c30_w
          have w0_w : ¬ p1.toInt = 0 := fun t => q0 (Int32.toInt_inj.mp (t.trans ez.symm))
          have w1_w : ¬ p1.toInt = 1 := fun t => q1_w (Int32.toInt_inj.mp (t.trans (by decide)))
          omega
        rw [if_neg ng]
        by_cases q2_w : p1 = 2
        · rw [if_pos q2_w, if_pos q2_w]
          refine itI_cg (fun j hj => ?_)
          funext a
          show (if xrgQ σ p0 (Int32.ofNat j) then (if (0 : Int32) = 0 then a + 1 else if xiwQ σ p0 (Int32.ofNat j) then a else a + 1) else a) = (if rrgQ ρ g (Int32.ofNat j) then a + 1 else a)
          by_cases z : rrgQ ρ g (Int32.ofNat j)
          · rw [if_pos z, if_pos ((kq j hj).mpr z), if_pos rfl]
          · rw [if_neg z, if_neg (fun w => z ((kq j hj).mp w))]
        · rw [if_neg q2_w, if_neg q2_w]
          by_cases q3_w : p1 = 3
          · rw [if_pos q3_w, if_pos q3_w]
            refine itI_cg (fun j hj => ?_)
            funext a
            show (if xrgQ σ p0 (Int32.ofNat j) then (if (1 : Int32) = 0 then a + 1 else if xiwQ σ p0 (Int32.ofNat j) then a else a + 1) else a) = (if rrgQ ρ g (Int32.ofNat j) then a + (if rthN ρ (rV ρ (340 + g) 0) (Int32.ofNat j) = 0 then 1 else 0) else a)
            by_cases z : rrgQ ρ g (Int32.ofNat j)
            · rw [if_pos z, if_pos ((kq j hj).mpr z), if_neg (fun t : (1 : Int32) = 0 => absurd t (by decide))]
              by_cases w : rtwQ ρ g (Int32.ofNat j)
              · rw [if_pos ((ki j hj).mpr w), if_neg (fun t => (kz j).mp t w), Int32.add_zero]
              · rw [if_neg (fun t => w ((ki j hj).mp t)), if_pos ((kz j).mpr w)]
            · rw [if_neg z, if_neg (fun w => z ((kq j hj).mp w))]
          · rw [if_neg q3_w, if_neg q3_w]
            refine itI_cg (fun j hj => ?_)
            funext a
            show (if a = -1 ∧ xiwQ σ p0 (Int32.ofNat j) ∧ xrgQ σ p0 (Int32.ofNat j) then Int32.ofNat j else a) = (if rrgQ ρ g (Int32.ofNat j) then (if rtwQ ρ g (Int32.ofNat j) then (if a = -1 then Int32.ofNat j else a) else a) else a)
            by_cases z : rrgQ ρ g (Int32.ofNat j)
            · rw [if_pos z]
              by_cases w : rtwQ ρ g (Int32.ofNat j)
              · rw [if_pos w]
                by_cases t : a = -1
                · rw [if_pos t, if_pos ⟨t, (ki j hj).mpr w, (kq j hj).mpr z⟩]
                · rw [if_neg t, if_neg (fun s => t s.1)]
              · rw [if_neg w, if_neg (fun s => w ((ki j hj).mp s.2.1))]
            · rw [if_neg z, if_neg (fun s => z ((kq j hj).mp s.2.2))]
  · exact cfail hc (by decide) b
  · exact cfail hc (by decide) b
end YCR
