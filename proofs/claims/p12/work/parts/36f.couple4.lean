/-! ===== how class and reference are tied: 36f ===== -/
/-! ===== words, a new base, a new night ===== -/
theorem keys0 {ρ : RS} (hr : rb ρ) (h : rZ ρ 201 = 0) : ∀ i : Nat, i < 6 → rV ρ 203 i = -1 := by
  intro i hi
  have hk := hr.2.2.2.2.1 i hi
  rcases hk with hk | hk
  · exact hk
  · exfalso
    have h0 : 0 < rZ ρ 212 := by omega
    obtain ⟨-, -, g1, -, g2⟩ := hr.2.2.1 0 h0
    have g3 := (g2 0 (by omega)).2
    rw [h] at g3
    have g4 := (g2 0 (by omega)).1
    omega
theorem cph.beg {σ σ1 : XS} {ρ s ρ1 : RS} {n : Int32} (h : cph σ ρ) (hr : rb ρ) (hs : (∀ k : Nat, k ≠ 0 → k ≠ 5 → rI s k = rI ρ k) ∧ (∀ t : Nat, rZ s t = rZ ρ t) ∧ (∀ t : Nat, rV s t = rV ρ t) ∧ rF s = rF ρ) (hx : xfr [11, 12, 13, 14, 35, 36, 37, 38, 52, 53, 54] σ σ1) (hb : rBeg s ρ1) (hn : rNew 0 n ρ1) (xn : xnew n σ1) (x4 : σ1.2.2.1 4 = n) : cph σ1 ρ1 := by
  obtain ⟨s1, s2, s3, s4⟩ := hs
  obtain ⟨⟨b1, b2, b3, b4, b5⟩, c8, c214, ⟨d1, d2⟩, -⟩ := hb
  obtain ⟨n0, n5, n6, n7, nr⟩ := hn
  have i_ : ∀ k : Nat, k ≠ 0 → k ≠ 5 → k ≠ 6 → k ≠ 7 → k ≠ 8 → rI ρ1 k = rI ρ k := fun k q0 q5 q6 q7 q8 => (b1 k q0 q6 q7 q8).trans (s1 k q0 q5)
  have z_ : ∀ t : Nat, t ≠ 214 → rZ ρ1 t = rZ ρ t := fun t q => (b3 t q).trans (s2 t)
  have v_ : ∀ t : Nat, t ≠ 202 → t ≠ 203 → t ≠ 214 → rV ρ1 t = rV ρ t := fun t q2 q3 q4 => (b4 t q2 q3 q4).trans (s3 t)
  have f_ : ∀ t n : Nat, n < 3 → rF ρ1 t n = rF ρ t n := fun t n q => (b5 t n (Or.inl q)).trans (congrFun (congrFun s4 t) n)
  exact 
    ⟨((hx.i h.k).trans (i_ 9 (by decide) (by decide) (by decide) (by decide) (by decide)).symm),
    (⟨x4.trans n5.symm, xn.1.trans n6.symm, by rw [xn.2.1, n7]; rfl, fun j hj => (xn.2.2 j hj).trans (nr j hj).symm⟩),
    ((h.D.x hx).r (i_ 1 (by decide) (by decide) (by decide) (by decide) (by decide)) (i_ 2 (by decide) (by decide) (by decide) (by decide) (by decide)) (z_ 201 (by decide))),
    ((h.K.x hx).r (z_ 201 (by decide)) (v_ 201 (by decide) (by decide) (by decide))),
    ((h.T.x hx).r (i_ 3 (by decide) (by decide) (by decide) (by decide) (by decide)) (i_ 4 (by decide) (by decide) (by decide) (by decide) (by decide))),
    ((h.A.x hx).r (z_ 210 (by decide)) (fun k hk => v_ (300 + k) (by omega) (by omega) (by omega))),
    ((h.F.x hx).r (z_ 211 (by decide)) (fun k hk => v_ (320 + k) (by omega) (by omega) (by omega))),
    ((h.W.x hx).r (z_ 216 (by decide)) (fun k hk => v_ (340 + k) (by omega) (by omega) (by omega))),
    ((h.P.x hx).r (z_ 213 (by decide)) (v_ 213 (by decide) (by decide) (by decide))),
    ((h.Y.x hx).r (fun i hi => by
      by_cases q : rZ ρ 201 = 0
      · rw [d2 ((s2 201).trans q) i hi, keys0 hr q i hi]
      · rw [d1 (by rw [s2 201]; omega), s3 203])),
    ((h.G.x hx).r (z_ 212 (by decide)) (fun k hk => z_ (380 + k) (by omega)) (fun k hk => v_ (380 + k) (by omega) (by omega) (by omega)) (fun k n hk hn => f_ (360 + k) n hn)),
    ((h.I.x hx).r (z_ 215 (by decide)) (fun k hk => v_ (440 + k) (by omega) (by omega) (by omega)) (fun k n hk hn => f_ (420 + k) n (by omega)))⟩
section YCO
variable {σ σ1 : XS} {ρ ρ1 : RS} {v1 v2 : Int32} {nv1 : Int64}
theorem cp_words {p0 : Int32} (hr : rb ρ) (hc : cph σ ρ) (h1 : xoWords p0 (some (.int v1)) nv1 σ σ1) (h2 : roWords p0 (some (.int v2)) ρ ρ1) : CPR σ1 ρ1 v1 nv1 v2 := by
  rcases uno h1 h2 Iff.rfl with ⟨c1, ⟨a1, a2, a3, ⟨a4, -⟩, a5⟩, b1, b2, b3⟩ | b
  · cases a1
    cases b1
    exact ⟨hc.beg (s := rin (rin ρ 0 0) 5 p0) hr ⟨fun k q0 q5 => (if_neg q5).trans (if_neg q0), fun _ => rfl, fun _ => rfl, rfl⟩ a3.w b3 b2 a4 a5, b2.1, fun _ => a2⟩
  · exact cfail hc (by decide) b
theorem cp_leak {p0 : Int32} (hb : xb σ) (hc : cph σ ρ) (h1 : xoLeak p0 (some (.int v1)) nv1 σ σ1) (h2 : roLeak p0 (some (.int v2)) ρ ρ1) : CPR σ1 ρ1 v1 nv1 v2 := by
  obtain ⟨c4, c12, c5, cr⟩ := hc.L
  have e8 : (8 : Int32).toInt = 8 := by decide
  have ec : xcap 12 = 8 := by decide
  have hb12 := (hb.1 12).2
  rw [ec] at hb12
  have e2 : (0 ≤ p0 ∧ p0 ≤ 3) → ((σ.1 12).toInt < 8 ↔ ¬ rI ρ 6 = 8) := fun _ => by
    rw [← c12]
    constructor
    · intro q z
      rw [z, e8] at q
      omega
    · intro q
      by_cases z : (σ.1 12).toInt = 8
      · exact absurd (Int32.toInt_inj.mp (z.trans e8.symm)) q
      · omega
  have h3 : ((0 ≤ p0 ∧ p0 ≤ 3) ∧ ¬ rI ρ 6 = 8 ∧ (some (Value.int v2) = some (.int (rI ρ 7)) ∧ rI ρ1 0 = 0 ∧ (∀ k : Nat, k ≠ 0 → k ≠ 6 → k ≠ 7 → rI ρ1 k = rI ρ k) ∧ rI ρ1 6 = rI ρ 6 + 1 ∧ rI ρ1 7 = yaft (rI ρ 7) ∧ (∀ t : Nat, t ≠ 214 → rZ ρ1 t = rZ ρ t) ∧ rZ ρ1 214 = rZ ρ 214 + 1 ∧ (∀ t : Nat, t ≠ 202 → t ≠ 214 → rV ρ1 t = rV ρ t) ∧ rV ρ1 202 = upd (rV ρ 202) (Int32.toNatClampNeg p0) (rI ρ 7) ∧ rV ρ1 214 = (fun i => if i = rZ ρ 214 then rV ρ 202 (Int32.toNatClampNeg p0) else rV ρ 214 i) ∧ rF ρ1 = rF ρ)) ∨ (¬ (0 ≤ p0 ∧ p0 ≤ 3) ∧ (rI ρ1 0 = 1 ∧ rSm ρ ρ1)) ∨ (((0 ≤ p0 ∧ p0 ≤ 3) ∧ ¬ ¬ rI ρ 6 = 8) ∧ (rI ρ1 0 = 2 ∧ rSm ρ ρ1)) := by
    rcases h2 with q | q | ⟨⟨q1, q2⟩, q3⟩
    · exact Or.inl q
    · exact Or.inr (Or.inl q)
    · exact Or.inr (Or.inr ⟨⟨q1, fun z => z q2⟩, q3⟩)
  rcases duo h1 h3 Iff.rfl e2 with ⟨-, ⟨a1, a2, hx, x12, x5, xr⟩, b1, b0, i_, i6, i7, z_, -, v_, v202, -, f_⟩ | b | b
  · cases a1
    cases b1
    have f2 : ∀ t n : Nat, rF ρ1 t n = rF ρ t n := fun t n => congrFun (congrFun f_ t) n
    refine ⟨
    ⟨((hx.i hc.k).trans (i_ 9 (by decide) (by decide) (by decide)).symm),
    (⟨(hx.i c4).trans (i_ 5 (by decide) (by decide) (by decide)).symm, by rw [x12, i6, c12], by rw [x5, i7, c5], fun j hj => ?_⟩),
    ((hc.D.x hx).r (i_ 1 (by decide) (by decide) (by decide)) (i_ 2 (by decide) (by decide) (by decide)) (z_ 201 (by decide))),
    ((hc.K.x hx).r (z_ 201 (by decide)) (v_ 201 (by decide) (by decide))),
    ((hc.T.x hx).r (i_ 3 (by decide) (by decide) (by decide)) (i_ 4 (by decide) (by decide) (by decide))),
    ((hc.A.x hx).r (z_ 210 (by decide)) (fun k hk => v_ (300 + k) (by omega) (by omega))),
    ((hc.F.x hx).r (z_ 211 (by decide)) (fun k hk => v_ (320 + k) (by omega) (by omega))),
    ((hc.W.x hx).r (z_ 216 (by decide)) (fun k hk => v_ (340 + k) (by omega) (by omega))),
    ((hc.P.x hx).r (z_ 213 (by decide)) (v_ 213 (by decide) (by decide))),
    ((hc.Y.x hx).r (fun _ _ => congrFun (v_ 203 (by decide) (by decide)) _)),
    ((hc.G.x hx).r (z_ 212 (by decide)) (fun k hk => z_ (380 + k) (by omega)) (fun k hk => v_ (380 + k) (by omega) (by omega)) (fun k n hk hn => f2 (360 + k) n)),
    ((hc.I.x hx).r (z_ 215 (by decide)) (fun k hk => v_ (440 + k) (by omega) (by omega)) (fun k n hk hn => f2 (420 + k) n))⟩, b0, fun _ => by rw [a2, c5]⟩
    rw [xr, v202, c5]
    show upd (σ.2.1 11) (Int32.toNatClampNeg p0) (rI ρ 7) j = _
    by_cases q : j = Int32.toNatClampNeg p0
    · rw [q, pk_us, pk_us]
    · rw [pk_un q, pk_un q]
      exact cr j hj
  · exact cfail hc (by decide) b
  · exact cfail hc (by decide) b
theorem cpR.z {k : Nat} {f : Nat → Int32} : cpR σ k 0 f := fun i hi => absurd hi (Nat.not_lt_zero i)
theorem cp_base {p0 p1 p2 : Int32} (hr1 : rb ρ1) (hc : cph σ ρ) (h1 : xoBase p0 p1 p2 (some (.int v1)) nv1 σ σ1) (h2 : roBase p0 p1 p2 (some (.int v2)) ρ ρ1) : CPR σ1 ρ1 v1 nv1 v2 := by
  have h3 : (((3 ≤ p0 ∧ p0 ≤ 8) ∧ (3 ≤ p1 ∧ p1 ≤ 8) ∧ (0 ≤ p2 ∧ p2 ≤ 100)) ∧ (rbase p0 p1 p2 ρ ρ1 ∧ some (Value.int v2) = some (.int (Int32.ofNat (cnt (kop p2) (p0 * p1).toInt.toNat))) ∧ ∀ j : Nat, j < (p0 * p1).toInt.toNat → rV ρ1 201 j = kd p2 j)) ∨ (¬ ((3 ≤ p0 ∧ p0 ≤ 8) ∧ (3 ≤ p1 ∧ p1 ≤ 8) ∧ (0 ≤ p2 ∧ p2 ≤ 100)) ∧ (rI ρ1 0 = 1 ∧ rSm ρ ρ1)) := h2
  rcases uno h1 h3 Iff.rfl with ⟨c1, ⟨a1, a2, hx, ⟨x1, x2, x3, x4, x5, x6⟩, -⟩, r1, b1, r2⟩ | b
  · cases a1
    cases b1
    obtain ⟨⟨i1, i2, i3, i4, i8, i9⟩, rz, rc, rn, rk⟩ := r1
    obtain ⟨w0, w1, w2, w3⟩ := x2
    have n64 := hr1.n64
    have eN : (p0 * p1).toInt.toNat = rZ ρ1 201 := by
      rw [← rc, yofNat (by omega)]
      omega
    have q210 := rz 210 (by decide) (by decide)
    have q211 := rz 211 (by decide) (by decide)
    have q212 := rz 212 (by decide) (by decide)
    have q213 := rz 213 (by decide) (by decide)
    have q215 := rz 215 (by decide) (by decide)
    have q216 := rz 216 (by decide) (by decide)
    have s_ : ∀ k : Nat, k ∈ [0, 1, 2, 3, 4, 5, 6, 7, 8, 10, 16, 17, 18, 20, 21, 22, 23] → ∀ n : Nat, n = 0 → σ1.1 k = Int32.ofNat n := fun k hk n hn => by
      rw [hn]
      exact x1 k hk
    rw [hc.L.1] at x4
    have e1 : (1 : Int32).toInt = 1 := by decide
    have e0 : (0 : Int32).toInt = 0 := by decide
    have em : (-1 : Int32).toInt = -1 := by decide
    refine ⟨
    ⟨((hx.i hc.k).trans i9.symm),
    (⟨(hx.i hc.L.1).trans rn.2.1.symm, x4.1.trans rn.2.2.1.symm, by rw [x4.2.1, rn.2.2.2.1]; rfl, fun j hj => (x4.2.2 j hj).trans (rn.2.2.2.2 j hj).symm⟩),
    (⟨w0.trans i1.symm, w1.trans i2.symm, by rw [w0, w1]; exact rc.symm⟩),
    (fun c hc9 => ?_),
    (fun v hv => ?_),
    (⟨by omega, ⟨s_ 0 (by decide) _ q210, s_ 1 (by decide) _ q210, s_ 2 (by decide) _ q210⟩, by rw [q210]; exact ⟨cpR.z, cpR.z, cpR.z⟩⟩),
    (⟨by omega, ⟨s_ 3 (by decide) _ q211, s_ 4 (by decide) _ q211⟩, by rw [q211]; exact ⟨cpR.z, cpR.z⟩⟩),
    (⟨by omega, ⟨s_ 22 (by decide) _ q216, s_ 23 (by decide) _ q216⟩, by rw [q216]; exact ⟨cpR.z, cpR.z⟩⟩),
    (⟨by omega, s_ 10 (by decide) _ q213, by rw [q213]; exact cpR.z⟩),
    (fun i hi => (x6.2 i hi).trans (rk i hi).symm),
    (⟨by omega, ⟨s_ 5 (by decide) _ q212, s_ 6 (by decide) _ q212, s_ 7 (by decide) _ q212, s_ 8 (by decide) _ q212⟩, by rw [q212]; exact ⟨cpR.z, cpR.z, cpR.z, cpR.z⟩, fun k hk => absurd hk (by omega)⟩),
    (⟨by omega, ⟨s_ 16 (by decide) _ q215, s_ 17 (by decide) _ q215, s_ 18 (by decide) _ q215⟩, by rw [q215]; exact ⟨cpR.z, cpR.z⟩, fun k hk => absurd hk (by omega)⟩)⟩, rn.1, fun _ => a2⟩
    · obtain ⟨k1, k2, k3⟩ := x3 c hc9
      rw [eN] at k1 k2 k3 r2
      have kc : c < rZ ρ1 201 → rV ρ1 201 c = kd p2 c := fun q => r2 c q
      by_cases q : c < rZ ρ1 201
      · rw [decide_eq_true q, Bool.true_and] at k1 k2 k3
        rw [decide_eq_true q, Bool.true_and, Bool.true_and, Bool.true_and, kc q]
        refine ⟨k1, k2, k3, fun _ => ?_⟩
        unfold kd xkd
        (repeat' split) <;> exact ⟨by decide, by decide⟩
      · rw [decide_eq_false q, Bool.false_and] at k1 k2 k3
        rw [decide_eq_false q, Bool.false_and, Bool.false_and, Bool.false_and]
        exact ⟨k1, k2, k3, fun z => absurd z q⟩
    · rw [w2, w3, i3, i4]
      simp only [yle, e1, e0, em]
      constructor <;> (intro q; omega)
  · exact cfail hc (by decide) b
end YCO
/-- a new night -/
theorem cph.ini {σ : XS} {ρ : RS} (h : xini σ) (g : rini ρ) (g4 : rNew 0 0 ρ) : cph σ ρ := by
  obtain ⟨hx, hn, h4, hk⟩ := h
  obtain ⟨-, n5, n6, n7, nr⟩ := g4
  obtain ⟨rz, r201, ⟨r3, r4, r9, r1, r2⟩, rk⟩ := g
  have q210 := rz 210 (by decide) (by decide)
  have q211 := rz 211 (by decide) (by decide)
  have q212 := rz 212 (by decide) (by decide)
  have q213 := rz 213 (by decide) (by decide)
  have q215 := rz 215 (by decide) (by decide)
  have q216 := rz 216 (by decide) (by decide)
  have e1 : (1 : Int32).toInt = 1 := by decide
  have e0 : (0 : Int32).toInt = 0 := by decide
  have em : (-1 : Int32).toInt = -1 := by decide
  have s_ : ∀ k : Nat, k ∈ [0, 1, 2, 3, 4, 5, 6, 7, 8, 10, 16, 17, 18, 20, 21, 22, 23] → ∀ n : Nat, n = 0 → σ.1 k = Int32.ofNat n := fun k hk2 n hn2 => by
    rw [hn2]
    exact (hx.1 k (by simp only [List.mem_cons, List.not_mem_nil, or_false] at hk2 ⊢; omega))
  exact 
    ⟨((hx.i (k := 7) (v := 0) rfl).trans r9.symm),
    (⟨h4.trans n5.symm, hn.1.trans n6.symm, by rw [hn.2.1, n7]; rfl, fun j hj => (hn.2.2 j hj).trans (nr j hj).symm⟩),
    (⟨(hx.i (k := 0) (v := 0) rfl).trans r1.symm, (hx.i (k := 1) (v := 0) rfl).trans r2.symm, by rw [hx.i (k := 0) (v := 0) rfl, hx.i (k := 1) (v := 0) rfl, r201]; decide⟩),
    (fun c hc => by
      rw [hx.s (k := 2) (v := 0) rfl, hx.s (k := 3) (v := 0) rfl, hx.s (k := 4) (v := 0) rfl, r201, bt_0, decide_eq_false (Nat.not_lt_zero c), Bool.false_and, Bool.false_and, Bool.false_and]
      exact ⟨rfl, rfl, rfl, fun z => absurd z (Nat.not_lt_zero c)⟩),
    (fun v hv => by
      rw [hx.i (k := 2) (v := 1) rfl, hx.i (k := 3) (v := 0) rfl, r3, r4]
      simp only [yle, e1, e0, em]
      constructor <;> (intro q; omega)),
    (⟨by omega, ⟨s_ 0 (by decide) _ q210, s_ 1 (by decide) _ q210, s_ 2 (by decide) _ q210⟩, by rw [q210]; exact ⟨cpR.z, cpR.z, cpR.z⟩⟩),
    (⟨by omega, ⟨s_ 3 (by decide) _ q211, s_ 4 (by decide) _ q211⟩, by rw [q211]; exact ⟨cpR.z, cpR.z⟩⟩),
    (⟨by omega, ⟨s_ 22 (by decide) _ q216, s_ 23 (by decide) _ q216⟩, by rw [q216]; exact ⟨cpR.z, cpR.z⟩⟩),
    (⟨by omega, s_ 10 (by decide) _ q213, by rw [q213]; exact cpR.z⟩),
    (fun i hi => (hk i hi).trans (rk i hi).symm),
    (⟨by omega, ⟨s_ 5 (by decide) _ q212, s_ 6 (by decide) _ q212, s_ 7 (by decide) _ q212, s_ 8 (by decide) _ q212⟩, by rw [q212]; exact ⟨cpR.z, cpR.z, cpR.z, cpR.z⟩, fun k hk => absurd hk (by omega)⟩),
    (⟨by omega, ⟨s_ 16 (by decide) _ q215, s_ 17 (by decide) _ q215, s_ 18 (by decide) _ q215⟩, by rw [q215]; exact ⟨cpR.z, cpR.z⟩, fun k hk => absurd hk (by omega)⟩)⟩
theorem cph.kpX {σ σ1 : XS} {ρ : RS} (h : cph σ ρ) (hx : xfr NC σ σ1) : cph σ1 ρ := h.kp hx.w (rAn.sm rSm.rfl')
theorem cph.kpR {σ : XS} {ρ ρ1 : RS} (h : cph σ ρ) (hr : rSm ρ ρ1) : cph σ ρ1 := h.sm hr
theorem cph.kpA {σ : XS} {ρ ρ1 : RS} (h : cph σ ρ) (hr : rAn ρ ρ1) : cph σ ρ1 := h.kp xkn.rfl'.w hr
theorem roPlace.sm {guard minute : Int32} {r : Option Value} {ρ ρ1 : RS} (h : roPlace guard minute r ρ ρ1) : rSm ρ ρ1 := by
  rcases h with h | h | h
  · exact h.2.2.2
  · exact h.2.2
  · exact h.2.2
theorem roWhere.sm {intruder minute : Int32} {r : Option Value} {ρ ρ1 : RS} (h : roWhere intruder minute r ρ ρ1) : rSm ρ ρ1 := by
  rcases h with h | h | h
  · exact h.2.2.2
  · exact h.2.2
  · exact h.2.2
theorem cph.kn {σ : XS} {ρ : RS} (h : cph σ ρ) : cph (xin σ 7 (σ.2.2.1 7 + 1)) (rin (rin ρ 0 0) 9 (rI ρ 9 + 1)) := by
  refine h.ok (xkn_in (k := 7)) ⟨fun k hk => ?_, fun _ _ _ => rfl, fun _ _ => rfl, fun _ _ _ => rfl⟩ ?_
  · show (if k = 9 then rI ρ 9 + 1 else if k = 0 then 0 else rI ρ k) = rI ρ k
    rw [if_neg (fun q => hk (by rw [q]; decide)), if_neg (fun q => hk (by rw [q]; decide))]
  · show σ.2.2.1 7 + 1 = rI ρ 9 + 1
    rw [h.k]
/-! ===== where guards and intruders are ===== -/
section YCQ
variable {σ σ1 : XS} {ρ ρ1 : RS} {v1 v2 : Int32} {nv1 : Int64}
theorem minN {m : Int32} (h : OKm m) : ∃ k : Nat, m.toInt = (k : Int) ∧ k ≤ 239 ∧ Int32.toNatClampNeg m = k := by
  have z0 : (0 : Int32).toInt = 0 := by decide
  have z239 : (239 : Int32).toInt = 239 := by decide
  obtain ⟨a, b⟩ := h
  rw [yle, z0] at a
  rw [yle, z239] at b
  exact ⟨m.toInt.toNat, by omega, by omega, rfl⟩
theorem sta_pl {p0 p1 : Int32} {g m : Nat} (hr : rb ρ) (hc : cph σ ρ) (hg : p0.toInt = (g : Int)) (hg2 : g < rZ ρ 212) (hm : p1.toInt = (m : Int)) (hm2 : m ≤ 239) : xsta σ p0 p1 = rpl ρ g p1 := by
  have z0 : (0 : Int32).toInt = 0 := by decide
  have z1 : (1 : Int32).toInt = 1 := by decide
  have h6 := hc.G.1
  obtain ⟨b0, b1, b2, b3, -⟩ := hr.2.2.1 g hg2
  have f5 : xat σ 5 p0 = rF ρ (360 + g) 0 := (xat_g hg (by rw [show xcap 5 = 6 from by decide]; omega)).trans (hc.G.2.2.1.1 g hg2)
  have f6 : xat σ 6 p0 = rF ρ (360 + g) 1 := (xat_g hg (by rw [show xcap 6 = 6 from by decide]; omega)).trans (hc.G.2.2.1.2.1 g hg2)
  have f7 : xat σ 7 p0 = rF ρ (360 + g) 2 := (xat_g hg (by rw [show xcap 7 = 6 from by decide]; omega)).trans (hc.G.2.2.1.2.2.1 g hg2)
  have f8 : xat σ 8 p0 = Int32.ofNat (rZ ρ (380 + g)) := (xat_g hg (by rw [show xcap 8 = 6 from by decide]; omega)).trans (hc.G.2.2.1.2.2.2 g hg2)
  have e8 : (Int32.ofNat (rZ ρ (380 + g))).toInt = (rZ ρ (380 + g) : Int) := yofNat (by omega)
  have hw := (hc.G.2.2.2 g hg2).2
  unfold xsta rpl
  rw [f5, f6, f7, f8]
  generalize rF ρ (360 + g) 0 = F at b0 ⊢
  generalize rF ρ (360 + g) 1 = L
  generalize rF ρ (360 + g) 2 = S at b1 ⊢
  have hF := yrng F
  have ed : (p1 - F).toInt = p1.toInt - F.toInt := ysub (by omega) (by omega)
  by_cases q1 : p1 - F < 0
  · rw [if_pos q1, if_neg (fun z => by
      have z2 := yle.mp z.1
      rw [ylt, ed, z0] at q1
      omega)]
  · rw [if_neg q1]
    rw [ylt, ed, z0] at q1
    by_cases q2 : L < p1
    · rw [if_pos q2, if_neg (fun z => by
        have z2 := yle.mp z.2
        rw [ylt] at q2
        omega)]
    · rw [if_neg q2, if_neg (fun z => by rw [ylt, z1] at z; omega), if_pos (by rw [yle, z1, e8]; omega), if_pos ⟨yle.mpr (by omega), yle.mpr (by rw [ylt] at q2; omega)⟩]
      obtain ⟨x0, x1⟩ := ymodn (x := p1 - F) (st := S) (s := rZ ρ (380 + g)) b2 b3 (by omega) b1
      generalize (p1 - F) / S - (p1 - F) / S / Int32.ofNat (rZ ρ (380 + g)) * Int32.ofNat (rZ ρ (380 + g)) = X at x0 x1 ⊢
      have ek : Int32.toNatClampNeg X = X.toInt.toNat := rfl
      have ei : (p0 * 6 + X).toInt = ((6 * g + Int32.toNatClampNeg X : Nat) : Int) := by
        have t := ofN6 (l := Int32.toNatClampNeg X) hg (by omega) (by omega)
        rw [rn201 x0] at t
        exact t
      exact (xat_g ei (by rw [show xcap 9 = 36 from by decide]; omega)).trans (hw _ (by omega))
theorem cel_wh {p0 p1 : Int32} {g m : Nat} (hc : cph σ ρ) (hg : p0.toInt = (g : Int)) (hg2 : g < rZ ρ 215) (hm : p1.toInt = (m : Int)) (hm2 : m ≤ 239) : xcel σ p0 p1 = rwh ρ g m := by
  have z0 : (0 : Int32).toInt = 0 := by decide
  have h6 := hc.I.1
  obtain ⟨f, v, hf, hv, v14, fv, hw⟩ := hc.I.2.2.2 g hg2
  have f16 : xat σ 16 p0 = rF ρ (420 + g) 0 := (xat_g hg (by rw [show xcap 16 = 4 from by decide]; omega)).trans (hc.I.2.2.1.1 g hg2)
  have f18 : xat σ 18 p0 = σ.2.1 18 g := xat_g hg (by rw [show xcap 18 = 4 from by decide]; omega)
  have ed : (p1 - rF ρ (420 + g) 0).toInt = (m : Int) - f := by rw [ysub (by omega) (by omega), hm, hf]
  have eg : p0 = Int32.ofNat g := Int32.toInt_inj.mp (by rw [yofNat (by omega), hg])
  unfold xcel rwh
  rw [f16, f18, hf]
  by_cases q1 : 0 ≤ p1 - rF ρ (420 + g) 0
  · rw [if_pos q1]
    rw [yle, ed, z0] at q1
    have e9 : ¬ ((m : Int) < (f : Int)) := by omega
    rw [if_neg e9, hw m (by omega) hm2]
    by_cases q2 : σ.2.1 18 g ≤ p1 - rF ρ (420 + g) 0
    · rw [if_pos q2]
      rw [yle, ed, hv] at q2
      rw [if_neg (by omega)]
      have ev : σ.2.1 18 g = Int32.ofNat v := Int32.toInt_inj.mp (by rw [yofNat (by omega), hv])
      rw [ev, eg]
      exact xat_g (ofN15 (by omega) (by omega)) (by rw [show xcap 19 = 60 from by decide]; omega)
    · rw [if_neg q2]
      rw [yle, ed, hv] at q2
      rw [if_pos (by omega)]
      have ev : p1 - rF ρ (420 + g) 0 = Int32.ofNat (m - f) := Int32.toInt_inj.mp (by rw [yofNat (by omega), ed]; omega)
      rw [ev, eg]
      exact xat_g (ofN15 (by omega) (by omega)) (by rw [show xcap 19 = 60 from by decide]; omega)
  · rw [if_neg q1]
    rw [yle, ed, z0] at q1
    rw [if_pos (by omega)]
theorem cp_place {p0 p1 : Int32} (hr : rb ρ) (hc : cph σ ρ) (h1 : xoPlace p0 p1 (some (.int v1)) nv1 σ σ1) (h2 : roPlace p0 p1 (some (.int v2)) ρ ρ1) : CPR σ1 ρ1 v1 nv1 v2 := by
  have e1 : (0 ≤ p0 ∧ p0 ≤ σ.1 5 - 1) ↔ OKG ρ p0 := by rw [hc.G.2.1.1]
  have h3 : (OKG ρ p0 ∧ OKm p1 ∧ (some (Value.int v2) = some (.int (rpl ρ (Int32.toNatClampNeg p0) p1)) ∧ rI ρ1 0 = 0 ∧ rSm ρ ρ1)) ∨ (¬ OKG ρ p0 ∧ (rI ρ1 0 = 1 ∧ rSm ρ ρ1)) ∨ ((OKG ρ p0 ∧ ¬ OKm p1) ∧ (rI ρ1 0 = 2 ∧ rSm ρ ρ1)) := by
    rcases h2 with ⟨⟨q1, q2⟩, q3⟩ | q | q
    · exact Or.inl ⟨q1, q2, q3⟩
    · exact Or.inr (Or.inl q)
    · exact Or.inr (Or.inr q)
  rcases duo h1 h3 e1 (fun _ => Iff.rfl) with ⟨⟨c1, c3⟩, ⟨a1, a2, a3, a4⟩, b1, b2, b3⟩ | b | b
  · cases a1
    cases b1
    subst a4
    have h6 := hc.G.1
    obtain ⟨g, hg, hg2, hk⟩ := guardN (by omega) c1
    obtain ⟨m, hm, hm2, -⟩ := minN c3
    exact ⟨hc.sm b3, b2, fun _ => by rw [a2, sta_pl hr hc hg hg2 hm hm2, hk]⟩
  · exact cfail hc (by decide) b
  · exact cfail hc (by decide) b
theorem cp_where {p0 p1 : Int32} (hc : cph σ ρ) (h1 : xoWhere p0 p1 (some (.int v1)) nv1 σ σ1) (h2 : roWhere p0 p1 (some (.int v2)) ρ ρ1) : CPR σ1 ρ1 v1 nv1 v2 := by
  have e1 : (0 ≤ p0 ∧ p0 ≤ σ.1 16 - 1) ↔ OKI ρ p0 := by rw [hc.I.2.1.1]
  have h3 : (OKI ρ p0 ∧ OKm p1 ∧ (some (Value.int v2) = some (.int (rwh ρ (Int32.toNatClampNeg p0) (Int32.toNatClampNeg p1))) ∧ rI ρ1 0 = 0 ∧ rSm ρ ρ1)) ∨ (¬ OKI ρ p0 ∧ (rI ρ1 0 = 1 ∧ rSm ρ ρ1)) ∨ ((OKI ρ p0 ∧ ¬ OKm p1) ∧ (rI ρ1 0 = 2 ∧ rSm ρ ρ1)) := by
    rcases h2 with ⟨⟨q1, q2⟩, q3⟩ | q | q
    · exact Or.inl ⟨q1, q2, q3⟩
    · exact Or.inr (Or.inl q)
    · exact Or.inr (Or.inr q)
  rcases duo h1 h3 e1 (fun _ => Iff.rfl) with ⟨⟨c1, c3⟩, ⟨a1, a2, a3, a4⟩, b1, b2, b3⟩ | b | b
  · cases a1
    cases b1
    subst a4
    have h6 := hc.I.1
    obtain ⟨g, hg, hg2, hk⟩ := guardN (by omega) c1
    obtain ⟨m, hm, hm2, hk2⟩ := minN c3
    exact ⟨hc.sm b3, b2, fun _ => by rw [a2, cel_wh hc hg hg2 hm hm2, hk, hk2]⟩
  · exact cfail hc (by decide) b
  · exact cfail hc (by decide) b
end YCQ
/-! ===== posts that are empty, wires that ring ===== -/
theorem i32or {a b : Int32} : a ||| b = 0 ↔ a = 0 ∧ b = 0 := by
  have e0 : (0 : Int32).toBitVec = 0#32 := rfl
  rw [← Int32.toBitVec_inj, ← Int32.toBitVec_inj, ← Int32.toBitVec_inj, Int32.toBitVec_or, e0]
  exact BitVec.or_eq_zero_iff
theorem i32sh : ∀ n : Nat, n < 8 → ¬ (1 : Int32) <<< (Int32.ofNat n &&& 31) = 0 := by decide
theorem ofNat_cl {j : Nat} (h : j ≤ 1000) : Int32.toNatClampNeg (Int32.ofNat j) = j := by
  show (Int32.ofNat j).toInt.toNat = j
  rw [yofNat (by omega)]
  omega
theorem cnN {n : Nat} (h : n ≤ 1000) : (Int32.ofNat n).toInt.toNat = n := ofNat_cl h
/-- how often, counted up -/
theorem itI_cnt {P : Int32 → Prop} [DecidablePred P] : ∀ n : Nat, n ≤ 1000 → 0 ≤ (itI (fun p (a : Int32) => a + (if P p then 1 else 0)) 0 n).toInt ∧ (itI (fun p (a : Int32) => a + (if P p then 1 else 0)) 0 n).toInt ≤ (n : Int)
  | 0, _ => ⟨(by show 0 ≤ (0 : Int32).toInt; decide), (by show (0 : Int32).toInt ≤ ((0 : Nat) : Int); decide)⟩
  | n + 1, h => by
    have e1 : (1 : Int32).toInt = 1 := by decide
    have e0 : (0 : Int32).toInt = 0 := by decide
    obtain ⟨a, b⟩ := itI_cnt (P := P) n (by omega)
    show 0 ≤ (itI (fun p (a : Int32) => a + (if P p then 1 else 0)) 0 n + (if P (Int32.ofNat n) then 1 else 0)).toInt ∧ (itI (fun p (a : Int32) => a + (if P p then 1 else 0)) 0 n + (if P (Int32.ofNat n) then 1 else 0)).toInt ≤ ((n + 1 : Nat) : Int)
    generalize itI (fun p (a : Int32) => a + (if P p then 1 else 0)) 0 n = x at a b ⊢
    split
    · rw [yadd (by rw [e1]; omega) (by rw [e1]; omega), e1]
      omega
    · rw [yadd (by rw [e0]; omega) (by rw [e0]; omega), e0]
      omega
theorem xhld_set {σ : XS} {m : Int32} : ∀ n : Nat, xse (itI (xhldF σ m) 0 n) (fun c => ∃ p, p < n ∧ (xsta σ (Int32.ofNat p) m).toInt = (c : Int))
  | 0 => xse.z.cg (fun _ _ => ex0.symm)
  | n + 1 => (xhld_set n).or1.cg (fun c _ => by rw [exS])
theorem ronc_0 {ρ : RS} {cell m : Int32} : ∀ n : Nat, n ≤ 6 → (itI (roncF ρ cell m) 0 n = 0 ↔ ∀ p : Nat, p < n → ¬ rpl ρ p m = cell)
  | 0, _ => ⟨fun _ p hp => absurd hp (Nat.not_lt_zero p), fun _ => rfl⟩
  | n + 1, h => by
    have ih := ronc_0 (ρ := ρ) (cell := cell) (m := m) n (by omega)
    have hs := i32sh n (by omega)
    show itI (roncF ρ cell m) 0 n ||| (if rpl ρ (Int32.toNatClampNeg (Int32.ofNat n)) m = cell then 1 <<< (Int32.ofNat n &&& 31) else 0) = 0 ↔ _
    rw [i32or, ih, ofNat_cl (by omega)]
    constructor
    · rintro ⟨h1, h2⟩ p hp
      by_cases q : p = n
      · subst q
        intro z
        rw [if_pos z] at h2
        exact hs h2
      · exact h1 p (by omega)
    · intro h1
      exact ⟨fun p hp => h1 p (by omega), if_neg (h1 n (by omega))⟩
section YRI
variable {ρ : RS} {g w : Nat} {c m : Int32}
theorem ronc_in : ronc (rin ρ 0 0) c m = ronc ρ c m := rfl
theorem rthN_in : rthN (rin ρ 0 0) c m = rthN ρ c m := rfl
theorem remC_in : remC (rin ρ 0 0) g = remC ρ g := by
  funext i a
  show (if ronc (rin ρ 0 0) (rV ρ 213 g) i = 0 then a + 1 else a) = (if ronc ρ (rV ρ 213 g) i = 0 then a + 1 else a)
  rw [ronc_in]
theorem remF_in : ffF (remQ (rin ρ 0 0) g) = ffF (remQ ρ g) := by
  funext i a
  show (if a = -1 ∧ ronc (rin ρ 0 0) (rV ρ 213 g) i = 0 then i else a) = (if a = -1 ∧ ronc ρ (rV ρ 213 g) i = 0 then i else a)
  rw [ronc_in]
theorem remN_in {f : Int32} : remN (rin ρ 0 0) g f = remN ρ g f := by
  unfold remN
  rw [remC_in, remF_in]
theorem rrgF_in : rrgF (rin ρ 0 0) w = rrgF ρ w := by
  funext i a
  show (if rV ρ (340 + w) 1 ≤ rnoi ρ w i + 5 * rthN (rin ρ 0 0) (rV ρ (340 + w) 0) i then a + 1 else a) = (if rV ρ (340 + w) 1 ≤ rnoi ρ w i + 5 * rthN ρ (rV ρ (340 + w) 0) i then a + 1 else a)
  rw [rthN_in]
theorem rrfF_in : rrfF (rin ρ 0 0) w = rrfF ρ w := by
  funext i a
  show (if rV ρ (340 + w) 1 ≤ rnoi ρ w i + 5 * rthN (rin ρ 0 0) (rV ρ (340 + w) 0) i then a + (if rthN (rin ρ 0 0) (rV ρ (340 + w) 0) i = 0 then 1 else 0) else a) = (if rV ρ (340 + w) 1 ≤ rnoi ρ w i + 5 * rthN ρ (rV ρ (340 + w) 0) i then a + (if rthN ρ (rV ρ (340 + w) 0) i = 0 then 1 else 0) else a)
  rw [rthN_in]
theorem rrtF_in : rrtF (rin ρ 0 0) w = rrtF ρ w := by
  funext i a
  show (if rV ρ (340 + w) 1 ≤ rnoi ρ w i + 5 * rthN (rin ρ 0 0) (rV ρ (340 + w) 0) i then (if 0 < rthN (rin ρ 0 0) (rV ρ (340 + w) 0) i then (if a = -1 then i else a) else a) else a) = (if rV ρ (340 + w) 1 ≤ rnoi ρ w i + 5 * rthN ρ (rV ρ (340 + w) 0) i then (if 0 < rthN ρ (rV ρ (340 + w) 0) i then (if a = -1 then i else a) else a) else a)
  rw [rthN_in]
theorem rwnN_in {what : Int32} : rwnN (rin ρ 0 0) w what = rwnN ρ w what := by
  unfold rwnN
  rw [rrgF_in, rrfF_in, rrtF_in]
end YRI
section YCR
variable {σ σ1 : XS} {ρ ρ1 : RS} {v1 v2 : Int32} {nv1 : Int64}
theorem xem_eq {p0 m : Int32} {g mm : Nat} (hr : rb ρ) (hc : cph σ ρ) (hg : p0.toInt = (g : Int)) (hg2 : g < rZ ρ 213) (hm : m.toInt = (mm : Int)) (hm2 : mm ≤ 239) : xemQ σ p0 m ↔ remQ ρ g m := by
  have h4 := hc.P.1
  have h6 := hc.G.1
  have n64 := hr.n64
  have ex : xat σ 10 p0 = rV ρ 213 g := (xat_g hg (by rw [show xcap 10 = 4 from by decide]; omega)).trans (hc.P.2.2 g hg2)
  obtain ⟨k0, k1⟩ := hr.2.2.2.2.2.2.2 g hg2
  have hk : (rV ρ 213 g).toInt = ((rV ρ 213 g).toInt.toNat : Int) := by omega
  have en : (σ.1 5).toInt.toNat = rZ ρ 212 := by rw [hc.G.2.1.1, cnN (by omega)]
  have en2 : (Int32.ofNat (rZ ρ 212)).toInt.toNat = rZ ρ 212 := cnN (by omega)
  unfold xemQ remQ xhld ronc
  rw [ex, en, en2, ronc_0 _ (by omega), xis_bt hk (by omega), (xhld_set (rZ ρ 212) _ (by omega))]
  have key : ∀ p : Nat, p < rZ ρ 212 → xsta σ (Int32.ofNat p) m = rpl ρ p m := fun p hp => sta_pl hr hc (yofNat (by omega)) hp hm hm2
  constructor
  · intro h p hp q
    refine h ⟨p, hp, ?_⟩
    rw [key p hp, q]
    exact hk
  · rintro h ⟨p, hp, q⟩
    rw [key p hp] at q
    exact h p hp (Int32.toInt_inj.mp (q.trans hk.symm))
theorem c240 : (240 : Int32).toInt.toNat = 240 := by decide
theorem cp_empty {p0 p1 : Int32} (hr : rb ρ) (hc : cph σ ρ) (h1 : xoEmpty p0 p1 (some (.int v1)) nv1 σ σ1) (h2 : roEmpty p0 p1 (some (.int v2)) ρ ρ1) : CPR σ1 ρ1 v1 nv1 v2 := by
  have e1 : (0 ≤ p0 ∧ p0 ≤ σ.1 10 - 1) ↔ (0 ≤ p0 ∧ p0 ≤ Int32.ofNat (rZ ρ 213) - 1) := by rw [hc.P.2.1]
  rcases uno h1 h2 e1 with ⟨c1, ⟨a1, a2, a3, a4⟩, b1, b2, b3⟩ | b
  · cases a1
    cases b1
    have a4 := a4.symm
    subst a4
    have h4 := hc.P.1
    obtain ⟨g, hg, hg2, hk⟩ := guardN (by omega) c1
    refine ⟨hc.sm b3, b2, fun _ => ?_⟩
    have key : ∀ j : Nat, j < 240 → (xemQ σ p0 (Int32.ofNat j) ↔ remQ ρ g (Int32.ofNat j)) := fun j hj => xem_eq hr hc hg hg2 (yofNat (by omega)) (by omega)
    rw [a2, hk, remN_in]
    refine congrArg Int32.toInt64 ?_
    unfold remN xemN xem1
    rw [c240]
    by_cases q : p1 = 0
    · rw [if_pos q, if_pos q]
      refine itI_cg (fun j hj => ?_)
      funext a
      show (if xemQ σ p0 (Int32.ofNat j) then a + 1 else a) = (if remQ ρ g (Int32.ofNat j) then a + 1 else a)
      by_cases z : remQ ρ g (Int32.ofNat j)
      · rw [if_pos z, if_pos ((key j hj).mpr z)]
      · rw [if_neg z, if_neg (fun w => z ((key j hj).mp w))]
    · rw [if_neg q, if_neg q]
      refine itI_cg (fun j hj => ?_)
      funext a
      show (if xemQ σ p0 (Int32.ofNat j) then (if a = -1 then Int32.ofNat j else a) else a) = (if a = -1 ∧ remQ ρ g (Int32.ofNat j) then Int32.ofNat j else a)
      by_cases z : remQ ρ g (Int32.ofNat j)
      · rw [if_pos ((key j hj).mpr z)]
        by_cases w : a = -1
        · rw [if_pos w, if_pos ⟨w, z⟩]
        · rw [if_neg w, if_neg (fun t => w t.1)]
      · rw [if_neg (fun w => z ((key j hj).mp w)), if_neg (fun t => z t.2)]
  · exact cfail hc (by decide) b
theorem xon_eq {cell m : Int32} {mm : Nat} (hc : cph σ ρ) (hm : m.toInt = (mm : Int)) (hm2 : mm ≤ 239) : xonN σ cell m = rthN ρ cell m := by
  have h4 := hc.I.1
  unfold xonN rthN
  rw [hc.I.2.1.1, cnN (by omega)]
  refine itI_cg (fun j hj => ?_)
  funext a
  have em : Int32.toNatClampNeg m = mm := by
    show m.toInt.toNat = mm
    omega
  have e := cel_wh (p0 := Int32.ofNat j) (p1 := m) hc (yofNat (by omega)) hj hm hm2
  show a + (if xcel σ (Int32.ofNat j) m = cell then 1 else 0) = a + (if rwh ρ (Int32.toNatClampNeg (Int32.ofNat j)) (Int32.toNatClampNeg m) = cell then 1 else 0)
  rw [e, ofNat_cl (by omega), em]
theorem rth_0 {cell m : Int32} (hc : cph σ ρ) : 0 ≤ (rthN ρ cell m).toInt := by
  have h4 := hc.I.1
  unfold rthN
  rw [cnN (by omega)]
  exact (itI_cnt (P := fun p => rwh ρ (Int32.toNatClampNeg p) (Int32.toNatClampNeg m) = cell) _ (by omega)).1
theorem cp_ofWire {p0 p1 : Int32} (hc : cph σ ρ) (h1 : xoOfWire p0 p1 (some (.int v1)) nv1 σ σ1) (h2 : roOfWire p0 p1 (some (.int v2)) ρ ρ1) : CPR σ1 ρ1 v1 nv1 v2 := by
  have e1 : (0 ≤ p0 ∧ p0 ≤ σ.1 22 - 1) ↔ (0 ≤ p0 ∧ p0 ≤ Int32.ofNat (rZ ρ 216) - 1) := by rw [hc.W.2.1.1]
  have h3 : ((0 ≤ p0 ∧ p0 ≤ Int32.ofNat (rZ ρ 216) - 1) ∧ (0 ≤ p1 ∧ p1 ≤ 4) ∧ (some (Value.int v2) = some (.int (rwnN (rin ρ 0 0) (Int32.toNatClampNeg p0) p1)) ∧ rI ρ1 0 = 0 ∧ rSm ρ ρ1)) ∨ (¬ (0 ≤ p0 ∧ p0 ≤ Int32.ofNat (rZ ρ 216) - 1) ∧ (rI ρ1 0 = 1 ∧ rSm ρ ρ1)) ∨ (((0 ≤ p0 ∧ p0 ≤ Int32.ofNat (rZ ρ 216) - 1) ∧ ¬ (0 ≤ p1 ∧ p1 ≤ 4)) ∧ (rI ρ1 0 = 2 ∧ rSm ρ ρ1)) := by
    rcases h2 with ⟨⟨q1, q2⟩, q3⟩ | q | q
    · exact Or.inl ⟨q1, q2, q3⟩
    · exact Or.inr (Or.inl q)
    · exact Or.inr (Or.inr q)
  rcases duo h1 h3 e1 (fun _ => Iff.rfl) with ⟨⟨c1, c3⟩, ⟨a1, a2, a3, a4⟩, b1, b2, b3⟩ | b | b
  · cases a1
    cases b1
    have a4 := a4.symm
    subst a4
    have h5 := hc.W.1
    obtain ⟨g, hg, hg2, hk⟩ := guardN (by omega) c1
    refine ⟨hc.sm b3, b2, fun _ => ?_⟩
    have f22 : xat σ 22 p0 = rV ρ (340 + g) 0 := (xat_g hg (by rw [show xcap 22 = 5 from by decide]; omega)).trans (hc.W.2.2.1 g hg2)
    have f23 : xat σ 23 p0 = rV ρ (340 + g) 1 := (xat_g hg (by rw [show xcap 23 = 5 from by decide]; omega)).trans (hc.W.2.2.2 g hg2)
    have ez : (0 : Int32).toInt = 0 := by decide
    have kn : ∀ j : Nat, j < 240 → xonN σ (xat σ 22 p0) (Int32.ofNat j) = rthN ρ (rV ρ (340 + g) 0) (Int32.ofNat j) := fun j hj => by
      rw [f22]
      exact xon_eq hc (yofNat (by omega)) (by omega)
    have kq : ∀ j : Nat, j < 240 → (xrgQ σ p0 (Int32.ofNat j) ↔ rrgQ ρ g (Int32.ofNat j)) := fun j hj => by
      unfold xrgQ rrgQ xnoi rnoi
      rw [kn j hj, f22, f23]
    have ki : ∀ j : Nat, j < 240 → (xiwQ σ p0 (Int32.ofNat j) ↔ rtwQ ρ g (Int32.ofNat j)) := fun j hj => by
      unfold xiwQ rtwQ
      rw [kn j hj]
    have kz : ∀ j : Nat, (rthN ρ (rV ρ (340 + g) 0) (Int32.ofNat j) = 0 ↔ ¬ rtwQ ρ g (Int32.ofNat j)) := fun j => by
      have t := rth_0 (cell := rV ρ (340 + g) 0) (m := Int32.ofNat j) hc
      unfold rtwQ
      rw [ylt, ez]
      constructor
      · intro q
        rw [q, ez]
        omega
      · intro q
        exact Int32.toInt_inj.mp (by rw [ez]; omega)
    rw [a2, hk, rwnN_in]
    refine congrArg Int32.toInt64 ?_
    have n0 : ¬ (0 : Int32) = 1 := by decide
    unfold rwnN xrgN xtrN
    rw [c240]
    obtain ⟨c30, c34⟩ := c3
    have l0 : (0 : Int32) < 2 := by decide
    have l1 : (1 : Int32) < 2 := by decide
    by_cases q0 : p1 = 0
    · subst q0
      rw [if_pos rfl, if_pos l0]
      exact f22
    · rw [if_neg q0]
      by_cases q1 : p1 = 1
      · subst q1
        rw [if_pos rfl, if_pos l1]
        exact f23
      · rw [if_neg q1]
        have ng : ¬ p1 < 2 := fun z => by
          have e4 : (4 : Int32).toInt = 4 := by decide
          have e2 : (2 : Int32).toInt = 2 := by decide
          rw [ylt, e2] at z
          rw [yle, ez] at c30
          have w0 : ¬ p1.toInt = 0 := fun t => q0 (Int32.toInt_inj.mp (t.trans ez.symm))
          have w1 : ¬ p1.toInt = 1 := fun t => q1 (Int32.toInt_inj.mp (t.trans (by decide)))
          omega
        rw [if_neg ng]
        by_cases q2 : p1 = 2
        · rw [if_pos q2, if_pos q2]
          refine itI_cg (fun j hj => ?_)
          funext a
          show (if xrgQ σ p0 (Int32.ofNat j) then (if (0 : Int32) = 0 then a + 1 else if xiwQ σ p0 (Int32.ofNat j) then a else a + 1) else a) = (if rrgQ ρ g (Int32.ofNat j) then a + 1 else a)
          by_cases z : rrgQ ρ g (Int32.ofNat j)
          · rw [if_pos z, if_pos ((kq j hj).mpr z), if_pos rfl]
          · rw [if_neg z, if_neg (fun w => z ((kq j hj).mp w))]
        · rw [if_neg q2, if_neg q2]
          by_cases q3 : p1 = 3
          · rw [if_pos q3, if_pos q3]
            refine itI_cg (fun j hj => ?_)
            funext a
            show (if xrgQ σ p0 (Int32.ofNat j) then (if (1 : Int32) = 0 then a + 1 else if xiwQ σ p0 (Int32.ofNat j) then a else a + 1) else a) = (if rrgQ ρ g (Int32.ofNat j) then a + (if rthN ρ (rV ρ (340 + g) 0) (Int32.ofNat j) = 0 then 1 else 0) else a)
            by_cases z : rrgQ ρ g (Int32.ofNat j)
            · rw [if_pos z, if_pos ((kq j hj).mpr z), if_neg (fun t : (1 : Int32) = 0 => absurd t (by decide))]
              by_cases w : rtwQ ρ g (Int32.ofNat j)
              · rw [if_pos ((ki j hj).mpr w), if_neg (fun t => (kz j).mp t w), Int32.add_zero]
              · rw [if_neg (fun t => w ((ki j hj).mp t)), if_pos ((kz j).mpr w)]
            · rw [if_neg z, if_neg (fun w => z ((kq j hj).mp w))]
          · rw [if_neg q3, if_neg q3]
            refine itI_cg (fun j hj => ?_)
            funext a
            show (if a = -1 ∧ xiwQ σ p0 (Int32.ofNat j) ∧ xrgQ σ p0 (Int32.ofNat j) then Int32.ofNat j else a) = (if rrgQ ρ g (Int32.ofNat j) then (if rtwQ ρ g (Int32.ofNat j) then (if a = -1 then Int32.ofNat j else a) else a) else a)
            by_cases z : rrgQ ρ g (Int32.ofNat j)
            · rw [if_pos z]
              by_cases w : rtwQ ρ g (Int32.ofNat j)
              · rw [if_pos w]
                by_cases t : a = -1
                · rw [if_pos t, if_pos ⟨t, (ki j hj).mpr w, (kq j hj).mpr z⟩]
                · rw [if_neg t, if_neg (fun s => t s.1)]
              · rw [if_neg w, if_neg (fun s => w ((ki j hj).mp s.2.1))]
            · rw [if_neg z, if_neg (fun s => z ((kq j hj).mp s.2.2))]
  · exact cfail hc (by decide) b
  · exact cfail hc (by decide) b
end YCR
