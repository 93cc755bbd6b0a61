/-! ===== what else stands, kept: the reference's half ===== -/
def cpRB (ρ : RS) : Prop := (∀ k : Nat, k < rZ ρ 210 → 1 ≤ (rV ρ (300 + k) 1).toInt ∧ (rV ρ (300 + k) 1).toInt ≤ 4) ∧ (∀ k : Nat, k < rZ ρ 211 → 0 ≤ (rV ρ (320 + k) 1).toInt ∧ (rV ρ (320 + k) 1).toInt ≤ 5)
section YRB
variable {ρ ρ1 : RS} {r : Option Value}
theorem cpRB.g (h : cpRB ρ) (z0 : rZ ρ1 210 = rZ ρ 210) (z1 : rZ ρ1 211 = rZ ρ 211) (v0 : ∀ k : Nat, k < rZ ρ 210 → rV ρ1 (300 + k) 1 = rV ρ (300 + k) 1) (v1 : ∀ k : Nat, k < rZ ρ 211 → rV ρ1 (320 + k) 1 = rV ρ (320 + k) 1) : cpRB ρ1 := by
  refine ⟨fun k hk => ?_, fun k hk => ?_⟩
  · rw [z0] at hk
    rw [v0 k hk]
    exact h.1 k hk
  · rw [z1] at hk
    rw [v1 k hk]
    exact h.2 k hk
theorem cpRB.sm (h : cpRB ρ) (hr : rb ρ) (hs : rSm ρ ρ1) : cpRB ρ1 := by
  obtain ⟨s0, s1, -⟩ := hr.2.1
  exact h.g (hs.2.1 210) (hs.2.1 211) (fun k hk => congrFun (hs.at (b := 300) (n := rZ ρ 210) (lt := 210) (Or.inl ⟨rfl, rfl⟩) rfl (by omega) k hk) 1) (fun k hk => congrFun (hs.at (b := 320) (n := rZ ρ 211) (lt := 211) (Or.inr (Or.inl ⟨rfl, rfl⟩)) rfl (by omega) k hk) 1)
theorem cpRB.an (h : cpRB ρ) (hr : rb ρ) (hs : rAn ρ ρ1) : cpRB ρ1 := by
  obtain ⟨s0, s1, -⟩ := hr.2.1
  refine h.g (hs.2.1 210) (hs.2.1 211) (fun k hk => congrFun (hs.2.2.1 (300 + k) (fun q => ?_)) 1) (fun k hk => congrFun (hs.2.2.1 (320 + k) (fun q => ?_)) 1)
  · obtain ⟨q1, q2, q3, q4, q5, q6, q7, q8, q9, q10⟩ := q
    omega
  · obtain ⟨q1, q2, q3, q4, q5, q6, q7, q8, q9, q10⟩ := q
    omega
theorem cpRB.fr {J : List Nat} {z1 z2 v1 f1 : Nat} (h : cpRB ρ) (hr : rb ρ) (hq : rFrm J z1 z2 v1 f1 ρ ρ1) (c : (210 ≠ z1 ∧ 210 ≠ z2) ∧ (211 ≠ z1 ∧ 211 ≠ z2)) (v : ∀ k : Nat, k < 8 → 300 + k ≠ v1 ∧ 320 + k ≠ v1) : cpRB ρ1 := by
  obtain ⟨s0, s1, -⟩ := hr.2.1
  exact h.g (hq.z 210 c.1.1 c.1.2) (hq.z 211 c.2.1 c.2.2) (fun k hk => congrFun (hq.v (300 + k) (v k (by omega)).1) 1) (fun k hk => congrFun (hq.v (320 + k) (v k (by omega)).2) 1)
theorem rv_lay {p0 p1 : Int32} (hr : rb ρ) (hb : cpRB ρ) (h : roLay p0 p1 r ρ ρ1) : cpRB ρ1 := by
  rcases h with ⟨-, -, -, -, rfl⟩ | h | h | h
  · exact hb.fr (z1 := 0) (z2 := 0) (f1 := 0) hr rFrm.ar (by decide) (fun k hk => ⟨by omega, by omega⟩)
  · exact hb.sm hr h.2.2
  · exact hb.sm hr h.2.2
  · exact hb.sm hr h.2.2
theorem rv_gates {p0 p1 : Int32} (hr : rb ρ) (hb : cpRB ρ) (h : roGates p0 p1 r ρ ρ1) : cpRB ρ1 := by
  rcases h with ⟨-, -, rfl⟩ | h
  · exact hb.g rfl rfl (fun _ _ => rfl) (fun _ _ => rfl)
  · exact hb.sm hr h.2.2
theorem rv_lamp {p0 p1 : Int32} (hr : rb ρ) (hb : cpRB ρ) (h : roLamp p0 p1 r ρ ρ1) : cpRB ρ1 := by
  obtain ⟨s0, s1, -⟩ := hr.2.1
  rcases h with ⟨-, h2, -, -, rfl⟩ | h | h | h
  · have e1 : (1 : Int32).toInt = 1 := by decide
    have e4 : (4 : Int32).toInt = 4 := by decide
    rw [yle, yle, e1, e4] at h2
    refine ⟨fun k hk => ?_, fun k hk => ?_⟩
    · have hk2 : k < rZ ρ 210 + 1 := hk
      show 1 ≤ ((if 300 + k = 300 + rZ ρ 210 then rlmp p0 p1 else rV ρ (300 + k)) 1).toInt ∧ ((if 300 + k = 300 + rZ ρ 210 then rlmp p0 p1 else rV ρ (300 + k)) 1).toInt ≤ 4
      by_cases q : k = rZ ρ 210
      · rw [if_pos (by omega)]
        exact h2
      · rw [if_neg (by omega)]
        exact hb.1 k (by omega)
    · have hk2 : k < rZ ρ 211 := hk
      show 0 ≤ ((if 320 + k = 300 + rZ ρ 210 then rlmp p0 p1 else rV ρ (320 + k)) 1).toInt ∧ ((if 320 + k = 300 + rZ ρ 210 then rlmp p0 p1 else rV ρ (320 + k)) 1).toInt ≤ 5
      rw [if_neg (by omega)]
      exact hb.2 k hk2
  · exact hb.sm hr h.2.2
  · exact hb.sm hr h.2.2
  · exact hb.sm hr h.2.2
theorem rv_light {p0 p1 : Int32} (hr : rb ρ) (hb : cpRB ρ) (h : roLight p0 p1 r ρ ρ1) : cpRB ρ1 := by
  obtain ⟨s0, s1, -⟩ := hr.2.1
  rcases h with ⟨c, rfl⟩ | h
  · obtain ⟨m, hm, hm2, hk⟩ := guardN (by omega) c
    rw [hk]
    refine hb.g rfl rfl (fun k hk => ?_) (fun k hk => ?_)
    · show (if 300 + k = 300 + m then upd (rV ρ (300 + m)) (Int32.toNatClampNeg 2) (if p1 = 0 then 0 else 1) else rV ρ (300 + k)) 1 = rV ρ (300 + k) 1
      by_cases q : k = m
      · subst q
        rw [if_pos rfl]
        exact pk_un (by decide)
      · rw [if_neg (by omega)]
    · show (if 320 + k = 300 + m then upd (rV ρ (300 + m)) (Int32.toNatClampNeg 2) (if p1 = 0 then 0 else 1) else rV ρ (320 + k)) 1 = rV ρ (320 + k) 1
      rw [if_neg (by omega)]
  · exact hb.sm hr h.2.2
theorem rv_fog {p0 p1 : Int32} (hr : rb ρ) (hb : cpRB ρ) (h : roFog p0 p1 r ρ ρ1) : cpRB ρ1 := by
  obtain ⟨s0, s1, -⟩ := hr.2.1
  rcases h with ⟨h2, -, -, rfl⟩ | h | h
  · have e0 : (0 : Int32).toInt = 0 := by decide
    have e5 : (5 : Int32).toInt = 5 := by decide
    have h3 := h2.2
    rw [yle, yle, e0, e5] at h3
    refine ⟨fun k hk => ?_, fun k hk => ?_⟩
    · have hk2 : k < rZ ρ 210 := hk
      show 1 ≤ ((if 300 + k = 320 + rZ ρ 211 then rtwo p0 p1 else rV ρ (300 + k)) 1).toInt ∧ ((if 300 + k = 320 + rZ ρ 211 then rtwo p0 p1 else rV ρ (300 + k)) 1).toInt ≤ 4
      rw [if_neg (by omega)]
      exact hb.1 k hk2
    · have hk2 : k < rZ ρ 211 + 1 := hk
      show 0 ≤ ((if 320 + k = 320 + rZ ρ 211 then rtwo p0 p1 else rV ρ (320 + k)) 1).toInt ∧ ((if 320 + k = 320 + rZ ρ 211 then rtwo p0 p1 else rV ρ (320 + k)) 1).toInt ≤ 5
      by_cases q : k = rZ ρ 211
      · rw [if_pos (by omega)]
        exact h3
      · rw [if_neg (by omega)]
        exact hb.2 k (by omega)
  · exact hb.sm hr h.2.2
  · exact hb.sm hr h.2.2
theorem rv_wire {p0 p1 : Int32} (hr : rb ρ) (hb : cpRB ρ) (h : roWire p0 p1 r ρ ρ1) : cpRB ρ1 := by
  rcases h with ⟨-, -, -, -, rfl⟩ | h | h | h
  · exact hb.fr (z2 := 0) (f1 := 0) hr rFrm.add (by decide) (fun k hk => ⟨by omega, by omega⟩)
  · exact hb.sm hr h.2.2
  · exact hb.sm hr h.2.2
  · exact hb.sm hr h.2.2
theorem rv_post {p0 : Int32} (hr : rb ρ) (hb : cpRB ρ) (h : roPost p0 r ρ ρ1) : cpRB ρ1 := by
  rcases h with ⟨-, -, -, rfl⟩ | h | h
  · exact hb.fr (z2 := 0) (f1 := 0) hr rFrm.add (by decide) (fun k hk => ⟨by omega, by omega⟩)
  · exact hb.sm hr h.2.2
  · exact hb.sm hr h.2.2
theorem rv_key {p0 p1 : Int32} (hr : rb ρ) (hb : cpRB ρ) (h : roKey p0 p1 r ρ ρ1) : cpRB ρ1 := by
  rcases h with ⟨-, -, rfl⟩ | h
  · exact hb.fr (z1 := 0) (z2 := 0) (f1 := 0) hr rFrm.ar (by decide) (fun k hk => ⟨by omega, by omega⟩)
  · exact hb.sm hr h.2.2
theorem rv_round {p0 p1 : Int32} (hr : rb ρ) (hb : cpRB ρ) (h : roRound p0 p1 r ρ ρ1) : cpRB ρ1 := by
  rcases h with ⟨-, -, -, rfl⟩ | h | h
  · exact hb.fr (z1 := 0) (z2 := 380 + Int32.toNatClampNeg p0) (v1 := 380 + Int32.toNatClampNeg p0) (f1 := 0) hr rFrm.add2 ⟨⟨by decide, by omega⟩, by decide, by omega⟩ (fun k hk => ⟨by omega, by omega⟩)
  · exact hb.sm hr h.2.2
  · exact hb.sm hr h.2.2
theorem rv_guard {p0 p1 p2 p3 : Int32} (hr : rb ρ) (hb : cpRB ρ) (h : roGuard p0 p1 p2 p3 r ρ ρ1) : cpRB ρ1 := by
  rcases h with ⟨-, -, -, -, rfl⟩ | h | h | h
  · exact hb.fr (J := [0]) (z1 := 212) (z2 := 380 + rZ ρ 212) (v1 := 380 + rZ ρ 212) (f1 := 360 + rZ ρ 212) hr ⟨fun k hk => if_neg (fun q => hk (by rw [q]; decide)), fun t h1 h2 => (if_neg h1).trans (if_neg h2), fun t ht => if_neg ht, fun t n ht => if_neg ht⟩ ⟨⟨by decide, by omega⟩, by decide, by omega⟩ (fun k hk => ⟨by omega, by omega⟩)
  · exact hb.sm hr h.2.2
  · exact hb.sm hr h.2.2
  · exact hb.sm hr h.2.2
theorem rv_intruder {p0 p1 p2 : Int32} (hr : rb ρ) (hb : cpRB ρ) (h : roIntr p0 p1 p2 r ρ ρ1) : cpRB ρ1 := by
  rcases h with ⟨-, -, -, -, fw, -, rfl⟩ | h | h | h
  · exact hb.fr (J := [0]) (z1 := 215) (z2 := 0) (v1 := 440 + rZ ρ 215) (f1 := 420 + rZ ρ 215) hr ⟨fun k hk => if_neg (fun q => hk (by rw [q]; decide)), fun t h1 h2 => if_neg h1, fun t ht => if_neg ht, fun t n ht => if_neg ht⟩ (by decide) (fun k hk => ⟨by omega, by omega⟩)
  · exact hb.sm hr h.2.2
  · exact hb.sm hr h.2.2
  · exact hb.sm hr h.2.2
theorem rv_words {p0 : Int32} (hr : rb ρ) (hb : cpRB ρ) (h : roWords p0 r ρ ρ1) : cpRB ρ1 := by
  obtain ⟨s0, s1, -⟩ := hr.2.1
  rcases h with ⟨-, -, -, ⟨-, -, b3, b4, -⟩, -⟩ | h
  · exact hb.g (b3 210 (by decide)) (b3 211 (by decide)) (fun k hk => congrFun (b4 (300 + k) (by omega) (by omega) (by omega)) 1) (fun k hk => congrFun (b4 (320 + k) (by omega) (by omega) (by omega)) 1)
  · exact hb.sm hr h.2.2
theorem rv_leak {p0 : Int32} (hr : rb ρ) (hb : cpRB ρ) (h : roLeak p0 r ρ ρ1) : cpRB ρ1 := by
  obtain ⟨s0, s1, -⟩ := hr.2.1
  rcases h with ⟨-, -, -, -, -, -, -, z_, -, v_, -⟩ | h | h
  · exact hb.g (z_ 210 (by decide)) (z_ 211 (by decide)) (fun k hk => congrFun (v_ (300 + k) (by omega) (by omega)) 1) (fun k hk => congrFun (v_ (320 + k) (by omega) (by omega)) 1)
  · exact hb.sm hr h.2.2
  · exact hb.sm hr h.2.2
theorem rv_base {p0 p1 p2 : Int32} (hr : rb ρ) (hb : cpRB ρ) (h : roBase p0 p1 p2 r ρ ρ1) : cpRB ρ1 := by
  rcases h with ⟨-, ⟨-, rz, -⟩, -⟩ | h
  · have q0 := rz 210 (by decide) (by decide)
    have q1 := rz 211 (by decide) (by decide)
    exact ⟨fun k hk => by omega, fun k hk => by omega⟩
  · exact hb.sm hr h.2.2
theorem rv_place {p0 p1 : Int32} (hr : rb ρ) (hb : cpRB ρ) (h : roPlace p0 p1 r ρ ρ1) : cpRB ρ1 := hb.sm hr h.sm
theorem rv_where {p0 p1 : Int32} (hr : rb ρ) (hb : cpRB ρ) (h : roWhere p0 p1 r ρ ρ1) : cpRB ρ1 := hb.sm hr h.sm
theorem rv_empty {p0 p1 : Int32} (hr : rb ρ) (hb : cpRB ρ) (h : roEmpty p0 p1 r ρ ρ1) : cpRB ρ1 := by
  rcases h with h | h
  · exact hb.sm hr h.2.2.2
  · exact hb.sm hr h.2.2
theorem rv_ofWire {p0 p1 : Int32} (hr : rb ρ) (hb : cpRB ρ) (h : roOfWire p0 p1 r ρ ρ1) : cpRB ρ1 := by
  rcases h with h | h | h
  · exact hb.sm hr h.2.2.2
  · exact hb.sm hr h.2.2
  · exact hb.sm hr h.2.2
end YRB
/-! ===== who sees what, tied ===== -/
/-- what else stands: the views as they are drawn, how far lamps reach, how thick fogs are -/
def cpB (σ : XS) (ρ : RS) : Prop := xvd σ ∧ cpRB ρ
theorem vw_hi {σ : XS} {ρ : RS} {c e a : Nat} (hr : rb ρ) (hD : cpD σ ρ) (hV : xvd σ) (hc : c < rZ ρ 201) (he : rZ ρ 201 ≤ e) (h64 : e < 64) (ha : a ≤ 7) : ¬ bt (σ.2.2.2.2 (c * 8 + a)) e = true := by
  have n64 := hr.n64
  rcases hr.1 with ⟨q, -⟩ | ⟨w1, w2, w3, w4, hN⟩
  · omega
  have eN : (σ.2.2.1 0 * σ.2.2.1 1).toInt = (rZ ρ 201 : Int) := by rw [hD.2.2, yofNat (by omega)]
  rw [hV (rZ ρ 201) eN n64 c hc a (by omega)]
  show ¬ bt (dvP (σ.2.2.1 0) (σ.2.2.1 1) (σ.2.2.2.1 2 ||| σ.2.2.2.1 3) (Int32.ofNat c) (a + 1)).1 e = true
  rw [hD.1, hD.2.1, (dvP_w ⟨w1, w2⟩ ⟨w3, w4⟩ (by omega) (a + 1) (by omega)).1 e h64]
  rintro (q | ⟨d, d9, k, k1, k2, q1, q2, q3, q4⟩)
  · omega
  · have z := yrcN (W := (rI ρ 1).toInt) (H := (rI ρ 2).toInt) q3.1.1 q3.1.2 q3.2.1 q3.2.2
    unfold tce at q4
    omega
section YSW
variable {σ : XS} {ρ : RS}
theorem xvo_c {c a : Int32} {n r : Nat} (hc : c.toInt = (n : Int)) (hn : n < 64) (ha : (xrg a).toInt = (r : Int)) (hr8 : r ≤ 7) : xvo σ c a = σ.2.2.2.2 (n * 8 + r) := by
  have e8 : (8 : Int32).toInt = 8 := by decide
  have e0 : (0 : Int32).toInt = 0 := by decide
  have e9 : (Int32.ofNat 512).toInt = 512 := by decide
  obtain ⟨p1, p2, p3⟩ := xvpl (c := c) (a := xrg a) (by omega) (by omega)
  unfold xvo
  rw [if_neg (by rw [ylt, e0]; omega), if_neg (by rw [yle, e9]; omega)]
  have e : Int32.toNatClampNeg (c * 8 + xrg a) = n * 8 + r := by
    show (c * 8 + xrg a).toInt.toNat = _
    omega
  rw [e]
theorem xvo_no {a : Int32} : xvo σ (-1) a = 0 := by
  have h : (xrg a).toInt ≤ 7 ∧ 0 ≤ (xrg a).toInt := by
    have e8 : (8 : Int32).toInt = 8 := by decide
    have e7 : (7 : Int32).toInt = 7 := by decide
    have e0 : (0 : Int32).toInt = 0 := by decide
    unfold xrg
    by_cases q : 0 ≤ a
    · rw [if_pos q]
      rw [yle, e0] at q
      by_cases z : 8 ≤ a
      · rw [if_pos z, e7]
        omega
      · rw [if_neg z]
        rw [yle, e8] at z
        omega
    · rw [if_neg q, e0]
      omega
  have em : ((-1 : Int32) * 8).toInt = -8 := by decide
  have e0 : (0 : Int32).toInt = 0 := by decide
  unfold xvo
  rw [if_pos (by rw [ylt, yadd (by rw [em]; omega) (by rw [em]; omega), em, e0]; omega)]
theorem xrg_c {a : Int32} (h7 : a.toInt ≤ 7) : (xrg a).toInt = ((a.toInt.toNat : Nat) : Int) ∧ a.toInt.toNat ≤ 7 := by
  have e8 : (8 : Int32).toInt = 8 := by decide
  have e0 : (0 : Int32).toInt = 0 := by decide
  unfold xrg
  by_cases q : 0 ≤ a
  · rw [if_pos q, if_neg (by rw [yle, e8]; omega)]
    rw [yle, e0] at q
    omega
  · rw [if_neg q, e0]
    rw [yle, e0] at q
    omega
/-- a view, as the reference says it -/
theorem xvo_bt {c a : Int32} {n e : Nat} (hr : rb ρ) (hc : cph σ ρ) (hV : xvd σ) (hn : c.toInt = (n : Int)) (hnN : n < rZ ρ 201) (h7 : a.toInt ≤ 7) (he : e < 64) : bt (xvo σ c a) e = true ↔ e < rZ ρ 201 ∧ (rap ρ c (Int32.ofNat e)).toInt ≤ (a.toInt.toNat : Int) ∧ rclr ρ c (Int32.ofNat e) := by
  have n64 := hr.n64
  obtain ⟨x1, x2⟩ := xrg_c h7
  have ec : c = Int32.ofNat n := Int32.toInt_inj.mp (by rw [yofNat (by omega), hn])
  rw [xvo_c hn (by omega) x1 x2]
  by_cases q : e < rZ ρ 201
  · rw [vw_bt hr hc.D hc.K hV hnN q x2, ec]
    exact ⟨fun z => ⟨q, z⟩, fun z => z.2⟩
  · exact ⟨fun z => absurd z (vw_hi hr hc.D hV hnN (by omega) he x2), fun z => absurd z.1 q⟩
theorem rap_0 {c e : Int32} {n m : Nat} (hr : rb ρ) (hn : c.toInt = (n : Int)) (hm : e.toInt = (m : Int)) (hnN : n < rZ ρ 201) (hmN : m < rZ ρ 201) : 0 ≤ (rap ρ c e).toInt ∧ ((rap ρ c e).toInt ≤ 0 ↔ c = e) ∧ (c = e → rclr ρ c e) := by
  have n64 := hr.n64
  rcases hr.1 with ⟨q, -⟩ | ⟨w1, w2, w3, w4, hN⟩
  · omega
  have h64 := wh64 ⟨w1, w2⟩ ⟨w3, w4⟩
  obtain ⟨p1, p2, p3, p4, p5⟩ := yrc (W := (rI ρ 1).toInt) (H := (rI ρ 2).toInt) (a := (n : Int)) (by omega) (by omega) (by omega)
  obtain ⟨q1, q2, q3, q4, q5⟩ := yrc (W := (rI ρ 1).toInt) (H := (rI ρ 2).toInt) (a := (m : Int)) (by omega) (by omega) (by omega)
  have dc1 : (c / rI ρ 1).toInt = (n : Int) / (rI ρ 1).toInt := by rw [ydivn (by omega) (by omega), hn]
  have de1 : (e / rI ρ 1).toInt = (m : Int) / (rI ρ 1).toInt := by rw [ydivn (by omega) (by omega), hm]
  have mc : (c / rI ρ 1 * rI ρ 1).toInt = (n : Int) / (rI ρ 1).toInt * (rI ρ 1).toInt := by rw [ymul (by rw [dc1]; omega) (by rw [dc1]; omega), dc1]
  have me : (e / rI ρ 1 * rI ρ 1).toInt = (m : Int) / (rI ρ 1).toInt * (rI ρ 1).toInt := by rw [ymul (by rw [de1]; omega) (by rw [de1]; omega), de1]
  have cc : (c - c / rI ρ 1 * rI ρ 1).toInt = (n : Int) - (n : Int) / (rI ρ 1).toInt * (rI ρ 1).toInt := by rw [ysub (by rw [mc, hn]; omega) (by rw [mc, hn]; omega), mc, hn]
  have ce : (e - e / rI ρ 1 * rI ρ 1).toInt = (m : Int) - (m : Int) / (rI ρ 1).toInt * (rI ρ 1).toInt := by rw [ysub (by rw [me, hm]; omega) (by rw [me, hm]; omega), me, hm]
  have uR : (c / rI ρ 1 - e / rI ρ 1).toInt = (n : Int) / (rI ρ 1).toInt - (m : Int) / (rI ρ 1).toInt := by rw [ysub (by rw [de1, dc1]; omega) (by rw [de1, dc1]; omega), de1, dc1]
  have uC : ((c - c / rI ρ 1 * rI ρ 1) - (e - e / rI ρ 1 * rI ρ 1)).toInt = ((n : Int) - (n : Int) / (rI ρ 1).toInt * (rI ρ 1).toInt) - ((m : Int) - (m : Int) / (rI ρ 1).toInt * (rI ρ 1).toInt) := by rw [ysub (by rw [ce, cc]; omega) (by rw [ce, cc]; omega), ce, cc]
  have bR := yab_c uR (by omega) (by omega)
  have bC := yab_c uC (by omega) (by omega)
  have fr := ymax_c (a := yab (c / rI ρ 1 - e / rI ρ 1)) (b := yab ((c - c / rI ρ 1 * rI ρ 1) - (e - e / rI ρ 1 * rI ρ 1)))
  have fr2 : ((rap ρ c e).toInt = (yab (c / rI ρ 1 - e / rI ρ 1)).toInt ∧ (yab ((c - c / rI ρ 1 * rI ρ 1) - (e - e / rI ρ 1 * rI ρ 1))).toInt ≤ (yab (c / rI ρ 1 - e / rI ρ 1)).toInt) ∨ ((rap ρ c e).toInt = (yab ((c - c / rI ρ 1 * rI ρ 1) - (e - e / rI ρ 1 * rI ρ 1))).toInt ∧ (yab (c / rI ρ 1 - e / rI ρ 1)).toInt ≤ (yab ((c - c / rI ρ 1 * rI ρ 1) - (e - e / rI ρ 1 * rI ρ 1))).toInt) := fr
  clear fr
  have k1 : 0 ≤ (rap ρ c e).toInt := by omega
  have k2 : (rap ρ c e).toInt ≤ 0 ↔ c = e := by
    constructor
    · intro z
      have z1 : (n : Int) / (rI ρ 1).toInt = (m : Int) / (rI ρ 1).toInt := by omega
      rw [z1] at p5 bC uC
      have z2 : (n : Int) = (m : Int) := by omega
      exact Int32.toInt_inj.mp (by rw [hn, hm, z2])
    · intro z
      have z2 : n = m := by
        rw [z] at hn
        omega
      subst z2
      omega
  refine ⟨k1, k2, fun z => ⟨?_, fun j j1 j2 => ?_⟩⟩
  · subst z
    exact Or.inl (Int32.sub_self _)
  · have := k2.mpr z
    omega
/-- light -/
theorem xbri_bt (hr : rb ρ) (hc : cph σ ρ) (hB : cpB σ ρ) {e : Nat} (he : e < 64) : bt (xbri σ) e = true ↔ e < rZ ρ 201 ∧ rbri ρ (Int32.ofNat e) := by
  have h6 := hc.A.1
  have n64 := hr.n64
  have en : (σ.1 0).toInt.toNat = rZ ρ 210 := by
    rw [hc.A.2.1.1, yofNat (by omega)]
    omega
  unfold xbri rbri
  rw [en]
  have key : ∀ n : Nat, n ≤ rZ ρ 210 → (bt (itI (xbrF σ) 0 n) e = true ↔ e < rZ ρ 201 ∧ ∃ k : Nat, k < n ∧ rbrK ρ (Int32.ofNat e) k) := by
    intro n
    induction n with
    | zero =>
      intro _
      show bt 0 e = true ↔ _
      rw [bt_0]
      exact ⟨fun q => absurd q (by decide), fun ⟨_, k, q, _⟩ => absurd q (Nat.not_lt_zero k)⟩
    | succ n ih =>
      intro hn
      have i := ih (by omega)
      have g0 : (Int32.ofNat n).toInt = (n : Int) := yofNat (by omega)
      have x0 : xat σ 0 (Int32.ofNat n) = rV ρ (300 + n) 0 := (xat_g g0 (by rw [show xcap 0 = 6 from by decide]; omega)).trans (hc.A.2.2.1 n (by omega))
      have x1 : xat σ 1 (Int32.ofNat n) = rV ρ (300 + n) 1 := (xat_g g0 (by rw [show xcap 1 = 6 from by decide]; omega)).trans (hc.A.2.2.2.1 n (by omega))
      have x2 : xat σ 2 (Int32.ofNat n) = rV ρ (300 + n) 2 := (xat_g g0 (by rw [show xcap 2 = 6 from by decide]; omega)).trans (hc.A.2.2.2.2 n (by omega))
      obtain ⟨l1, l2⟩ := hr.2.2.2.2.2.2.1 n (by omega)
      obtain ⟨r1, r2⟩ := hB.2.1 n (by omega)
      have hk : (rV ρ (300 + n) 0).toInt = (((rV ρ (300 + n) 0).toInt.toNat : Nat) : Int) := by omega
      have vb := xvo_bt (c := rV ρ (300 + n) 0) (a := rV ρ (300 + n) 1) hr hc hB.1 hk (by omega) (by omega) he
      have kk : rbrK ρ (Int32.ofNat e) n ↔ rV ρ (300 + n) 2 = 1 ∧ (rap ρ (rV ρ (300 + n) 0) (Int32.ofNat e)).toInt ≤ ((rV ρ (300 + n) 1).toInt.toNat : Int) ∧ rclr ρ (rV ρ (300 + n) 0) (Int32.ofNat e) := by
        unfold rbrK rlit
        rw [yle]
        have t : ((rV ρ (300 + n) 1).toInt.toNat : Int) = (rV ρ (300 + n) 1).toInt := by omega
        rw [t]
      rw [exS, kk]
      show bt (if xat σ 2 (Int32.ofNat n) = 1 then itI (xbrF σ) 0 n ||| xvo σ (xat σ 0 (Int32.ofNat n)) (xat σ 1 (Int32.ofNat n)) else itI (xbrF σ) 0 n) e = true ↔ _
      rw [x0, x1, x2]
      by_cases q : rV ρ (300 + n) 2 = 1
      · rw [if_pos q, bt_or, Bool.or_eq_true, i, vb]
        constructor
        · rintro (⟨z1, z2⟩ | ⟨z1, z2⟩)
          · exact ⟨z1, Or.inl z2⟩
          · exact ⟨z1, Or.inr ⟨q, z2⟩⟩
        · rintro ⟨z1, z2 | ⟨-, z2⟩⟩
          · exact Or.inl ⟨z1, z2⟩
          · exact Or.inr ⟨z1, z2⟩
      · rw [if_neg q, i]
        constructor
        · rintro ⟨z1, z2⟩
          exact ⟨z1, Or.inl z2⟩
        · rintro ⟨z1, z2 | ⟨z2, -⟩⟩
          · exact ⟨z1, z2⟩
          · exact absurd z2 q
  exact key _ (Nat.le_refl _)
/-- fog -/
theorem xfog_eq (hc : cph σ ρ) (m : Int32) : xfog σ m = rfog ρ m := by
  have h8 := hc.F.1
  unfold xfog rfog
  rw [hc.F.2.1.1]
  refine congrArg Prod.snd (itI_cg (fun j hj => ?_))
  rw [cnN (by omega)] at hj
  have g0 : (Int32.ofNat j).toInt = (j : Int) := yofNat (by omega)
  have x3 : xat σ 3 (Int32.ofNat j) = rV ρ (320 + j) 0 := (xat_g g0 (by rw [show xcap 3 = 8 from by decide]; omega)).trans (hc.F.2.2.1 j hj)
  have x4 : xat σ 4 (Int32.ofNat j) = rV ρ (320 + j) 1 := (xat_g g0 (by rw [show xcap 4 = 8 from by decide]; omega)).trans (hc.F.2.2.2 j hj)
  funext a
  unfold xfgF rfgF
  rw [x3, x4, ofNat_cl (by omega)]
theorem rfog_r (hc : cph σ ρ) (hB : cpB σ ρ) (m : Int32) : 0 ≤ (rfog ρ m).toInt ∧ (rfog ρ m).toInt ≤ 5 := by
  have h8 := hc.F.1
  have e0 : (0 : Int32).toInt = 0 := by decide
  have key : ∀ n : Nat, n ≤ rZ ρ 211 → 0 ≤ (itI (rfgF ρ m) (-1, 0) n).2.toInt ∧ (itI (rfgF ρ m) (-1, 0) n).2.toInt ≤ 5 := by
    intro n
    induction n with
    | zero =>
      intro _
      show 0 ≤ (0 : Int32).toInt ∧ (0 : Int32).toInt ≤ 5
      omega
    | succ n ih =>
      intro hn
      have i := ih (by omega)
      have b := hB.2.2 n (by omega)
      show 0 ≤ (rfgF ρ m (Int32.ofNat n) (itI (rfgF ρ m) (-1, 0) n)).2.toInt ∧ (rfgF ρ m (Int32.ofNat n) (itI (rfgF ρ m) (-1, 0) n)).2.toInt ≤ 5
      generalize itI (rfgF ρ m) (-1, 0) n = t at i ⊢
      unfold rfgF
      rw [ofNat_cl (by omega)]
      by_cases q1 : m < rV ρ (320 + n) 0
      · rw [if_pos q1]
        exact i
      · rw [if_neg q1]
        by_cases q2 : rV ρ (320 + n) 0 < t.1
        · rw [if_pos q2]
          exact i
        · rw [if_neg q2]
          exact b
  unfold rfog
  rw [cnN (by omega)]
  exact key _ (Nat.le_refl _)
end YSW
section YSX
variable {σ : XS} {ρ : RS}
theorem rpl_c {k : Nat} {m : Int32} {mm : Nat} (hr : rb ρ) (hk : k < rZ ρ 212) (hm : m.toInt = (mm : Int)) (hm2 : mm ≤ 239) (h : ¬ rpl ρ k m = -1) : rdty ρ k m ∧ (rpl ρ k m).toInt = (((rpl ρ k m).toInt.toNat : Nat) : Int) ∧ (rpl ρ k m).toInt.toNat < rZ ρ 201 := by
  obtain ⟨b0, b1, b2, b3, b4⟩ := hr.2.2.1 k hk
  unfold rpl at h ⊢
  by_cases q : rF ρ (360 + k) 0 ≤ m ∧ m ≤ rF ρ (360 + k) 1
  · rw [if_pos q]
    refine ⟨q, ?_⟩
    have q1 := q.1
    rw [yle] at q1
    have hF := yrng (rF ρ (360 + k) 0)
    have ed : (m - rF ρ (360 + k) 0).toInt = m.toInt - (rF ρ (360 + k) 0).toInt := ysub (by omega) (by omega)
    obtain ⟨x0, x1⟩ := ymodn (x := m - rF ρ (360 + k) 0) (st := rF ρ (360 + k) 2) (s := rZ ρ (380 + k)) b2 b3 (by omega) b1
    generalize (m - rF ρ (360 + k) 0) / rF ρ (360 + k) 2 - (m - rF ρ (360 + k) 0) / rF ρ (360 + k) 2 / Int32.ofNat (rZ ρ (380 + k)) * Int32.ofNat (rZ ρ (380 + k)) = X at x0 x1 ⊢
    have ek : Int32.toNatClampNeg X = X.toInt.toNat := rfl
    obtain ⟨c0, c1⟩ := b4 (Int32.toNatClampNeg X) (by omega)
    omega
  · rw [if_neg q] at h
    exact absurd rfl h
/-- what one guard sees -/
theorem sg_eq {b : Int64} {m : Int32} {mm k e : Nat} {Bq : Prop} (hr : rb ρ) (hc : cph σ ρ) (hB : cpB σ ρ) (hm : m.toInt = (mm : Int)) (hm2 : mm ≤ 239) (hk : k < rZ ρ 212) (he : e < 64) (hb : bt b e = true ↔ e < rZ ρ 201 ∧ Bq) : xsg1 σ m b (Int32.ofNat k) e ↔ e < rZ ρ 201 ∧ rsee ρ k (Int32.ofNat e) m (cif Bq 1 0) (rfog ρ m) := by
  have h6 := hc.G.1
  have n64 := hr.n64
  have g0 : (Int32.ofNat k).toInt = (k : Int) := yofNat (by omega)
  have st := sta_pl (p0 := Int32.ofNat k) (p1 := m) hr hc g0 hk hm hm2
  obtain ⟨f0, f5⟩ := rfog_r hc hB m
  have e0 : (0 : Int32).toInt = 0 := by decide
  have e1 : (1 : Int32).toInt = 1 := by decide
  have e2 : (2 : Int32).toInt = 2 := by decide
  have e7 : (7 : Int32).toInt = 7 := by decide
  unfold xsg1
  rw [st, xfog_eq hc m]
  by_cases z : rpl ρ k m = -1
  · rw [z, xvo_no, xvo_no, bt_0]
    constructor
    · rintro (q | ⟨q, -⟩) <;> exact absurd q (by decide)
    · rintro ⟨-, q, -⟩
      exact absurd z q
  · obtain ⟨dty, hn, hnN⟩ := rpl_c hr hk hm hm2 z
    have x5 : xat σ 5 (Int32.ofNat k) = rF ρ (360 + k) 0 := (xat_g g0 (by rw [show xcap 5 = 6 from by decide]; omega)).trans (hc.G.2.2.1.1 k hk)
    have hle : xles σ (Int32.ofNat k) m = (if rtrd ρ k m then 1 else 0) := by
      unfold xles
      rw [x5]
      by_cases q : 90 ≤ m - rF ρ (360 + k) 0
      · rw [if_pos q, if_pos ⟨dty, q⟩]
      · rw [if_neg q, if_neg (fun w => q w.2)]
    rw [hle]
    have hl : ((if rtrd ρ k m then 1 else 0 : Int32).toInt = 0 ∨ (if rtrd ρ k m then 1 else 0 : Int32).toInt = 1) := by
      by_cases q : rtrd ρ k m
      · rw [if_pos q]
        exact Or.inr e1
      · rw [if_neg q]
        exact Or.inl e0
    have rr0 : ∀ bb : Int32, bb = 0 → rrng ρ k m bb (rfog ρ m) = (2 - rfog ρ m / 2) - (if rtrd ρ k m then 1 else 0) := fun bb q => by
      unfold rrng
      rw [if_pos q]
    have rr1 : ∀ bb : Int32, ¬ bb = 0 → rrng ρ k m bb (rfog ρ m) = (7 - rfog ρ m) - (if rtrd ρ k m then 1 else 0) := fun bb q => by
      unfold rrng
      rw [if_neg q]
    unfold rsee
    generalize (if rtrd ρ k m then 1 else 0 : Int32) = l at hl rr0 rr1 ⊢
    generalize rfog ρ m = f at f0 f5 rr0 rr1 ⊢
    have d1 : (f / 2).toInt = f.toInt / 2 := by rw [ydivn f0 (by omega), e2]
    have d2 : (2 - f / 2).toInt = 2 - f.toInt / 2 := by rw [ysub (by rw [d1, e2]; omega) (by rw [d1, e2]; omega), d1, e2]
    have d3 : ((2 - f / 2) - l).toInt = 2 - f.toInt / 2 - l.toInt := by rw [ysub (by rw [d2]; omega) (by rw [d2]; omega), d2]
    have d4 : (7 - f).toInt = 7 - f.toInt := by rw [ysub (by rw [e7]; omega) (by rw [e7]; omega), e7]
    have d5 : ((7 - f) - l).toInt = 7 - f.toInt - l.toInt := by rw [ysub (by rw [d4]; omega) (by rw [d4]; omega), d4]
    have v1 := xvo_bt (c := rpl ρ k m) (a := (2 - f / 2) - l) hr hc hB.1 hn hnN (by omega) he
    have v2 := xvo_bt (c := rpl ρ k m) (a := (7 - f) - l) hr hc hB.1 hn hnN (by omega) he
    rw [v1, v2, hb]
    by_cases q : e < rZ ρ 201
    · obtain ⟨r0, r1, r2⟩ := rap_0 (c := rpl ρ k m) (e := Int32.ofNat e) (n := (rpl ρ k m).toInt.toNat) (m := e) hr hn (yofNat (by omega)) hnN q
      by_cases t : Bq
      · rw [cif_t t, rr1 1 (by decide), yle, d5, d3]
        constructor
        · rintro (⟨-, y1, y2⟩ | ⟨⟨-, y1, y2⟩, -⟩)
          · exact ⟨q, z, Or.inr ⟨by omega, y2⟩⟩
          · exact ⟨q, z, Or.inr ⟨by omega, y2⟩⟩
        · rintro ⟨-, -, y | ⟨y1, y2⟩⟩
          · exact Or.inr ⟨⟨q, by have := r1.mpr y; omega, r2 y⟩, q, t⟩
          · exact Or.inr ⟨⟨q, by omega, y2⟩, q, t⟩
      · rw [cif_f t, rr0 0 rfl, yle, d3]
        constructor
        · rintro (⟨-, y1, y2⟩ | ⟨-, -, y⟩)
          · by_cases w : 0 ≤ 2 - f.toInt / 2 - l.toInt
            · exact ⟨q, z, Or.inr ⟨by omega, y2⟩⟩
            · exact ⟨q, z, Or.inl (r1.mp (by omega))⟩
          · exact absurd y t
        · rintro ⟨-, -, y | ⟨y1, y2⟩⟩
          · exact Or.inl ⟨q, by have := r1.mpr y; omega, r2 y⟩
          · exact Or.inl ⟨q, by omega, y2⟩
    · constructor
      · rintro (⟨y, -⟩ | ⟨⟨y, -⟩, -⟩) <;> exact absurd y q
      · rintro ⟨y, -⟩
        exact absurd y q
/-- what is watched -/
theorem wat_eq {v : Int64} {m : Int32} {mm e : Nat} (hr : rb ρ) (hc : cph σ ρ) (hB : cpB σ ρ) (hm : m.toInt = (mm : Int)) (hm2 : mm ≤ 239) (he : e < 64) (hv : xsgR σ (-1) m (xbri σ) v) : bt v e = true ↔ e < rZ ρ 201 ∧ rwat ρ (Int32.ofNat e) m := by
  have h6 := hc.G.1
  have e0 : (0 : Int32).toInt = 0 := by decide
  have e1 : (1 : Int32).toInt = 1 := by decide
  have g0 : xg0 (-1) = 0 := if_pos rfl
  have g1 : xg1 σ (-1) = σ.1 5 - 1 := if_pos rfl
  have s5 : (σ.1 5).toInt = (rZ ρ 212 : Int) := by rw [hc.G.2.1.1, yofNat (by omega)]
  have t1 : (σ.1 5 - 1).toInt = (rZ ρ 212 : Int) - 1 := by rw [ysub (by rw [e1]; omega) (by rw [e1]; omega), e1, s5]
  have t2 : (σ.1 5 - 1 + 1).toInt = (rZ ρ 212 : Int) := by rw [yadd (by rw [t1, e1]; omega) (by rw [t1, e1]; omega), t1, e1]; omega
  have h := hv e he
  rw [g0, g1, e0, t2] at h
  rw [h]
  unfold rwat rbr1
  constructor
  · rintro ⟨k, -, k2, k3⟩
    have z := (sg_eq hr hc hB hm hm2 (by omega) he (xbri_bt hr hc hB he)).mp k3
    exact ⟨z.1, k, by omega, z.2⟩
  · rintro ⟨y, k, k2, k3⟩
    exact ⟨k, by omega, by omega, (sg_eq hr hc hB hm hm2 k2 he (xbri_bt hr hc hB he)).mpr ⟨y, k3⟩⟩
end YSX
/-! ===== light, counted ===== -/
noncomputable def pd (P : Prop) : Bool := @decide P (Classical.propDecidable P)
theorem pd_t {P : Prop} (h : P) : pd P = true := @decide_eq_true P (Classical.propDecidable P) h
theorem pd_f {P : Prop} (h : ¬ P) : pd P = false := @decide_eq_false P (Classical.propDecidable P) h
theorem rbrN_cnt {ρ : RS} : ∀ n : Nat, n ≤ 64 → itI (rbrF ρ) 0 n = Int32.ofNat (cnt (fun j => pd (rbri ρ (Int32.ofNat j))) n)
  | 0, _ => rfl
  | n + 1, h => by
    have ih := rbrN_cnt (ρ := ρ) n (by omega)
    show itI (rbrF ρ) 0 n + cif (rbri ρ (Int32.ofNat n)) 1 0 = Int32.ofNat (cnt (fun j => pd (rbri ρ (Int32.ofNat j))) n + (if pd (rbri ρ (Int32.ofNat n)) then 1 else 0))
    have hl := cnt_le (fun j => pd (rbri ρ (Int32.ofNat j))) n
    rw [ih]
    by_cases q : rbri ρ (Int32.ofNat n)
    · rw [cif_t q, if_pos (pd_t q)]
      exact (ofN1 (by omega)).symm
    · rw [cif_f q, if_neg (by rw [pd_f q]; decide)]
      exact Int32.add_zero _
theorem bri_eq {σ : XS} {ρ : RS} (hr : rb ρ) (hc : cph σ ρ) (hB : cpB σ ρ) : bcL (xbri σ) = rbrN ρ := by
  have h64 := hr.n64
  rw [bL_eq, pcn_cnt]
  unfold rbrN
  rw [cnN (by omega), rbrN_cnt _ h64]
  refine congrArg Int32.ofNat ?_
  refine (cnt_up (p := fun j => (bN (xbri σ)).testBit j) 64 h64 (fun j h2 h3 => ?_)).trans (cnt_cg _ (fun j hj => ?_))
  · exact Bool.eq_false_iff.mpr (fun q => absurd ((xbri_bt hr hc hB h3).mp q).1 (by omega))
  · have k := xbri_bt hr hc hB (e := j) (by omega)
    by_cases q : rbri ρ (Int32.ofNat j)
    · rw [pd_t q]
      exact k.mpr ⟨hj, q⟩
    · rw [pd_f q]
      exact Bool.eq_false_iff.mpr (fun z => q (k.mp z).2)
/-! ===== what a cell, a minute is asked: both ===== -/
theorem cif_cnt {P : Int32 → Prop} {F : Int32 → Int32 → Int32} (hF : ∀ p a : Int32, F p a = a + cif (P p) 1 0) : ∀ n : Nat, n ≤ 64 → itI F 0 n = Int32.ofNat (cnt (fun j => pd (P (Int32.ofNat j))) n)
  | 0, _ => rfl
  | n + 1, h => by
    have ih := cif_cnt hF n (by omega)
    show F (Int32.ofNat n) (itI F 0 n) = Int32.ofNat (cnt (fun j => pd (P (Int32.ofNat j))) n + (if pd (P (Int32.ofNat n)) then 1 else 0))
    have hl := cnt_le (fun j => pd (P (Int32.ofNat j))) n
    rw [hF, ih]
    by_cases q : P (Int32.ofNat n)
    · rw [cif_t q, if_pos (pd_t q)]
      exact (ofN1 (by omega)).symm
    · rw [cif_f q, if_neg (by rw [pd_f q]; decide)]
      exact Int32.add_zero _
section YUI
variable {ρ : RS} {c m w : Int32}
theorem rbr1_in : rbr1 (rin ρ 0 0) c = rbr1 ρ c := rfl
theorem rsrN_in : rsrN (rin ρ 0 0) c m = rsrN ρ c m := rfl
theorem rwlk_in : rwlk (rin ρ 0 0) c m = rwlk ρ c m := rfl
theorem rbrN_in : rbrN (rin ρ 0 0) = rbrN ρ := rfl
theorem rouF_in : rouF (rin ρ 0 0) m = rouF ρ m := rfl
theorem rdyF_in : rdyF (rin ρ 0 0) m = rdyF ρ m := rfl
theorem rtiF_in : rtiF (rin ρ 0 0) m = rtiF ρ m := rfl
theorem repF_in : repF (rin ρ 0 0) m = repF ρ m := rfl
theorem rkoF_in : rkoF (rin ρ 0 0) m = rkoF ρ m := rfl
theorem rclN_in : rclN (rin ρ 0 0) c m w = rclN ρ c m w := by
  unfold rclN
  rw [rbr1_in, rsrN_in, ronc_in, rwlk_in]
  try rfl
theorem rmiN_in : rmiN (rin ρ 0 0) m w = rmiN ρ m w := by
  unfold rmiN
  rw [rfog_in, rouF_in, rdyF_in, rtiF_in, repF_in, rbrN_in, rkoF_in]
  try rfl
end YUI
section YUT
variable {σ σ1 : XS} {ρ ρ1 : RS} {v1 v2 : Int32} {nv1 : Int64}
theorem dty_iff {k : Nat} {m : Int32} {mm : Nat} (hr : rb ρ) (hk : k < rZ ρ 212) (hm : m.toInt = (mm : Int)) (hm2 : mm ≤ 239) : ¬ rpl ρ k m = -1 ↔ rdty ρ k m := by
  constructor
  · intro h
    exact (rpl_c hr hk hm hm2 h).1
  · intro q e
    obtain ⟨b0, b1, b2, b3, b4⟩ := hr.2.2.1 k hk
    unfold rpl at e
    rw [if_pos q] at e
    have q1 := q.1
    rw [yle] at q1
    have hF := yrng (rF ρ (360 + k) 0)
    have ed : (m - rF ρ (360 + k) 0).toInt = m.toInt - (rF ρ (360 + k) 0).toInt := ysub (by omega) (by omega)
    obtain ⟨x0, x1⟩ := ymodn (x := m - rF ρ (360 + k) 0) (st := rF ρ (360 + k) 2) (s := rZ ρ (380 + k)) b2 b3 (by omega) b1
    generalize (m - rF ρ (360 + k) 0) / rF ρ (360 + k) 2 - (m - rF ρ (360 + k) 0) / rF ρ (360 + k) 2 / Int32.ofNat (rZ ρ (380 + k)) * Int32.ofNat (rZ ρ (380 + k)) = X at x0 x1 e
    have ek : Int32.toNatClampNeg X = X.toInt.toNat := rfl
    obtain ⟨c0, c1⟩ := b4 (Int32.toNatClampNeg X) (by omega)
    have em : (-1 : Int32).toInt = -1 := by decide
    rw [e, em] at c0
    omega
theorem opn_bt (hr : rb ρ) (hc : cph σ ρ) {e : Nat} (he : e < 64) : bt ((xall (σ.2.2.1 0 * σ.2.2.1 1)) &&& ((σ.2.2.2.1 2) ^^^ (-1))) e = true ↔ e < rZ ρ 201 ∧ ¬ rV ρ 201 e = 1 := by
  have h64 := hr.n64
  rw [bt_and, bt_no e he, bt_all (N := rZ ρ 201) (by rw [hc.D.2.2, yofNat (by omega)]) h64 he, (hc.K e he).1]
  by_cases q : e < rZ ρ 201 <;> by_cases z : rV ρ 201 e = 1 <;> simp [q, z]
theorem wlk_iff {cell m : Int32} {c mm : Nat} (hr : rb ρ) (hc : cph σ ρ) (hcc : cell.toInt = (c : Int)) (hcN : c < rZ ρ 201) (hm : OKm m) : xis (xwlk σ m) cell ↔ rwlk ρ cell m := by
  have h64 := hr.n64
  have ek : Int32.toNatClampNeg cell = c := by
    show cell.toInt.toNat = c
    omega
  have ht := hc.T m hm
  have ho := opn_bt hr hc (e := c) (by omega)
  have hg := (hc.K c (by omega)).2.2.1
  unfold rwlk
  rw [ek, xis_bt hcc (by omega)]
  unfold xwlk
  by_cases q : σ.2.2.1 2 ≤ m ∧ m ≤ σ.2.2.1 3
  · rw [if_pos q, ho]
    exact ⟨fun z => ⟨z.2, Or.inr (ht.mp q)⟩, fun z => ⟨hcN, z.1⟩⟩
  · rw [if_neg q, bt_and, bt_no c (by omega), hg, decide_eq_true hcN, Bool.true_and, Bool.and_eq_true, ho]
    constructor
    · rintro ⟨⟨-, z1⟩, z2⟩
      refine ⟨z1, Or.inl fun t => ?_⟩
      rw [decide_eq_true t] at z2
      exact absurd z2 (by decide)
    · rintro ⟨z1, z2⟩
      refine ⟨⟨hcN, z1⟩, ?_⟩
      have t : ¬ rV ρ 201 c = 3 := z2.resolve_right (fun w => q (ht.mpr w))
      rw [decide_eq_false t]
      rfl
theorem sgv_iff {cell m : Int32} {c mm k : Nat} (hr : rb ρ) (hc : cph σ ρ) (hB : cpB σ ρ) (hcc : cell.toInt = (c : Int)) (hcN : c < rZ ρ 201) (hm : m.toInt = (mm : Int)) (hm2 : mm ≤ 239) (hk : k < rZ ρ 212) : xis (xsgV σ (Int32.ofNat k) m (xbri σ)) cell ↔ rsee ρ k cell m (rbr1 ρ cell) (rfog ρ m) := by
  have h64 := hr.n64
  have h6 := hc.G.1
  have e1 : (1 : Int32).toInt = 1 := by decide
  have em : (-1 : Int32).toInt = -1 := by decide
  have ek : (Int32.ofNat k).toInt = (k : Int) := yofNat (by omega)
  have ec : Int32.ofNat c = cell := Int32.toInt_inj.mp (by rw [yofNat (by omega), hcc])
  have nk : ¬ Int32.ofNat k = -1 := fun z => by
    have z2 := congrArg Int32.toInt z
    rw [ek, em] at z2
    omega
  have g0 : xg0 (Int32.ofNat k) = Int32.ofNat k := if_neg nk
  have g1 : xg1 σ (Int32.ofNat k) = Int32.ofNat k := if_neg nk
  have t1 : (Int32.ofNat k + 1).toInt = (k : Int) + 1 := by rw [yadd (by omega) (by omega), ek, e1]
  have h := (xsg_R (σ := σ) (g := Int32.ofNat k) (m := m) (b := xbri σ)) c (by omega)
  rw [g0, g1, ek, t1] at h
  have hs := sg_eq (b := xbri σ) (Bq := rbri ρ (Int32.ofNat c)) hr hc hB hm hm2 hk (e := c) (by omega) (xbri_bt hr hc hB (by omega))
  rw [ec] at hs
  rw [xis_bt hcc (by omega), h]
  unfold rbr1
  constructor
  · rintro ⟨j, j1, j2, j3⟩
    have ej : j = k := by omega
    rw [ej] at j3
    exact (hs.mp j3).2
  · intro z
    exact ⟨k, Int.le_refl _, by omega, hs.mpr ⟨hcN, z⟩⟩
theorem wat_iff {cell m : Int32} {c mm : Nat} (hr : rb ρ) (hc : cph σ ρ) (hB : cpB σ ρ) (hcc : cell.toInt = (c : Int)) (hcN : c < rZ ρ 201) (hm : m.toInt = (mm : Int)) (hm2 : mm ≤ 239) : xis (xsgV σ (-1) m (xbri σ)) cell ↔ rwat ρ cell m := by
  have h64 := hr.n64
  have ec : Int32.ofNat c = cell := Int32.toInt_inj.mp (by rw [yofNat (by omega), hcc])
  have h := wat_eq hr hc hB hm hm2 (e := c) (by omega) xsg_R
  rw [ec] at h
  rw [xis_bt hcc (by omega), h]
  exact ⟨fun z => z.2, fun z => ⟨hcN, z⟩⟩
theorem cl_eq {cell m what : Int32} {c mm : Nat} (hr : rb ρ) (hc : cph σ ρ) (hB : cpB σ ρ) (hcc : cell.toInt = (c : Int)) (hcN : c < rZ ρ 201) (hm : m.toInt = (mm : Int)) (hm2 : mm ≤ 239) (hm3 : OKm m) : (if what = 0 then xkf σ cell else if what = 1 then (if xis (xbri σ) cell then 1 else 0) else if what = 2 then xgwN σ cell m else if what = 3 then xsoN σ cell m else (if xis (xwlk σ m) cell then 1 else 0)) = rclN ρ cell m what := by
  have h64 := hr.n64
  have h6 := hc.G.1
  have ek : Int32.toNatClampNeg cell = c := by
    show cell.toInt.toNat = c
    omega
  have ec : Int32.ofNat c = cell := Int32.toInt_inj.mp (by rw [yofNat (by omega), hcc])
  have en : (σ.1 5).toInt.toNat = rZ ρ 212 := by rw [hc.G.2.1.1, cnN (by omega)]
  have en2 : (Int32.ofNat (rZ ρ 212)).toInt.toNat = rZ ρ 212 := cnN (by omega)
  have k0 : xkf σ cell = rV ρ 201 (Int32.toNatClampNeg cell) := by
    rw [ek]
    exact hc.K.kind hcc hcN h64
  have k1 : (if xis (xbri σ) cell then (1 : Int32) else 0) = rbr1 ρ cell := by
    have h := xbri_bt hr hc hB (e := c) (by omega)
    rw [ec] at h
    have h2 : xis (xbri σ) cell ↔ rbri ρ cell := by
      rw [xis_bt hcc (by omega), h]
      exact ⟨fun z => z.2, fun z => ⟨hcN, z⟩⟩
    unfold rbr1
    by_cases q : rbri ρ cell
    · rw [if_pos (h2.mpr q), cif_t q]
    · rw [if_neg (fun z => q (h2.mp z)), cif_f q]
  have k2 : xgwN σ cell m = rsrN ρ cell m := by
    unfold xgwN rsrN
    rw [en, en2]
    refine itI_cg (fun j hj => ?_)
    funext a
    have h := sgv_iff hr hc hB hcc hcN hm hm2 hj
    show (if xis (xsgV σ (Int32.ofNat j) m (xbri σ)) cell then a ||| (1 <<< (Int32.ofNat j &&& 31)) else a) = a ||| cif (rsee ρ (Int32.toNatClampNeg (Int32.ofNat j)) cell m (rbr1 ρ cell) (rfog ρ m)) (1 <<< (Int32.ofNat j &&& 31)) 0
    rw [ofNat_cl (by omega)]
    by_cases q : rsee ρ j cell m (rbr1 ρ cell) (rfog ρ m)
    · rw [if_pos (h.mpr q), cif_t q]
    · rw [if_neg (fun z => q (h.mp z)), cif_f q, Int32.or_zero]
  have k3 : xsoN σ cell m = ronc ρ cell m := by
    unfold xsoN ronc
    rw [en, en2]
    refine itI_cg (fun j hj => ?_)
    funext a
    have h := sta_pl (p0 := Int32.ofNat j) (p1 := m) hr hc (yofNat (by omega)) hj hm hm2
    show a ||| (if xsta σ (Int32.ofNat j) m = cell then 1 <<< (Int32.ofNat j &&& 31) else 0) = a ||| (if rpl ρ (Int32.toNatClampNeg (Int32.ofNat j)) m = cell then 1 <<< (Int32.ofNat j &&& 31) else 0)
    rw [ofNat_cl (by omega), h]
  have k4 : (if xis (xwlk σ m) cell then (1 : Int32) else 0) = cif (rwlk ρ cell m) 1 0 := by
    have h := wlk_iff (mm := mm) hr hc hcc hcN hm3
    by_cases q : rwlk ρ cell m
    · rw [if_pos (h.mpr q), cif_t q]
    · rw [if_neg (fun z => q (h.mp z)), cif_f q]
  unfold rclN
  rw [k0, k1, k2, k3, k4]
theorem mi_eq {m what : Int32} {mm : Nat} (hr : rb ρ) (hc : cph σ ρ) (hB : cpB σ ρ) (hm : m.toInt = (mm : Int)) (hm2 : mm ≤ 239) : (if what = 0 then xfog σ m else if what = 1 then bcL (((xall (σ.2.2.1 0 * σ.2.2.1 1)) &&& ((σ.2.2.2.1 2) ^^^ (-1))) &&& ((xsgV σ (-1) m (xbri σ)) ^^^ (-1))) else if what = 2 then xcoN σ m else if what = 3 then xctN σ m else if what = 4 then xepN σ m else if what = 5 then bcL (xbri σ) else xkoN σ m) = rmiN ρ m what := by
  have h64 := hr.n64
  have h6 := hc.G.1
  have h4 := hc.P.1
  have en : (σ.1 5).toInt.toNat = rZ ρ 212 := by rw [hc.G.2.1.1, cnN (by omega)]
  have en2 : (Int32.ofNat (rZ ρ 212)).toInt.toNat = rZ ρ 212 := cnN (by omega)
  have ep : (σ.1 10).toInt.toNat = rZ ρ 213 := by rw [hc.P.2.1, cnN (by omega)]
  have ep2 : (Int32.ofNat (rZ ρ 213)).toInt.toNat = rZ ρ 213 := cnN (by omega)
  have dt : ∀ j : Nat, j < rZ ρ 212 → (¬ xsta σ (Int32.ofNat j) m = -1 ↔ rdty ρ j m) := fun j hj => by
    rw [sta_pl (p0 := Int32.ofNat j) (p1 := m) hr hc (yofNat (by omega)) hj hm hm2]
    exact dty_iff hr hj hm hm2
  have k1 : bcL (((xall (σ.2.2.1 0 * σ.2.2.1 1)) &&& ((σ.2.2.2.1 2) ^^^ (-1))) &&& ((xsgV σ (-1) m (xbri σ)) ^^^ (-1))) = itI (rouF ρ m) 0 (Int32.ofNat (rZ ρ 201)).toInt.toNat := by
    have bq : ∀ e : Nat, e < 64 → (bt (((xall (σ.2.2.1 0 * σ.2.2.1 1)) &&& ((σ.2.2.2.1 2) ^^^ (-1))) &&& ((xsgV σ (-1) m (xbri σ)) ^^^ (-1))) e = true ↔ e < rZ ρ 201 ∧ ¬ rV ρ 201 e = 1 ∧ ¬ rwat ρ (Int32.ofNat e) m) := fun e he => by
      have w := wat_eq hr hc hB hm hm2 (e := e) he xsg_R
      rw [bt_and, bt_no e he, Bool.and_eq_true, opn_bt hr hc he]
      constructor
      · rintro ⟨⟨z1, z2⟩, z3⟩
        refine ⟨z1, z2, fun t => ?_⟩
        rw [w.mpr ⟨z1, t⟩] at z3
        exact absurd z3 (by decide)
      · rintro ⟨z1, z2, z3⟩
        refine ⟨⟨z1, z2⟩, ?_⟩
        rw [Bool.eq_false_iff.mpr (fun t => z3 (w.mp t).2)]
        rfl
    rw [bL_eq, pcn_cnt, cnN (by omega), cif_cnt (F := rouF ρ m) (P := fun p => ¬ rV ρ 201 (Int32.toNatClampNeg p) = 1 ∧ ¬ rwat ρ p m) (fun _ _ => rfl) _ h64]
    refine congrArg Int32.ofNat ?_
    refine (cnt_up (p := fun j => (bN (((xall (σ.2.2.1 0 * σ.2.2.1 1)) &&& ((σ.2.2.2.1 2) ^^^ (-1))) &&& ((xsgV σ (-1) m (xbri σ)) ^^^ (-1)))).testBit j) 64 h64 (fun j h2 h3 => ?_)).trans (cnt_cg _ (fun j hj => ?_))
    · exact Bool.eq_false_iff.mpr (fun q => absurd ((bq j h3).mp q).1 (by omega))
    · have k := bq j (by omega)
      have ej : Int32.toNatClampNeg (Int32.ofNat j) = j := ofNat_cl (by omega)
      by_cases q : ¬ rV ρ 201 (Int32.toNatClampNeg (Int32.ofNat j)) = 1 ∧ ¬ rwat ρ (Int32.ofNat j) m
      · rw [pd_t q]
        rw [ej] at q
        exact k.mpr ⟨hj, q⟩
      · rw [pd_f q]
        rw [ej] at q
        exact Bool.eq_false_iff.mpr (fun z => q (k.mp z).2)
  have k2 : xcoN σ m = itI (rdyF ρ m) 0 (Int32.ofNat (rZ ρ 212)).toInt.toNat := by
    unfold xcoN
    rw [en, en2]
    refine itI_cg (fun j hj => ?_)
    funext a
    show a + (if ¬ xsta σ (Int32.ofNat j) m = -1 then 1 else 0) = a + (if rdty ρ (Int32.toNatClampNeg (Int32.ofNat j)) m then 1 else 0)
    rw [ofNat_cl (by omega)]
    by_cases q : rdty ρ j m
    · rw [if_pos ((dt j hj).mpr q), if_pos q]
    · rw [if_neg (fun z => q ((dt j hj).mp z)), if_neg q]
  have k3 : xctN σ m = itI (rtiF ρ m) 0 (Int32.ofNat (rZ ρ 212)).toInt.toNat := by
    unfold xctN
    rw [en, en2]
    refine itI_cg (fun j hj => ?_)
    funext a
    have f5 : xat σ 5 (Int32.ofNat j) = rF ρ (360 + j) 0 := (xat_g (yofNat (by omega)) (by rw [show xcap 5 = 6 from by decide]; omega)).trans (hc.G.2.2.1.1 j hj)
    show a + (if ¬ xsta σ (Int32.ofNat j) m = -1 then (if 90 ≤ m - xat σ 5 (Int32.ofNat j) then 1 else 0) else 0) = a + (if rtrd ρ (Int32.toNatClampNeg (Int32.ofNat j)) m then 1 else 0)
    rw [ofNat_cl (by omega), f5]
    by_cases q : rdty ρ j m
    · rw [if_pos ((dt j hj).mpr q)]
      by_cases z : 90 ≤ m - rF ρ (360 + j) 0
      · rw [if_pos z, if_pos (show rtrd ρ j m from ⟨q, z⟩)]
      · rw [if_neg z, if_neg (fun t : rtrd ρ j m => z t.2)]
    · rw [if_neg (fun z => q ((dt j hj).mp z)), if_neg (fun t : rtrd ρ j m => q t.1)]
  have k4 : xepN σ m = itI (repF ρ m) 0 (Int32.ofNat (rZ ρ 213)).toInt.toNat := by
    unfold xepN
    rw [ep, ep2]
    refine itI_cg (fun j hj => ?_)
    funext a
    have h := xem_eq (p0 := Int32.ofNat j) (m := m) hr hc (yofNat (by omega)) hj hm hm2
    show (if xis (xhld σ m) (xat σ 10 (Int32.ofNat j)) then a else a + 1) = a + (if remQ ρ (Int32.toNatClampNeg (Int32.ofNat j)) m then 1 else 0)
    rw [ofNat_cl (by omega)]
    by_cases q : remQ ρ j m
    · rw [if_neg (h.mpr q), if_pos q]
    · rw [if_pos (Classical.not_not.mp (fun z => q (h.mp z))), if_neg q, Int32.add_zero]
  have k6 : xkoN σ m = itI (rkoF ρ m) 0 (6 : Int32).toInt.toNat := by
    unfold xkoN
    refine itI_cg (fun j hj => ?_)
    have j6 : j < 6 := hj
    funext a
    have f15 : xat σ 15 (Int32.ofNat j) = rV ρ 203 j := (xat_g (yofNat (by omega)) (by rw [show xcap 15 = 6 from by decide]; omega)).trans (hc.Y j j6)
    show (if xat σ 15 (Int32.ofNat j) = -1 then a else if ¬ xsta σ (xat σ 15 (Int32.ofNat j)) m = -1 then a else a + 1) = a + (if rV ρ 203 (Int32.toNatClampNeg (Int32.ofNat j)) = -1 then 0 else if rdty ρ (Int32.toNatClampNeg (rV ρ 203 (Int32.toNatClampNeg (Int32.ofNat j)))) m then 0 else 1)
    rw [ofNat_cl (by omega), f15]
    by_cases q : rV ρ 203 j = -1
    · rw [if_pos q, if_pos q, Int32.add_zero]
    · rw [if_neg q, if_neg q]
      obtain ⟨g0, g1⟩ := (hr.2.2.2.2.1 j j6).resolve_left q
      have eg : rV ρ 203 j = Int32.ofNat (Int32.toNatClampNeg (rV ρ 203 j)) := Int32.toInt_inj.mp (by
        have z : Int32.toNatClampNeg (rV ρ 203 j) = (rV ρ 203 j).toInt.toNat := rfl
        rw [z, yofNat (by omega)]
        omega)
      have gl : Int32.toNatClampNeg (rV ρ 203 j) < rZ ρ 212 := by
        show (rV ρ 203 j).toInt.toNat < _
        omega
      have d := dt (Int32.toNatClampNeg (rV ρ 203 j)) gl
      rw [← eg] at d
      by_cases z : rdty ρ (Int32.toNatClampNeg (rV ρ 203 j)) m
      · rw [if_pos (d.mpr z), if_pos z, Int32.add_zero]
      · rw [if_neg (fun t => z (d.mp t)), if_neg z]
  unfold rmiN
  rw [xfog_eq hc m, k1, k2, k3, k4, bri_eq hr hc hB, k6]
theorem cp_ofCell {p0 p1 p2 : Int32} (hr : rb ρ) (hc : cph σ ρ) (hB : cpB σ ρ) (h1 : xoOfCell p0 p1 p2 (some (.int v1)) nv1 σ σ1) (h2 : roOfCell p0 p1 p2 (some (.int v2)) ρ ρ1) : CPR σ1 ρ1 v1 nv1 v2 := by
  have e1 : (0 ≤ p0 ∧ p0 ≤ σ.2.2.1 0 * σ.2.2.1 1 - 1) ↔ OKR ρ p0 := by rw [hc.D.2.2]
  have h3 : (OKR ρ p0 ∧ (OKm p1 ∧ (0 ≤ p2 ∧ p2 ≤ 4)) ∧ (some (Value.int v2) = some (.int (rclN (rin ρ 0 0) p0 p1 p2)) ∧ rI ρ1 0 = 0 ∧ rSm ρ ρ1)) ∨ (¬ OKR ρ p0 ∧ (rI ρ1 0 = 1 ∧ rSm ρ ρ1)) ∨ ((OKR ρ p0 ∧ ¬ (OKm p1 ∧ (0 ≤ p2 ∧ p2 ≤ 4))) ∧ (rI ρ1 0 = 2 ∧ rSm ρ ρ1)) := by
    rcases h2 with ⟨⟨q1, q2⟩, q3⟩ | q | q
    · exact Or.inl ⟨q1, q2, q3⟩
    · exact Or.inr (Or.inl q)
    · exact Or.inr (Or.inr q)
  rcases duo h1 h3 e1 (fun _ => Iff.rfl) with ⟨⟨c1, c3⟩, ⟨a1, a2, a3, a4⟩, b1, b2, b3⟩ | b | b
  · cases a1
    cases b1
    have a4 := a4.symm
    subst a4
    obtain ⟨c, hcc, hcN, -⟩ := cellN hr.n64 c1
    obtain ⟨m, hm, hm2, -⟩ := minN c3.1
    refine ⟨hc.sm b3, b2, fun _ => ?_⟩
    rw [a2, rclN_in]
    exact congrArg Int32.toInt64 (cl_eq hr hc hB hcc hcN hm hm2 c3.1)
  · exact cfail hc (by decide) b
  · exact cfail hc (by decide) b
theorem cp_ofMinute {p0 p1 : Int32} (hr : rb ρ) (hc : cph σ ρ) (hB : cpB σ ρ) (h1 : xoOfMinute p0 p1 (some (.int v1)) nv1 σ σ1) (h2 : roOfMinute p0 p1 (some (.int v2)) ρ ρ1) : CPR σ1 ρ1 v1 nv1 v2 := by
  rcases uno h1 h2 Iff.rfl with ⟨c1, ⟨a1, a2, a3, a4⟩, b1, b2, b3⟩ | b
  · cases a1
    cases b1
    have a4 := a4.symm
    subst a4
    obtain ⟨m, hm, hm2, -⟩ := minN c1.1
    refine ⟨hc.sm b3, b2, fun _ => ?_⟩
    rw [a2, rmiN_in]
    exact congrArg Int32.toInt64 (mi_eq hr hc hB hm hm2)
  · exact cfail hc (by decide) b
theorem cp_lapse {p0 p1 p2 : Int32} (hr : rb ρ) (hc : cph σ ρ) (hB : cpB σ ρ) (h1 : xoLapse p0 p1 p2 (some (.int v1)) nv1 σ σ1) (h2 : roLapse p0 p1 p2 (some (.int v2)) ρ ρ1) : CPR σ1 ρ1 v1 nv1 v2 := by
  have e0 : (0 : Int32).toInt = 0 := by decide
  have e9 : (239 : Int32).toInt = 239 := by decide
  have e1 : (0 ≤ p0 ∧ p0 ≤ σ.2.2.1 0 * σ.2.2.1 1 - 1) ↔ OKR ρ p0 := by rw [hc.D.2.2]
  have e2 : ((0 ≤ p1 ∧ p1 ≤ 239) ∧ (0 ≤ p2 ∧ p2 ≤ 239) ∧ p1 ≤ p2) ↔ (OKm p1 ∧ (p1 ≤ p2 ∧ p2 ≤ 239)) := by
    constructor
    · rintro ⟨z1, z2, z3⟩
      exact ⟨z1, z3, z2.2⟩
    · rintro ⟨z1, z3, z4⟩
      refine ⟨z1, ⟨?_, z4⟩, z3⟩
      have z2 := z1.1
      rw [yle] at z2 z3 ⊢
      omega
  have h3 : (OKR ρ p0 ∧ (OKm p1 ∧ (p1 ≤ p2 ∧ p2 ≤ 239)) ∧ (some (Value.int v2) = some (.int (lapN (rnwQ ρ p0) p1 p2)) ∧ rI ρ1 0 = 0 ∧ rSm ρ ρ1)) ∨ (¬ OKR ρ p0 ∧ (rI ρ1 0 = 1 ∧ rSm ρ ρ1)) ∨ ((OKR ρ p0 ∧ ¬ (OKm p1 ∧ (p1 ≤ p2 ∧ p2 ≤ 239))) ∧ (rI ρ1 0 = 2 ∧ rSm ρ ρ1)) := by
    rcases h2 with ⟨⟨q1, q2⟩, q3⟩ | q | q
    · exact Or.inl ⟨q1, q2, q3⟩
    · exact Or.inr (Or.inl q)
    · exact Or.inr (Or.inr q)
  rcases duo h1 h3 e1 (fun _ => e2) with ⟨⟨c1, c3⟩, ⟨a1, a2, a3, a4⟩, b1, b2, b3⟩ | b | b
  · cases a1
    cases b1
    have a4 := a4.symm
    subst a4
    obtain ⟨c, hcc, hcN, -⟩ := cellN hr.n64 c1
    have n9 : p2.toInt ≤ 239 := by
      have z := c3.2.1.2
      rw [yle, e9] at z
      exact z
    refine ⟨hc.sm b3, b2, fun _ => ?_⟩
    rw [a2]
    refine congrArg Int32.toInt64 (lap_cg n9 fun j hj => ?_)
    exact not_congr (wat_iff hr hc hB hcc hcN (yofNat (by omega)) hj)
  · exact cfail hc (by decide) b
  · exact cfail hc (by decide) b
theorem rseV_in {g c m : Int32} : rseV (rin ρ 0 0) g c m = rseV ρ g c m := rfl
theorem see_eq {g cell m : Int32} {c mm : Nat} (hr : rb ρ) (hc : cph σ ρ) (hB : cpB σ ρ) (hcc : cell.toInt = (c : Int)) (hcN : c < rZ ρ 201) (hm : m.toInt = (mm : Int)) (hm2 : mm ≤ 239) (hg : g = -1 ∨ OKG ρ g) : (if xis (xsgV σ g m (xbri σ)) cell then (1 : Int32) else 0) = rseV ρ g cell m := by
  have h6 := hc.G.1
  unfold rseV
  by_cases q : g = -1
  · subst q
    have h := wat_iff hr hc hB hcc hcN hm hm2
    rw [if_pos rfl]
    by_cases z : rwat ρ cell m
    · rw [if_pos (h.mpr z), cif_t z]
    · rw [if_neg (fun t => z (h.mp t)), cif_f z]
  · obtain ⟨k, hk, hk2, hk3⟩ := guardN (by omega) (hg.resolve_left q)
    have ek : Int32.ofNat k = g := Int32.toInt_inj.mp (by rw [yofNat (by omega), hk])
    have h := sgv_iff hr hc hB hcc hcN hm hm2 hk2
    rw [ek] at h
    rw [if_neg q, hk3]
    by_cases z : rsee ρ k cell m (rbr1 ρ cell) (rfog ρ m)
    · rw [if_pos (h.mpr z), cif_t z]
    · rw [if_neg (fun t => z (h.mp t)), cif_f z]
theorem cp_sees {p0 p1 p2 : Int32} (hr : rb ρ) (hc : cph σ ρ) (hB : cpB σ ρ) (h1 : xoSees p0 p1 p2 (some (.int v1)) nv1 σ σ1) (h2 : roSees p0 p1 p2 (some (.int v2)) ρ ρ1) : CPR σ1 ρ1 v1 nv1 v2 := by
  have e1 : ((p0 = -1 ∨ (0 ≤ p0 ∧ p0 ≤ σ.1 5 - 1)) ∧ (0 ≤ p1 ∧ p1 ≤ σ.2.2.1 0 * σ.2.2.1 1 - 1)) ↔ ((p0 = -1 ∨ OKG ρ p0) ∧ OKR ρ p1) := by rw [hc.D.2.2, hc.G.2.1.1]
  have h3 : ((p0 = -1 ∨ OKG ρ p0) ∧ OKR ρ p1) ∧ OKm p2 ∧ (some (Value.int v2) = some (.int (rseV (rin ρ 0 0) p0 p1 p2)) ∧ rI ρ1 0 = 0 ∧ rSm ρ ρ1) ∨ (¬ ((p0 = -1 ∨ OKG ρ p0) ∧ OKR ρ p1) ∧ (rI ρ1 0 = 1 ∧ rSm ρ ρ1)) ∨ ((((p0 = -1 ∨ OKG ρ p0) ∧ OKR ρ p1) ∧ ¬ OKm p2) ∧ (rI ρ1 0 = 2 ∧ rSm ρ ρ1)) := by
    rcases h2 with ⟨⟨q1, q2⟩, q3⟩ | q | q
    · exact Or.inl ⟨q1, q2, q3⟩
    · exact Or.inr (Or.inl q)
    · exact Or.inr (Or.inr q)
  rcases duo h1 h3 e1 (fun _ => Iff.rfl) with ⟨⟨c1, c3⟩, ⟨a1, a2, a3, a4⟩, b1, b2, b3⟩ | b | b
  · cases a1
    cases b1
    have a4 := a4.symm
    subst a4
    obtain ⟨c, hcc, hcN, -⟩ := cellN hr.n64 c1.2
    obtain ⟨m, hm, hm2, -⟩ := minN c3
    refine ⟨hc.sm b3, b2, fun _ => ?_⟩
    rw [a2, rseV_in]
    exact congrArg Int32.toInt64 (see_eq hr hc hB hcc hcN hm hm2 c1.1)
  · exact cfail hc (by decide) b
  · exact cfail hc (by decide) b
end YUT
section YXV
variable {σ σ1 : XS}
theorem xv_base {p0 p1 p2 : Int32} {r : Option Value} {nv : Int64} (hV : xvd σ) (h : xoBase p0 p1 p2 r nv σ σ1) : xvd σ1 := by
  rcases h with ⟨-, -, -, -, q⟩ | ⟨-, -, rfl⟩
  · exact q.2
  · exact hV
theorem xv_lay {p0 p1 : Int32} {r : Option Value} {nv : Int64} (hV : xvd σ) (h : xoLay p0 p1 r nv σ σ1) : xvd σ1 := by
  rcases h with ⟨-, -, -, -, q⟩ | ⟨-, -, rfl⟩ | ⟨-, -, rfl⟩ | ⟨-, -, rfl⟩
  · exact q.2
  · exact hV
  · exact hV
  · exact hV
theorem xv_gates {p0 p1 : Int32} {r : Option Value} {nv : Int64} (hV : xvd σ) (h : xoGates p0 p1 r nv σ σ1) : xvd σ1 := by
  rcases h with ⟨-, -, -, hx, -⟩ | ⟨-, -, rfl⟩
  · exact hV.fr hx
  · exact hV
theorem xv_lamp {p0 p1 : Int32} {r : Option Value} {nv : Int64} (hV : xvd σ) (h : xoLamp p0 p1 r nv σ σ1) : xvd σ1 := by
  rcases h with ⟨-, -, -, hx, -⟩ | ⟨-, -, rfl⟩ | ⟨-, -, rfl⟩ | ⟨-, -, rfl⟩
  · exact hV.fr hx
  · exact hV
  · exact hV
  · exact hV
theorem xv_light {p0 p1 : Int32} {r : Option Value} {nv : Int64} (hV : xvd σ) (h : xoLight p0 p1 r nv σ σ1) : xvd σ1 := by
  rcases h with ⟨-, -, -, hx, -⟩ | ⟨-, -, rfl⟩
  · exact hV.fr hx
  · exact hV
theorem xv_fog {p0 p1 : Int32} {r : Option Value} {nv : Int64} (hV : xvd σ) (h : xoFog p0 p1 r nv σ σ1) : xvd σ1 := by
  rcases h with ⟨-, -, -, hx, -⟩ | ⟨-, -, rfl⟩ | ⟨-, -, rfl⟩
  · exact hV.fr hx
  · exact hV
  · exact hV
theorem xv_guard {p0 p1 p2 p3 : Int32} {r : Option Value} {nv : Int64} (hV : xvd σ) (h : xoGuard p0 p1 p2 p3 r nv σ σ1) : xvd σ1 := by
  rcases h with ⟨-, -, -, hx, -⟩ | ⟨-, -, rfl⟩ | ⟨-, -, rfl⟩ | ⟨-, -, rfl⟩
  · exact hV.fr hx
  · exact hV
  · exact hV
  · exact hV
theorem xv_round {p0 p1 : Int32} {r : Option Value} {nv : Int64} (hV : xvd σ) (h : xoRound p0 p1 r nv σ σ1) : xvd σ1 := by
  rcases h with ⟨-, -, -, hx, -⟩ | ⟨-, -, rfl⟩ | ⟨-, -, rfl⟩
  · exact hV.fr hx
  · exact hV
  · exact hV
theorem xv_post {p0 : Int32} {r : Option Value} {nv : Int64} (hV : xvd σ) (h : xoPost p0 r nv σ σ1) : xvd σ1 := by
  rcases h with ⟨-, -, -, hx, -⟩ | ⟨-, -, rfl⟩ | ⟨-, -, rfl⟩
  · exact hV.fr hx
  · exact hV
  · exact hV
theorem xv_place {p0 p1 : Int32} {r : Option Value} {nv : Int64} (hV : xvd σ) (h : xoPlace p0 p1 r nv σ σ1) : xvd σ1 := by
  rcases h with ⟨-, -, -, hx, -⟩ | ⟨-, -, rfl⟩ | ⟨-, -, rfl⟩
  · exact hV.fr hx
  · exact hV
  · exact hV
theorem xv_words {p0 : Int32} {r : Option Value} {nv : Int64} (hV : xvd σ) (h : xoWords p0 r nv σ σ1) : xvd σ1 := by
  rcases h with ⟨-, -, -, hx, -⟩ | ⟨-, -, rfl⟩
  · exact hV.fr hx
  · exact hV
theorem xv_leak {p0 : Int32} {r : Option Value} {nv : Int64} (hV : xvd σ) (h : xoLeak p0 r nv σ σ1) : xvd σ1 := by
  rcases h with ⟨-, -, -, hx, -⟩ | ⟨-, -, rfl⟩ | ⟨-, -, rfl⟩
  · exact hV.fr hx
  · exact hV
  · exact hV
theorem xv_key {p0 p1 : Int32} {r : Option Value} {nv : Int64} (hV : xvd σ) (h : xoKey p0 p1 r nv σ σ1) : xvd σ1 := by
  rcases h with ⟨-, -, -, hx, -⟩ | ⟨-, -, rfl⟩
  · exact hV.fr hx
  · exact hV
theorem xv_wire {p0 p1 : Int32} {r : Option Value} {nv : Int64} (hV : xvd σ) (h : xoWire p0 p1 r nv σ σ1) : xvd σ1 := by
  rcases h with ⟨-, -, -, hx, -⟩ | ⟨-, -, rfl⟩ | ⟨-, -, rfl⟩ | ⟨-, -, rfl⟩
  · exact hV.fr hx
  · exact hV
  · exact hV
  · exact hV
theorem xv_where {p0 p1 : Int32} {r : Option Value} {nv : Int64} (hV : xvd σ) (h : xoWhere p0 p1 r nv σ σ1) : xvd σ1 := by
  rcases h with ⟨-, -, -, hx, -⟩ | ⟨-, -, rfl⟩ | ⟨-, -, rfl⟩
  · exact hV.fr hx
  · exact hV
  · exact hV
theorem xv_ofWire {p0 p1 : Int32} {r : Option Value} {nv : Int64} (hV : xvd σ) (h : xoOfWire p0 p1 r nv σ σ1) : xvd σ1 := by
  rcases h with ⟨-, -, -, hx, -⟩ | ⟨-, -, rfl⟩ | ⟨-, -, rfl⟩
  · exact hV.fr hx
  · exact hV
  · exact hV
theorem xv_empty {p0 p1 : Int32} {r : Option Value} {nv : Int64} (hV : xvd σ) (h : xoEmpty p0 p1 r nv σ σ1) : xvd σ1 := by
  rcases h with ⟨-, -, -, hx, -⟩ | ⟨-, -, rfl⟩
  · exact hV.fr hx
  · exact hV
theorem xv_ofCell {p0 p1 p2 : Int32} {r : Option Value} {nv : Int64} (hV : xvd σ) (h : xoOfCell p0 p1 p2 r nv σ σ1) : xvd σ1 := by
  rcases h with ⟨-, -, -, hx, -⟩ | ⟨-, -, rfl⟩ | ⟨-, -, rfl⟩
  · exact hV.fr hx
  · exact hV
  · exact hV
theorem xv_ofMinute {p0 p1 : Int32} {r : Option Value} {nv : Int64} (hV : xvd σ) (h : xoOfMinute p0 p1 r nv σ σ1) : xvd σ1 := by
  rcases h with ⟨-, -, -, hx, -⟩ | ⟨-, -, rfl⟩
  · exact hV.fr hx
  · exact hV
theorem xv_lapse {p0 p1 p2 : Int32} {r : Option Value} {nv : Int64} (hV : xvd σ) (h : xoLapse p0 p1 p2 r nv σ σ1) : xvd σ1 := by
  rcases h with ⟨-, -, -, hx, -⟩ | ⟨-, -, rfl⟩ | ⟨-, -, rfl⟩
  · exact hV.fr hx
  · exact hV
  · exact hV
theorem xv_sees {p0 p1 p2 : Int32} {r : Option Value} {nv : Int64} (hV : xvd σ) (h : xoSees p0 p1 p2 r nv σ σ1) : xvd σ1 := by
  rcases h with ⟨-, -, -, hx, -⟩ | ⟨-, -, rfl⟩ | ⟨-, -, rfl⟩
  · exact hV.fr hx
  · exact hV
  · exact hV
theorem xv_intruder {p0 p1 p2 : Int32} {r : Option Value} {nv : Int64} (hV : xvd σ) (h : xoIntruder p0 p1 p2 r nv σ σ1) : xvd σ1 := by
  rcases h with ⟨-, -, -, hx⟩ | ⟨-, -, rfl⟩ | ⟨-, -, rfl⟩ | ⟨-, -, hx⟩
  · exact hV.fr hx
  · exact hV
  · exact hV
  · exact hV.fr hx
end YXV
/-! ===== both together ===== -/
def cpx (σ : XS) (ρ : RS) : Prop := (σ.2.2.1 7 = rI ρ 9) ∧ cph σ ρ ∧ cpB σ ρ
abbrev CPX (σ1 : XS) (ρ1 : RS) (v1 : Int32) (nv1 : Int64) (v2 : Int32) : Prop := cpx σ1 ρ1 ∧ rI ρ1 0 = v1 ∧ (v1 = 0 → nv1 = Int32.toInt64 v2)
section YCX
variable {σ σ1 : XS} {ρ ρ1 : RS} {v1 v2 : Int32} {nv1 : Int64}
theorem cpx.A (h : cpx σ ρ) : cpA σ ρ := h.2.1.A
theorem cx_of (h : CPR σ1 ρ1 v1 nv1 v2) (hV : xvd σ1) (hb : cpRB ρ1) : CPX σ1 ρ1 v1 nv1 v2 := ⟨⟨h.1.k, h.1, hV, hb⟩, h.2⟩
theorem cpx.kpX (h : cpx σ ρ) (hx : xfr NC σ σ1) : cpx σ1 ρ := ⟨(h.2.1.kpX hx).k, h.2.1.kpX hx, h.2.2.1.fr hx, h.2.2.2⟩
theorem cpx.kpR (h : cpx σ ρ) (hr : rb ρ) (hs : rSm ρ ρ1) : cpx σ ρ1 := ⟨(h.2.1.sm hs).k, h.2.1.sm hs, h.2.2.1, h.2.2.2.sm hr hs⟩
theorem cpx.kpA (h : cpx σ ρ) (hr : rb ρ) (hs : rAn ρ ρ1) : cpx σ ρ1 := ⟨(h.2.1.kpA hs).k, h.2.1.kpA hs, h.2.2.1, h.2.2.2.an hr hs⟩
theorem cpx.kn (h : cpx σ ρ) : cpx (xin σ 7 (σ.2.2.1 7 + 1)) (rin (rin ρ 0 0) 9 (rI ρ 9 + 1)) := ⟨h.2.1.kn.k, h.2.1.kn, h.2.2.1.fr (xkn_in (k := 7)), h.2.2.2.g rfl rfl (fun _ _ => rfl) (fun _ _ => rfl)⟩
theorem cpx.ini (h : xini σ) (g : rini ρ) (g4 : rNew 0 0 ρ) : cpx σ ρ := by
  have hc := cph.ini h g g4
  obtain ⟨rz, -⟩ := g
  have q0 := rz 210 (by decide) (by decide)
  have q1 := rz 211 (by decide) (by decide)
  refine ⟨hc.k, hc, fun N hN _ c hc9 => ?_, fun k hk => by omega, fun k hk => by omega⟩
  have e0 := h.1.i (k := 0) (v := 0) rfl
  have z : ((0 : Int32) * σ.2.2.1 1).toInt = 0 := by rw [Int32.zero_mul]; decide
  rw [e0, z] at hN
  omega
theorem cx_base {p0 p1 p2 : Int32} (hr : rb ρ) (hr1 : rb ρ1) (hc : cpx σ ρ) (h1 : xoBase p0 p1 p2 (some (.int v1)) nv1 σ σ1) (h2 : roBase p0 p1 p2 (some (.int v2)) ρ ρ1) : CPX σ1 ρ1 v1 nv1 v2 := cx_of (cp_base hr1 hc.2.1 h1 h2) (xv_base hc.2.2.1 h1) (rv_base hr hc.2.2.2 h2)
theorem cx_lay {p0 p1 : Int32} (hr : rb ρ) (hc : cpx σ ρ) (h1 : xoLay p0 p1 (some (.int v1)) nv1 σ σ1) (h2 : roLay p0 p1 (some (.int v2)) ρ ρ1) : CPX σ1 ρ1 v1 nv1 v2 := cx_of (cp_lay hr hc.2.1 h1 h2) (xv_lay hc.2.2.1 h1) (rv_lay hr hc.2.2.2 h2)
theorem cx_gates {p0 p1 : Int32} (hr : rb ρ) (hc : cpx σ ρ) (h1 : xoGates p0 p1 (some (.int v1)) nv1 σ σ1) (h2 : roGates p0 p1 (some (.int v2)) ρ ρ1) : CPX σ1 ρ1 v1 nv1 v2 := cx_of (cp_gates hr hc.2.1 h1 h2) (xv_gates hc.2.2.1 h1) (rv_gates hr hc.2.2.2 h2)
theorem cx_lamp {p0 p1 : Int32} (hr : rb ρ) (hc : cpx σ ρ) (h1 : xoLamp p0 p1 (some (.int v1)) nv1 σ σ1) (h2 : roLamp p0 p1 (some (.int v2)) ρ ρ1) : CPX σ1 ρ1 v1 nv1 v2 := cx_of (cp_lamp hr hc.2.1 h1 h2) (xv_lamp hc.2.2.1 h1) (rv_lamp hr hc.2.2.2 h2)
theorem cx_light {p0 p1 : Int32} (hr : rb ρ) (hr1 : rb ρ1) (hc : cpx σ ρ) (h1 : xoLight p0 p1 (some (.int v1)) nv1 σ σ1) (h2 : roLightV p0 p1 (some (.int v2)) ρ ρ1) : CPX σ1 ρ1 v1 nv1 v2 := by
  have h := cp_light hc.2.1 h1 h2.w
  have hx : cpx σ1 ρ1 := ⟨h.1.k, h.1, xv_light hc.2.2.1 h1, rv_light hr hc.2.2.2 h2.w⟩
  refine ⟨hx, h.2, fun e => ?_⟩
  rcases h1 with ⟨-, a1, a2, -, a4⟩ | ⟨-, a1, -⟩
  · rcases h2 with ⟨-, -, b1⟩ | ⟨-, b1, -⟩
    · cases b1
      rw [a2, ← a4, bri_eq hr1 hx.2.1 hx.2.2]
    · have z := h.2.symm.trans b1
      rw [e] at z
      exact absurd z (by decide)
  · cases a1
    exact absurd e (by decide)
theorem cx_fog {p0 p1 : Int32} (hr : rb ρ) (hc : cpx σ ρ) (h1 : xoFog p0 p1 (some (.int v1)) nv1 σ σ1) (h2 : roFog p0 p1 (some (.int v2)) ρ ρ1) : CPX σ1 ρ1 v1 nv1 v2 := cx_of (cp_fog hc.2.1 h1 h2) (xv_fog hc.2.2.1 h1) (rv_fog hr hc.2.2.2 h2)
theorem cx_guard {p0 p1 p2 p3 : Int32} (hr : rb ρ) (hc : cpx σ ρ) (h1 : xoGuard p0 p1 p2 p3 (some (.int v1)) nv1 σ σ1) (h2 : roGuard p0 p1 p2 p3 (some (.int v2)) ρ ρ1) : CPX σ1 ρ1 v1 nv1 v2 := cx_of (cp_guard hr hc.2.1 h1 h2) (xv_guard hc.2.2.1 h1) (rv_guard hr hc.2.2.2 h2)
theorem cx_round {p0 p1 : Int32} (hr : rb ρ) (hc : cpx σ ρ) (h1 : xoRound p0 p1 (some (.int v1)) nv1 σ σ1) (h2 : roRound p0 p1 (some (.int v2)) ρ ρ1) : CPX σ1 ρ1 v1 nv1 v2 := cx_of (cp_round hr hc.2.1 h1 h2) (xv_round hc.2.2.1 h1) (rv_round hr hc.2.2.2 h2)
theorem cx_post {p0 : Int32} (hr : rb ρ) (hc : cpx σ ρ) (h1 : xoPost p0 (some (.int v1)) nv1 σ σ1) (h2 : roPost p0 (some (.int v2)) ρ ρ1) : CPX σ1 ρ1 v1 nv1 v2 := cx_of (cp_post hr hc.2.1 h1 h2) (xv_post hc.2.2.1 h1) (rv_post hr hc.2.2.2 h2)
theorem cx_place {p0 p1 : Int32} (hr : rb ρ) (hc : cpx σ ρ) (h1 : xoPlace p0 p1 (some (.int v1)) nv1 σ σ1) (h2 : roPlace p0 p1 (some (.int v2)) ρ ρ1) : CPX σ1 ρ1 v1 nv1 v2 := cx_of (cp_place hr hc.2.1 h1 h2) (xv_place hc.2.2.1 h1) (rv_place hr hc.2.2.2 h2)
theorem cx_words {p0 : Int32} (hr : rb ρ) (hc : cpx σ ρ) (h1 : xoWords p0 (some (.int v1)) nv1 σ σ1) (h2 : roWords p0 (some (.int v2)) ρ ρ1) : CPX σ1 ρ1 v1 nv1 v2 := cx_of (cp_words hr hc.2.1 h1 h2) (xv_words hc.2.2.1 h1) (rv_words hr hc.2.2.2 h2)
theorem cx_leak {p0 : Int32} (hr : rb ρ) (hb : xb σ) (hc : cpx σ ρ) (h1 : xoLeak p0 (some (.int v1)) nv1 σ σ1) (h2 : roLeak p0 (some (.int v2)) ρ ρ1) : CPX σ1 ρ1 v1 nv1 v2 := cx_of (cp_leak hb hc.2.1 h1 h2) (xv_leak hc.2.2.1 h1) (rv_leak hr hc.2.2.2 h2)
theorem cx_key {p0 p1 : Int32} (hr : rb ρ) (hc : cpx σ ρ) (h1 : xoKey p0 p1 (some (.int v1)) nv1 σ σ1) (h2 : roKey p0 p1 (some (.int v2)) ρ ρ1) : CPX σ1 ρ1 v1 nv1 v2 := cx_of (cp_key hc.2.1 h1 h2) (xv_key hc.2.2.1 h1) (rv_key hr hc.2.2.2 h2)
theorem cx_wire {p0 p1 : Int32} (hr : rb ρ) (hc : cpx σ ρ) (h1 : xoWire p0 p1 (some (.int v1)) nv1 σ σ1) (h2 : roWire p0 p1 (some (.int v2)) ρ ρ1) : CPX σ1 ρ1 v1 nv1 v2 := cx_of (cp_wire hc.2.1 h1 h2) (xv_wire hc.2.2.1 h1) (rv_wire hr hc.2.2.2 h2)
theorem cx_where {p0 p1 : Int32} (hr : rb ρ) (hc : cpx σ ρ) (h1 : xoWhere p0 p1 (some (.int v1)) nv1 σ σ1) (h2 : roWhere p0 p1 (some (.int v2)) ρ ρ1) : CPX σ1 ρ1 v1 nv1 v2 := cx_of (cp_where hc.2.1 h1 h2) (xv_where hc.2.2.1 h1) (rv_where hr hc.2.2.2 h2)
theorem cx_ofWire {p0 p1 : Int32} (hr : rb ρ) (hc : cpx σ ρ) (h1 : xoOfWire p0 p1 (some (.int v1)) nv1 σ σ1) (h2 : roOfWire p0 p1 (some (.int v2)) ρ ρ1) : CPX σ1 ρ1 v1 nv1 v2 := cx_of (cp_ofWire hc.2.1 h1 h2) (xv_ofWire hc.2.2.1 h1) (rv_ofWire hr hc.2.2.2 h2)
theorem cx_empty {p0 p1 : Int32} (hr : rb ρ) (hc : cpx σ ρ) (h1 : xoEmpty p0 p1 (some (.int v1)) nv1 σ σ1) (h2 : roEmpty p0 p1 (some (.int v2)) ρ ρ1) : CPX σ1 ρ1 v1 nv1 v2 := cx_of (cp_empty hr hc.2.1 h1 h2) (xv_empty hc.2.2.1 h1) (rv_empty hr hc.2.2.2 h2)
theorem rv_ofCell {p0 p1 p2 : Int32} {r : Option Value} (hr : rb ρ) (hb : cpRB ρ) (h : roOfCell p0 p1 p2 r ρ ρ1) : cpRB ρ1 := by
  rcases h with h | h | h
  · exact hb.sm hr h.2.2.2
  · exact hb.sm hr h.2.2
  · exact hb.sm hr h.2.2

theorem cx_ofCell {p0 p1 p2 : Int32} (hr : rb ρ) (hc : cpx σ ρ) (h1 : xoOfCell p0 p1 p2 (some (.int v1)) nv1 σ σ1) (h2 : roOfCell p0 p1 p2 (some (.int v2)) ρ ρ1) : CPX σ1 ρ1 v1 nv1 v2 := cx_of (cp_ofCell hr hc.2.1 hc.2.2 h1 h2) (xv_ofCell hc.2.2.1 h1) (rv_ofCell hr hc.2.2.2 h2)
theorem rv_ofMinute {p0 p1 : Int32} {r : Option Value} (hr : rb ρ) (hb : cpRB ρ) (h : roOfMinute p0 p1 r ρ ρ1) : cpRB ρ1 := by
  rcases h with h | h
  · exact hb.sm hr h.2.2.2
  · exact hb.sm hr h.2.2

theorem cx_ofMinute {p0 p1 : Int32} (hr : rb ρ) (hc : cpx σ ρ) (h1 : xoOfMinute p0 p1 (some (.int v1)) nv1 σ σ1) (h2 : roOfMinute p0 p1 (some (.int v2)) ρ ρ1) : CPX σ1 ρ1 v1 nv1 v2 := cx_of (cp_ofMinute hr hc.2.1 hc.2.2 h1 h2) (xv_ofMinute hc.2.2.1 h1) (rv_ofMinute hr hc.2.2.2 h2)
theorem rv_lapse {p0 p1 p2 : Int32} {r : Option Value} (hr : rb ρ) (hb : cpRB ρ) (h : roLapse p0 p1 p2 r ρ ρ1) : cpRB ρ1 := by
  rcases h with h | h | h
  · exact hb.sm hr h.2.2.2
  · exact hb.sm hr h.2.2
  · exact hb.sm hr h.2.2

theorem cx_lapse {p0 p1 p2 : Int32} (hr : rb ρ) (hc : cpx σ ρ) (h1 : xoLapse p0 p1 p2 (some (.int v1)) nv1 σ σ1) (h2 : roLapse p0 p1 p2 (some (.int v2)) ρ ρ1) : CPX σ1 ρ1 v1 nv1 v2 := cx_of (cp_lapse hr hc.2.1 hc.2.2 h1 h2) (xv_lapse hc.2.2.1 h1) (rv_lapse hr hc.2.2.2 h2)
theorem rv_sees {p0 p1 p2 : Int32} {r : Option Value} (hr : rb ρ) (hb : cpRB ρ) (h : roSees p0 p1 p2 r ρ ρ1) : cpRB ρ1 := by
  rcases h with h | h | h
  · exact hb.sm hr h.2.2.2
  · exact hb.sm hr h.2.2
  · exact hb.sm hr h.2.2

theorem cx_sees {p0 p1 p2 : Int32} (hr : rb ρ) (hc : cpx σ ρ) (h1 : xoSees p0 p1 p2 (some (.int v1)) nv1 σ σ1) (h2 : roSees p0 p1 p2 (some (.int v2)) ρ ρ1) : CPX σ1 ρ1 v1 nv1 v2 := cx_of (cp_sees hr hc.2.1 hc.2.2 h1 h2) (xv_sees hc.2.2.1 h1) (rv_sees hr hc.2.2.2 h2)
theorem cx_intruder {p0 p1 p2 : Int32} (hr : rb ρ) (hc : cpx σ ρ) (h1 : xoIntruder p0 p1 p2 (some (.int v1)) nv1 σ σ1) (h2 : roIntr p0 p1 p2 (some (.int v2)) ρ ρ1) : CPX σ1 ρ1 v1 nv1 v2 := cx_of (cp_intruder hr hc.2.1 h1 h2) (xv_intruder hc.2.2.1 h1) (rv_intruder hr hc.2.2.2 h2)
end YCX
