/-! ===== how class and reference are tied: 36d ===== -/
/-- asking, answering, forcing -/
theorem cph.kp {σ σ1 : XS} {ρ ρ1 : RS} (h : cph σ ρ) (hx : xfr NH σ σ1) (ha : rAn ρ ρ1) : cph σ1 ρ1 := by
  have b1 := h.A.1
  have b2 := h.F.1
  have b3 := h.W.1
  have b4 := h.P.1
  have b5 := h.G.1
  have b6 := h.I.1
  have lo : ∀ t : Nat, t < 300 → rV ρ1 t = rV ρ t := fun t ht => ha.2.2.1 t (fun q => by have := q.1; omega)
  have at_ : ∀ b n lt : Nat, ((b = 300 ∧ lt = 210) ∨ (b = 320 ∧ lt = 211) ∨ (b = 340 ∧ lt = 216) ∨ (b = 380 ∧ lt = 212) ∨ (b = 440 ∧ lt = 215)) → n = rZ ρ lt → n ≤ 8 → rAt ρ ρ1 b n := by
    intro b n lt hc hn h9 k hk
    refine ha.2.2.1 _ (fun q => ?_)
    obtain ⟨q1, q2, q3, q4, q5, q6, q7, q8, q9, q10⟩ := q
    rcases hc with ⟨rfl, rfl⟩ | ⟨rfl, rfl⟩ | ⟨rfl, rfl⟩ | ⟨rfl, rfl⟩ | ⟨rfl, rfl⟩ <;> omega
  exact 
    ⟨((hx.i h.k).trans (ha.1 9 (by decide) (by decide)).symm),
    ((h.L.x hx).r (ha.1 5 (by decide) (by decide)) (ha.1 6 (by decide) (by decide)) (ha.1 7 (by decide) (by decide)) (lo 202 (by decide))),
    ((h.D.x hx).r (ha.1 1 (by decide) (by decide)) (ha.1 2 (by decide) (by decide)) (ha.2.1 201)),
    ((h.K.x hx).r (ha.2.1 201) (lo 201 (by decide))),
    ((h.T.x hx).r (ha.1 3 (by decide) (by decide)) (ha.1 4 (by decide) (by decide))),
    ((h.A.x hx).r (ha.2.1 210) (at_ 300 _ 210 (by decide) rfl (by omega))),
    ((h.F.x hx).r (ha.2.1 211) (at_ 320 _ 211 (by decide) rfl (by omega))),
    ((h.W.x hx).r (ha.2.1 216) (at_ 340 _ 216 (by decide) rfl (by omega))),
    ((h.P.x hx).r (ha.2.1 213) (lo 213 (by decide))),
    ((h.Y.x hx).r (fun _ _ => congrFun (lo 203 (by decide)) _)),
    ((h.G.x hx).r (ha.2.1 212) (fun k hk => ha.2.1 _) (at_ 380 _ 212 (by decide) rfl (by omega)) (fun k n hk hn => ha.2.2.2 _ _ (by omega))),
    ((h.I.x hx).r (ha.2.1 215) (at_ 440 _ 215 (by decide) rfl (by omega)) (fun k n hk hn => ha.2.2.2 _ _ (by omega)))⟩
theorem cph.sm {σ : XS} {ρ ρ1 : RS} (h : cph σ ρ) (hr : rSm ρ ρ1) : cph σ ρ1 := h.kp xkn.rfl'.w (rAn.sm hr)

/-- lamps alone -/
theorem cph.oA {σ σ1 : XS} {ρ ρ1 : RS} {n : Nat} (h : cph σ ρ) (hx : xfr [0, 1, 2, 24, 25, 26] σ σ1) (hq : rFrm [0] 210 0 (300 + n) 0 ρ ρ1) (hn : n ≤ 6) (ha : cpA σ1 ρ1) : cph σ1 ρ1 := by
  have b1 := h.A.1
  have b2 := h.F.1
  have b3 := h.W.1
  have b4 := h.P.1
  have b5 := h.G.1
  have b6 := h.I.1
  exact 
    ⟨((hx.i h.k).trans (hq.i 9 (by decide)).symm),
    ((h.L.x hx).r (hq.i 5 (by decide)) (hq.i 6 (by decide)) (hq.i 7 (by decide)) (hq.v 202 (by omega))),
    ((h.D.x hx).r (hq.i 1 (by decide)) (hq.i 2 (by decide)) (hq.z 201 (by omega) (by omega))),
    ((h.K.x hx).r (hq.z 201 (by omega) (by omega)) (hq.v 201 (by omega))),
    ((h.T.x hx).r (hq.i 3 (by decide)) (hq.i 4 (by decide))),
    (ha),
    ((h.F.x hx).r (hq.z 211 (by omega) (by omega)) (fun k hk => hq.v (320 + k) (by omega))),
    ((h.W.x hx).r (hq.z 216 (by omega) (by omega)) (fun k hk => hq.v (340 + k) (by omega))),
    ((h.P.x hx).r (hq.z 213 (by omega) (by omega)) (hq.v 213 (by omega))),
    ((h.Y.x hx).r (fun _ _ => congrFun (hq.v 203 (by omega)) _)),
    ((h.G.x hx).r (hq.z 212 (by omega) (by omega)) (fun k hk => hq.z (380 + k) (by omega) (by omega)) (fun k hk => hq.v (380 + k) (by omega)) (fun k n hk hn => hq.f (360 + k) n (by omega))),
    ((h.I.x hx).r (hq.z 215 (by omega) (by omega)) (fun k hk => hq.v (440 + k) (by omega)) (fun k n hk hn => hq.f (420 + k) n (by omega)))⟩
/-- fogs alone -/
theorem cph.oF {σ σ1 : XS} {ρ ρ1 : RS} {n : Nat} (h : cph σ ρ) (hx : xfr [3, 4, 27, 28] σ σ1) (hq : rFrm [0] 211 0 (320 + n) 0 ρ ρ1) (hn : n ≤ 8) (hf : cpF σ1 ρ1) : cph σ1 ρ1 := by
  have b1 := h.A.1
  have b2 := h.F.1
  have b3 := h.W.1
  have b4 := h.P.1
  have b5 := h.G.1
  have b6 := h.I.1
  exact 
    ⟨((hx.i h.k).trans (hq.i 9 (by decide)).symm),
    ((h.L.x hx).r (hq.i 5 (by decide)) (hq.i 6 (by decide)) (hq.i 7 (by decide)) (hq.v 202 (by omega))),
    ((h.D.x hx).r (hq.i 1 (by decide)) (hq.i 2 (by decide)) (hq.z 201 (by omega) (by omega))),
    ((h.K.x hx).r (hq.z 201 (by omega) (by omega)) (hq.v 201 (by omega))),
    ((h.T.x hx).r (hq.i 3 (by decide)) (hq.i 4 (by decide))),
    ((h.A.x hx).r (hq.z 210 (by omega) (by omega)) (fun k hk => hq.v (300 + k) (by omega))),
    (hf),
    ((h.W.x hx).r (hq.z 216 (by omega) (by omega)) (fun k hk => hq.v (340 + k) (by omega))),
    ((h.P.x hx).r (hq.z 213 (by omega) (by omega)) (hq.v 213 (by omega))),
    ((h.Y.x hx).r (fun _ _ => congrFun (hq.v 203 (by omega)) _)),
    ((h.G.x hx).r (hq.z 212 (by omega) (by omega)) (fun k hk => hq.z (380 + k) (by omega) (by omega)) (fun k hk => hq.v (380 + k) (by omega)) (fun k n hk hn => hq.f (360 + k) n (by omega))),
    ((h.I.x hx).r (hq.z 215 (by omega) (by omega)) (fun k hk => hq.v (440 + k) (by omega)) (fun k n hk hn => hq.f (420 + k) n (by omega)))⟩
/-- wires alone -/
theorem cph.oW {σ σ1 : XS} {ρ ρ1 : RS} {n : Nat} (h : cph σ ρ) (hx : xfr [22, 23, 46, 47] σ σ1) (hq : rFrm [0] 216 0 (340 + n) 0 ρ ρ1) (hn : n ≤ 5) (hw : cpW σ1 ρ1) : cph σ1 ρ1 := by
  have b1 := h.A.1
  have b2 := h.F.1
  have b3 := h.W.1
  have b4 := h.P.1
  have b5 := h.G.1
  have b6 := h.I.1
  exact 
    ⟨((hx.i h.k).trans (hq.i 9 (by decide)).symm),
    ((h.L.x hx).r (hq.i 5 (by decide)) (hq.i 6 (by decide)) (hq.i 7 (by decide)) (hq.v 202 (by omega))),
    ((h.D.x hx).r (hq.i 1 (by decide)) (hq.i 2 (by decide)) (hq.z 201 (by omega) (by omega))),
    ((h.K.x hx).r (hq.z 201 (by omega) (by omega)) (hq.v 201 (by omega))),
    ((h.T.x hx).r (hq.i 3 (by decide)) (hq.i 4 (by decide))),
    ((h.A.x hx).r (hq.z 210 (by omega) (by omega)) (fun k hk => hq.v (300 + k) (by omega))),
    ((h.F.x hx).r (hq.z 211 (by omega) (by omega)) (fun k hk => hq.v (320 + k) (by omega))),
    (hw),
    ((h.P.x hx).r (hq.z 213 (by omega) (by omega)) (hq.v 213 (by omega))),
    ((h.Y.x hx).r (fun _ _ => congrFun (hq.v 203 (by omega)) _)),
    ((h.G.x hx).r (hq.z 212 (by omega) (by omega)) (fun k hk => hq.z (380 + k) (by omega) (by omega)) (fun k hk => hq.v (380 + k) (by omega)) (fun k n hk hn => hq.f (360 + k) n (by omega))),
    ((h.I.x hx).r (hq.z 215 (by omega) (by omega)) (fun k hk => hq.v (440 + k) (by omega)) (fun k n hk hn => hq.f (420 + k) n (by omega)))⟩
/-- posts alone -/
theorem cph.oP {σ σ1 : XS} {ρ ρ1 : RS} (h : cph σ ρ) (hx : xfr [10, 34] σ σ1) (hq : rFrm [0] 213 0 213 0 ρ ρ1)  (hp : cpP σ1 ρ1) : cph σ1 ρ1 := by
  have b1 := h.A.1
  have b2 := h.F.1
  have b3 := h.W.1
  have b4 := h.P.1
  have b5 := h.G.1
  have b6 := h.I.1
  exact 
    ⟨((hx.i h.k).trans (hq.i 9 (by decide)).symm),
    ((h.L.x hx).r (hq.i 5 (by decide)) (hq.i 6 (by decide)) (hq.i 7 (by decide)) (hq.v 202 (by omega))),
    ((h.D.x hx).r (hq.i 1 (by decide)) (hq.i 2 (by decide)) (hq.z 201 (by omega) (by omega))),
    ((h.K.x hx).r (hq.z 201 (by omega) (by omega)) (hq.v 201 (by omega))),
    ((h.T.x hx).r (hq.i 3 (by decide)) (hq.i 4 (by decide))),
    ((h.A.x hx).r (hq.z 210 (by omega) (by omega)) (fun k hk => hq.v (300 + k) (by omega))),
    ((h.F.x hx).r (hq.z 211 (by omega) (by omega)) (fun k hk => hq.v (320 + k) (by omega))),
    ((h.W.x hx).r (hq.z 216 (by omega) (by omega)) (fun k hk => hq.v (340 + k) (by omega))),
    (hp),
    ((h.Y.x hx).r (fun _ _ => congrFun (hq.v 203 (by omega)) _)),
    ((h.G.x hx).r (hq.z 212 (by omega) (by omega)) (fun k hk => hq.z (380 + k) (by omega) (by omega)) (fun k hk => hq.v (380 + k) (by omega)) (fun k n hk hn => hq.f (360 + k) n (by omega))),
    ((h.I.x hx).r (hq.z 215 (by omega) (by omega)) (fun k hk => hq.v (440 + k) (by omega)) (fun k n hk hn => hq.f (420 + k) n (by omega)))⟩
/-- keys alone -/
theorem cph.oY {σ σ1 : XS} {ρ ρ1 : RS} (h : cph σ ρ) (hx : xfr [39] σ σ1) (hq : rFrm [0] 0 0 203 0 ρ ρ1)  (hy : cpY σ1 ρ1) : cph σ1 ρ1 := by
  have b1 := h.A.1
  have b2 := h.F.1
  have b3 := h.W.1
  have b4 := h.P.1
  have b5 := h.G.1
  have b6 := h.I.1
  exact 
    ⟨((hx.i h.k).trans (hq.i 9 (by decide)).symm),
    ((h.L.x hx).r (hq.i 5 (by decide)) (hq.i 6 (by decide)) (hq.i 7 (by decide)) (hq.v 202 (by omega))),
    ((h.D.x hx).r (hq.i 1 (by decide)) (hq.i 2 (by decide)) (hq.z 201 (by omega) (by omega))),
    ((h.K.x hx).r (hq.z 201 (by omega) (by omega)) (hq.v 201 (by omega))),
    ((h.T.x hx).r (hq.i 3 (by decide)) (hq.i 4 (by decide))),
    ((h.A.x hx).r (hq.z 210 (by omega) (by omega)) (fun k hk => hq.v (300 + k) (by omega))),
    ((h.F.x hx).r (hq.z 211 (by omega) (by omega)) (fun k hk => hq.v (320 + k) (by omega))),
    ((h.W.x hx).r (hq.z 216 (by omega) (by omega)) (fun k hk => hq.v (340 + k) (by omega))),
    ((h.P.x hx).r (hq.z 213 (by omega) (by omega)) (hq.v 213 (by omega))),
    (hy),
    ((h.G.x hx).r (hq.z 212 (by omega) (by omega)) (fun k hk => hq.z (380 + k) (by omega) (by omega)) (fun k hk => hq.v (380 + k) (by omega)) (fun k n hk hn => hq.f (360 + k) n (by omega))),
    ((h.I.x hx).r (hq.z 215 (by omega) (by omega)) (fun k hk => hq.v (440 + k) (by omega)) (fun k n hk hn => hq.f (420 + k) n (by omega)))⟩
/-- kinds alone -/
theorem cph.oK {σ σ1 : XS} {ρ ρ1 : RS} (h : cph σ ρ) (hx : xfr [56, 57, 58, 59, 60, 61] σ σ1) (hq : rFrm [0] 0 0 201 0 ρ ρ1)  (hk : cpK σ1 ρ1) : cph σ1 ρ1 := by
  have b1 := h.A.1
  have b2 := h.F.1
  have b3 := h.W.1
  have b4 := h.P.1
  have b5 := h.G.1
  have b6 := h.I.1
  exact 
    ⟨((hx.i h.k).trans (hq.i 9 (by decide)).symm),
    ((h.L.x hx).r (hq.i 5 (by decide)) (hq.i 6 (by decide)) (hq.i 7 (by decide)) (hq.v 202 (by omega))),
    ((h.D.x hx).r (hq.i 1 (by decide)) (hq.i 2 (by decide)) (hq.z 201 (by omega) (by omega))),
    (hk),
    ((h.T.x hx).r (hq.i 3 (by decide)) (hq.i 4 (by decide))),
    ((h.A.x hx).r (hq.z 210 (by omega) (by omega)) (fun k hk => hq.v (300 + k) (by omega))),
    ((h.F.x hx).r (hq.z 211 (by omega) (by omega)) (fun k hk => hq.v (320 + k) (by omega))),
    ((h.W.x hx).r (hq.z 216 (by omega) (by omega)) (fun k hk => hq.v (340 + k) (by omega))),
    ((h.P.x hx).r (hq.z 213 (by omega) (by omega)) (hq.v 213 (by omega))),
    ((h.Y.x hx).r (fun _ _ => congrFun (hq.v 203 (by omega)) _)),
    ((h.G.x hx).r (hq.z 212 (by omega) (by omega)) (fun k hk => hq.z (380 + k) (by omega) (by omega)) (fun k hk => hq.v (380 + k) (by omega)) (fun k n hk hn => hq.f (360 + k) n (by omega))),
    ((h.I.x hx).r (hq.z 215 (by omega) (by omega)) (fun k hk => hq.v (440 + k) (by omega)) (fun k n hk hn => hq.f (420 + k) n (by omega)))⟩
/-- gates alone -/
theorem cph.oT {σ σ1 : XS} {ρ ρ1 : RS} (h : cph σ ρ) (hx : xfr [50, 51] σ σ1) (hq : rFrm [0, 3, 4] 0 0 0 0 ρ ρ1)  (ht : cpT σ1 ρ1) : cph σ1 ρ1 := by
  have b1 := h.A.1
  have b2 := h.F.1
  have b3 := h.W.1
  have b4 := h.P.1
  have b5 := h.G.1
  have b6 := h.I.1
  exact 
    ⟨((hx.i h.k).trans (hq.i 9 (by decide)).symm),
    ((h.L.x hx).r (hq.i 5 (by decide)) (hq.i 6 (by decide)) (hq.i 7 (by decide)) (hq.v 202 (by omega))),
    ((h.D.x hx).r (hq.i 1 (by decide)) (hq.i 2 (by decide)) (hq.z 201 (by omega) (by omega))),
    ((h.K.x hx).r (hq.z 201 (by omega) (by omega)) (hq.v 201 (by omega))),
    (ht),
    ((h.A.x hx).r (hq.z 210 (by omega) (by omega)) (fun k hk => hq.v (300 + k) (by omega))),
    ((h.F.x hx).r (hq.z 211 (by omega) (by omega)) (fun k hk => hq.v (320 + k) (by omega))),
    ((h.W.x hx).r (hq.z 216 (by omega) (by omega)) (fun k hk => hq.v (340 + k) (by omega))),
    ((h.P.x hx).r (hq.z 213 (by omega) (by omega)) (hq.v 213 (by omega))),
    ((h.Y.x hx).r (fun _ _ => congrFun (hq.v 203 (by omega)) _)),
    ((h.G.x hx).r (hq.z 212 (by omega) (by omega)) (fun k hk => hq.z (380 + k) (by omega) (by omega)) (fun k hk => hq.v (380 + k) (by omega)) (fun k n hk hn => hq.f (360 + k) n (by omega))),
    ((h.I.x hx).r (hq.z 215 (by omega) (by omega)) (fun k hk => hq.v (440 + k) (by omega)) (fun k n hk hn => hq.f (420 + k) n (by omega)))⟩
/-- knocks alone -/
theorem cph.ok {σ σ1 : XS} {ρ ρ1 : RS} (h : cph σ ρ) (hx : xfr [55] σ σ1) (hq : rFrm [0, 9] 0 0 0 0 ρ ρ1)  (hk : σ1.2.2.1 7 = rI ρ1 9) : cph σ1 ρ1 := by
  have b1 := h.A.1
  have b2 := h.F.1
  have b3 := h.W.1
  have b4 := h.P.1
  have b5 := h.G.1
  have b6 := h.I.1
  exact 
    ⟨(hk),
    ((h.L.x hx).r (hq.i 5 (by decide)) (hq.i 6 (by decide)) (hq.i 7 (by decide)) (hq.v 202 (by omega))),
    ((h.D.x hx).r (hq.i 1 (by decide)) (hq.i 2 (by decide)) (hq.z 201 (by omega) (by omega))),
    ((h.K.x hx).r (hq.z 201 (by omega) (by omega)) (hq.v 201 (by omega))),
    ((h.T.x hx).r (hq.i 3 (by decide)) (hq.i 4 (by decide))),
    ((h.A.x hx).r (hq.z 210 (by omega) (by omega)) (fun k hk => hq.v (300 + k) (by omega))),
    ((h.F.x hx).r (hq.z 211 (by omega) (by omega)) (fun k hk => hq.v (320 + k) (by omega))),
    ((h.W.x hx).r (hq.z 216 (by omega) (by omega)) (fun k hk => hq.v (340 + k) (by omega))),
    ((h.P.x hx).r (hq.z 213 (by omega) (by omega)) (hq.v 213 (by omega))),
    ((h.Y.x hx).r (fun _ _ => congrFun (hq.v 203 (by omega)) _)),
    ((h.G.x hx).r (hq.z 212 (by omega) (by omega)) (fun k hk => hq.z (380 + k) (by omega) (by omega)) (fun k hk => hq.v (380 + k) (by omega)) (fun k n hk hn => hq.f (360 + k) n (by omega))),
    ((h.I.x hx).r (hq.z 215 (by omega) (by omega)) (fun k hk => hq.v (440 + k) (by omega)) (fun k n hk hn => hq.f (420 + k) n (by omega)))⟩
/-- guards alone -/
theorem cph.oG {σ σ1 : XS} {ρ ρ1 : RS} {n z1 : Nat} (h : cph σ ρ) (hx : xfr [5, 6, 7, 8, 29, 30, 31, 32, 33] σ σ1) (hq : rFrm [0] z1 (380 + n) (380 + n) (360 + n) ρ ρ1) (hn : n ≤ 6) (hz1 : z1 = 212 ∨ z1 = 0) (hg : cpG σ1 ρ1) : cph σ1 ρ1 := by
  have b1 := h.A.1
  have b2 := h.F.1
  have b3 := h.W.1
  have b4 := h.P.1
  have b5 := h.G.1
  have b6 := h.I.1
  exact 
    ⟨((hx.i h.k).trans (hq.i 9 (by decide)).symm),
    ((h.L.x hx).r (hq.i 5 (by decide)) (hq.i 6 (by decide)) (hq.i 7 (by decide)) (hq.v 202 (by omega))),
    ((h.D.x hx).r (hq.i 1 (by decide)) (hq.i 2 (by decide)) (hq.z 201 (by omega) (by omega))),
    ((h.K.x hx).r (hq.z 201 (by omega) (by omega)) (hq.v 201 (by omega))),
    ((h.T.x hx).r (hq.i 3 (by decide)) (hq.i 4 (by decide))),
    ((h.A.x hx).r (hq.z 210 (by omega) (by omega)) (fun k hk => hq.v (300 + k) (by omega))),
    ((h.F.x hx).r (hq.z 211 (by omega) (by omega)) (fun k hk => hq.v (320 + k) (by omega))),
    ((h.W.x hx).r (hq.z 216 (by omega) (by omega)) (fun k hk => hq.v (340 + k) (by omega))),
    ((h.P.x hx).r (hq.z 213 (by omega) (by omega)) (hq.v 213 (by omega))),
    ((h.Y.x hx).r (fun _ _ => congrFun (hq.v 203 (by omega)) _)),
    (hg),
    ((h.I.x hx).r (hq.z 215 (by omega) (by omega)) (fun k hk => hq.v (440 + k) (by omega)) (fun k n hk hn => hq.f (420 + k) n (by omega)))⟩
/-- intruders alone -/
theorem cph.oI {σ σ1 : XS} {ρ ρ1 : RS} {n : Nat} (h : cph σ ρ) (hx : xfr [16, 17, 18, 20, 21, 40, 41, 42, 43, 44, 45] σ σ1) (hq : rFrm [0] 215 0 (440 + n) (420 + n) ρ ρ1) (hn : n ≤ 4) (hi : cpI σ1 ρ1) : cph σ1 ρ1 := by
  have b1 := h.A.1
  have b2 := h.F.1
  have b3 := h.W.1
  have b4 := h.P.1
  have b5 := h.G.1
  have b6 := h.I.1
  exact 
    ⟨((hx.i h.k).trans (hq.i 9 (by decide)).symm),
    ((h.L.x hx).r (hq.i 5 (by decide)) (hq.i 6 (by decide)) (hq.i 7 (by decide)) (hq.v 202 (by omega))),
    ((h.D.x hx).r (hq.i 1 (by decide)) (hq.i 2 (by decide)) (hq.z 201 (by omega) (by omega))),
    ((h.K.x hx).r (hq.z 201 (by omega) (by omega)) (hq.v 201 (by omega))),
    ((h.T.x hx).r (hq.i 3 (by decide)) (hq.i 4 (by decide))),
    ((h.A.x hx).r (hq.z 210 (by omega) (by omega)) (fun k hk => hq.v (300 + k) (by omega))),
    ((h.F.x hx).r (hq.z 211 (by omega) (by omega)) (fun k hk => hq.v (320 + k) (by omega))),
    ((h.W.x hx).r (hq.z 216 (by omega) (by omega)) (fun k hk => hq.v (340 + k) (by omega))),
    ((h.P.x hx).r (hq.z 213 (by omega) (by omega)) (hq.v 213 (by omega))),
    ((h.Y.x hx).r (fun _ _ => congrFun (hq.v 203 (by omega)) _)),
    ((h.G.x hx).r (hq.z 212 (by omega) (by omega)) (fun k hk => hq.z (380 + k) (by omega) (by omega)) (fun k hk => hq.v (380 + k) (by omega)) (fun k n hk hn => hq.f (360 + k) n (by omega))),
    (hi)⟩
abbrev NC : List Nat := [13, 14, 19, 20, 21, 37, 38, 44, 45, 54]
abbrev xoBase (p0 p1 p2 : Int32) (r : Option Value) (nv : Int64) (σ σ1 : XS) : Prop := ((((3 ≤ p0 ∧ p0 ≤ 8) ∧ (3 ≤ p1 ∧ p1 ≤ 8) ∧ (0 ≤ p2 ∧ p2 ≤ 100))) ∧ r = some (.int 0) ∧ nv = Int32.toInt64 (Int32.ofNat (cnt (kop p2) (p0 * p1).toInt.toNat)) ∧ xfr [0, 1, 2, 3, 4, 5, 6, 7, 8, 10, 11, 12, 13, 14, 15, 16, 17, 18, 20, 21, 22, 23, 35, 37, 38, 39, 48, 49, 50, 51, 53, 54, 56, 57, 58, 59, 60, 61] σ σ1 ∧ xbase σ σ1 p0 p1 p2 ∧ xvd σ1) ∨ ((¬ ((3 ≤ p0 ∧ p0 ≤ 8) ∧ (3 ≤ p1 ∧ p1 ≤ 8) ∧ (0 ≤ p2 ∧ p2 ≤ 100))) ∧ r = some (.int 1) ∧ σ1 = σ)
abbrev xoLay (p0 p1 : Int32) (r : Option Value) (nv : Int64) (σ σ1 : XS) : Prop := (((0 ≤ p0 ∧ p0 ≤ σ.2.2.1 0 * σ.2.2.1 1 - 1) ∧ ((0 ≤ p1 ∧ p1 ≤ 3) ∧ (p1 = 1 → ∃ v : Int64, xse v (xtkQ σ) ∧ ¬ xis v p0))) ∧ r = some (.int 0) ∧ nv = Int32.toInt64 (xkf σ p0) ∧ xfr [58, 59, 60, 61] σ σ1 ∧ xsk σ σ1 p0 p1 ∧ xvd σ1) ∨ ((¬ (0 ≤ p0 ∧ p0 ≤ σ.2.2.1 0 * σ.2.2.1 1 - 1)) ∧ r = some (.int 1) ∧ σ1 = σ) ∨ (((0 ≤ p0 ∧ p0 ≤ σ.2.2.1 0 * σ.2.2.1 1 - 1) ∧ (¬ (0 ≤ p1 ∧ p1 ≤ 3))) ∧ r = some (.int 2) ∧ σ1 = σ) ∨ (((0 ≤ p0 ∧ p0 ≤ σ.2.2.1 0 * σ.2.2.1 1 - 1) ∧ ((0 ≤ p1 ∧ p1 ≤ 3) ∧ (¬ (p1 = 1 → ∃ v : Int64, xse v (xtkQ σ) ∧ ¬ xis v p0)))) ∧ r = some (.int 3) ∧ σ1 = σ)
abbrev xoGates (p0 p1 : Int32) (r : Option Value) (nv : Int64) (σ σ1 : XS) : Prop := ((((0 ≤ p0 ∧ p0 ≤ 239) ∧ (0 ≤ p1 ∧ p1 ≤ 239))) ∧ r = some (.int 0) ∧ nv = Int32.toInt64 (bcL (σ.2.2.2.1 4)) ∧ xfr [50, 51] σ σ1 ∧ σ1 = xin (xin σ 2 p0) 3 p1) ∨ ((¬ ((0 ≤ p0 ∧ p0 ≤ 239) ∧ (0 ≤ p1 ∧ p1 ≤ 239))) ∧ r = some (.int 1) ∧ σ1 = σ)
abbrev xoLamp (p0 p1 : Int32) (r : Option Value) (nv : Int64) (σ σ1 : XS) : Prop := (((0 ≤ p0 ∧ p0 ≤ σ.2.2.1 0 * σ.2.2.1 1 - 1) ∧ ((1 ≤ p1 ∧ p1 ≤ 4) ∧ ((σ.1 0).toInt < 6 ∧ ¬ xis (σ.2.2.2.1 2) p0))) ∧ r = some (.int 0) ∧ nv = Int32.toInt64 ((xlampU σ p0 p1).1 0 - 1) ∧ xfr [0, 1, 2, 24, 25, 26] σ σ1 ∧ σ1 = xlampU σ p0 p1) ∨ ((¬ (0 ≤ p0 ∧ p0 ≤ σ.2.2.1 0 * σ.2.2.1 1 - 1)) ∧ r = some (.int 1) ∧ σ1 = σ) ∨ (((0 ≤ p0 ∧ p0 ≤ σ.2.2.1 0 * σ.2.2.1 1 - 1) ∧ (¬ (1 ≤ p1 ∧ p1 ≤ 4))) ∧ r = some (.int 2) ∧ σ1 = σ) ∨ (((0 ≤ p0 ∧ p0 ≤ σ.2.2.1 0 * σ.2.2.1 1 - 1) ∧ ((1 ≤ p1 ∧ p1 ≤ 4) ∧ (¬ ((σ.1 0).toInt < 6 ∧ ¬ xis (σ.2.2.2.1 2) p0)))) ∧ r = some (.int 3) ∧ σ1 = σ)
abbrev xoLight (p0 p1 : Int32) (r : Option Value) (nv : Int64) (σ σ1 : XS) : Prop := (((0 ≤ p0 ∧ p0 ≤ σ.1 0 - 1)) ∧ r = some (.int 0) ∧ nv = Int32.toInt64 (bcL (xbri (xput σ 2 p0 (if p1 = 0 then 0 else 1)))) ∧ xfr [26] σ σ1 ∧ σ1 = xput σ 2 p0 (if p1 = 0 then 0 else 1)) ∨ ((¬ (0 ≤ p0 ∧ p0 ≤ σ.1 0 - 1)) ∧ r = some (.int 1) ∧ σ1 = σ)
abbrev xoFog (p0 p1 : Int32) (r : Option Value) (nv : Int64) (σ σ1 : XS) : Prop := ((((0 ≤ p0 ∧ p0 ≤ 239) ∧ (0 ≤ p1 ∧ p1 ≤ 5)) ∧ ((σ.1 3).toInt < 8)) ∧ r = some (.int 0) ∧ nv = Int32.toInt64 ((xfogT σ p0 p1).1 3) ∧ xfr [3, 4, 27, 28] σ σ1 ∧ σ1 = xfogT σ p0 p1) ∨ ((¬ ((0 ≤ p0 ∧ p0 ≤ 239) ∧ (0 ≤ p1 ∧ p1 ≤ 5))) ∧ r = some (.int 1) ∧ σ1 = σ) ∨ ((((0 ≤ p0 ∧ p0 ≤ 239) ∧ (0 ≤ p1 ∧ p1 ≤ 5)) ∧ (¬ ((σ.1 3).toInt < 8))) ∧ r = some (.int 2) ∧ σ1 = σ)
abbrev xoGuard (p0 p1 p2 p3 : Int32) (r : Option Value) (nv : Int64) (σ σ1 : XS) : Prop := (((0 ≤ p0 ∧ p0 ≤ σ.2.2.1 0 * σ.2.2.1 1 - 1) ∧ (((0 ≤ p1 ∧ p1 ≤ 239) ∧ (0 ≤ p2 ∧ p2 ≤ 239) ∧ p1 ≤ p2 ∧ (1 ≤ p3 ∧ p3 ≤ 20)) ∧ ((σ.1 5).toInt < 6 ∧ ¬ xis (σ.2.2.2.1 2) p0))) ∧ r = some (.int 0) ∧ nv = Int32.toInt64 ((xenl σ p0 p1 p2 p3).1 5 - 1) ∧ xfr [5, 6, 7, 8, 29, 30, 31, 32, 33] σ σ1 ∧ σ1 = xenl σ p0 p1 p2 p3) ∨ ((¬ (0 ≤ p0 ∧ p0 ≤ σ.2.2.1 0 * σ.2.2.1 1 - 1)) ∧ r = some (.int 1) ∧ σ1 = σ) ∨ (((0 ≤ p0 ∧ p0 ≤ σ.2.2.1 0 * σ.2.2.1 1 - 1) ∧ (¬ ((0 ≤ p1 ∧ p1 ≤ 239) ∧ (0 ≤ p2 ∧ p2 ≤ 239) ∧ p1 ≤ p2 ∧ (1 ≤ p3 ∧ p3 ≤ 20)))) ∧ r = some (.int 2) ∧ σ1 = σ) ∨ (((0 ≤ p0 ∧ p0 ≤ σ.2.2.1 0 * σ.2.2.1 1 - 1) ∧ (((0 ≤ p1 ∧ p1 ≤ 239) ∧ (0 ≤ p2 ∧ p2 ≤ 239) ∧ p1 ≤ p2 ∧ (1 ≤ p3 ∧ p3 ≤ 20)) ∧ (¬ ((σ.1 5).toInt < 6 ∧ ¬ xis (σ.2.2.2.1 2) p0)))) ∧ r = some (.int 3) ∧ σ1 = σ)
abbrev xoRound (p0 p1 : Int32) (r : Option Value) (nv : Int64) (σ σ1 : XS) : Prop := ((((0 ≤ p0 ∧ p0 ≤ σ.1 5 - 1) ∧ (0 ≤ p1 ∧ p1 ≤ σ.2.2.1 0 * σ.2.2.1 1 - 1)) ∧ (¬ 6 ≤ xat σ 8 p0 ∧ ¬ xis (σ.2.2.2.1 2) p1)) ∧ r = some (.int 0) ∧ nv = Int32.toInt64 (xat σ 8 p0 + 1) ∧ xfr [32, 33] σ σ1 ∧ σ1 = xlen σ p0 p1) ∨ ((¬ ((0 ≤ p0 ∧ p0 ≤ σ.1 5 - 1) ∧ (0 ≤ p1 ∧ p1 ≤ σ.2.2.1 0 * σ.2.2.1 1 - 1))) ∧ r = some (.int 1) ∧ σ1 = σ) ∨ ((((0 ≤ p0 ∧ p0 ≤ σ.1 5 - 1) ∧ (0 ≤ p1 ∧ p1 ≤ σ.2.2.1 0 * σ.2.2.1 1 - 1)) ∧ (¬ (¬ 6 ≤ xat σ 8 p0 ∧ ¬ xis (σ.2.2.2.1 2) p1))) ∧ r = some (.int 2) ∧ σ1 = σ)
abbrev xoPost (p0 : Int32) (r : Option Value) (nv : Int64) (σ σ1 : XS) : Prop := (((0 ≤ p0 ∧ p0 ≤ σ.2.2.1 0 * σ.2.2.1 1 - 1) ∧ ((σ.1 10).toInt < 4 ∧ ¬ xis (σ.2.2.2.1 2) p0)) ∧ r = some (.int 0) ∧ nv = Int32.toInt64 ((xadd σ 10 p0).1 10 - 1) ∧ xfr [10, 34] σ σ1 ∧ σ1 = xadd σ 10 p0) ∨ ((¬ (0 ≤ p0 ∧ p0 ≤ σ.2.2.1 0 * σ.2.2.1 1 - 1)) ∧ r = some (.int 1) ∧ σ1 = σ) ∨ (((0 ≤ p0 ∧ p0 ≤ σ.2.2.1 0 * σ.2.2.1 1 - 1) ∧ (¬ ((σ.1 10).toInt < 4 ∧ ¬ xis (σ.2.2.2.1 2) p0))) ∧ r = some (.int 2) ∧ σ1 = σ)
abbrev xoPlace (p0 p1 : Int32) (r : Option Value) (nv : Int64) (σ σ1 : XS) : Prop := (((0 ≤ p0 ∧ p0 ≤ σ.1 5 - 1) ∧ (0 ≤ p1 ∧ p1 ≤ 239)) ∧ r = some (.int 0) ∧ nv = Int32.toInt64 (xsta σ p0 p1) ∧ xfr [] σ σ1 ∧ σ1 = σ) ∨ ((¬ (0 ≤ p0 ∧ p0 ≤ σ.1 5 - 1)) ∧ r = some (.int 1) ∧ σ1 = σ) ∨ (((0 ≤ p0 ∧ p0 ≤ σ.1 5 - 1) ∧ (¬ (0 ≤ p1 ∧ p1 ≤ 239))) ∧ r = some (.int 2) ∧ σ1 = σ)
abbrev xoWords (p0 : Int32) (r : Option Value) (nv : Int64) (σ σ1 : XS) : Prop := (((0 ≤ p0 ∧ p0 ≤ 99)) ∧ r = some (.int 0) ∧ nv = Int32.toInt64 (yaft p0) ∧ xfr [11, 12, 13, 14, 35, 37, 38, 52, 53, 54] σ σ1 ∧ ((xnew p0 σ1 ∧ xans0 σ1) ∧ σ1.2.2.1 4 = p0)) ∨ ((¬ (0 ≤ p0 ∧ p0 ≤ 99)) ∧ r = some (.int 1) ∧ σ1 = σ)
abbrev xoLeak (p0 : Int32) (r : Option Value) (nv : Int64) (σ σ1 : XS) : Prop := (((0 ≤ p0 ∧ p0 ≤ 3) ∧ (σ.1 12).toInt < 8) ∧ r = some (.int 0) ∧ nv = Int32.toInt64 (yaft (σ.2.2.1 5)) ∧ xfr [12, 35, 36, 53] σ σ1 ∧ xrep σ σ1 p0) ∨ ((¬ (0 ≤ p0 ∧ p0 ≤ 3)) ∧ r = some (.int 1) ∧ σ1 = σ) ∨ (((0 ≤ p0 ∧ p0 ≤ 3) ∧ ¬ (σ.1 12).toInt < 8) ∧ r = some (.int 2) ∧ σ1 = σ)
abbrev xoKey (p0 p1 : Int32) (r : Option Value) (nv : Int64) (σ σ1 : XS) : Prop := ((((0 ≤ p0 ∧ p0 ≤ 6 - 1) ∧ (p1 = -1 ∨ (0 ≤ p1 ∧ p1 ≤ σ.1 5 - 1)))) ∧ r = some (.int 0) ∧ nv = Int32.toInt64 (xat σ 15 p0) ∧ xfr [39] σ σ1 ∧ σ1 = xput σ 15 p0 p1) ∨ ((¬ ((0 ≤ p0 ∧ p0 ≤ 6 - 1) ∧ (p1 = -1 ∨ (0 ≤ p1 ∧ p1 ≤ σ.1 5 - 1)))) ∧ r = some (.int 1) ∧ σ1 = σ)
abbrev xoWire (p0 p1 : Int32) (r : Option Value) (nv : Int64) (σ σ1 : XS) : Prop := (((0 ≤ p0 ∧ p0 ≤ σ.2.2.1 0 * σ.2.2.1 1 - 1) ∧ ((1 ≤ p1 ∧ p1 ≤ 12) ∧ ((σ.1 22).toInt < 5))) ∧ r = some (.int 0) ∧ nv = Int32.toInt64 ((xwireT σ p0 p1).1 22 - 1) ∧ xfr [22, 23, 46, 47] σ σ1 ∧ σ1 = xwireT σ p0 p1) ∨ ((¬ (0 ≤ p0 ∧ p0 ≤ σ.2.2.1 0 * σ.2.2.1 1 - 1)) ∧ r = some (.int 1) ∧ σ1 = σ) ∨ (((0 ≤ p0 ∧ p0 ≤ σ.2.2.1 0 * σ.2.2.1 1 - 1) ∧ (¬ (1 ≤ p1 ∧ p1 ≤ 12))) ∧ r = some (.int 2) ∧ σ1 = σ) ∨ (((0 ≤ p0 ∧ p0 ≤ σ.2.2.1 0 * σ.2.2.1 1 - 1) ∧ ((1 ≤ p1 ∧ p1 ≤ 12) ∧ (¬ ((σ.1 22).toInt < 5)))) ∧ r = some (.int 3) ∧ σ1 = σ)
abbrev xoWhere (p0 p1 : Int32) (r : Option Value) (nv : Int64) (σ σ1 : XS) : Prop := (((0 ≤ p0 ∧ p0 ≤ σ.1 16 - 1) ∧ (0 ≤ p1 ∧ p1 ≤ 239)) ∧ r = some (.int 0) ∧ nv = Int32.toInt64 (xcel σ p0 p1) ∧ xfr [] σ σ1 ∧ σ1 = σ) ∨ ((¬ (0 ≤ p0 ∧ p0 ≤ σ.1 16 - 1)) ∧ r = some (.int 1) ∧ σ1 = σ) ∨ (((0 ≤ p0 ∧ p0 ≤ σ.1 16 - 1) ∧ (¬ (0 ≤ p1 ∧ p1 ≤ 239))) ∧ r = some (.int 2) ∧ σ1 = σ)
abbrev xoOfWire (p0 p1 : Int32) (r : Option Value) (nv : Int64) (σ σ1 : XS) : Prop := (((0 ≤ p0 ∧ p0 ≤ σ.1 22 - 1) ∧ (0 ≤ p1 ∧ p1 ≤ 4)) ∧ r = some (.int 0) ∧ nv = Int32.toInt64 (if p1 = 0 then xat σ 22 p0 else if p1 = 1 then xat σ 23 p0 else if p1 = 2 then xrgN σ p0 0 else if p1 = 3 then xrgN σ p0 1 else xtrN σ p0) ∧ xfr [] σ σ1 ∧ σ1 = σ) ∨ ((¬ (0 ≤ p0 ∧ p0 ≤ σ.1 22 - 1)) ∧ r = some (.int 1) ∧ σ1 = σ) ∨ (((0 ≤ p0 ∧ p0 ≤ σ.1 22 - 1) ∧ (¬ (0 ≤ p1 ∧ p1 ≤ 4))) ∧ r = some (.int 2) ∧ σ1 = σ)
abbrev xoEmpty (p0 p1 : Int32) (r : Option Value) (nv : Int64) (σ σ1 : XS) : Prop := (((0 ≤ p0 ∧ p0 ≤ σ.1 10 - 1)) ∧ r = some (.int 0) ∧ nv = Int32.toInt64 (if p1 = 0 then xemN σ p0 else xem1 σ p0) ∧ xfr [] σ σ1 ∧ σ1 = σ) ∨ ((¬ (0 ≤ p0 ∧ p0 ≤ σ.1 10 - 1)) ∧ r = some (.int 1) ∧ σ1 = σ)
abbrev xoOfCell (p0 p1 p2 : Int32) (r : Option Value) (nv : Int64) (σ σ1 : XS) : Prop := (((0 ≤ p0 ∧ p0 ≤ σ.2.2.1 0 * σ.2.2.1 1 - 1) ∧ ((0 ≤ p1 ∧ p1 ≤ 239) ∧ (0 ≤ p2 ∧ p2 ≤ 4))) ∧ r = some (.int 0) ∧ nv = Int32.toInt64 (if p2 = 0 then xkf σ p0 else if p2 = 1 then (if xis (xbri σ) p0 then 1 else 0) else if p2 = 2 then xgwN σ p0 p1 else if p2 = 3 then xsoN σ p0 p1 else (if xis (xwlk σ p1) p0 then 1 else 0)) ∧ xfr [] σ σ1 ∧ σ1 = σ) ∨ ((¬ (0 ≤ p0 ∧ p0 ≤ σ.2.2.1 0 * σ.2.2.1 1 - 1)) ∧ r = some (.int 1) ∧ σ1 = σ) ∨ (((0 ≤ p0 ∧ p0 ≤ σ.2.2.1 0 * σ.2.2.1 1 - 1) ∧ (¬ ((0 ≤ p1 ∧ p1 ≤ 239) ∧ (0 ≤ p2 ∧ p2 ≤ 4)))) ∧ r = some (.int 2) ∧ σ1 = σ)
abbrev xoOfMinute (p0 p1 : Int32) (r : Option Value) (nv : Int64) (σ σ1 : XS) : Prop := ((((0 ≤ p0 ∧ p0 ≤ 239) ∧ (0 ≤ p1 ∧ p1 ≤ 6))) ∧ r = some (.int 0) ∧ nv = Int32.toInt64 (if p1 = 0 then xfog σ p0 else if p1 = 1 then bcL (((xall (σ.2.2.1 0 * σ.2.2.1 1)) &&& ((σ.2.2.2.1 2) ^^^ (-1))) &&& ((xsgV σ (-1) p0 (xbri σ)) ^^^ (-1))) else if p1 = 2 then xcoN σ p0 else if p1 = 3 then xctN σ p0 else if p1 = 4 then xepN σ p0 else if p1 = 5 then bcL (xbri σ) else xkoN σ p0) ∧ xfr [] σ σ1 ∧ σ1 = σ) ∨ ((¬ ((0 ≤ p0 ∧ p0 ≤ 239) ∧ (0 ≤ p1 ∧ p1 ≤ 6))) ∧ r = some (.int 1) ∧ σ1 = σ)
abbrev xoLapse (p0 p1 p2 : Int32) (r : Option Value) (nv : Int64) (σ σ1 : XS) : Prop := (((0 ≤ p0 ∧ p0 ≤ σ.2.2.1 0 * σ.2.2.1 1 - 1) ∧ ((0 ≤ p1 ∧ p1 ≤ 239) ∧ (0 ≤ p2 ∧ p2 ≤ 239) ∧ p1 ≤ p2)) ∧ r = some (.int 0) ∧ nv = Int32.toInt64 (lapN (xuwQ σ p0) p1 p2) ∧ xfr [] σ σ1 ∧ σ1 = σ) ∨ ((¬ (0 ≤ p0 ∧ p0 ≤ σ.2.2.1 0 * σ.2.2.1 1 - 1)) ∧ r = some (.int 1) ∧ σ1 = σ) ∨ (((0 ≤ p0 ∧ p0 ≤ σ.2.2.1 0 * σ.2.2.1 1 - 1) ∧ (¬ ((0 ≤ p1 ∧ p1 ≤ 239) ∧ (0 ≤ p2 ∧ p2 ≤ 239) ∧ p1 ≤ p2))) ∧ r = some (.int 2) ∧ σ1 = σ)
abbrev xoSees (p0 p1 p2 : Int32) (r : Option Value) (nv : Int64) (σ σ1 : XS) : Prop := ((((p0 = -1 ∨ (0 ≤ p0 ∧ p0 ≤ σ.1 5 - 1)) ∧ (0 ≤ p1 ∧ p1 ≤ σ.2.2.1 0 * σ.2.2.1 1 - 1)) ∧ (0 ≤ p2 ∧ p2 ≤ 239)) ∧ r = some (.int 0) ∧ nv = Int32.toInt64 (if xis (xsgV σ p0 p2 (xbri σ)) p1 then 1 else 0) ∧ xfr [] σ σ1 ∧ σ1 = σ) ∨ ((¬ ((p0 = -1 ∨ (0 ≤ p0 ∧ p0 ≤ σ.1 5 - 1)) ∧ (0 ≤ p1 ∧ p1 ≤ σ.2.2.1 0 * σ.2.2.1 1 - 1))) ∧ r = some (.int 1) ∧ σ1 = σ) ∨ ((((p0 = -1 ∨ (0 ≤ p0 ∧ p0 ≤ σ.1 5 - 1)) ∧ (0 ≤ p1 ∧ p1 ≤ σ.2.2.1 0 * σ.2.2.1 1 - 1)) ∧ (¬ (0 ≤ p2 ∧ p2 ≤ 239))) ∧ r = some (.int 2) ∧ σ1 = σ)
/-! ===== what one call does to both ===== -/
abbrev CPR (σ1 : XS) (ρ1 : RS) (v1 : Int32) (nv1 : Int64) (v2 : Int32) : Prop := cph σ1 ρ1 ∧ rI ρ1 0 = v1 ∧ (v1 = 0 → nv1 = Int32.toInt64 v2)
theorem tri {C1 C2 C3 R1 R2 R3 a b1 b2 b3 a' b1' b2' b3' : Prop} (h1 : ((C1 ∧ (C2 ∧ C3)) ∧ a) ∨ (¬ C1 ∧ b1) ∨ ((C1 ∧ ¬ C2) ∧ b2) ∨ ((C1 ∧ (C2 ∧ ¬ C3)) ∧ b3)) (h2 : (R1 ∧ R2 ∧ R3 ∧ a') ∨ (¬ R1 ∧ b1') ∨ ((R1 ∧ ¬ R2) ∧ b2') ∨ ((R1 ∧ R2 ∧ ¬ R3) ∧ b3')) (e1 : C1 ↔ R1) (e2 : C2 ↔ R2) (e3 : R1 → R2 → (C3 ↔ R3)) : ((R1 ∧ R2 ∧ C3) ∧ a ∧ a') ∨ (b1 ∧ b1') ∨ (b2 ∧ b2') ∨ (b3 ∧ b3') := by
  rcases h1 with ⟨⟨c1, c2, c3⟩, x⟩ | ⟨c1, x⟩ | ⟨⟨c1, c2⟩, x⟩ | ⟨⟨c1, c2, c3⟩, x⟩
  · have r1 := e1.mp c1
    have r2 := e2.mp c2
    have r3 := (e3 r1 r2).mp c3
    rcases h2 with ⟨q1, q2, q3, y⟩ | ⟨q1, y⟩ | ⟨⟨q1, q2⟩, y⟩ | ⟨⟨q1, q2, q3⟩, y⟩
    · exact Or.inl ⟨⟨r1, r2, c3⟩, x, y⟩
    · exact absurd r1 q1
    · exact absurd r2 q2
    · exact absurd r3 q3
  · have r1 := fun q => c1 (e1.mpr q)
    rcases h2 with ⟨q1, q2, q3, y⟩ | ⟨q1, y⟩ | ⟨⟨q1, q2⟩, y⟩ | ⟨⟨q1, q2, q3⟩, y⟩
    · exact absurd q1 r1
    · exact Or.inr (Or.inl ⟨x, y⟩)
    · exact absurd q1 r1
    · exact absurd q1 r1
  · have r2 := fun q => c2 (e2.mpr q)
    rcases h2 with ⟨q1, q2, q3, y⟩ | ⟨q1, y⟩ | ⟨⟨q1, q2⟩, y⟩ | ⟨⟨q1, q2, q3⟩, y⟩
    · exact absurd q2 r2
    · exact absurd (e1.mp c1) q1
    · exact Or.inr (Or.inr (Or.inl ⟨x, y⟩))
    · exact absurd q2 r2
  · have r1 := e1.mp c1
    have r2 := e2.mp c2
    have r3 := fun q => c3 ((e3 r1 r2).mpr q)
    rcases h2 with ⟨q1, q2, q3, y⟩ | ⟨q1, y⟩ | ⟨⟨q1, q2⟩, y⟩ | ⟨⟨q1, q2, q3⟩, y⟩
    · exact absurd q3 r3
    · exact absurd r1 q1
    · exact absurd r2 q2
    · exact Or.inr (Or.inr (Or.inr ⟨x, y⟩))
theorem duo {C1 C2 R1 R2 a b1 b2 a' b1' b2' : Prop} (h1 : ((C1 ∧ C2) ∧ a) ∨ (¬ C1 ∧ b1) ∨ ((C1 ∧ ¬ C2) ∧ b2)) (h2 : (R1 ∧ R2 ∧ a') ∨ (¬ R1 ∧ b1') ∨ ((R1 ∧ ¬ R2) ∧ b2')) (e1 : C1 ↔ R1) (e2 : R1 → (C2 ↔ R2)) : ((R1 ∧ C2) ∧ a ∧ a') ∨ (b1 ∧ b1') ∨ (b2 ∧ b2') := by
  rcases h1 with ⟨⟨c1, c2⟩, x⟩ | ⟨c1, x⟩ | ⟨⟨c1, c2⟩, x⟩
  · have r1 := e1.mp c1
    have r2 := (e2 r1).mp c2
    rcases h2 with ⟨q1, q2, y⟩ | ⟨q1, y⟩ | ⟨⟨q1, q2⟩, y⟩
    · exact Or.inl ⟨⟨r1, c2⟩, x, y⟩
    · exact absurd r1 q1
    · exact absurd r2 q2
  · have r1 := fun q => c1 (e1.mpr q)
    rcases h2 with ⟨q1, q2, y⟩ | ⟨q1, y⟩ | ⟨⟨q1, q2⟩, y⟩
    · exact absurd q1 r1
    · exact Or.inr (Or.inl ⟨x, y⟩)
    · exact absurd q1 r1
  · have r1 := e1.mp c1
    have r2 := fun q => c2 ((e2 r1).mpr q)
    rcases h2 with ⟨q1, q2, y⟩ | ⟨q1, y⟩ | ⟨⟨q1, q2⟩, y⟩
    · exact absurd q2 r2
    · exact absurd r1 q1
    · exact Or.inr (Or.inr ⟨x, y⟩)
theorem uno {C1 R1 a b1 a' b1' : Prop} (h1 : (C1 ∧ a) ∨ (¬ C1 ∧ b1)) (h2 : (R1 ∧ a') ∨ (¬ R1 ∧ b1')) (e1 : C1 ↔ R1) : (R1 ∧ a ∧ a') ∨ (b1 ∧ b1') := by
  rcases h1 with ⟨c1, x⟩ | ⟨c1, x⟩
  · have r1 := e1.mp c1
    rcases h2 with ⟨q1, y⟩ | ⟨q1, y⟩
    · exact Or.inl ⟨r1, x, y⟩
    · exact absurd r1 q1
  · have r1 := fun q => c1 (e1.mpr q)
    rcases h2 with ⟨q1, y⟩ | ⟨q1, y⟩
    · exact absurd q1 r1
    · exact Or.inr ⟨x, y⟩
theorem cfail {σ σ1 : XS} {ρ ρ1 : RS} {v1 v2 n : Int32} {nv1 : Int64} (hc : cph σ ρ) (h0 : ¬ n = 0) (b : (some (Value.int v1) = some (Value.int n) ∧ σ1 = σ) ∧ (rI ρ1 0 = n ∧ rSm ρ ρ1)) : CPR σ1 ρ1 v1 nv1 v2 := by
  obtain ⟨⟨a1, rfl⟩, a2, a3⟩ := b
  cases a1
  exact ⟨hc.sm a3, a2, fun q => absurd q h0⟩
theorem cellN {ρ : RS} {c : Int32} (n64 : rZ ρ 201 ≤ 64) (h : OKR ρ c) : ∃ m : Nat, c.toInt = (m : Int) ∧ m < rZ ρ 201 ∧ Int32.toNatClampNeg c = m := by
  obtain ⟨a, b⟩ := yinN (n := rZ ρ 201) (by omega) h
  exact ⟨c.toInt.toNat, by omega, by omega, rfl⟩
theorem guardN {ρ : RS} {c : Int32} {lt : Nat} (n8 : rZ ρ lt ≤ 8) (h : 0 ≤ c ∧ c ≤ Int32.ofNat (rZ ρ lt) - 1) : ∃ m : Nat, c.toInt = (m : Int) ∧ m < rZ ρ lt ∧ Int32.toNatClampNeg c = m := by
  obtain ⟨a, b⟩ := yinN (n := rZ ρ lt) (by omega) h
  exact ⟨c.toInt.toNat, by omega, by omega, rfl⟩
theorem szlt {x c : Int32} {n k : Nat} {kI : Int} (h : x = Int32.ofNat n) (hn : n ≤ k) (hk : k ≤ 1000) (hc : c.toInt = (k : Int)) (hI : kI = (k : Int)) : x.toInt < kI ↔ ¬ Int32.ofNat n = c := by
  have e : x.toInt = (n : Int) := by rw [h, yofNat (by omega)]
  constructor
  · intro q z
    have e2 := congrArg Int32.toInt z
    rw [yofNat (by omega), hc] at e2
    omega
  · intro q
    by_cases z : n = k
    · exact absurd (Int32.toInt_inj.mp (by rw [yofNat (by omega), hc, z])) q
    · omega
theorem rFrm.ar {ρ : RS} {t z1 z2 f1 : Nat} {f : Nat → Int32} : rFrm [0] z1 z2 t f1 ρ (rar (rin ρ 0 0) t f) := ⟨fun _ hk => if_neg (fun q => hk (by rw [q]; decide)), fun _ _ _ => rfl, fun _ ht => if_neg ht, fun _ _ _ => rfl⟩
theorem rFrm.add {ρ : RS} {t lt z2 f1 : Nat} {f : Nat → Int32} : rFrm [0] lt z2 t f1 ρ (rAdd (rar (rin ρ 0 0) t f) lt) := ⟨fun _ hk => if_neg (fun q => hk (by rw [q]; decide)), fun _ h1 _ => if_neg h1, fun _ ht => if_neg ht, fun _ _ _ => rfl⟩
theorem rFrm.add2 {ρ : RS} {t lt z1 f1 : Nat} {f : Nat → Int32} : rFrm [0] z1 lt t f1 ρ (rAdd (rar (rin ρ 0 0) t f) lt) := ⟨fun _ hk => if_neg (fun q => hk (by rw [q]; decide)), fun _ _ h1 => if_neg h1, fun _ ht => if_neg ht, fun _ _ _ => rfl⟩
section YCH
variable {σ σ1 : XS} {ρ ρ1 : RS} {v1 v2 : Int32} {nv1 : Int64}
theorem cp_lay {p0 p1 : Int32} (hr : rb ρ) (hc : cph σ ρ) (h1 : xoLay p0 p1 (some (.int v1)) nv1 σ σ1) (h2 : roLay p0 p1 (some (.int v2)) ρ ρ1) : CPR σ1 ρ1 v1 nv1 v2 := by
  have n64 := hr.n64
  have e1 : (0 ≤ p0 ∧ p0 ≤ σ.2.2.1 0 * σ.2.2.1 1 - 1) ↔ OKR ρ p0 := by rw [hc.D.2.2]
  have e3 : OKR ρ p0 → (0 ≤ p1 ∧ p1 ≤ 3) → ((p1 = 1 → ∃ v : Int64, xse v (xtkQ σ) ∧ ¬ xis v p0) ↔ (p1 = 1 → rfree ρ p0)) := fun c1 _ => by
    obtain ⟨m, hm, hm2, hk⟩ := cellN n64 c1
    rw [xse_q hm (by omega), cp_taken hc.A hc.P hc.G hc.I hm]
  rcases tri h1 h2 e1 Iff.rfl e3 with ⟨⟨c1, c2, -⟩, ⟨a1, a2, a3, a4⟩, b1, b2⟩ | b | b | b
  · cases a1
    cases b1
    obtain ⟨m, hm, hm2, hk⟩ := cellN n64 c1
    have hv := hc.K.kind hm hm2 n64
    try unfold rkd
    rw [hk] at b2 ⊢
    subst b2
    exact ⟨hc.oK a3.w rFrm.ar (hc.K.lay a4.1 hm hm2 n64 c2), rfl, fun _ => by rw [a2, hv]⟩
  · exact cfail hc (by decide) b
  · exact cfail hc (by decide) b
  · exact cfail hc (by decide) b
theorem cp_gates {p0 p1 : Int32} (hr : rb ρ) (hc : cph σ ρ) (h1 : xoGates p0 p1 (some (.int v1)) nv1 σ σ1) (h2 : roGates p0 p1 (some (.int v2)) ρ ρ1) : CPR σ1 ρ1 v1 nv1 v2 := by
  rcases uno h1 h2 Iff.rfl with ⟨c1, ⟨a1, a2, a3, a4⟩, b1, b2⟩ | b
  · cases a1
    cases b1
    subst b2
    subst a4
    refine ⟨hc.oT a3.w ⟨fun k hk => ?_, fun _ _ _ => rfl, fun _ _ => rfl, fun _ _ _ => rfl⟩ (fun _ _ => Iff.rfl), rfl, fun _ => by rw [a2, hc.K.gates hr.n64]⟩
    show (if k = 4 then p1 else if k = 3 then p0 else if k = 0 then 0 else rI ρ k) = rI ρ k
    rw [if_neg (fun q => hk (by rw [q]; decide)), if_neg (fun q => hk (by rw [q]; decide)), if_neg (fun q => hk (by rw [q]; decide))]
  · exact cfail hc (by decide) b
theorem cp_wall {p0 : Int32} (hr : rb ρ) (hc : cph σ ρ) (h : OKR ρ p0) : ¬ xis (σ.2.2.2.1 2) p0 ↔ ¬ rkd ρ p0 = 1 := by
  obtain ⟨m, hm, hm2, hk⟩ := cellN hr.n64 h
  unfold rkd
  rw [hc.K.wall hm hm2 hr.n64, hk]
theorem cp_lamp {p0 p1 : Int32} (hr : rb ρ) (hc : cph σ ρ) (h1 : xoLamp p0 p1 (some (.int v1)) nv1 σ σ1) (h2 : roLamp p0 p1 (some (.int v2)) ρ ρ1) : CPR σ1 ρ1 v1 nv1 v2 := by
  have e1 : (0 ≤ p0 ∧ p0 ≤ σ.2.2.1 0 * σ.2.2.1 1 - 1) ↔ OKR ρ p0 := by rw [hc.D.2.2]
  have sz := szlt (c := 6) (k := 6) (kI := 6) hc.A.2.1.1 hc.A.1 (by decide) (by decide) rfl
  rcases tri h1 h2 e1 Iff.rfl (fun c1 _ => and_congr sz (cp_wall hr hc c1)) with ⟨⟨c1, c2, c3⟩, ⟨a1, a2, a3, a4⟩, b1, b2⟩ | b | b | b
  · cases a1
    cases b1
    subst b2
    subst a4
    have hn : rZ ρ 210 < 6 := by
      have q := c3.1
      have h9 := hc.A.1
      rw [hc.A.2.1.1, yofNat (by omega)] at q
      omega
    have hA := hc.A.add (f := rlmp p0 p1) hn (v0 := p0) (v1 := p1) (v2 := 1) rfl rfl rfl
    exact ⟨hc.oA a3.w rFrm.add (by omega) hA, rfl, fun _ => by rw [a2]; exact congrArg Int32.toInt64 (congrArg (fun z : Int32 => z - 1) hA.2.1.1)⟩
  · exact cfail hc (by decide) b
  · exact cfail hc (by decide) b
  · exact cfail hc (by decide) b
theorem cp_light {p0 p1 : Int32} (hc : cph σ ρ) (h1 : xoLight p0 p1 (some (.int v1)) nv1 σ σ1) (h2 : roLight p0 p1 (some (.int v2)) ρ ρ1) : cph σ1 ρ1 ∧ rI ρ1 0 = v1 := by
  have h6 := hc.A.1
  have e1 : (0 ≤ p0 ∧ p0 ≤ σ.1 0 - 1) ↔ (0 ≤ p0 ∧ p0 ≤ Int32.ofNat (rZ ρ 210) - 1) := by rw [hc.A.2.1.1]
  rcases uno h1 h2 e1 with ⟨c1, ⟨a1, -, a3, a4⟩, b2⟩ | ⟨⟨a1, rfl⟩, b1, b2⟩
  · cases a1
    obtain ⟨m, hm, hm2, hk⟩ := guardN (by omega) c1
    rw [hk] at b2
    subst b2
    subst a4
    refine ⟨hc.oA a3.w rFrm.ar (n := m) (by omega) ?_, rfl⟩
    obtain ⟨h0, ⟨s0, s1, s2⟩, r0, r1, r2⟩ := hc.A
    have ev : ∀ i j : Nat, rV (rar (rin ρ 0 0) (300 + m) (upd (rV ρ (300 + m)) (Int32.toNatClampNeg 2) (if p1 = 0 then 0 else 1))) (300 + i) j = if i = m ∧ j = 2 then (if p1 = 0 then 0 else 1) else rV ρ (300 + i) j := by
      intro i j
      show (if 300 + i = 300 + m then upd (rV ρ (300 + m)) (Int32.toNatClampNeg 2) (if p1 = 0 then 0 else 1) else rV ρ (300 + i)) j = _
      have e2 : Int32.toNatClampNeg 2 = 2 := rfl
      by_cases q : i = m
      · rw [q, if_pos rfl, e2]
        by_cases z : j = 2
        · rw [z, pk_us]
          exact (if_pos ⟨rfl, rfl⟩).symm
        · rw [pk_un z, if_neg (fun w => z w.2)]
      · rw [if_neg (by omega), if_neg (fun w => q w.1)]
    refine ⟨h0, ⟨xput_sz.trans s0, xput_sz.trans s1, xput_sz.trans s2⟩, fun i hi => ?_, fun i hi => ?_, fun i hi => ?_⟩
    · refine Eq.trans ?_ (ev i 0).symm
      rw [xput_n (by decide), if_neg (fun w => absurd w.2 (by decide))]
      exact r0 i hi
    · refine Eq.trans ?_ (ev i 1).symm
      rw [xput_n (by decide), if_neg (fun w => absurd w.2 (by decide))]
      exact r1 i hi
    · refine Eq.trans ?_ (ev i 2).symm
      rw [xput_g (g := m) hm (by rw [show xcap 2 = 6 from by decide]; omega)]
      by_cases q : i = m
      · rw [q, pk_us]
        exact (if_pos ⟨rfl, rfl⟩).symm
      · rw [pk_un q, if_neg (fun w => q w.1)]
        exact r2 i hi
  · cases a1
    exact ⟨hc.sm b2, b1⟩
theorem cp_fog {p0 p1 : Int32} (hc : cph σ ρ) (h1 : xoFog p0 p1 (some (.int v1)) nv1 σ σ1) (h2 : roFog p0 p1 (some (.int v2)) ρ ρ1) : CPR σ1 ρ1 v1 nv1 v2 := by
  have sz := szlt (c := 8) (k := 8) (kI := 8) hc.F.2.1.1 hc.F.1 (by decide) (by decide) rfl
  rcases duo h1 h2 Iff.rfl (fun _ => sz) with ⟨⟨c1, c3⟩, ⟨a1, a2, a3, a4⟩, b1, b2⟩ | b | b
  · cases a1
    cases b1
    subst b2
    subst a4
    have hn : rZ ρ 211 < 8 := by
      have q := c3
      have h9 := hc.F.1
      rw [hc.F.2.1.1, yofNat (by omega)] at q
      omega
    have hA := hc.F.add (f := rtwo p0 p1) hn (v0 := p0) (v1 := p1) rfl rfl
    exact ⟨hc.oF a3.w rFrm.add (by omega) hA, rfl, fun _ => by rw [a2]; exact congrArg Int32.toInt64 hA.2.1.1⟩
  · exact cfail hc (by decide) b
  · exact cfail hc (by decide) b
theorem cp_wire {p0 p1 : Int32} (hc : cph σ ρ) (h1 : xoWire p0 p1 (some (.int v1)) nv1 σ σ1) (h2 : roWire p0 p1 (some (.int v2)) ρ ρ1) : CPR σ1 ρ1 v1 nv1 v2 := by
  have e1 : (0 ≤ p0 ∧ p0 ≤ σ.2.2.1 0 * σ.2.2.1 1 - 1) ↔ OKR ρ p0 := by rw [hc.D.2.2]
  have sz := szlt (c := 5) (k := 5) (kI := 5) hc.W.2.1.1 hc.W.1 (by decide) (by decide) rfl
  rcases tri h1 h2 e1 Iff.rfl (fun _ _ => sz) with ⟨⟨c1, c2, c3⟩, ⟨a1, a2, a3, a4⟩, b1, b2⟩ | b | b | b
  · cases a1
    cases b1
    subst b2
    subst a4
    have hn : rZ ρ 216 < 5 := by
      have q := c3
      have h9 := hc.W.1
      rw [hc.W.2.1.1, yofNat (by omega)] at q
      omega
    have hA := hc.W.add (f := rtwo p0 p1) hn (v0 := p0) (v1 := p1) rfl rfl
    exact ⟨hc.oW a3.w rFrm.add (by omega) hA, rfl, fun _ => by rw [a2]; exact congrArg Int32.toInt64 (congrArg (fun z : Int32 => z - 1) hA.2.1.1)⟩
  · exact cfail hc (by decide) b
  · exact cfail hc (by decide) b
  · exact cfail hc (by decide) b
theorem cp_post {p0 : Int32} (hr : rb ρ) (hc : cph σ ρ) (h1 : xoPost p0 (some (.int v1)) nv1 σ σ1) (h2 : roPost p0 (some (.int v2)) ρ ρ1) : CPR σ1 ρ1 v1 nv1 v2 := by
  have e1 : (0 ≤ p0 ∧ p0 ≤ σ.2.2.1 0 * σ.2.2.1 1 - 1) ↔ OKR ρ p0 := by rw [hc.D.2.2]
  have sz := szlt (c := 4) (k := 4) (kI := 4) hc.P.2.1 hc.P.1 (by decide) (by decide) rfl
  rcases duo h1 h2 e1 (fun c1 => and_congr sz (cp_wall hr hc c1)) with ⟨⟨c1, c3⟩, ⟨a1, a2, a3, a4⟩, b1, b2⟩ | b | b
  · cases a1
    cases b1
    subst b2
    subst a4
    have hn : rZ ρ 213 < 4 := by
      have q := c3.1
      have h9 := hc.P.1
      rw [hc.P.2.1, yofNat (by omega)] at q
      omega
    have hA := hc.P.add (v := p0) hn
    exact ⟨hc.oP a3.w rFrm.add hA, rfl, fun _ => by rw [a2]; exact congrArg Int32.toInt64 (congrArg (fun z : Int32 => z - 1) hA.2.1)⟩
  · exact cfail hc (by decide) b
  · exact cfail hc (by decide) b
theorem cp_key {p0 p1 : Int32} (hc : cph σ ρ) (h1 : xoKey p0 p1 (some (.int v1)) nv1 σ σ1) (h2 : roKey p0 p1 (some (.int v2)) ρ ρ1) : CPR σ1 ρ1 v1 nv1 v2 := by
  have e6 : (6 : Int32) - 1 = 5 := by decide
  have e1 : ((0 ≤ p0 ∧ p0 ≤ 6 - 1) ∧ (p1 = -1 ∨ (0 ≤ p1 ∧ p1 ≤ σ.1 5 - 1))) ↔ ((0 ≤ p0 ∧ p0 ≤ 5) ∧ (p1 = -1 ∨ OKG ρ p1)) := by rw [hc.G.2.1.1, e6]
  rcases uno h1 h2 e1 with ⟨c1, ⟨a1, a2, a3, a4⟩, b1, b2⟩ | b
  · cases a1
    cases b1
    obtain ⟨⟨k0, k5⟩, -⟩ := c1
    have z0 : (0 : Int32).toInt = 0 := by decide
    have z5 : (5 : Int32).toInt = 5 := by decide
    rw [yle, z0] at k0
    rw [yle, z5] at k5
    have hm : p0.toInt = ((p0.toInt.toNat : Nat) : Int) := by omega
    have hk : Int32.toNatClampNeg p0 = p0.toInt.toNat := rfl
    rw [hk] at b2 ⊢
    generalize p0.toInt.toNat = m at hm b2 ⊢
    subst b2
    subst a4
    exact ⟨hc.oY a3.w rFrm.ar (hc.Y.put hm (by omega)), rfl, fun _ => by rw [a2, xat_g hm (by rw [show xcap 15 = 6 from by decide]; omega), hc.Y m (by omega)]⟩
  · exact cfail hc (by decide) b
theorem cp_round {p0 p1 : Int32} (hr : rb ρ) (hc : cph σ ρ) (h1 : xoRound p0 p1 (some (.int v1)) nv1 σ σ1) (h2 : roRound p0 p1 (some (.int v2)) ρ ρ1) : CPR σ1 ρ1 v1 nv1 v2 := by
  have h6 := hc.G.1
  have z6 : (6 : Int32).toInt = 6 := by decide
  have e1 : ((0 ≤ p0 ∧ p0 ≤ σ.1 5 - 1) ∧ (0 ≤ p1 ∧ p1 ≤ σ.2.2.1 0 * σ.2.2.1 1 - 1)) ↔ (OKG ρ p0 ∧ OKR ρ p1) := by rw [hc.D.2.2, hc.G.2.1.1]
  have e8 : ∀ g : Nat, p0.toInt = (g : Int) → g < rZ ρ 212 → xat σ 8 p0 = Int32.ofNat (rZ ρ (380 + g)) := fun g hg hg2 => (xat_g hg (by rw [show xcap 8 = 6 from by decide]; omega)).trans (hc.G.2.2.1.2.2.2 g hg2)
  have e2 : (OKG ρ p0 ∧ OKR ρ p1) → ((¬ 6 ≤ xat σ 8 p0 ∧ ¬ xis (σ.2.2.2.1 2) p1) ↔ (¬ Int32.ofNat (rZ ρ (rgl p0)) = 6 ∧ ¬ rkd ρ p1 = 1)) := fun c => by
    obtain ⟨g, hg, hg2, hk⟩ := guardN (by omega) c.1
    have hl := (hc.G.2.2.2 g hg2).1
    refine and_congr ?_ (cp_wall hr hc c.2)
    try unfold rgl
    rw [hk, ← szlt (c := 6) (k := 6) (kI := 6) (e8 g hg hg2) hl (by decide) (by decide) rfl, yle, z6]
    omega
  rcases duo h1 h2 e1 e2 with ⟨⟨c1, c3⟩, ⟨a1, a2, a3, a4⟩, b1, b2⟩ | b | b
  · obtain ⟨g, hg, hg2, hk⟩ := guardN (by omega) c1.1
    have hl := (hc.G.2.2.2 g hg2).1
    have hn : rZ ρ (380 + g) < 6 := by
      have q := c3.1
      rw [e8 g hg hg2, yle, z6, yofNat (by omega)] at q
      omega
    cases a1
    try unfold rgl at b1
    try unfold rgl at b2
    rw [hk] at b1 b2
    rw [if_pos rfl] at b1
    cases b1
    subst b2
    subst a4
    have hA := hc.G.len (cell := p1) hg hg2 hn
    exact ⟨hc.oG (n := g) (z1 := 0) a3.w rFrm.add2 (by omega) (Or.inr rfl) hA, rfl, fun _ => by rw [a2, e8 g hg hg2, ofN1 (by omega)]⟩
  · exact cfail hc (by decide) b
  · exact cfail hc (by decide) b
theorem cp_guard {p0 p1 p2 p3 : Int32} (hr : rb ρ) (hc : cph σ ρ) (h1 : xoGuard p0 p1 p2 p3 (some (.int v1)) nv1 σ σ1) (h2 : roGuard p0 p1 p2 p3 (some (.int v2)) ρ ρ1) : CPR σ1 ρ1 v1 nv1 v2 := by
  have e1 : (0 ≤ p0 ∧ p0 ≤ σ.2.2.1 0 * σ.2.2.1 1 - 1) ↔ OKR ρ p0 := by rw [hc.D.2.2]
  have sz := szlt (c := 6) (k := 6) (kI := 6) hc.G.2.1.1 hc.G.1 (by decide) (by decide) rfl
  have e2 : ((0 ≤ p1 ∧ p1 ≤ 239) ∧ (0 ≤ p2 ∧ p2 ≤ 239) ∧ p1 ≤ p2 ∧ (1 ≤ p3 ∧ p3 ≤ 20)) ↔ OKgd p1 p2 p3 := by
    unfold OKgd
    simp only [yle, show (0 : Int32).toInt = 0 from by decide, show (239 : Int32).toInt = 239 from by decide]
    constructor <;> (intro q; omega)
  rcases tri h1 h2 e1 e2 (fun c1 _ => and_congr sz (cp_wall hr hc c1)) with ⟨⟨c1, c2, c3⟩, ⟨a1, a2, a3, a4⟩, b1, b2⟩ | b | b | b
  · cases a1
    cases b1
    subst b2
    subst a4
    have hn : rZ ρ 212 < 6 := by
      have q := c3.1
      have h9 := hc.G.1
      rw [hc.G.2.1.1, yofNat (by omega)] at q
      omega
    have hA := hc.G.enl (cell := p0) (from_ := p1) (to := p2) (stay := p3) hn
    refine ⟨hc.oG (n := rZ ρ 212) (z1 := 212) a3.w ⟨fun k hk => if_neg (fun q => hk (by rw [q]; decide)), fun t h1 h2 => (if_neg h1).trans (if_neg h2), fun t ht => if_neg ht, fun t n ht => if_neg ht⟩ (by omega) (Or.inl rfl) hA, rfl, fun _ => ?_⟩
    rw [a2, hA.2.1.1]
    refine congrArg Int32.toInt64 (congrArg (fun z : Int32 => z - 1) (congrArg Int32.ofNat ?_))
    first | rfl | exact if_pos rfl
  · exact cfail hc (by decide) b
  · exact cfail hc (by decide) b
  · exact cfail hc (by decide) b
end YCH
