/-! part -/
/-! ===== contracts of the reference: the base, the words ===== -/
/-- the bounds but those of the words and the keys -/
def rbK (ρ : RS) : Prop := rgeo ρ ∧ rsz ρ ∧ rgd ρ ∧ rint ρ ∧ (∀ k, k < rZ ρ 210 → rcell ρ (rV ρ (300 + k) 0)) ∧ (∀ k, k < rZ ρ 213 → rcell ρ (rV ρ 213 k))
/-- where a base has begun: all lists but the OLD words are new -/
def rbS (ρ : RS) : Prop := rgeo ρ ∧ rZ ρ 210 = 0 ∧ rZ ρ 211 = 0 ∧ rZ ρ 212 = 0 ∧ rZ ρ 213 = 0 ∧ rZ ρ 215 = 0 ∧ rZ ρ 216 = 0 ∧ rwd ρ
section YBG
variable {l : Launch} {S0 : State} {A0 : Array Value} {D : va_G} {aC : Nat → ClassId} {ic : Int32 → Nat} {de : Nat} {ad : Nat → Nat} {G : AH} {ρ : RS}
theorem rb.K (h : rb ρ) : rbK ρ := ⟨h.1, h.2.1, h.2.2.1, h.2.2.2.1, h.2.2.2.2.2.2.1, h.2.2.2.2.2.2.2⟩
theorem rbK.rb (h : rbK ρ) (hk : rky ρ) (hw : rwd ρ) : rb ρ := ⟨h.1, h.2.1, h.2.2.1, h.2.2.2.1, hk, hw, h.2.2.2.2.1, h.2.2.2.2.2⟩
theorem rbS.K (h : rbS ρ) (hz : rsz ρ) : rbK ρ := by
  obtain ⟨g, z0, z1, z2, z3, z5, z6, w⟩ := h
  exact ⟨g, hz, fun k q => by omega, fun k q => by omega, fun k q => by omega, fun k q => by omega⟩
theorem rbK.sA {t : Nat} {f : Nat → Int32} (ht : t = 202 ∨ t = 203) (h : rbK ρ) : rbK (rar ρ t f) := by
  have v : ∀ j, j ≠ t → rV (rar ρ t f) j = rV ρ j := fun j hj => if_neg hj
  obtain ⟨g1, g2, g3, g4, g7, g8⟩ := h
  refine ⟨g1, g2, fun k q => ?_, fun k q => ?_, fun k q => ?_, fun k q => ?_⟩
  · rw [v (380 + k) (by omega)]
    exact g3 k q
  · rw [v (440 + k) (by omega)]
    exact g4 k q
  · rw [v (300 + k) (by omega)]
    exact g7 k q
  · rw [v 213 (by omega)]
    exact g8 k q
theorem rbK.sF {t i : Nat} {w : Int32} (ht : 360 ≤ t ∧ t < 380 ∧ 3 ≤ i) (h : rbK ρ) : rbK (rfd ρ t i w) := by
  obtain ⟨g1, g2, g3, g4, g7, g8⟩ := h
  have g26 := g2.2.2.1
  refine ⟨g1, g2, fun k q => ?_, fun k q => ?_, g7, g8⟩
  · have q' : k < rZ ρ 212 := q
    have e0 : rF (rfd ρ t i w) (360 + k) 0 = rF ρ (360 + k) 0 := if_neg (by omega)
    have e2 : rF (rfd ρ t i w) (360 + k) 2 = rF ρ (360 + k) 2 := if_neg (by omega)
    rw [e0, e2]
    exact g3 k q
  · have e0 : rF (rfd ρ t i w) (420 + k) 0 = rF ρ (420 + k) 0 := if_neg (by omega)
    rw [e0]
    exact g4 k q
theorem rbK.sL (h : rbK ρ) : rbK (rls ρ 214 false 0 0) := by
  obtain ⟨g1, g2, g3, g4, g7, g8⟩ := h
  refine ⟨g1, rsz.setL (by decide) g2, fun k q => ?_, g4, g7, g8⟩
  have e : rZ (rls ρ 214 false 0 0) (380 + k) = rZ ρ (380 + k) := if_neg (by omega)
  rw [e]
  exact g3 k q
theorem rsm_upd {f : Nat → Int32} {i : Nat} {v : Int32} (h : ∀ k, rsm (f k)) (hv : rsm v) : ∀ k, rsm (upd f i v k) := fun k => by
  by_cases e : k = i
  · rw [e, pk_us]
    exact hv
  · rw [pk_un e]
    exact h k
theorem ytd97 (x : Int) : -97 < x - x.tdiv 97 * 97 ∧ x - x.tdiv 97 * 97 < 97 ∧ (0 ≤ x → 0 ≤ x - x.tdiv 97 * 97) ∧ (x ≤ 0 → x - x.tdiv 97 * 97 ≤ 0) := by
  have h1 := Int.tmod_add_tdiv_mul x 97
  have h2 := Int.tmod_lt_of_pos x (show (0 : Int) < 97 by decide)
  have h3 := Int.lt_tmod_of_pos x (show (0 : Int) < 97 by decide)
  have h4 : 0 ≤ x → 0 ≤ x.tmod 97 := fun h => Int.tmod_nonneg 97 h
  have h5 : 0 ≤ -x → 0 ≤ (-x).tmod 97 := fun h => Int.tmod_nonneg 97 h
  rw [Int.neg_tmod] at h5
  refine ⟨by omega, by omega, fun h => ?_, fun h => ?_⟩
  · have := h4 h
    omega
  · have := h5 (by omega)
    omega
/-- what is left of a division by 97 is small -/
theorem rsm_after {x : Int32} : rsm (x - x / 97 * 97) := by
  have hr := yrng x
  have e97 : (97 : Int32).toInt = 97 := rfl
  have h2 := ytd97 x.toInt
  have h1 : (x / 97).toInt = x.toInt.tdiv 97 := by
    rw [Int32.toInt_div, e97]
    exact ybmod (by omega) (by omega)
  have h3 : (x / 97 * 97).toInt = x.toInt.tdiv 97 * 97 := by rw [ymul (by rw [h1, e97]; omega) (by rw [h1, e97]; omega), h1, e97]
  have h4 : (x - x / 97 * 97).toInt = x.toInt - x.toInt.tdiv 97 * 97 := by rw [ysub (by rw [h3]; omega) (by rw [h3]; omega), h3]
  exact ⟨by rw [h4]; omega, by rw [h4]; omega⟩
theorem ykf1 {i v : Int32} {f : Nat → Int32} (h0 : 0 ≤ i.toInt) (h9 : i.toInt < 6) (h : ∀ j : Nat, (j : Int) < i.toInt → f j = v) : ∀ j : Nat, (j : Int) < (i + 1).toInt → upd f (Int32.toNatClampNeg i) v j = v := by
  intro j hj
  rw [yadd (by rw [yl_1]; omega) (by rw [yl_1]; omega), yl_1] at hj
  by_cases e : j = Int32.toNatClampNeg i
  · rw [e, pk_us]
  · rw [pk_un e]
    have e1 : (Int32.toNatClampNeg i : Int) = i.toInt := by
      show ((i.toInt.toNat : Nat) : Int) = i.toInt
      omega
    exact h j (by omega)
theorem ykf0 {v : Int32} {f : Nat → Int32} : ∀ j : Nat, (j : Int) < (0 : Int32).toInt → f j = v := fun j h => by
  rw [yl_0] at h
  omega
theorem ykf6 {i v : Int32} {f : Nat → Int32} (h : ∀ j : Nat, (j : Int) < i.toInt → f j = v) (hc : (6 : Int32) ≤ i) : ∀ j, j < 6 → f j = v := fun j hj => by
  have e6 : (6 : Int32).toInt = 6 := rfl
  rw [yle, e6] at hc
  exact h j (by omega)
/-- the numbers when an HOUR's WORD has leaked -/
theorem rb.leak (h : rb ρ) {v n : Int32} {g : Nat → Int32} (h8 : rZ ρ 214 ≤ 7) (hv : rsm v) (hn : rsm n) (hg : ∀ k, rsm (g k)) : rb (rin (rar (rAdd (rar (rin ρ 6 (rI ρ 6 + 1)) 214 (fun i => if i = rZ ρ 214 then v else rV ρ 214 i)) 214) 202 g) 7 n) := by
  obtain ⟨g1, g2, g3, g4, g5, g6, g7, g8⟩ := h
  have e6 : (rI ρ 6 + 1).toInt = (rZ ρ 214 : Int) + 1 := by
    have := g6.1
    rw [yadd (by rw [yl_1]; omega) (by rw [yl_1]; omega), yl_1]
    omega
  have zz : ∀ k, rZ (rin (rar (rAdd (rar (rin ρ 6 (rI ρ 6 + 1)) 214 (fun i => if i = rZ ρ 214 then v else rV ρ 214 i)) 214) 202 g) 7 n) (380 + k) = rZ ρ (380 + k) := fun k => if_neg (by omega)
  have vv : ∀ j, j ≠ 202 → j ≠ 214 → rV (rin (rar (rAdd (rar (rin ρ 6 (rI ρ 6 + 1)) 214 (fun i => if i = rZ ρ 214 then v else rV ρ 214 i)) 214) 202 g) 7 n) j = rV ρ j := fun j h1 h2 => (if_neg h1).trans (if_neg h2)
  refine ⟨g1, ⟨g2.1, g2.2.1, g2.2.2.1, g2.2.2.2.1, show rZ ρ 214 + 1 ≤ 8 by omega, g2.2.2.2.2.2⟩, fun k q => ?_, fun k q => ?_, g5, ⟨?_, fun k q => ?_, hg, hn⟩, fun k q => ?_, g8⟩
  · rw [zz, vv _ (by omega) (by omega)]
    exact g3 k q
  · rw [vv _ (by omega) (by omega)]
    exact g4 k q
  · show (rI ρ 6 + 1).toInt = ((rZ ρ 214 + 1 : Nat) : Int)
    rw [e6]
    omega
  · show rsm (if k = rZ ρ 214 then v else rV ρ 214 k)
    have q' : k < rZ ρ 214 + 1 := q
    by_cases c : k = rZ ρ 214
    · rw [if_pos c]
      exact hv
    · rw [if_neg c]
      exact g6.2.1 k (by omega)
  · have q' : k < rZ ρ 210 := q
    have := g2.1
    rw [vv _ (by omega) (by omega)]
    exact g7 k q
theorem rsz.addO {f : Nat → Int32} (h : rsz ρ) (hs : rZ ρ 214 ≤ 7) : rsz (rAdd (rar ρ 214 f) 214) := ⟨h.1, h.2.1, h.2.2.1, h.2.2.2.1, show rZ ρ 214 + 1 ≤ 8 by omega, h.2.2.2.2.2⟩
theorem m_RguH (hS : yS l S0 A0 D aC) (hX : atH aC ic de ad G ρ) {i : Int32} (h0 : 0 ≤ i.toInt) (h1 : i.toInt < rZ ρ 212) : yM l S0 D yJx4a65c_get_915e3 cJx4a65c_get_915e3 2 (some (.object "java/lang/Object")) 12 0 0 [.ref (ad 212), .int i] G (fun r G1 => r = some (.ref (ad (360 + i.toNatClampNeg))) ∧ G1 = G) (fun _ _ => False) := m_Jget hS (hX.ls 212 (by decide)) h0 h1
/-- adding an OLD word -/
theorem m_RaddOld (hS : yS l S0 A0 D aC) (hI : yIc S0 ic de) (h : atH aC ic de ad G ρ) (hz : rsz ρ) (hs : rZ ρ 214 ≤ 7) {v : Int32} (hv : rsm v) :
    yM l S0 D yJx4a65c_add_9ea2d cJx4a65c_add_9ea2d 2 (some .boolean) 14 1 10 [.ref (ad 214), .ref (ic v)] G (fun r G1 => r = some (.int 1) ∧ ∃ ad1, atH aC ic de ad1 G1 (rAdd (rar ρ 214 (fun i => if i = rZ ρ 214 then v else rV ρ 214 i)) 214) ∧ ad1 200 = ad 200 ∧ (∀ j, j < 220 → ad1 j = ad j) ∧ (∀ j, 230 ≤ j → j < 400 → ad1 j = ad j) ∧ yTg kR G G1) (fun _ _ => False) := by
  have hf : ∀ i, i < rZ ρ 214 → (fun i => if i = rZ ρ 214 then v else rV ρ 214 i) i = rV ρ 214 i := fun i hi => if_neg (by omega)
  have h2 := h.preI hz (ic := ic) (Or.inr (Or.inl rfl)) hf
  have hvs : rV (rar ρ 214 (fun i => if i = rZ ρ 214 then v else rV ρ 214 i)) 214 = (fun i => if i = rZ ρ 214 then v else rV ρ 214 i) := rfl
  refine yM.mono (m_Radd hS hI h2 rfl (h2.ls 214 (by decide)) (by decide) (yObI (hI.1 v hv.1 hv.2)) (by show rZ ρ 214 ≤ 9; omega)) (fun r G1 q => ?_) (fun _ _ q => q)
  obtain ⟨hr, ea1, q1, q2⟩ := q
  refine ⟨hr, adx ad 224 ea1, atH.addL h2 (show rsz (rar ρ 214 _) from hz) (Or.inl (by decide)) rfl q1 q2 (fun i hi => ?_) (fun e => absurd e (by decide)) (fun e => absurd e (by decide)) (fun e => absurd e (by decide)) (fun e => absurd e (by decide)) (fun e => absurd e (by decide)), adx_n (by decide), fun j hj => adx_n (by omega), fun j hj hj2 => adx_n (by omega), q2.narrow (fun t ht => by rw [rT_lt (by decide)]; omega)⟩
  have e9 : ∀ i, rEl ic ad (rar ρ 214 (fun i => if i = rZ ρ 214 then v else rV ρ 214 i)) 214 i = ic (if i = rZ ρ 214 then v else rV ρ 214 i) := fun i => by
    unfold rEl
    rw [if_neg (by decide), if_neg (by decide), if_neg (by decide), if_neg (by decide), if_neg (by decide), hvs]
  rw [e9]
  show (if i = rZ ρ 214 then ic v else ic (if i = rZ ρ 214 then v else rV ρ 214 i)) = _
  by_cases c : i = rZ ρ 214
  · rw [if_pos c, if_pos c]
  · rw [if_neg c]
theorem ywh {w h : Int32} (w1 : 3 ≤ w.toInt) (w2 : w.toInt ≤ 8) (h1 : 3 ≤ h.toInt) (h2 : h.toInt ≤ 8) : (w * h).toInt = w.toInt * h.toInt ∧ 9 ≤ w.toInt * h.toInt ∧ w.toInt * h.toInt ≤ 64 ∧ ((Int32.toNatClampNeg (w * h) : Nat) : Int) = w.toInt * h.toInt := by
  have a1 : (3 : Int) * 3 ≤ w.toInt * h.toInt := Int.mul_le_mul w1 h1 (by decide) (by omega)
  have a2 : w.toInt * h.toInt ≤ 8 * 8 := Int.mul_le_mul w2 h2 (by omega) (by decide)
  have e : (w * h).toInt = w.toInt * h.toInt := ymul (by omega) (by omega)
  refine ⟨e, by omega, by omega, ?_⟩
  show (((w * h).toInt.toNat : Nat) : Int) = _
  omega
end YBG
/-- words begun anew from the number n, and nothing refused or asked since -/
abbrev rNew (n0 n : Int32) (s : RS) : Prop := rI s 0 = n0 ∧ rI s 5 = n ∧ rI s 6 = 0 ∧ rI s 7 = yit 5 n ∧ ∀ j : Nat, j < 4 → rV s 202 j = yit (j + 1) n
def rwp (n0 n : Int32) (s : RS) (v : Int32) : Prop := v.toInt ≤ 4 ∧ rI s 0 = n0 ∧ rI s 5 = n ∧ rI s 7 = yit (v.toInt.toNat + 1) n ∧ ∀ j : Nat, j < v.toInt.toNat → rV s 202 j = yit (j + 1) n
theorem rwp.init {n0 n : Int32} {s : RS} (h0 : rI s 0 = n0) (h5 : rI s 5 = n) (h7 : rI s 7 = yaft n) : rwp n0 n s 0 := by
  have e0 : (0 : Int32).toInt = 0 := by decide
  refine ⟨by omega, h0, h5, ?_, fun j hj => ?_⟩
  · rw [e0]; exact h7
  · rw [e0] at hj; exact absurd hj (Nat.not_lt_zero _)
theorem rwp.step {n0 n : Int32} {s : RS} {v : Int32} (h : rwp n0 n s v) (h0 : 0 ≤ v.toInt) (c : ¬ 4 ≤ v) : rwp n0 n (rin (rar s 202 (upd (rV s 202) (Int32.toNatClampNeg v) (rI s 7))) 7 ((23 * rI s 7 + 15) - (23 * rI s 7 + 15) / 97 * 97)) (v + 1) := by
  have e4 : (4 : Int32).toInt = 4 := by decide
  have e1 : (1 : Int32).toInt = 1 := by decide
  have c2 : ¬ 4 ≤ v.toInt := fun q => c (yle.mpr (by rw [e4]; exact q))
  have ev : (v + 1).toInt = v.toInt + 1 := by rw [yadd (by omega) (by omega), e1]
  have en : (v + 1).toInt.toNat = v.toInt.toNat + 1 := by omega
  obtain ⟨q4, q0, q5, q7, qr⟩ := h
  refine ⟨by omega, q0, q5, ?_, fun j hj => ?_⟩
  · rw [en]
    show yaft (rI s 7) = yaft (yit (v.toInt.toNat + 1) n)
    rw [q7]
  · rw [en] at hj
    show upd (rV s 202) v.toInt.toNat (rI s 7) j = _
    by_cases q : j = v.toInt.toNat
    · subst q
      rw [pk_us, q7]
    · rw [pk_un q]
      exact qr j (by omega)
theorem rwp.stop {n0 n : Int32} {s s1 : RS} {v : Int32} (h : rwp n0 n s v) (c : 4 ≤ v) (hL : (rI s1 6).toInt = 0 ∧ rZ s1 214 = 0) (e0 : rI s1 0 = rI s 0 := by rfl) (e5 : rI s1 5 = rI s 5 := by rfl) (e7 : rI s1 7 = rI s 7 := by rfl) (eV : rV s1 202 = rV s 202 := by rfl) : rNew n0 n s1 := by
  have e4 : (4 : Int32).toInt = 4 := by decide
  have c2 := yle.mp c
  obtain ⟨q4, q0, q5, q7, qr⟩ := h
  have e : v.toInt.toNat = 4 := by omega
  rw [e] at q7 qr
  exact ⟨e0.trans q0, e5.trans q5, Int32.toInt_inj.mp (hL.1.trans (by decide)), e7.trans q7, fun j hj => (congrFun eV j).trans (qr j hj)⟩
/-- what words begun anew leave -/
def rBg (ρ s : RS) : Prop := (∀ k : Nat, k ≠ 0 → k ≠ 6 → k ≠ 7 → k ≠ 8 → rI s k = rI ρ k) ∧ rI s 0 = rI ρ 0 ∧ (∀ t : Nat, t ≠ 214 → rZ s t = rZ ρ t) ∧ (∀ t : Nat, t ≠ 202 → t ≠ 203 → t ≠ 214 → rV s t = rV ρ t) ∧ (∀ t n : Nat, (n < 3 ∨ 380 ≤ t) → rF s t n = rF ρ t n)
theorem rBg.rfl' {ρ : RS} : rBg ρ ρ := ⟨fun _ _ _ _ _ => rfl, rfl, fun _ _ => rfl, fun _ _ _ _ => rfl, fun _ _ _ => rfl⟩
theorem rBg.in {ρ s : RS} {k : Nat} {v : Int32} (h : rBg ρ s) (hk : k = 6 ∨ k = 7 ∨ k = 8) : rBg ρ (rin s k v) := ⟨fun j q0 q6 q7 q8 => (if_neg (by omega)).trans (h.1 j q0 q6 q7 q8), (if_neg (by omega)).trans h.2.1, h.2.2.1, h.2.2.2.1, h.2.2.2.2⟩
theorem rBg.ar {ρ s : RS} {t : Nat} {f : Nat → Int32} (h : rBg ρ s) (ht : t = 202 ∨ t = 203 ∨ t = 214) : rBg ρ (rar s t f) := ⟨h.1, h.2.1, h.2.2.1, fun j q2 q3 q4 => (if_neg (by omega)).trans (h.2.2.2.1 j q2 q3 q4), h.2.2.2.2⟩
theorem rBg.ls {ρ s : RS} {own : Bool} {mc : Int32} {n : Nat} (h : rBg ρ s) : rBg ρ (rls s 214 own mc n) := ⟨h.1, h.2.1, fun j q => (if_neg q).trans (h.2.2.1 j q), h.2.2.2.1, h.2.2.2.2⟩
theorem rBg.fd {ρ s : RS} {t i : Nat} {v : Int32} (h : rBg ρ s) (hi : 3 ≤ i) (ht : t < 380) : rBg ρ (rfd s t i v) := ⟨h.1, h.2.1, h.2.2.1, h.2.2.2.1, fun j n q => (if_neg (fun z => by omega)).trans (h.2.2.2.2 j n q)⟩
/-- nobody has answered: the guards' fields -/
def rgz (s : RS) (n : Nat) : Prop := ∀ k : Nat, k < n → rF s (360 + k) 3 = 0 ∧ rF s (360 + k) 4 = 0
theorem rgz.step {s : RS} {v N : Int32} (h : rgz s v.toInt.toNat) (h0 : 0 ≤ v.toInt) (c : ¬ N ≤ v) : rgz (rfd (rfd s (360 + (Int32.toNatClampNeg v)) 3 0) (360 + (Int32.toNatClampNeg v)) 4 0) (v + 1).toInt.toNat := by
  refine allS (P := fun k => rF (rfd (rfd s (360 + (Int32.toNatClampNeg v)) 3 0) (360 + (Int32.toNatClampNeg v)) 4 0) (360 + k) 3 = 0 ∧ rF (rfd (rfd s (360 + (Int32.toNatClampNeg v)) 3 0) (360 + (Int32.toNatClampNeg v)) 4 0) (360 + k) 4 = 0) (fun k hk => ?_) h0 c ?_
  · obtain ⟨a, b⟩ := h k hk
    have ek : Int32.toNatClampNeg v = v.toInt.toNat := rfl
    refine ⟨?_, ?_⟩
    · show (if 360 + k = 360 + Int32.toNatClampNeg v ∧ 3 = 4 then 0 else if 360 + k = 360 + Int32.toNatClampNeg v ∧ 3 = 3 then 0 else rF s (360 + k) 3) = 0
      rw [if_neg (fun q => absurd q.2 (by decide)), if_neg (fun q => by omega)]
      exact a
    · show (if 360 + k = 360 + Int32.toNatClampNeg v ∧ 4 = 4 then 0 else if 360 + k = 360 + Int32.toNatClampNeg v ∧ 4 = 3 then 0 else rF s (360 + k) 4) = 0
      rw [if_neg (fun q => by omega), if_neg (fun q => absurd q.2 (by decide))]
      exact b
  · refine ⟨?_, ?_⟩
    · show (if 360 + Int32.toNatClampNeg v = 360 + Int32.toNatClampNeg v ∧ 3 = 4 then 0 else if 360 + Int32.toNatClampNeg v = 360 + Int32.toNatClampNeg v ∧ 3 = 3 then 0 else _) = 0
      rw [if_neg (fun q => absurd q.2 (by decide)), if_pos ⟨rfl, rfl⟩]
    · show (if 360 + Int32.toNatClampNeg v = 360 + Int32.toNatClampNeg v ∧ 4 = 4 then 0 else _) = 0
      rw [if_pos ⟨rfl, rfl⟩]
/-- all that words begun anew leave -/
def rBeg (ρ ρ1 : RS) : Prop := rBg ρ ρ1 ∧ rI ρ1 8 = 0 ∧ rZ ρ1 214 = 0 ∧ ((0 < rZ ρ 201 → rV ρ1 203 = rV ρ 203) ∧ (rZ ρ 201 = 0 → ∀ i : Nat, i < 6 → rV ρ1 203 i = -1)) ∧ rgz ρ1 (rZ ρ 212)
abbrev roLeak (hour : Int32) (r : Option Value) (ρ ρ1 : RS) : Prop := ((0 ≤ hour ∧ hour ≤ 3) ∧ ¬ rI ρ 6 = 8 ∧ r = some (.int (rI ρ 7)) ∧ rI ρ1 0 = 0 ∧ (∀ k : Nat, k ≠ 0 → k ≠ 6 → k ≠ 7 → rI ρ1 k = rI ρ k) ∧ rI ρ1 6 = rI ρ 6 + 1 ∧ rI ρ1 7 = yaft (rI ρ 7) ∧ (∀ t : Nat, t ≠ 214 → rZ ρ1 t = rZ ρ t) ∧ rZ ρ1 214 = rZ ρ 214 + 1 ∧ (∀ t : Nat, t ≠ 202 → t ≠ 214 → rV ρ1 t = rV ρ t) ∧ rV ρ1 202 = upd (rV ρ 202) (Int32.toNatClampNeg hour) (rI ρ 7) ∧ rV ρ1 214 = (fun i => if i = rZ ρ 214 then rV ρ 202 (Int32.toNatClampNeg hour) else rV ρ 214 i) ∧ rF ρ1 = rF ρ) ∨ roNo (¬ (0 ≤ hour ∧ hour ≤ 3)) 1 ρ ρ1 ∨ roNo ((0 ≤ hour ∧ hour ≤ 3) ∧ rI ρ 6 = 8) 2 ρ ρ1
abbrev roWords (seed : Int32) (r : Option Value) (ρ ρ1 : RS) : Prop := ((0 ≤ seed ∧ seed ≤ 99) ∧ r = some (.int (yit 1 seed)) ∧ rNew 0 seed ρ1 ∧ rBeg (rin (rin ρ 0 0) 5 seed) ρ1) ∨ roNo (¬ (0 ≤ seed ∧ seed ≤ 99)) 1 ρ ρ1
/-- the state behind base -/
def rbase (wide high seed : Int32) (ρ ρ1 : RS) : Prop := (rI ρ1 1 = wide ∧ rI ρ1 2 = high ∧ rI ρ1 3 = 0 ∧ rI ρ1 4 = -1 ∧ rI ρ1 8 = 0 ∧ rI ρ1 9 = rI ρ 9) ∧ (∀ t : Nat, 210 ≤ t → t < 217 → rZ ρ1 t = 0) ∧ Int32.ofNat (rZ ρ1 201) = wide * high ∧ rNew 0 (rI ρ 5) ρ1 ∧ (∀ i : Nat, i < 6 → rV ρ1 203 i = -1)
abbrev roBase (wide high seed : Int32) (r : Option Value) (ρ ρ1 : RS) : Prop := (((3 ≤ wide ∧ wide ≤ 8) ∧ (3 ≤ high ∧ high ≤ 8) ∧ (0 ≤ seed ∧ seed ≤ 100)) ∧ rbase wide high seed ρ ρ1 ∧ r = some (.int (Int32.ofNat (cnt (kop seed) (wide * high).toInt.toNat))) ∧ ∀ j : Nat, j < (wide * high).toInt.toNat → rV ρ1 201 j = kd seed j) ∨ roNo (¬ ((3 ≤ wide ∧ wide ≤ 8) ∧ (3 ≤ high ∧ high ≤ 8) ∧ (0 ≤ seed ∧ seed ≤ 100))) 1 ρ ρ1
/-- where the reference's making of a base stands -/
def rbd (N : Nat) (seed : Int32) (s : RS) (many row k : Int32) : Prop := 0 ≤ k.toInt ∧ k.toInt ≤ (N : Int) ∧ row = yit k.toInt.toNat seed ∧ many = Int32.ofNat (cnt (kop seed) k.toInt.toNat) ∧ ∀ j : Nat, j < k.toInt.toNat → rV s 201 j = kd seed j
theorem rbd.init {N : Nat} {seed : Int32} {s : RS} : rbd N seed s 0 seed 0 := by
  have e0 : (0 : Int32).toInt = 0 := by decide
  refine ⟨by omega, by omega, ?_, ?_, fun j hj => ?_⟩
  · rw [e0]; rfl
  · rw [e0]; rfl
  · rw [e0] at hj; exact absurd hj (Nat.not_lt_zero _)
theorem rbd.step {N : Nat} {seed many row k V a : Int32} {s : RS} (h : rbd N seed s many row k) (hk : k.toInt < (N : Int)) (hN : N ≤ 64) (hV : V = kd seed k.toInt.toNat) (ha : (¬ upd (rV s 201) (Int32.toNatClampNeg k) V (Int32.toNatClampNeg k) = 1 ∧ a = 1) ∨ (upd (rV s 201) (Int32.toNatClampNeg k) V (Int32.toNatClampNeg k) = 1 ∧ a = 0)) : rbd N seed (rar s 201 (upd (rV s 201) (Int32.toNatClampNeg k) V)) (many + a) ((23 * row + 15) - (23 * row + 15) / 97 * 97) (k + 1) := by
  have e1 : (1 : Int32).toInt = 1 := by decide
  obtain ⟨h0, hl, hn, hm, hr⟩ := h
  have ec : (k + 1).toInt = k.toInt + 1 := by rw [yadd (by omega) (by omega), e1]
  have em : (k + 1).toInt.toNat = k.toInt.toNat + 1 := by omega
  have ek : Int32.toNatClampNeg k = k.toInt.toNat := rfl
  rw [ek, pk_us] at ha
  refine ⟨by omega, by omega, ?_, ?_, fun j hj => ?_⟩
  · rw [em]
    show yaft row = yaft (yit k.toInt.toNat seed)
    rw [hn]
  · rw [em]
    have hc := cnt_le (kop seed) k.toInt.toNat
    have e : cnt (kop seed) (k.toInt.toNat + 1) = cnt (kop seed) k.toInt.toNat + (if kop seed k.toInt.toNat then 1 else 0) := rfl
    rw [e, hm]
    rcases ha with ⟨ha, rfl⟩ | ⟨ha, rfl⟩
    · rw [hV] at ha
      rw [if_pos (decide_eq_true ha)]
      refine (Int32.toInt_inj.mp ?_).symm
      rw [yofNat (by omega), yadd (by rw [yofNat (by omega), e1]; omega) (by rw [yofNat (by omega), e1]; omega), yofNat (by omega), e1]
      omega
    · rw [hV] at ha
      rw [if_neg (by rw [decide_eq_true_eq]; exact fun q => q ha)]
      exact Int32.add_zero _
  · rw [em] at hj
    show upd (rV s 201) (Int32.toNatClampNeg k) V j = _
    rw [ek]
    by_cases q : j = k.toInt.toNat
    · rw [q, pk_us]
      exact hV
    · rw [pk_un q]
      exact hr j (by omega)
theorem rbd.dg {N : Nat} {seed many row k : Int32} {s : RS} (h : rbd N seed s many row k) (hs : ¬ seed = 100) : kd seed k.toInt.toNat = xkd (((23 * row + 15) - (23 * row + 15) / 97 * 97) - ((23 * row + 15) - (23 * row + 15) / 97 * 97) / 10 * 10) := by
  unfold kd
  rw [if_neg hs, h.2.2.1]
  rfl
theorem rbd.rg {N : Nat} {seed many row k : Int32} {s : RS} (h : rbd N seed s many row k) (hd : 0 ≤ seed ∧ seed ≤ 100) : 0 ≤ (((23 * row + 15) - (23 * row + 15) / 97 * 97) - ((23 * row + 15) - (23 * row + 15) / 97 * 97) / 10 * 10).toInt := by
  have e0 : (0 : Int32).toInt = 0 := by decide
  have e100 : (100 : Int32).toInt = 100 := by decide
  have h1 := yle.mp hd.1
  have h2 := yle.mp hd.2
  rw [e0] at h1
  rw [e100] at h2
  have hr := yit_r h1 h2 k.toInt.toNat
  rw [← h.2.2.1] at hr
  exact d10_r (yaft_r hr.1 hr.2).1
theorem kC1 {d : Int32} (h0 : 0 ≤ d.toInt) (h : ¬ 2 ≤ d) : 1 = xkd d := by
  have e2 : (2 : Int32).toInt = 2 := by decide
  rw [yle, e2] at h
  have hd : d = 0 ∨ d = 1 := by
    by_cases q : d.toInt = 0
    · exact Or.inl (Int32.toInt_inj.mp (q.trans (by decide)))
    · exact Or.inr (Int32.toInt_inj.mp ((show d.toInt = 1 by omega).trans (by decide)))
  unfold xkd
  rw [if_pos hd]
theorem kC2 {d : Int32} (h3 : d ≤ 3) (h2 : 2 ≤ d) : d = xkd d := by
  have e2 : (2 : Int32).toInt = 2 := by decide
  have e3 : (3 : Int32).toInt = 3 := by decide
  rw [yle, e2] at h2
  rw [yle, e3] at h3
  by_cases q : d.toInt = 2
  · have e : d = 2 := Int32.toInt_inj.mp (q.trans (by decide))
    rw [e]
    first | rfl | decide
  · have e : d = 3 := Int32.toInt_inj.mp ((show d.toInt = 3 by omega).trans (by decide))
    rw [e]
    first | rfl | decide
theorem kC3 {d : Int32} (h3 : ¬ d ≤ 3) : 0 = xkd d := by
  rw [yle] at h3
  exact (xkd_0 (fun q => h3 (by rw [q]; decide)) (fun q => h3 (by rw [q]; decide)) (fun q => h3 (by rw [q]; decide)) (fun q => h3 (by rw [q]; decide))).symm
theorem rbd.stop {N : Nat} {seed many row k : Int32} {s : RS} (h : rbd N seed s many row k) (hk : (N : Int) ≤ k.toInt) : many = Int32.ofNat (cnt (kop seed) N) ∧ ∀ j : Nat, j < N → rV s 201 j = kd seed j := by
  have e : k.toInt.toNat = N := by have := h.2.1; omega
  obtain ⟨-, -, -, hm, hr⟩ := h
  rw [e] at hm hr
  exact ⟨hm, hr⟩
theorem rN64 {wide high : Int32} (ok : (3 ≤ wide ∧ wide ≤ 8) ∧ (3 ≤ high ∧ high ≤ 8)) : 0 ≤ (wide * high).toInt ∧ (wide * high).toInt ≤ 64 := by
  have e3 : (3 : Int32).toInt = 3 := by decide
  have e8 : (8 : Int32).toInt = 8 := by decide
  obtain ⟨⟨a, b⟩, c, d⟩ := ok
  rw [yle, e3] at a c
  rw [yle, e8] at b d
  obtain ⟨z1, z2, z3, -⟩ := ywh a b c d
  omega
/-- the counter against the number of cells -/
theorem rblt {wide high k : Int32} {n : Nat} (ok : (3 ≤ wide ∧ wide ≤ 8) ∧ (3 ≤ high ∧ high ≤ 8)) (e : Int32.ofNat n = wide * high) (c : ¬ Int32.ofNat n ≤ k) : k.toInt < (((wide * high).toInt.toNat : Nat) : Int) := by
  have z := rN64 ok
  rw [e, yle] at c
  omega
theorem rbge {wide high k : Int32} {n : Nat} (ok : (3 ≤ wide ∧ wide ≤ 8) ∧ (3 ≤ high ∧ high ≤ 8)) (e : Int32.ofNat n = wide * high) (c : Int32.ofNat n ≤ k) : (((wide * high).toInt.toNat : Nat) : Int) ≤ k.toInt := by
  have z := rN64 ok
  rw [e, yle] at c
  omega
theorem rn201 {x : Int32} (h : 0 ≤ x.toInt) : Int32.ofNat (Int32.toNatClampNeg x) = x := Int32.toInt_inj.mp (by
  have h2 := yrng x
  have e : ((Int32.toNatClampNeg x : Nat) : Int) = x.toInt := yclamp h
  rw [yofNat (by omega), e])

/-- what is known of the state behind the begin of base -/
theorem rbs_of {s s1 : RS} {wide high seed : Int32} {ρ : RS} (hb : (rI s 1 = wide ∧ rI s 2 = high ∧ rI s 3 = 0 ∧ rI s 4 = -1 ∧ rI s 9 = rI ρ 9) ∧ (rZ s 210 = 0 ∧ rZ s 211 = 0 ∧ rZ s 212 = 0 ∧ rZ s 213 = 0 ∧ rZ s 215 = 0 ∧ rZ s 216 = 0) ∧ Int32.ofNat (rZ s 201) = wide * high ∧ rI s 5 = rI ρ 5 ∧ rI s 0 = 0) (h0 : 0 < rZ s 201) (hk : ∀ i : Nat, i < 6 → rV s 203 i = -1) (hN : rNew (rI s 0) (rI s 5) s1) (hB : rBeg s s1) : rbase wide high seed ρ s1 := by
  obtain ⟨⟨a1, a2, a3, a4, a9⟩, ⟨z0, z1, z2, z3, z5, z6⟩, hc, h5, h00⟩ := hb
  obtain ⟨⟨b1, b2, b3, b4, b5⟩, c8, c214, ⟨d1, -⟩, -⟩ := hB
  rw [h5, h00] at hN
  refine ⟨⟨(b1 1 (by decide) (by decide) (by decide) (by decide)).trans a1, (b1 2 (by decide) (by decide) (by decide) (by decide)).trans a2, (b1 3 (by decide) (by decide) (by decide) (by decide)).trans a3, (b1 4 (by decide) (by decide) (by decide) (by decide)).trans a4, c8, (b1 9 (by decide) (by decide) (by decide) (by decide)).trans a9⟩, fun t h1 h2 => ?_, by rw [b3 201 (by decide)]; exact hc, hN, fun i hi => by rw [d1 h0]; exact hk i hi⟩
  have h9 : t = 210 ∨ t = 211 ∨ t = 212 ∨ t = 213 ∨ t = 214 ∨ t = 215 ∨ t = 216 := by omega
  rcases h9 with rfl | rfl | rfl | rfl | rfl | rfl | rfl
  · exact (b3 _ (by decide)).trans z0
  · exact (b3 _ (by decide)).trans z1
  · exact (b3 _ (by decide)).trans z2
  · exact (b3 _ (by decide)).trans z3
  · exact c214
  · exact (b3 _ (by decide)).trans z5
  · exact (b3 _ (by decide)).trans z6
/-- a cell's kind written keeps what base has begun -/
theorem rbase.ar {wide high seed : Int32} {ρ s : RS} {f : Nat → Int32} (h : rbase wide high seed ρ s) : rbase wide high seed ρ (rar s 201 f) := h
theorem rz9 {wide high : Int32} {n : Nat} (ok : (3 ≤ wide ∧ wide ≤ 8) ∧ (3 ≤ high ∧ high ≤ 8)) (e : Int32.ofNat n = wide * high) : 0 < n := by
  have e3 : (3 : Int32).toInt = 3 := by decide
  have e8 : (8 : Int32).toInt = 8 := by decide
  obtain ⟨⟨a, b⟩, c, d⟩ := ok
  rw [yle, e3] at a c
  rw [yle, e8] at b d
  obtain ⟨z1, z2, z3, -⟩ := ywh a b c d
  by_cases q : n = 0
  · subst q
    have e0 : (Int32.ofNat 0).toInt = 0 := by decide
    have h := congrArg Int32.toInt e
    rw [e0, z1] at h
    omega
  · omega
theorem rgz_stop {ρ s : RS} {v : Int32} (hB : rBg ρ s) (h : rgz s v.toInt.toNat) (hz : rsz s) (c : Int32.ofNat (rZ s 212) ≤ v) : rgz s (rZ ρ 212) := by
  have e := hB.2.2.1 212 (by decide)
  have hn : rZ s 212 ≤ 6 := hz.2.2.1
  rw [← e]
  exact allN (P := fun k => rF s (360 + k) 3 = 0 ∧ rF s (360 + k) 4 = 0) h (by omega) c
theorem rgeo.n64 {ρ : RS} (h : rgeo ρ) : rZ ρ 201 ≤ 1000 := by
  rcases h with ⟨q, -⟩ | ⟨a, b, c, d, e⟩
  · omega
  · have z : (rI ρ 1).toInt * (rI ρ 2).toInt ≤ 8 * 8 := Int.mul_le_mul b d (by omega) (by decide)
    omega
theorem rz0 {ρ s : RS} (hB : rBg ρ s) (c : Int32.ofNat (rZ s 201) = 0) (h : rZ s 201 ≤ 1000) : rZ ρ 201 = 0 := by
  have e := hB.2.2.1 201 (by decide)
  have h2 := congrArg Int32.toInt c
  have e0 : (0 : Int32).toInt = 0 := by decide
  rw [yofNat (by omega), e0] at h2
  omega
