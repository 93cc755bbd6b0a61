/-! ===== the reference's numbers in their bounds; adding to a list ===== -/
section YSV
variable {l : Launch} {S0 : State} {A0 : Array Value} {D : va_G} {aC : Nat → ClassId} {ic : Int32 → Nat} {de : Nat} {ad : Nat → Nat} {G G1 : AH} {ρ ρ1 : RS}
theorem rFr.no (hz : rsz ρ) : (∀ j, j < 300 → ¬ rFr ρ j) ∧ (∀ k, k < rZ ρ 210 → ¬ rFr ρ (300 + k)) ∧ (∀ k, k < rZ ρ 211 → ¬ rFr ρ (320 + k)) ∧ (∀ k, k < rZ ρ 216 → ¬ rFr ρ (340 + k)) ∧ (∀ k, k < rZ ρ 212 → ¬ rFr ρ (360 + k) ∧ ¬ rFr ρ (380 + k)) ∧ (∀ k, k < rZ ρ 215 → ¬ rFr ρ (420 + k) ∧ ¬ rFr ρ (440 + k)) := by
  obtain ⟨b1, b2, b3, b4, b5, b6, b7⟩ := hz
  refine ⟨fun j hj hx => ?_, fun k hk hx => ?_, fun k hk hx => ?_, fun k hk hx => ?_, fun k hk => ⟨fun hx => ?_, fun hx => ?_⟩, fun k hk => ⟨fun hx => ?_, fun hx => ?_⟩⟩ <;> (obtain ⟨x1, x2, y0, y1, y6, y2, y3, y4, y5, y7⟩ := hx; omega)
/-- what stands at free tags is nothing to the state -/
theorem atH.cg (h : atH aC ic de ad G ρ) (hz : rsz ρ) (hI : rI ρ1 = rI ρ) (hZ : ∀ j, ¬ rFr ρ j → rZ ρ1 j = rZ ρ j) (hB : ∀ j, ¬ rFr ρ j → rB ρ1 j = rB ρ j) (hM : ∀ j, ¬ rFr ρ j → rM ρ1 j = rM ρ j) (hV : ∀ j, ¬ rFr ρ j → rV ρ1 j = rV ρ j) (hF : ∀ j n, ¬ rFr ρ j → rF ρ1 j n = rF ρ j n) : atH aC ic de ad G ρ1 := by
  obtain ⟨f, f0, f1, f6, f2, f5⟩ := rFr.no hz
  obtain ⟨h1, h2, h3, h4, h5, h6, h7, h8, h9, h10⟩ := h
  have hL : ∀ lt, ¬ rFr ρ lt → rLs aC ic de ad G ρ lt → rLs aC ic de ad G ρ1 lt := fun lt hn hl => by
    show yLst aC de G lt (rT lt) (ad lt) (ad (rT lt)) (rB ρ1 lt) (rM ρ1 lt) (rZ ρ1 lt) (rEl ic ad ρ1 lt)
    rw [hB lt hn, hM lt hn, hZ lt hn]
    exact yLst.el hl (fun i _ => (rEl_cg (fun _ => rfl) (fun _ => rfl) (fun _ => rfl) (fun _ => rfl) (fun _ => rfl) (fun _ => by rw [hV lt hn])).symm)
  refine ⟨by rw [rMod_cg hI (fun _ _ => rfl)]; exact h1, by rw [hZ 201 (f _ (by decide)), hV 201 (f _ (by decide))]; exact h2, by rw [hV 202 (f _ (by decide))]; exact h3, by rw [hV 203 (f _ (by decide))]; exact h4, fun lt q1 q2 => hL lt (f lt (by omega)) (h5 lt q1 q2), fun k q => ?_, fun k q => ?_, fun k q => ?_, fun k q => ?_, fun k q => ?_⟩
  · rw [hZ 210 (f _ (by decide))] at q
    rw [hV _ (f0 k q)]
    exact h6 k q
  · rw [hZ 211 (f _ (by decide))] at q
    rw [hV _ (f1 k q)]
    exact h7 k q
  · rw [hZ 216 (f _ (by decide))] at q
    rw [hV _ (f6 k q)]
    exact h8 k q
  · rw [hZ 212 (f _ (by decide))] at q
    refine ⟨?_, hL _ (f2 k q).2 (h9 k q).2⟩
    rw [(h9 k q).1]
    simp only [rGd, hF _ _ (f2 k q).1]
  · rw [hZ 215 (f _ (by decide))] at q
    refine ⟨?_, ?_⟩
    · rw [(h10 k q).1]
      simp only [rIn, hF _ _ (f5 k q).1]
    · rw [hV _ (f5 k q).2]
      exact (h10 k q).2
theorem rb.cg (h : rb ρ) (hI : rI ρ1 = rI ρ) (hZ : ∀ j, ¬ rFr ρ j → rZ ρ1 j = rZ ρ j) (hV : ∀ j, ¬ rFr ρ j → rV ρ1 j = rV ρ j) (hF : ∀ j n, ¬ rFr ρ j → rF ρ1 j n = rF ρ j n) : rb ρ1 := by
  obtain ⟨f, f0, f1, f6, f2, f5⟩ := rFr.no h.2.1
  have z : ∀ j, j < 300 → rZ ρ1 j = rZ ρ j := fun j hj => hZ j (f j hj)
  have v : ∀ j, j < 300 → rV ρ1 j = rV ρ j := fun j hj => hV j (f j hj)
  have hc : ∀ w, rcell ρ w → rcell ρ1 w := fun w hw => by
    unfold rcell
    rw [z 201 (by decide)]
    exact hw
  obtain ⟨g1, g2, g3, g4, g5, g6, g7, g8⟩ := h
  refine ⟨?_, ?_, fun k q => ?_, fun k q => ?_, fun i q => ?_, ⟨?_, fun k q => ?_, fun k => ?_, ?_⟩, fun k q => ?_, fun k q => ?_⟩
  · unfold rgeo
    rw [z 201 (by decide), hI]
    exact g1
  · unfold rsz
    rw [z 210 (by decide), z 211 (by decide), z 212 (by decide), z 213 (by decide), z 214 (by decide), z 215 (by decide), z 216 (by decide)]
    exact g2
  · rw [z 212 (by decide)] at q
    obtain ⟨a1, a2, a3, a4, a5⟩ := g3 k q
    rw [hF _ 0 (f2 k q).1, hF _ 2 (f2 k q).1, hZ _ (f2 k q).2, hV _ (f2 k q).2]
    exact ⟨a1, a2, a3, a4, fun i hi => hc _ (a5 i hi)⟩
  · rw [z 215 (by decide)] at q
    obtain ⟨a1, a2⟩ := g4 k q
    rw [hF _ 0 (f5 k q).1, hV _ (f5 k q).2]
    exact ⟨a1, fun m h1 h2 => hc _ (a2 m h1 h2)⟩
  · rw [v 203 (by decide), z 212 (by decide)]
    exact g5 i q
  · rw [hI, z 214 (by decide)]
    exact g6.1
  · rw [z 214 (by decide)] at q
    rw [v 214 (by decide)]
    exact g6.2.1 k q
  · rw [v 202 (by decide)]
    exact g6.2.2.1 k
  · rw [hI]
    exact g6.2.2.2
  · rw [z 210 (by decide)] at q
    rw [hV _ (f0 k q)]
    exact hc _ (g7 k q)
  · rw [z 213 (by decide)] at q
    rw [v 213 (by decide)]
    exact hc _ (g8 k q)
theorem rb.addLa (h : rb ρ) {mc : Int32} {s : Nat} (hs : rZ ρ 210 = s) (h6 : s ≤ 6) (hc : rcell ρ (rV ρ (300 + s) 0)) : rb (rls ρ 210 true mc (s + 1)) := by
  obtain ⟨g1, g2, g3, g4, g5, g6, g7, g8⟩ := h
  refine ⟨g1, ⟨show s + 1 ≤ 7 by omega, g2.2⟩, fun k q => ?_, g4, g5, g6, fun k q => ?_, g8⟩
  · obtain ⟨a1, a2, a3, a4, a5⟩ := g3 k q
    have e : rZ (rls ρ 210 true mc (s + 1)) (380 + k) = rZ ρ (380 + k) := if_neg (by omega)
    rw [e]
    exact ⟨a1, a2, a3, a4, a5⟩
  · have q' : k < s + 1 := q
    by_cases c : k = s
    · subst c; exact hc
    · exact g7 k (by omega)
theorem rb.addFo (h : rb ρ) {mc : Int32} {s : Nat} (h6 : s ≤ 7) : rb (rls ρ 211 true mc (s + 1)) := by
  obtain ⟨g1, g2, g3, g4, g5, g6, g7, g8⟩ := h
  refine ⟨g1, ⟨g2.1, show s + 1 ≤ 8 by omega, g2.2.2⟩, fun k q => ?_, g4, g5, g6, g7, g8⟩
  obtain ⟨a1, a2, a3, a4, a5⟩ := g3 k q
  have e : rZ (rls ρ 211 true mc (s + 1)) (380 + k) = rZ ρ (380 + k) := if_neg (by omega)
  rw [e]
  exact ⟨a1, a2, a3, a4, a5⟩
theorem rb.addWi (h : rb ρ) {mc : Int32} {s : Nat} (h6 : s ≤ 4) : rb (rls ρ 216 true mc (s + 1)) := by
  obtain ⟨g1, g2, g3, g4, g5, g6, g7, g8⟩ := h
  refine ⟨g1, ⟨g2.1, g2.2.1, g2.2.2.1, g2.2.2.2.1, g2.2.2.2.2.1, g2.2.2.2.2.2.1, show s + 1 ≤ 5 by omega⟩, fun k q => ?_, g4, g5, g6, g7, g8⟩
  obtain ⟨a1, a2, a3, a4, a5⟩ := g3 k q
  have e : rZ (rls ρ 216 true mc (s + 1)) (380 + k) = rZ ρ (380 + k) := if_neg (by omega)
  rw [e]
  exact ⟨a1, a2, a3, a4, a5⟩
theorem rb.addPo (h : rb ρ) {mc : Int32} {s : Nat} (hs : rZ ρ 213 = s) (h6 : s ≤ 3) (hc : rcell ρ (rV ρ 213 s)) : rb (rls ρ 213 true mc (s + 1)) := by
  obtain ⟨g1, g2, g3, g4, g5, g6, g7, g8⟩ := h
  refine ⟨g1, ⟨g2.1, g2.2.1, g2.2.2.1, show s + 1 ≤ 4 by omega, g2.2.2.2.2⟩, fun k q => ?_, g4, g5, g6, g7, fun k q => ?_⟩
  · obtain ⟨a1, a2, a3, a4, a5⟩ := g3 k q
    have e : rZ (rls ρ 213 true mc (s + 1)) (380 + k) = rZ ρ (380 + k) := if_neg (by omega)
    rw [e]
    exact ⟨a1, a2, a3, a4, a5⟩
  · have q' : k < s + 1 := q
    by_cases c : k = s
    · subst c; exact hc
    · exact g8 k (by omega)
theorem rb.addGc (h : rb ρ) {mc : Int32} {s j : Nat} (hj : j < rZ ρ 212) (hs : rZ ρ (380 + j) = s) (h6 : s ≤ 5) (hc : rcell ρ (rV ρ (380 + j) s)) : rb (rls ρ (380 + j) true mc (s + 1)) := by
  have z : ∀ i, i < 380 → rZ (rls ρ (380 + j) true mc (s + 1)) i = rZ ρ i := fun i hi => if_neg (by omega)
  have hcc : ∀ w, rcell ρ w → rcell (rls ρ (380 + j) true mc (s + 1)) w := fun w hw => by
    unfold rcell
    rw [z 201 (by decide)]
    exact hw
  obtain ⟨g1, g2, g3, g4, g5, g6, g7, g8⟩ := h
  refine ⟨?_, ?_, fun k q => ?_, fun k q => ?_, fun i q => ?_, ⟨?_, fun k q => ?_, g6.2.2.1, g6.2.2.2⟩, fun k q => ?_, fun k q => ?_⟩
  · unfold rgeo
    rw [z 201 (by decide)]
    exact g1
  · unfold rsz
    rw [z 210 (by decide), z 211 (by decide), z 212 (by decide), z 213 (by decide), z 214 (by decide), z 215 (by decide), z 216 (by decide)]
    exact g2
  · rw [z 212 (by decide)] at q
    obtain ⟨a1, a2, a3, a4, a5⟩ := g3 k q
    by_cases c : k = j
    · subst c
      have e : rZ (rls ρ (380 + k) true mc (s + 1)) (380 + k) = s + 1 := if_pos rfl
      rw [e]
      refine ⟨a1, a2, by omega, by omega, fun i hi => hcc _ ?_⟩
      by_cases c2 : i = s
      · subst c2; exact hc
      · exact a5 i (by omega)
    · have e : rZ (rls ρ (380 + j) true mc (s + 1)) (380 + k) = rZ ρ (380 + k) := if_neg (by omega)
      rw [e]
      exact ⟨a1, a2, a3, a4, fun i hi => hcc _ (a5 i hi)⟩
  · rw [z 215 (by decide)] at q
    exact ⟨(g4 k q).1, fun m h1 h2 => hcc _ ((g4 k q).2 m h1 h2)⟩
  · rw [z 212 (by decide)]
    exact g5 i q
  · rw [z 214 (by decide)]
    exact g6.1
  · rw [z 214 (by decide)] at q
    exact g6.2.1 k q
  · rw [z 210 (by decide)] at q
    exact hcc _ (g7 k q)
  · rw [z 213 (by decide)] at q
    exact hcc _ (g8 k q)
/-- what a guard must be -/
def rgd1 (ρ : RS) (k : Nat) : Prop := 0 ≤ (rF ρ (360 + k) 0).toInt ∧ 1 ≤ (rF ρ (360 + k) 2).toInt ∧ 1 ≤ rZ ρ (380 + k) ∧ rZ ρ (380 + k) ≤ 6 ∧ ∀ i, i < rZ ρ (380 + k) → rcell ρ (rV ρ (380 + k) i)
def rint1 (ρ : RS) (k : Nat) : Prop := 0 ≤ (rF ρ (420 + k) 0).toInt ∧ ∀ m : Nat, (rF ρ (420 + k) 0).toInt ≤ (m : Int) → m < 240 → rcell ρ (rV ρ (440 + k) m)
theorem rb.addGu (h : rb ρ) {mc : Int32} {s : Nat} (hs : rZ ρ 212 = s) (h6 : s ≤ 5) (hc : rgd1 ρ s) : rb (rls ρ 212 true mc (s + 1)) := by
  obtain ⟨g1, g2, g3, g4, g5, g6, g7, g8⟩ := h
  refine ⟨g1, ⟨g2.1, g2.2.1, show s + 1 ≤ 6 by omega, g2.2.2.2⟩, fun k q => ?_, g4, fun i q => ?_, g6, g7, g8⟩
  · have q' : k < s + 1 := q
    have e : rZ (rls ρ 212 true mc (s + 1)) (380 + k) = rZ ρ (380 + k) := if_neg (by omega)
    rw [e]
    by_cases c : k = s
    · subst c; exact hc
    · exact g3 k (by omega)
  · show rV ρ 203 i = -1 ∨ (0 ≤ (rV ρ 203 i).toInt ∧ (rV ρ 203 i).toInt < ((s + 1 : Nat) : Int))
    rcases g5 i q with q | q
    · exact Or.inl q
    · exact Or.inr ⟨q.1, by have := q.2; omega⟩
theorem rb.addIn (h : rb ρ) {mc : Int32} {s : Nat} (hs : rZ ρ 215 = s) (h6 : s ≤ 3) (hc : rint1 ρ s) : rb (rls ρ 215 true mc (s + 1)) := by
  obtain ⟨g1, g2, g3, g4, g5, g6, g7, g8⟩ := h
  refine ⟨g1, ⟨g2.1, g2.2.1, g2.2.2.1, g2.2.2.2.1, g2.2.2.2.2.1, show s + 1 ≤ 4 by omega, g2.2.2.2.2.2.2⟩, fun k q => ?_, fun k q => ?_, g5, g6, g7, g8⟩
  · obtain ⟨a1, a2, a3, a4, a5⟩ := g3 k q
    have e : rZ (rls ρ 215 true mc (s + 1)) (380 + k) = rZ ρ (380 + k) := if_neg (by omega)
    rw [e]
    exact ⟨a1, a2, a3, a4, a5⟩
  · have q' : k < s + 1 := q
    by_cases c : k = s
    · subst c; exact hc
    · exact g4 k (by omega)
theorem rb.remLa (h : rb ρ) {mc : Int32} {s : Nat} (hs : rZ ρ 210 = s + 1) : rb (rls ρ 210 true mc s) := by
  obtain ⟨g1, g2, g3, g4, g5, g6, g7, g8⟩ := h
  have g21 := g2.1
  refine ⟨g1, ⟨show s ≤ 7 by omega, g2.2⟩, fun k q => ?_, g4, g5, g6, fun k q => ?_, g8⟩
  · obtain ⟨a1, a2, a3, a4, a5⟩ := g3 k q
    have e : rZ (rls ρ 210 true mc s) (380 + k) = rZ ρ (380 + k) := if_neg (by omega)
    rw [e]
    exact ⟨a1, a2, a3, a4, a5⟩
  · have q' : k < s := q
    exact g7 k (by omega)
theorem rb.sA (h : rb ρ) {t : Nat} {f : Nat → Int32} (c2 : t = 202 → ∀ k, rsm (f k)) (c3 : t = 203 → ∀ i, i < 6 → f i = -1 ∨ (0 ≤ (f i).toInt ∧ (f i).toInt < (rZ ρ 212 : Int))) (c30 : 300 ≤ t → t < 300 + rZ ρ 210 → rcell ρ (f 0)) (ci : (t = 213 ∨ (380 ≤ t ∧ t < 400)) → ∀ i, i < rZ ρ t → f i = rV ρ t i) (c4 : t ≠ 214) (c44 : t < 440) : rb (rar ρ t f) := by
  have v : ∀ j, j ≠ t → rV (rar ρ t f) j = rV ρ j := fun j hj => if_neg hj
  have vs : rV (rar ρ t f) t = f := if_pos rfl
  obtain ⟨g1, g2, g3, g4, g5, g6, g7, g8⟩ := h
  have g26 := g2.2.2.1
  refine ⟨g1, g2, fun k q => ?_, fun k q => ?_, fun i q => ?_, ⟨g6.1, fun k q => ?_, fun k => ?_, g6.2.2.2⟩, fun k q => ?_, fun k q => ?_⟩
  · obtain ⟨a1, a2, a3, a4, a5⟩ := g3 k q
    refine ⟨a1, a2, a3, a4, fun i hi => ?_⟩
    have q' : k < rZ ρ 212 := q
    by_cases e : 380 + k = t
    · rw [e, vs, ci (Or.inr (by omega)) i (by rw [← e]; exact hi), ← e]
      exact a5 i hi
    · rw [v _ e]
      exact a5 i hi
  · refine ⟨(g4 k q).1, fun m h1 h2 => ?_⟩
    rw [v _ (by omega)]
    exact (g4 k q).2 m h1 h2
  · by_cases e : 203 = t
    · subst e
      rw [vs]
      exact c3 rfl i q
    · rw [v _ e]
      exact g5 i q
  · rw [v _ c4.symm]
    exact g6.2.1 k q
  · by_cases e : 202 = t
    · subst e
      rw [vs]
      exact c2 rfl k
    · rw [v _ e]
      exact g6.2.2.1 k
  · by_cases e : 300 + k = t
    · rw [e, vs]
      have q' : k < rZ ρ 210 := q
      exact c30 (by omega) (by omega)
    · rw [v _ e]
      exact g7 k q
  · by_cases e : 213 = t
    · subst e
      rw [vs, ci (Or.inl rfl) k q]
      exact g8 k q
    · rw [v _ e]
      exact g8 k q
theorem rb.sF (h : rb ρ) {t i : Nat} {w : Int32} (hi : (360 ≤ t ∧ t < 380 ∧ 3 ≤ i) ∨ (420 ≤ t ∧ t < 440 ∧ 1 ≤ i)) : rb (rfd ρ t i w) := by
  obtain ⟨g1, g2, g3, g4, g5, g6, g7, g8⟩ := h
  have g26 := g2.2.2.1
  refine ⟨g1, g2, fun k q => ?_, fun k q => ?_, g5, g6, g7, g8⟩
  · have q' : k < rZ ρ 212 := q
    have e0 : rF (rfd ρ t i w) (360 + k) 0 = rF ρ (360 + k) 0 := if_neg (by omega)
    have e2 : rF (rfd ρ t i w) (360 + k) 2 = rF ρ (360 + k) 2 := if_neg (by omega)
    rw [e0, e2]
    exact g3 k q
  · have e0 : rF (rfd ρ t i w) (420 + k) 0 = rF ρ (420 + k) 0 := if_neg (by omega)
    rw [e0]
    exact g4 k q
/-- adding v to the list of a tag -/
theorem m_Radd (hS : yS l S0 A0 D aC) (hI : yIc S0 ic de) (h : atH aC ic de ad G ρ) {lt v b : Nat} (hb : ad lt = b) (hl : rLs aC ic de ad G ρ lt) (hlt : 200 ≤ lt) (hv : yOb2 aC S0 D G v) (hs : rZ ρ lt ≤ 9) : yM l S0 D yJx4a65c_add_9ea2d cJx4a65c_add_9ea2d 2 (some .boolean) 14 1 10 [.ref b, .ref v] G (fun r G1 => r = some (.int 1) ∧ ∃ ea1, yLst aC de G1 lt (rT lt) (ad lt) ea1 true (rM ρ lt + 1) (rZ ρ lt + 1) (fun i => if i = rZ ρ lt then v else rEl ic ad ρ lt i) ∧ yTg (fun t => t ≠ lt ∧ t ≠ rT lt) G G1) (fun _ _ => False) := by
  subst hb
  have hT : rT lt ≠ 0 := by
    unfold rT
    split <;> omega
  refine yM.mono (m_Jadd hS hI hl hv hs (by omega) hT) (fun r G1 q => ?_) (fun _ _ q => q)
  obtain ⟨hr, ea1, q1, q2, q3, q4⟩ := q
  refine ⟨hr, ea1, q1, fun a t e ha ht => q4 a _ ha (fun e9 => ?_) (fun e9 => ?_)⟩
  · rw [e9, hl.1] at ha
    cases ha
    exact ht.1 rfl
  · rcases hl.2 with ⟨c1, c2, c3⟩ | ⟨c1, c2, c3⟩
    · rw [e9, q2 c1, c3] at ha
      cases ha
      exact ht.2 rfl
    · rw [e9, q3 c1] at ha
      cases ha
abbrev rAdd (ρ : RS) (lt : Nat) : RS := rls ρ lt true (rM ρ lt + 1) (rZ ρ lt + 1)
theorem yObI {a : Nat} {v : Int32} (h : yInt S0 a v) : yOb2 aC S0 D G a := Or.inr h.1
theorem yObA {a t : Nat} {x : vp_A} (h : G a = some (t, .inl (aC 0, x))) : yOb2 aC S0 D G a := Or.inl (Or.inr ⟨x, Or.inl ⟨t, h⟩⟩)
/-- adding a row -/
theorem m_Raddrow (hS : yS l S0 A0 D aC) (hI : yIc S0 ic de) (h : atR aC ic de ad G ρ) {lt tb len : Nat} (hc : (lt = 210 ∧ tb = 300 ∧ len = 3) ∨ (lt = 211 ∧ tb = 320 ∧ len = 2) ∨ (lt = 216 ∧ tb = 340 ∧ len = 2)) {a : Nat} {f : Nat → Int32} (ha : G a = some (tb + rZ ρ lt, .inl (aC 0, len, .inl f))) (hs : rZ ρ lt + 1 ≤ (if lt = 210 then 7 else if lt = 211 then 8 else 5)) (hf : lt = 210 → rcell ρ (f 0)) :
    yM l S0 D yJx4a65c_add_9ea2d cJx4a65c_add_9ea2d 2 (some .boolean) 14 1 10 [.ref (ad lt), .ref a] G (fun r G1 => r = some (.int 1) ∧ ∃ ad1, atR aC ic de ad1 G1 (rAdd (rar ρ (tb + rZ ρ lt) f) lt) ∧ ad1 200 = ad 200 ∧ yTg kR G G1) (fun _ _ => False) := by
  have hz := h.2.2.1
  obtain ⟨b1, b2, b3, b4, b5, b6, b7⟩ := hz
  have hx : rFr ρ (tb + rZ ρ lt) := by
    rcases hc with ⟨rfl, rfl, rfl⟩ | ⟨rfl, rfl, rfl⟩ | ⟨rfl, rfl, rfl⟩ <;> (refine ⟨?_, ?_, ?_, ?_, ?_, ?_, ?_, ?_, ?_, ?_⟩ <;> omega)
  have hlt : 210 ≤ lt ∧ lt < 217 := by omega
  have hxr : 300 ≤ tb + rZ ρ lt ∧ tb + rZ ρ lt < 360 := by
    rcases hc with ⟨rfl, rfl, rfl⟩ | ⟨rfl, rfl, rfl⟩ | ⟨rfl, rfl, rfl⟩ <;> omega
  have h1 := h.1.re h.2.2.1 (a := a) hx
  have hV : ∀ j, ¬ rFr ρ j → rV (rar ρ (tb + rZ ρ lt) f) j = rV ρ j := fun j hj => if_neg (fun q => hj (by rw [q]; exact hx))
  have h2 : atH aC ic de (adx ad (tb + rZ ρ lt) a) G (rar ρ (tb + rZ ρ lt) f) := h1.cg h.2.2.1 rfl (fun _ _ => rfl) (fun _ _ => rfl) (fun _ _ => rfl) hV (fun _ _ _ => rfl)
  have hb2 : rb (rar ρ (tb + rZ ρ lt) f) := h.2.cg rfl (fun _ _ => rfl) hV (fun _ _ _ => rfl)
  have hvs : rV (rar ρ (tb + rZ ρ lt) f) (tb + rZ ρ lt) = f := if_pos rfl
  have hbe : adx ad (tb + rZ ρ lt) a lt = ad lt := adx_n (by omega)
  refine yM.mono (m_Radd hS hI h2 hbe (h2.ls lt hlt) (by omega) (yObA ha) (by show rZ ρ lt ≤ 9; have := h.2.le10 lt hlt; omega)) (fun r G1 q => ?_) (fun _ _ q => q)
  obtain ⟨hr, ea1, q1, q2⟩ := q
  have ha1 : G1 a = some (tb + rZ ρ lt, .inl (aC 0, len, .inl f)) := q2 _ _ _ ha ⟨by omega, by rw [rT_lt (by omega)]; omega⟩
  have ha2 : G1 (adx ad (tb + rZ ρ lt) a (tb + rZ ρ lt)) = some (tb + rZ ρ lt, .inl (aC 0, len, .inl (rV (rar ρ (tb + rZ ρ lt) f) (tb + rZ ρ lt)))) := by
    rw [adx_s, hvs]
    exact ha1
  refine ⟨hr, adx (adx ad (tb + rZ ρ lt) a) (rT lt) ea1, ⟨atH.addL h2 hb2.2.1 (Or.inl hlt) rfl q1 q2 (fun i hi => ?_) (fun e => ?_) (fun e => ?_) (fun e => ?_) (fun e => ?_) (fun e => ?_), ?_⟩, ?_, q2.narrow (fun t ht => ?_)⟩
  · by_cases c : i = rZ ρ lt
    · show (if i = rZ ρ lt then a else _) = _
      rw [if_pos c]
      subst c
      rcases hc with ⟨rfl, rfl, rfl⟩ | ⟨rfl, rfl, rfl⟩ | ⟨rfl, rfl, rfl⟩
      · exact adx_s.symm
      · exact adx_s.symm
      · exact adx_s.symm
    · show (if i = rZ ρ lt then a else _) = _
      rw [if_neg c]
  · rcases hc with ⟨rfl, rfl, rfl⟩ | ⟨rfl, rfl, rfl⟩ | ⟨rfl, rfl, rfl⟩
    · exact ha2
    · exact absurd e (by decide)
    · exact absurd e (by decide)
  · rcases hc with ⟨rfl, rfl, rfl⟩ | ⟨rfl, rfl, rfl⟩ | ⟨rfl, rfl, rfl⟩
    · exact absurd e (by decide)
    · exact ha2
    · exact absurd e (by decide)
  · rcases hc with ⟨rfl, rfl, rfl⟩ | ⟨rfl, rfl, rfl⟩ | ⟨rfl, rfl, rfl⟩
    · exact absurd e (by decide)
    · exact absurd e (by decide)
    · exact ha2
  · omega
  · omega
  · rcases hc with ⟨rfl, rfl, rfl⟩ | ⟨rfl, rfl, rfl⟩ | ⟨rfl, rfl, rfl⟩
    · refine hb2.addLa rfl (show rZ ρ 210 ≤ 6 by rw [if_pos rfl] at hs; omega) ?_
      show rcell ρ (rV (rar ρ (300 + rZ ρ 210) f) (300 + rZ ρ 210) 0)
      rw [hvs]
      exact hf rfl
    · exact hb2.addFo (show rZ ρ 211 ≤ 7 by rw [if_neg (by decide), if_pos rfl] at hs; omega)
    · exact hb2.addWi (show rZ ρ 216 ≤ 4 by rw [if_neg (by decide), if_neg (by decide)] at hs; omega)
  · rw [adx_n (by rw [rT_lt (by omega)]; omega), adx_n (by omega)]
  · rw [rT_lt (by omega)]
    omega
/-- adding an Integer to the posts or to a guard's cells -/
theorem m_RaddI (hS : yS l S0 A0 D aC) (hI : yIc S0 ic de) (h : atR aC ic de ad G ρ) {lt : Nat} (hc : (lt = 213 ∧ rZ ρ lt ≤ 3) ∨ (∃ k, lt = 380 + k ∧ k < rZ ρ 212 ∧ rZ ρ lt ≤ 5)) {v : Int32} (hv : rcell ρ v) :
    yM l S0 D yJx4a65c_add_9ea2d cJx4a65c_add_9ea2d 2 (some .boolean) 14 1 10 [.ref (ad lt), .ref (ic v)] G (fun r G1 => r = some (.int 1) ∧ ∃ ad1, atR aC ic de ad1 G1 (rAdd (rar ρ lt (fun i => if i = rZ ρ lt then v else rV ρ lt i)) lt) ∧ ad1 200 = ad 200 ∧ (∀ j, j < 220 → ad1 j = ad j) ∧ (∀ j, 230 ≤ j → j < 400 → ad1 j = ad j) ∧ yTg kR G G1) (fun _ _ => False) := by
  have hz := h.2.2.1
  have hz6 := hz.2.2.1
  have hz1 := hz.1
  have hcases : lt = 213 ∨ lt = 214 ∨ (380 ≤ lt ∧ lt < 400) := by
    rcases hc with ⟨rfl, _⟩ | ⟨k, rfl, h2, _⟩
    · exact Or.inl rfl
    · exact Or.inr (Or.inr (by omega))
  have hf : ∀ i, i < rZ ρ lt → (fun i => if i = rZ ρ lt then v else rV ρ lt i) i = rV ρ lt i := fun i hi => if_neg (by omega)
  have h2 := h.1.preI hz (ic := ic) hcases hf
  have hb2 : rb (rar ρ lt (fun i => if i = rZ ρ lt then v else rV ρ lt i)) := h.2.sA (fun e => by omega) (fun e => by omega) (fun e e2 => by omega) (fun _ => hf) (by rcases hc with ⟨rfl, _⟩ | ⟨k, rfl, h2, _⟩ <;> omega) (by omega)
  have hls : rLs aC ic de ad G (rar ρ lt (fun i => if i = rZ ρ lt then v else rV ρ lt i)) lt := by
    rcases hc with ⟨rfl, _⟩ | ⟨k, rfl, hk, _⟩
    · exact h2.ls 213 (by decide)
    · exact h2.gl (k := k) hk
  have hvs : rV (rar ρ lt (fun i => if i = rZ ρ lt then v else rV ρ lt i)) lt = (fun i => if i = rZ ρ lt then v else rV ρ lt i) := if_pos rfl
  have hsm := hv.sm h.2
  refine yM.mono (m_Radd hS hI h2 rfl hls (by omega) (yObI (hI.1 v hsm.1 hsm.2)) (by show rZ ρ lt ≤ 9; rcases hc with ⟨_, q⟩ | ⟨_, _, _, q⟩ <;> omega)) (fun r G1 q => ?_) (fun _ _ q => q)
  obtain ⟨hr, ea1, q1, q2⟩ := q
  have hlt2 : (210 ≤ lt ∧ lt < 217) ∨ (380 ≤ lt ∧ lt < 380 + rZ ρ 212) := by
    rcases hc with ⟨rfl, _⟩ | ⟨k, rfl, h2, _⟩
    · exact Or.inl (by decide)
    · exact Or.inr (by omega)
  have hT : (lt < 300 ∧ rT lt = lt + 10) ∨ (300 ≤ lt ∧ rT lt = lt + 20) := by
    by_cases q : lt < 300
    · exact Or.inl ⟨q, rT_lt q⟩
    · exact Or.inr ⟨by omega, rT_ge (by omega)⟩
  refine ⟨hr, adx ad (rT lt) ea1, ⟨atH.addL h2 hb2.2.1 hlt2 rfl q1 q2 (fun i hi => ?_) (fun e => by omega) (fun e => by omega) (fun e => by omega) (fun e => by omega) (fun e => by omega), ?_⟩, adx_n (by omega), fun j hj => adx_n (by omega), fun j hj hj2 => adx_n (by omega), q2.narrow (fun t ht => by omega)⟩
  · have e9 : ∀ i, rEl ic ad (rar ρ lt (fun i => if i = rZ ρ lt then v else rV ρ lt i)) lt i = ic (if i = rZ ρ lt then v else rV ρ lt i) := fun i => by
      unfold rEl
      rw [if_neg (by omega), if_neg (by omega), if_neg (by omega), if_neg (by omega), if_neg (by omega), hvs]
    rw [e9]
    show (if i = rZ ρ lt then ic v else ic (if i = rZ ρ lt then v else rV ρ lt i)) = _
    by_cases c : i = rZ ρ lt
    · rw [if_pos c, if_pos c]
    · rw [if_neg c]
  · rcases hc with ⟨rfl, h9⟩ | ⟨k, rfl, hk, h9⟩
    · refine hb2.addPo rfl h9 ?_
      show rcell ρ (rV (rar ρ 213 _) 213 (rZ ρ 213))
      rw [hvs]
      show rcell ρ (if rZ ρ 213 = rZ ρ 213 then v else _)
      rw [if_pos rfl]
      exact hv
    · refine hb2.addGc hk rfl h9 ?_
      show rcell ρ (rV (rar ρ (380 + k) _) (380 + k) (rZ ρ (380 + k)))
      rw [hvs]
      show rcell ρ (if rZ ρ (380 + k) = rZ ρ (380 + k) then v else _)
      rw [if_pos rfl]
      exact hv
end YSV

