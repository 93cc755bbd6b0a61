/-! ===== the reference's state changed: lists, rows, objects ===== -/
/-- tags that no call of the reference touches -/
abbrev kR : Nat → Prop := fun t => t < 200 ∨ 600 ≤ t
theorem kR_A : ∀ t, kR t → kA t := fun t h => by
  rcases h with h | h
  · exact Or.inl (by omega)
  · exact Or.inr h
/-- a list's sizes written -/
abbrev rls (ρ : RS) (lt : Nat) (own : Bool) (mc : Int32) (s : Nat) : RS := (ρ.1, fun j => if j = lt then s else rZ ρ j, fun j => if j = lt then own else rB ρ j, fun j => if j = lt then mc else rM ρ j, ρ.2.2.2.2)
/-- the kinds' row written -/
abbrev rkn (ρ : RS) (n : Nat) (f : Nat → Int32) : RS := (ρ.1, fun j => if j = 201 then n else rZ ρ j, ρ.2.2.1, ρ.2.2.2.1, fun j => if j = 201 then f else rV ρ j, ρ.2.2.2.2.2)
def adx (ad : Nat → Nat) (t a : Nat) : Nat → Nat := fun j => if j = t then a else ad j
theorem adx_s {ad : Nat → Nat} {t a : Nat} : adx ad t a t = a := if_pos rfl
theorem adx_n {ad : Nat → Nat} {t a j : Nat} (h : j ≠ t) : adx ad t a j = ad j := if_neg h
theorem yEq {G : AH} {a b : Nat} {x : Nat × va_E} (h : a = b) (hG : G a = some x) : G b = some x := h ▸ hG
theorem yM.eq {l : Launch} {S0 : State} {D : va_G} {y : MethodName} {cc : ByteArray} {nL : Nat} {ret : Option FieldType} {d mc ms : Nat} {As : List Value} {G : AH} {Q : Option Value → AH → Prop} {X : String → AH → Prop} {a b : Nat} (h : a = b) (hM : yM l S0 D y cc nL ret d mc ms (.ref a :: As) G Q X) : yM l S0 D y cc nL ret d mc ms (.ref b :: As) G Q X := h ▸ hM
theorem yLst.el {aC : Nat → ClassId} {de : Nat} {G : AH} {tl ta a ea s : Nat} {own : Bool} {mc : Int32} {el el1 : Nat → Nat} (h : yLst aC de G tl ta a ea own mc s el) (he : ∀ i, i < s → el i = el1 i) : yLst aC de G tl ta a ea own mc s el1 := by
  have e : yel el1 s = yel el s := by
    funext i
    unfold yel
    by_cases q : i < s
    · rw [if_pos q, if_pos q, he i q]
    · rw [if_neg q, if_neg q]
  refine ⟨h.1, ?_⟩
  rw [e]
  exact h.2
section YSU
variable {aC : Nat → ClassId} {ic : Int32 → Nat} {de : Nat} {ad : Nat → Nat} {G G1 : AH} {ρ : RS} {b : Nat} {e1 : va_E}
theorem atH.m (h : atH aC ic de ad G ρ) : G (ad 200) = some (200, rMod ad ρ) := h.1
theorem atH.ki (h : atH aC ic de ad G ρ) : G (ad 201) = some (201, .inl (aC 0, rZ ρ 201, .inl (rV ρ 201))) := h.2.1
theorem atH.wo (h : atH aC ic de ad G ρ) : G (ad 202) = some (202, .inl (aC 0, 4, .inl (rV ρ 202))) := h.2.2.1
theorem atH.ke (h : atH aC ic de ad G ρ) : G (ad 203) = some (203, .inl (aC 0, 6, .inl (rV ρ 203))) := h.2.2.2.1
theorem atH.ls (h : atH aC ic de ad G ρ) (lt : Nat) (q : 210 ≤ lt ∧ lt < 217) : rLs aC ic de ad G ρ lt := h.2.2.2.2.1 lt q.1 q.2
theorem atH.la (h : atH aC ic de ad G ρ) {k : Nat} (q : k < rZ ρ 210) : G (ad (300 + k)) = some (300 + k, .inl (aC 0, 3, .inl (rV ρ (300 + k)))) := h.2.2.2.2.2.1 k q
theorem atH.fo (h : atH aC ic de ad G ρ) {k : Nat} (q : k < rZ ρ 211) : G (ad (320 + k)) = some (320 + k, .inl (aC 0, 2, .inl (rV ρ (320 + k)))) := h.2.2.2.2.2.2.1 k q
theorem atH.wi (h : atH aC ic de ad G ρ) {k : Nat} (q : k < rZ ρ 216) : G (ad (340 + k)) = some (340 + k, .inl (aC 0, 2, .inl (rV ρ (340 + k)))) := h.2.2.2.2.2.2.2.1 k q
theorem atH.gu (h : atH aC ic de ad G ρ) {k : Nat} (q : k < rZ ρ 212) : G (ad (360 + k)) = some (360 + k, rGd ad ρ k) := (h.2.2.2.2.2.2.2.2.1 k q).1
theorem atH.gl (h : atH aC ic de ad G ρ) {k : Nat} (q : k < rZ ρ 212) : rLs aC ic de ad G ρ (380 + k) := (h.2.2.2.2.2.2.2.2.1 k q).2
theorem atH.in (h : atH aC ic de ad G ρ) {k : Nat} (q : k < rZ ρ 215) : G (ad (420 + k)) = some (420 + k, rIn ad ρ k) := (h.2.2.2.2.2.2.2.2.2 k q).1
theorem atH.wa (h : atH aC ic de ad G ρ) {k : Nat} (q : k < rZ ρ 215) : G (ad (440 + k)) = some (440 + k, .inl (aC 0, 240, .inl (rV ρ (440 + k)))) := (h.2.2.2.2.2.2.2.2.2 k q).2
/-- a tag that nothing of the state has -/
def rFr (ρ : RS) (x : Nat) : Prop := 300 ≤ x ∧ x < 460 ∧ (x < 320 → 300 + rZ ρ 210 ≤ x) ∧ (320 ≤ x → x < 340 → 320 + rZ ρ 211 ≤ x) ∧ (340 ≤ x → x < 360 → 340 + rZ ρ 216 ≤ x) ∧ (360 ≤ x → x < 380 → 360 + rZ ρ 212 ≤ x) ∧ (380 ≤ x → x < 400 → 380 + rZ ρ 212 ≤ x) ∧ (400 ≤ x → x < 420 → 400 + rZ ρ 212 ≤ x) ∧ (420 ≤ x → x < 440 → 420 + rZ ρ 215 ≤ x) ∧ (440 ≤ x → 440 + rZ ρ 215 ≤ x)
theorem rMod_cg {ad1 : Nat → Nat} {ρ1 : RS} (hI : rI ρ1 = rI ρ) (h : ∀ t, (201 ≤ t ∧ t < 217) → ad1 t = ad t) : rMod ad1 ρ1 = rMod ad ρ := by
  simp only [rMod, hI, h 201 (by decide), h 202 (by decide), h 203 (by decide), h 210 (by decide), h 211 (by decide), h 212 (by decide), h 213 (by decide), h 214 (by decide), h 215 (by decide), h 216 (by decide)]
theorem rEl_cg {ad1 : Nat → Nat} {ρ1 : RS} {lt i : Nat} (h0 : lt = 210 → ad1 (300 + i) = ad (300 + i)) (h1 : lt = 211 → ad1 (320 + i) = ad (320 + i)) (h2 : lt = 212 → ad1 (360 + i) = ad (360 + i)) (h5 : lt = 215 → ad1 (420 + i) = ad (420 + i)) (h6 : lt = 216 → ad1 (340 + i) = ad (340 + i)) (h9 : (lt = 213 ∨ lt = 214 ∨ 217 ≤ lt ∨ lt < 210) → rV ρ1 lt i = rV ρ lt i) : rEl ic ad1 ρ1 lt i = rEl ic ad ρ lt i := by
  unfold rEl
  by_cases c0 : lt = 210
  · rw [if_pos c0, if_pos c0, h0 c0]
  rw [if_neg c0, if_neg c0]
  by_cases c1 : lt = 211
  · rw [if_pos c1, if_pos c1, h1 c1]
  rw [if_neg c1, if_neg c1]
  by_cases c2 : lt = 212
  · rw [if_pos c2, if_pos c2, h2 c2]
  rw [if_neg c2, if_neg c2]
  by_cases c5 : lt = 215
  · rw [if_pos c5, if_pos c5, h5 c5]
  rw [if_neg c5, if_neg c5]
  by_cases c6 : lt = 216
  · rw [if_pos c6, if_pos c6, h6 c6]
  rw [if_neg c6, if_neg c6, h9 (by omega)]
theorem rsz.le (h : rsz ρ) (lt : Nat) (q : 210 ≤ lt ∧ lt < 217) : rZ ρ lt ≤ 8 := by
  obtain ⟨b1, b2, b3, b4, b5, b6, b7⟩ := h
  have h9 : lt = 210 ∨ lt = 211 ∨ lt = 212 ∨ lt = 213 ∨ lt = 214 ∨ lt = 215 ∨ lt = 216 := by omega
  rcases h9 with rfl | rfl | rfl | rfl | rfl | rfl | rfl <;> omega
/-- a free tag may stand for any place -/
theorem atH.re (h : atH aC ic de ad G ρ) (hz : rsz ρ) {x a : Nat} (hx : rFr ρ x) : atH aC ic de (adx ad x a) G ρ := by
  have hz8 := hz.le
  obtain ⟨h1, h2, h3, h4, h5, h6, h7, h8, h9, h10⟩ := h
  obtain ⟨b1, b2, b3, b4, b5, b6, b7⟩ := hz
  obtain ⟨x1, x2, y0, y1, y6, y2, y3, y4, y5, y7⟩ := hx
  have e0 : ∀ t, t ≠ x → adx ad x a t = ad t := fun t ht => adx_n ht
  have hm : rMod (adx ad x a) ρ = rMod ad ρ := rMod_cg rfl (fun t ht => e0 t (by omega))
  have hE : ∀ lt i, i < rZ ρ lt → rEl ic ad ρ lt i = rEl ic (adx ad x a) ρ lt i := fun lt i hi => (rEl_cg (fun q => by subst q; exact e0 _ (by omega)) (fun q => by subst q; exact e0 _ (by omega)) (fun q => by subst q; exact e0 _ (by omega)) (fun q => by subst q; exact e0 _ (by omega)) (fun q => by subst q; exact e0 _ (by omega)) (fun _ => rfl)).symm
  refine ⟨by rw [hm, e0 200 (by omega)]; exact h1, by rw [e0 201 (by omega)]; exact h2, by rw [e0 202 (by omega)]; exact h3, by rw [e0 203 (by omega)]; exact h4, fun lt q1 q2 => ?_, fun k q => by rw [e0 (300 + k) (by omega)]; exact h6 k q, fun k q => by rw [e0 (320 + k) (by omega)]; exact h7 k q, fun k q => by rw [e0 (340 + k) (by omega)]; exact h8 k q, fun k q => ⟨?_, ?_⟩, fun k q => ⟨?_, by rw [e0 (440 + k) (by omega)]; exact (h10 k q).2⟩⟩
  · have h5' := (h5 lt q1 q2).el (hE lt)
    show yLst aC de G lt (rT lt) (adx ad x a lt) (adx ad x a (rT lt)) (rB ρ lt) (rM ρ lt) (rZ ρ lt) (rEl ic (adx ad x a) ρ lt)
    rw [e0 lt (by omega), e0 (rT lt) (by rw [rT_lt (by omega)]; omega)]
    exact h5'
  · rw [e0 (360 + k) (by omega), (h9 k q).1, rGd, rGd, e0 (380 + k) (by omega)]
  · have h9' := (h9 k q).2.el (hE (380 + k))
    show yLst aC de G (380 + k) (rT (380 + k)) (adx ad x a (380 + k)) (adx ad x a (rT (380 + k))) (rB ρ (380 + k)) (rM ρ (380 + k)) (rZ ρ (380 + k)) (rEl ic (adx ad x a) ρ (380 + k))
    rw [e0 (380 + k) (by omega), e0 (rT (380 + k)) (by rw [rT_ge (by omega)]; omega)]
    exact h9'
  · rw [e0 (420 + k) (by omega), (h10 k q).1, rIn, rIn, e0 (440 + k) (by omega)]
/-- a list of Integers: what stands behind its last -/
theorem atH.preI (h : atH aC ic de ad G ρ) (hz : rsz ρ) {lt : Nat} {f : Nat → Int32} (hlt : lt = 213 ∨ lt = 214 ∨ (380 ≤ lt ∧ lt < 400)) (hf : ∀ i, i < rZ ρ lt → f i = rV ρ lt i) : atH aC ic de ad G (rar ρ lt f) := by
  obtain ⟨h1, h2, h3, h4, h5, h6, h7, h8, h9, h10⟩ := h
  obtain ⟨b1, b2, b3, b4, b5, b6, b7⟩ := hz
  have e0 : ∀ t, t ≠ lt → rV (rar ρ lt f) t = rV ρ t := fun t ht => if_neg ht
  have hE : ∀ lt2 i, i < rZ ρ lt2 → rEl ic ad ρ lt2 i = rEl ic ad (rar ρ lt f) lt2 i := fun lt2 i hi => (rEl_cg (fun _ => rfl) (fun _ => rfl) (fun _ => rfl) (fun _ => rfl) (fun _ => rfl) (fun _ => by
    by_cases e : lt2 = lt
    · subst e
      show (if lt2 = lt2 then f else rV ρ lt2) i = rV ρ lt2 i
      rw [if_pos rfl, hf i hi]
    · rw [e0 lt2 e])).symm
  refine ⟨h1, by rw [e0 201 (by omega)]; exact h2, by rw [e0 202 (by omega)]; exact h3, by rw [e0 203 (by omega)]; exact h4, fun lt2 q1 q2 => (h5 lt2 q1 q2).el (hE lt2), fun k q => by rw [e0 (300 + k) (by have : k < rZ ρ 210 := q; omega)]; exact h6 k q, fun k q => by rw [e0 (320 + k) (by have : k < rZ ρ 211 := q; omega)]; exact h7 k q, fun k q => by rw [e0 (340 + k) (by have : k < rZ ρ 216 := q; omega)]; exact h8 k q, fun k q => ⟨(h9 k q).1, (h9 k q).2.el (hE (380 + k))⟩, fun k q => ⟨(h10 k q).1, by rw [e0 (440 + k) (by omega)]; exact (h10 k q).2⟩⟩
/-- one more in a list -/
theorem atH.addL (h : atH aC ic de ad G ρ) (hz : rsz ρ) {lt s ea1 : Nat} {mc1 : Int32} {el1 : Nat → Nat} (hlt : (210 ≤ lt ∧ lt < 217) ∨ (380 ≤ lt ∧ lt < 380 + rZ ρ 212)) (hs : rZ ρ lt = s)
    (hy : yLst aC de G1 lt (rT lt) (ad lt) ea1 true mc1 (s + 1) el1) (hk : yTg (fun t => t ≠ lt ∧ t ≠ rT lt) G G1) (hel : ∀ i, i < s + 1 → el1 i = rEl ic ad ρ lt i)
    (n0 : lt = 210 → G1 (ad (300 + s)) = some (300 + s, .inl (aC 0, 3, .inl (rV ρ (300 + s))))) (n1 : lt = 211 → G1 (ad (320 + s)) = some (320 + s, .inl (aC 0, 2, .inl (rV ρ (320 + s))))) (n6 : lt = 216 → G1 (ad (340 + s)) = some (340 + s, .inl (aC 0, 2, .inl (rV ρ (340 + s)))))
    (n2 : lt = 212 → G1 (ad (360 + s)) = some (360 + s, rGd ad ρ s) ∧ rLs aC ic de ad G1 ρ (380 + s)) (n5 : lt = 215 → G1 (ad (420 + s)) = some (420 + s, rIn ad ρ s) ∧ G1 (ad (440 + s)) = some (440 + s, .inl (aC 0, 240, .inl (rV ρ (440 + s))))) :
    atH aC ic de (adx ad (rT lt) ea1) G1 (rls ρ lt true mc1 (s + 1)) := by
  have hz8 := hz.le
  obtain ⟨h1, h2, h3, h4, h5, h6, h7, h8, h9, h10⟩ := h
  obtain ⟨b1, b2, b3, b4, b5, b6, b7⟩ := hz
  have hT : (lt < 300 ∧ rT lt = lt + 10) ∨ (300 ≤ lt ∧ rT lt = lt + 20) := by
    by_cases q : lt < 300
    · exact Or.inl ⟨q, rT_lt q⟩
    · exact Or.inr ⟨by omega, rT_ge (by omega)⟩
  generalize rT lt = x at hT hy hk ⊢
  have e0 : ∀ t, t ≠ x → adx ad x ea1 t = ad t := fun t ht => adx_n ht
  have hm : rMod (adx ad x ea1) (rls ρ lt true mc1 (s + 1)) = rMod ad ρ := rMod_cg rfl (fun t ht => e0 t (by omega))
  have z : ∀ j, j ≠ lt → rZ (rls ρ lt true mc1 (s + 1)) j = rZ ρ j := fun j hj => if_neg hj
  have zs : rZ (rls ρ lt true mc1 (s + 1)) lt = s + 1 := if_pos rfl
  have hE : ∀ lt2 i, (210 ≤ lt2 → lt2 < 217 → i < 10) → rEl ic ad ρ lt2 i = rEl ic (adx ad x ea1) (rls ρ lt true mc1 (s + 1)) lt2 i := fun lt2 i hi => (rEl_cg (fun q => by subst q; exact e0 _ (by have := hi (by decide) (by decide); omega)) (fun q => by subst q; exact e0 _ (by have := hi (by decide) (by decide); omega)) (fun q => by subst q; exact e0 _ (by have := hi (by decide) (by decide); omega)) (fun q => by subst q; exact e0 _ (by have := hi (by decide) (by decide); omega)) (fun q => by subst q; exact e0 _ (by have := hi (by decide) (by decide); omega)) (fun _ => rfl)).symm
  have hL : ∀ lt2, ((210 ≤ lt2 ∧ lt2 < 217) ∨ (380 ≤ lt2 ∧ lt2 < 380 + rZ ρ 212)) → rLs aC ic de ad G ρ lt2 → rLs aC ic de (adx ad x ea1) G1 (rls ρ lt true mc1 (s + 1)) lt2 := by
    intro lt2 q hl
    have hT2 : (lt2 < 300 ∧ rT lt2 = lt2 + 10) ∨ (300 ≤ lt2 ∧ rT lt2 = lt2 + 20) := by
      by_cases q : lt2 < 300
      · exact Or.inl ⟨q, rT_lt q⟩
      · exact Or.inr ⟨by omega, rT_ge (by omega)⟩
    by_cases e : lt2 = lt
    · subst e
      have hy2 := hy.el (fun i hi => (hel i hi).trans (hE lt2 i (fun a1 a2 => by have := hz8 lt2 ⟨a1, a2⟩; omega)))
      show yLst aC de G1 lt2 (rT lt2) (adx ad x ea1 lt2) (adx ad x ea1 (rT lt2)) (if lt2 = lt2 then true else rB ρ lt2) (if lt2 = lt2 then mc1 else rM ρ lt2) (if lt2 = lt2 then s + 1 else rZ ρ lt2) (rEl ic (adx ad x ea1) (rls ρ lt2 true mc1 (s + 1)) lt2)
      have ex : rT lt2 = x := by omega
      rw [if_pos rfl, if_pos rfl, if_pos rfl, ex, adx_s, e0 lt2 (by omega)]
      exact hy2
    · have hl2 := (yLst.kp hl (hk.narrow (fun t ht => by omega))).el (fun i hi => hE lt2 i (fun a1 a2 => by have := hz8 lt2 ⟨a1, a2⟩; omega))
      show yLst aC de G1 lt2 (rT lt2) (adx ad x ea1 lt2) (adx ad x ea1 (rT lt2)) (if lt2 = lt then true else rB ρ lt2) (if lt2 = lt then mc1 else rM ρ lt2) (if lt2 = lt then s + 1 else rZ ρ lt2) (rEl ic (adx ad x ea1) (rls ρ lt true mc1 (s + 1)) lt2)
      rw [if_neg e, if_neg e, if_neg e, e0 lt2 (by omega), e0 (rT lt2) (by omega)]
      exact hl2
  have hsl : (210 ≤ lt ∧ lt < 217) → s ≤ 8 := fun q => hs ▸ hz8 lt q
  refine ⟨by rw [hm, e0 200 (by omega)]; exact hk _ _ _ h1 (by omega), by rw [e0 201 (by omega), z 201 (by omega)]; exact hk _ _ _ h2 (by omega), by rw [e0 202 (by omega)]; exact hk _ _ _ h3 (by omega), by rw [e0 203 (by omega)]; exact hk _ _ _ h4 (by omega), fun lt2 q1 q2 => hL lt2 (Or.inl ⟨q1, q2⟩) (h5 lt2 q1 q2), fun k q => ?_, fun k q => ?_, fun k q => ?_, fun k q => ?_, fun k q => ?_⟩
  · by_cases e : lt = 210
    · subst e
      rw [zs] at q
      have := hsl (by decide)
      rw [e0 _ (by omega)]
      by_cases c : k = s
      · subst c; exact n0 rfl
      · exact hk _ _ _ (h6 k (by omega)) (by omega)
    · rw [z _ (fun q9 => e q9.symm)] at q
      rw [e0 _ (by omega)]
      exact hk _ _ _ (h6 k q) (by omega)
  · by_cases e : lt = 211
    · subst e
      rw [zs] at q
      have := hsl (by decide)
      rw [e0 _ (by omega)]
      by_cases c : k = s
      · subst c; exact n1 rfl
      · exact hk _ _ _ (h7 k (by omega)) (by omega)
    · rw [z _ (fun q9 => e q9.symm)] at q
      rw [e0 _ (by omega)]
      exact hk _ _ _ (h7 k q) (by omega)
  · by_cases e : lt = 216
    · subst e
      rw [zs] at q
      have := hsl (by decide)
      rw [e0 _ (by omega)]
      by_cases c : k = s
      · subst c; exact n6 rfl
      · exact hk _ _ _ (h8 k (by omega)) (by omega)
    · rw [z _ (fun q9 => e q9.symm)] at q
      rw [e0 _ (by omega)]
      exact hk _ _ _ (h8 k q) (by omega)
  · by_cases e : lt = 212
    · subst e
      rw [zs] at q
      have := hsl (by decide)
      by_cases c : k = s
      · subst c
        obtain ⟨n3, n4⟩ := n2 rfl
        refine ⟨by rw [e0 (360 + k) (by omega), n3, rGd, rGd, e0 (380 + k) (by omega)], ?_⟩
        have n5' := n4.el (fun i _ => hE (380 + k) i (fun a1 a2 => by omega))
        show yLst aC de G1 (380 + k) (rT (380 + k)) (adx ad x ea1 (380 + k)) (adx ad x ea1 (rT (380 + k))) (if 380 + k = 212 then true else rB ρ (380 + k)) (if 380 + k = 212 then mc1 else rM ρ (380 + k)) (if 380 + k = 212 then k + 1 else rZ ρ (380 + k)) _
        rw [if_neg (by omega), if_neg (by omega), if_neg (by omega), e0 (380 + k) (by omega), e0 (rT (380 + k)) (by rw [rT_ge (by omega)]; omega)]
        exact n5'
      · have hk9 : k < rZ ρ 212 := by omega
        refine ⟨by rw [e0 (360 + k) (by omega), hk _ _ _ (h9 k hk9).1 (by omega), rGd, rGd, e0 (380 + k) (by omega)], hL _ (Or.inr ⟨by omega, by omega⟩) (h9 k hk9).2⟩
    · rw [z _ (fun q9 => e q9.symm)] at q
      refine ⟨by rw [e0 (360 + k) (by omega), hk _ _ _ (h9 k q).1 (by omega), rGd, rGd, e0 (380 + k) (by omega)], hL _ (Or.inr ⟨by omega, by omega⟩) (h9 k q).2⟩
  · by_cases e : lt = 215
    · subst e
      rw [zs] at q
      have := hsl (by decide)
      by_cases c : k = s
      · subst c
        obtain ⟨n3, n4⟩ := n5 rfl
        exact ⟨by rw [e0 (420 + k) (by omega), n3, rIn, rIn, e0 (440 + k) (by omega)], by rw [e0 (440 + k) (by omega)]; exact n4⟩
      · have hk9 : k < rZ ρ 215 := by omega
        exact ⟨by rw [e0 (420 + k) (by omega), hk _ _ _ (h10 k hk9).1 (by omega), rIn, rIn, e0 (440 + k) (by omega)], by rw [e0 (440 + k) (by omega)]; exact hk _ _ _ (h10 k hk9).2 (by omega)⟩
    · rw [z _ (fun q9 => e q9.symm)] at q
      exact ⟨by rw [e0 (420 + k) (by omega), hk _ _ _ (h10 k q).1 (by omega), rIn, rIn, e0 (440 + k) (by omega)], by rw [e0 (440 + k) (by omega)]; exact hk _ _ _ (h10 k q).2 (by omega)⟩
/-- the last lamp taken off -/
theorem atH.remL (h : atH aC ic de ad G ρ) (hz : rsz ρ) {s : Nat} {mc1 : Int32} (hs : rZ ρ 210 = s + 1) (hy : yLst aC de G1 210 220 (ad 210) (ad 220) true mc1 s (rEl ic ad ρ 210)) (hk : yTg (fun t => t ≠ 210 ∧ t ≠ 220) G G1) : atH aC ic de ad G1 (rls ρ 210 true mc1 s) := by
  obtain ⟨h1, h2, h3, h4, h5, h6, h7, h8, h9, h10⟩ := h
  obtain ⟨b1, b2, b3, b4, b5, b6, b7⟩ := hz
  refine ⟨hk _ _ _ h1 (by decide), hk _ _ _ h2 (by decide), hk _ _ _ h3 (by decide), hk _ _ _ h4 (by decide), fun lt q1 q2 => ?_, fun k q => hk _ _ _ (h6 k (by have : k < s := q; omega)) (by have : k < s := q; omega), fun k q => hk _ _ _ (h7 k q) (by omega), fun k q => hk _ _ _ (h8 k q) (by omega), fun k q => ⟨hk _ _ _ (h9 k q).1 (by omega), ?_⟩, fun k q => ⟨hk _ _ _ (h10 k q).1 (by omega), hk _ _ _ (h10 k q).2 (by omega)⟩⟩
  · by_cases e : lt = 210
    · subst e
      exact hy
    · have hl2 := yLst.kp (h5 lt q1 q2) (hk.narrow (fun t ht => by rw [rT_lt (by omega)] at ht; omega))
      show yLst aC de G1 lt (rT lt) (ad lt) (ad (rT lt)) (if lt = 210 then true else rB ρ lt) (if lt = 210 then mc1 else rM ρ lt) (if lt = 210 then s else rZ ρ lt) _
      rw [if_neg e, if_neg e, if_neg e]
      exact hl2
  · have hl2 := yLst.kp (h9 k q).2 (hk.narrow (fun t ht => by rw [rT_ge (by omega)] at ht; omega))
    show yLst aC de G1 (380 + k) (rT (380 + k)) (ad (380 + k)) (ad (rT (380 + k))) (if 380 + k = 210 then true else rB ρ (380 + k)) (if 380 + k = 210 then mc1 else rM ρ (380 + k)) (if 380 + k = 210 then s else rZ ρ (380 + k)) _
    rw [if_neg (by omega), if_neg (by omega), if_neg (by omega)]
    exact hl2
/-- a row written -/
theorem atH.setA (h : atH aC ic de ad G ρ) (hz : rsz ρ) {t n : Nat} {f0 f : Nat → Int32} (ht : t = 201 ∨ t = 202 ∨ t = 203 ∨ (300 ≤ t ∧ t < 300 + rZ ρ 210)) (hg : G (ad t) = some (t, .inl (aC 0, n, .inl f0))) : atH aC ic de ad (yup G (ad t) (t, .inl (aC 0, n, .inl f))) (rar ρ t f) := by
  have hk : yTg (fun q => q ≠ t) G (yup G (ad t) (t, .inl (aC 0, n, .inl f))) := yTg.up hg (fun q => q rfl)
  obtain ⟨h1, h2, h3, h4, h5, h6, h7, h8, h9, h10⟩ := h
  obtain ⟨b1, b2, b3, b4, b5, b6, b7⟩ := hz
  have hr : ∀ (u m : Nat), G (ad u) = some (u, .inl (aC 0, m, .inl (rV ρ u))) → yup G (ad t) (t, .inl (aC 0, n, .inl f)) (ad u) = some (u, .inl (aC 0, m, .inl (rV (rar ρ t f) u))) := by
    intro u m hu
    by_cases e : u = t
    · subst e
      have e2 := hg.symm.trans hu
      have e3 : n = m := by
        injection e2 with e2
        injection e2 with _ e2
        injection e2 with e2
        injection e2 with _ e2
        injection e2
      rw [yup_s, e3]
      show _ = some (u, Sum.inl (aC 0, m, Sum.inl (if u = u then f else rV ρ u)))
      rw [if_pos rfl]
    · show _ = some (u, Sum.inl (aC 0, m, Sum.inl (if u = t then f else rV ρ u)))
      rw [if_neg e]
      exact hk _ _ _ hu e
  have hE : ∀ lt i, (210 ≤ lt ∧ lt < 300) ∨ 380 ≤ lt → rEl ic ad ρ lt i = rEl ic ad (rar ρ t f) lt i := fun lt i q => (rEl_cg (fun _ => rfl) (fun _ => rfl) (fun _ => rfl) (fun _ => rfl) (fun _ => rfl) (fun _ => by
    show (if lt = t then f else rV ρ lt) i = rV ρ lt i
    rw [if_neg (by omega)])).symm
  refine ⟨hk _ _ _ h1 (by omega), hr _ _ h2, hr _ _ h3, hr _ _ h4, fun lt q1 q2 => ?_, fun k q => hr _ _ (h6 k q), fun k q => hr _ _ (h7 k q), fun k q => hr _ _ (h8 k q), fun k q => ⟨hk _ _ _ (h9 k q).1 (by have : k < rZ ρ 212 := q; omega), ?_⟩, fun k q => ⟨hk _ _ _ (h10 k q).1 (by omega), hr _ _ (h10 k q).2⟩⟩
  · exact (yLst.kp (h5 lt q1 q2) (hk.narrow (fun t9 ht9 => by rw [rT_lt (by omega)] at ht9; omega))).el (fun i _ => hE lt i (Or.inl ⟨q1, by omega⟩))
  · exact (yLst.kp (h9 k q).2 (hk.narrow (fun t9 ht9 => by have : k < rZ ρ 212 := q; rw [rT_ge (by omega)] at ht9; omega))).el (fun i _ => hE (380 + k) i (Or.inr (by omega)))
/-- a guard's number written -/
theorem atH.setG (h : atH aC ic de ad G ρ) (hz : rsz ρ) {k i : Nat} {v : Int32} (hk9 : k < rZ ρ 212) (he : e1 = rGd ad (rfd ρ (360 + k) i v) k) : atH aC ic de ad (yup G (ad (360 + k)) (360 + k, e1)) (rfd ρ (360 + k) i v) := by
  subst he
  have hk : yTg (fun q => q ≠ 360 + k) G (yup G (ad (360 + k)) (360 + k, rGd ad (rfd ρ (360 + k) i v) k)) := yTg.up (h.gu hk9) (fun q => q rfl)
  obtain ⟨h1, h2, h3, h4, h5, h6, h7, h8, h9, h10⟩ := h
  obtain ⟨b1, b2, b3, b4, b5, b6, b7⟩ := hz
  have z : ∀ j n, j ≠ 360 + k → rF (rfd ρ (360 + k) i v) j n = rF ρ j n := fun j n hj => if_neg (fun q => hj q.1)
  refine ⟨hk _ _ _ h1 (by omega), hk _ _ _ h2 (by omega), hk _ _ _ h3 (by omega), hk _ _ _ h4 (by omega), fun lt q1 q2 => ?_, fun j q => hk _ _ _ (h6 j q) (by have : j < rZ ρ 210 := q; omega), fun j q => hk _ _ _ (h7 j q) (by have : j < rZ ρ 211 := q; omega), fun j q => hk _ _ _ (h8 j q) (by have : j < rZ ρ 216 := q; omega), fun j q => ⟨?_, ?_⟩, fun j q => ⟨?_, hk _ _ _ (h10 j q).2 (by omega)⟩⟩
  · exact yLst.kp (h5 lt q1 q2) (hk.narrow (fun t9 ht9 => by rw [rT_lt (by omega)] at ht9; omega))
  · by_cases e : j = k
    · subst e
      exact yup_s _ _ _
    · rw [hk _ _ _ (h9 j q).1 (by omega)]
      simp only [rGd, z (360 + j) _ (by omega)]
  · exact yLst.kp (h9 j q).2 (hk.narrow (fun t9 ht9 => by rw [rT_ge (by omega)] at ht9; omega))
  · rw [hk _ _ _ (h10 j q).1 (by omega)]
    simp only [rIn, z (420 + j) _ (by omega)]
/-- an intruder's number written -/
theorem atH.setN (h : atH aC ic de ad G ρ) (hz : rsz ρ) {k i : Nat} {v : Int32} (hk9 : k < rZ ρ 215) (he : e1 = rIn ad (rfd ρ (420 + k) i v) k) : atH aC ic de ad (yup G (ad (420 + k)) (420 + k, e1)) (rfd ρ (420 + k) i v) := by
  subst he
  have hk : yTg (fun q => q ≠ 420 + k) G (yup G (ad (420 + k)) (420 + k, rIn ad (rfd ρ (420 + k) i v) k)) := yTg.up (h.in hk9) (fun q => q rfl)
  obtain ⟨h1, h2, h3, h4, h5, h6, h7, h8, h9, h10⟩ := h
  obtain ⟨b1, b2, b3, b4, b5, b6, b7⟩ := hz
  have z : ∀ j n, j ≠ 420 + k → rF (rfd ρ (420 + k) i v) j n = rF ρ j n := fun j n hj => if_neg (fun q => hj q.1)
  refine ⟨hk _ _ _ h1 (by omega), hk _ _ _ h2 (by omega), hk _ _ _ h3 (by omega), hk _ _ _ h4 (by omega), fun lt q1 q2 => ?_, fun j q => hk _ _ _ (h6 j q) (by have : j < rZ ρ 210 := q; omega), fun j q => hk _ _ _ (h7 j q) (by have : j < rZ ρ 211 := q; omega), fun j q => hk _ _ _ (h8 j q) (by have : j < rZ ρ 216 := q; omega), fun j q => ⟨?_, ?_⟩, fun j q => ⟨?_, hk _ _ _ (h10 j q).2 (by have : j < rZ ρ 215 := q; omega)⟩⟩
  · exact yLst.kp (h5 lt q1 q2) (hk.narrow (fun t9 ht9 => by rw [rT_lt (by omega)] at ht9; omega))
  · rw [hk _ _ _ (h9 j q).1 (by have : j < rZ ρ 212 := q; omega)]
    simp only [rGd, z (360 + j) _ (by have : j < rZ ρ 212 := q; omega)]
  · exact yLst.kp (h9 j q).2 (hk.narrow (fun t9 ht9 => by have : j < rZ ρ 212 := q; rw [rT_ge (by omega)] at ht9; omega))
  · by_cases e : j = k
    · subst e
      exact yup_s _ _ _
    · rw [hk _ _ _ (h10 j q).1 (by omega)]
      simp only [rIn, z (420 + j) _ (by omega)]
/-- a new list for a field -/
theorem atH.setL (h : atH aC ic de ad G ρ) (hz : rsz ρ) (hb : ad 200 = b) {lt a : Nat} (hlt : 210 ≤ lt ∧ lt < 217) (ha : G a = some (lt, .inr (3, [.int 0, .ref de, .int 0]))) (he : e1 = rMod (adx (adx ad lt a) (lt + 10) de) ρ) : atH aC ic de (adx (adx ad lt a) (lt + 10) de) (yup G b (200, e1)) (rls ρ lt false 0 0) := by
  subst he
  subst hb
  have hk : yTg (fun q => q ≠ 200) G (yup G (ad 200) (200, rMod (adx (adx ad lt a) (lt + 10) de) ρ)) := yTg.up h.1 (fun q => q rfl)
  have hz8 := hz.le
  obtain ⟨h1, h2, h3, h4, h5, h6, h7, h8, h9, h10⟩ := h
  obtain ⟨b1, b2, b3, b4, b5, b6, b7⟩ := hz
  have e0 : ∀ t, t ≠ lt → t ≠ lt + 10 → adx (adx ad lt a) (lt + 10) de t = ad t := fun t h1 h2 => (adx_n h2).trans (adx_n h1)
  have z : ∀ j, j ≠ lt → rZ (rls ρ lt false 0 0) j = rZ ρ j := fun j hj => if_neg hj
  have zs : rZ (rls ρ lt false 0 0) lt = 0 := if_pos rfl
  have hE : ∀ lt2 i, (210 ≤ lt2 → lt2 < 217 → i < 10) → rEl ic ad ρ lt2 i = rEl ic (adx (adx ad lt a) (lt + 10) de) (rls ρ lt false 0 0) lt2 i := fun lt2 i hi => (rEl_cg (fun q => by subst q; exact e0 _ (by omega) (by omega)) (fun q => by subst q; exact e0 _ (by omega) (by omega)) (fun q => by subst q; exact e0 _ (by omega) (by omega)) (fun q => by subst q; exact e0 _ (by omega) (by omega)) (fun q => by subst q; exact e0 _ (by omega) (by omega)) (fun _ => rfl)).symm
  refine ⟨by rw [e0 200 (by omega) (by omega)]; exact yup_s _ _ _, by rw [e0 201 (by omega) (by omega), z 201 (by omega)]; exact hk _ _ _ h2 (by omega), by rw [e0 202 (by omega) (by omega)]; exact hk _ _ _ h3 (by omega), by rw [e0 203 (by omega) (by omega)]; exact hk _ _ _ h4 (by omega), fun lt2 q1 q2 => ?_, fun k q => ?_, fun k q => ?_, fun k q => ?_, fun k q => ?_, fun k q => ?_⟩
  · show yLst aC de _ lt2 (rT lt2) (adx (adx ad lt a) (lt + 10) de lt2) (adx (adx ad lt a) (lt + 10) de (rT lt2)) (if lt2 = lt then false else rB ρ lt2) (if lt2 = lt then 0 else rM ρ lt2) (if lt2 = lt then 0 else rZ ρ lt2) _
    by_cases e : lt2 = lt
    · subst e
      rw [if_pos rfl, if_pos rfl, if_pos rfl, rT_lt (by omega), adx_s, adx_n (by omega), adx_s]
      exact ⟨hk _ _ _ ha (by omega), Or.inr ⟨rfl, rfl, rfl⟩⟩
    · rw [if_neg e, if_neg e, if_neg e, e0 lt2 e (by omega), e0 (rT lt2) (by rw [rT_lt (by omega)]; omega) (by rw [rT_lt (by omega)]; omega)]
      exact (yLst.kp (h5 lt2 q1 q2) (hk.narrow (fun t9 ht9 => by rw [rT_lt (by omega)] at ht9; omega))).el (fun i hi => hE lt2 i (fun a1 a2 => by have := hz8 lt2 ⟨a1, a2⟩; omega))
  · by_cases e : lt = 210
    · subst e; rw [zs] at q; omega
    · rw [z _ (fun q9 => e q9.symm)] at q
      rw [e0 _ (by omega) (by omega)]
      exact hk _ _ _ (h6 k q) (by omega)
  · by_cases e : lt = 211
    · subst e; rw [zs] at q; omega
    · rw [z _ (fun q9 => e q9.symm)] at q
      rw [e0 _ (by omega) (by omega)]
      exact hk _ _ _ (h7 k q) (by omega)
  · by_cases e : lt = 216
    · subst e; rw [zs] at q; omega
    · rw [z _ (fun q9 => e q9.symm)] at q
      rw [e0 _ (by omega) (by omega)]
      exact hk _ _ _ (h8 k q) (by omega)
  · by_cases e : lt = 212
    · subst e; rw [zs] at q; omega
    · rw [z _ (fun q9 => e q9.symm)] at q
      refine ⟨by rw [e0 (360 + k) (by omega) (by omega), hk _ _ _ (h9 k q).1 (by omega), rGd, rGd, e0 (380 + k) (by omega) (by omega)], ?_⟩
      show yLst aC de _ (380 + k) (rT (380 + k)) (adx (adx ad lt a) (lt + 10) de (380 + k)) (adx (adx ad lt a) (lt + 10) de (rT (380 + k))) (if 380 + k = lt then false else rB ρ (380 + k)) (if 380 + k = lt then 0 else rM ρ (380 + k)) (if 380 + k = lt then 0 else rZ ρ (380 + k)) _
      rw [if_neg (by omega), if_neg (by omega), if_neg (by omega), e0 (380 + k) (by omega) (by omega), e0 (rT (380 + k)) (by rw [rT_ge (by omega)]; omega) (by rw [rT_ge (by omega)]; omega)]
      exact (yLst.kp (h9 k q).2 (hk.narrow (fun t9 ht9 => by rw [rT_ge (by omega)] at ht9; omega))).el (fun i hi => hE (380 + k) i (fun a1 a2 => by omega))
  · by_cases e : lt = 215
    · subst e; rw [zs] at q; omega
    · rw [z _ (fun q9 => e q9.symm)] at q
      exact ⟨by rw [e0 (420 + k) (by omega) (by omega), hk _ _ _ (h10 k q).1 (by omega), rIn, rIn, e0 (440 + k) (by omega) (by omega)], by rw [e0 (440 + k) (by omega) (by omega)]; exact hk _ _ _ (h10 k q).2 (by omega)⟩
/-- new kinds -/
theorem atH.setK (h : atH aC ic de ad G ρ) (hz : rsz ρ) (hb : ad 200 = b) {a n : Nat} {f : Nat → Int32} (ha : G a = some (201, .inl (aC 0, n, .inl f))) (he : e1 = rMod (adx ad 201 a) ρ) : atH aC ic de (adx ad 201 a) (yup G b (200, e1)) (rkn ρ n f) := by
  subst he
  subst hb
  have hk : yTg (fun q => q ≠ 200) G (yup G (ad 200) (200, rMod (adx ad 201 a) ρ)) := yTg.up h.1 (fun q => q rfl)
  have hz8 := hz.le
  obtain ⟨h1, h2, h3, h4, h5, h6, h7, h8, h9, h10⟩ := h
  obtain ⟨b1, b2, b3, b4, b5, b6, b7⟩ := hz
  have e0 : ∀ t, t ≠ 201 → adx ad 201 a t = ad t := fun t h1 => adx_n h1
  have z : ∀ j, j ≠ 201 → rZ (rkn ρ n f) j = rZ ρ j := fun j hj => if_neg hj
  have v : ∀ j, j ≠ 201 → rV (rkn ρ n f) j = rV ρ j := fun j hj => if_neg hj
  have hE : ∀ lt2 i, 202 ≤ lt2 → rEl ic ad ρ lt2 i = rEl ic (adx ad 201 a) (rkn ρ n f) lt2 i := fun lt2 i hi => (rEl_cg (fun q => e0 _ (by omega)) (fun q => e0 _ (by omega)) (fun q => e0 _ (by omega)) (fun q => e0 _ (by omega)) (fun q => e0 _ (by omega)) (fun _ => by rw [v lt2 (by omega)])).symm
  have hL : ∀ lt2, 210 ≤ lt2 → lt2 < 400 → (lt2 < 217 ∨ 380 ≤ lt2) → rLs aC ic de ad G ρ lt2 → rLs aC ic de (adx ad 201 a) (yup G (ad 200) (200, rMod (adx ad 201 a) ρ)) (rkn ρ n f) lt2 := by
    intro lt2 q1 q2 q3 hl
    have hT2 : (lt2 < 300 ∧ rT lt2 = lt2 + 10) ∨ (300 ≤ lt2 ∧ rT lt2 = lt2 + 20) := by
      by_cases q : lt2 < 300
      · exact Or.inl ⟨q, rT_lt q⟩
      · exact Or.inr ⟨by omega, rT_ge (by omega)⟩
    have hl2 := (yLst.kp hl (hk.narrow (fun t ht => by omega))).el (fun i _ => hE lt2 i (by omega))
    show yLst aC de _ lt2 (rT lt2) (adx ad 201 a lt2) (adx ad 201 a (rT lt2)) (rB ρ lt2) (rM ρ lt2) (if lt2 = 201 then n else rZ ρ lt2) _
    rw [if_neg (by omega), e0 lt2 (by omega), e0 (rT lt2) (by omega)]
    exact hl2
  refine ⟨by rw [e0 200 (by omega)]; exact yup_s _ _ _, ?_, by rw [e0 202 (by omega), v 202 (by omega)]; exact hk _ _ _ h3 (by omega), by rw [e0 203 (by omega), v 203 (by omega)]; exact hk _ _ _ h4 (by omega), fun lt2 q1 q2 => hL lt2 q1 (by omega) (by omega) (h5 lt2 q1 q2), fun k q => ?_, fun k q => ?_, fun k q => ?_, fun k q => ?_, fun k q => ?_⟩
  · rw [adx_s]
    show _ = some (201, Sum.inl (aC 0, (if 201 = 201 then n else rZ ρ 201), Sum.inl (if 201 = 201 then f else rV ρ 201)))
    rw [if_pos rfl, if_pos rfl]
    exact hk _ _ _ ha (by omega)
  · rw [e0 _ (by omega), v _ (by omega)]
    exact hk _ _ _ (h6 k q) (by omega)
  · rw [e0 _ (by omega), v _ (by omega)]
    exact hk _ _ _ (h7 k q) (by omega)
  · rw [e0 _ (by omega), v _ (by omega)]
    exact hk _ _ _ (h8 k q) (by omega)
  · have q' : k < rZ ρ 212 := q
    exact ⟨by rw [e0 (360 + k) (by omega), hk _ _ _ (h9 k q).1 (by omega), rGd, rGd, e0 (380 + k) (by omega)], hL _ (by omega) (by omega) (by omega) (h9 k q).2⟩
  · exact ⟨by rw [e0 (420 + k) (by omega), hk _ _ _ (h10 k q).1 (by omega), rIn, rIn, e0 (440 + k) (by omega)], by rw [e0 (440 + k) (by omega), v _ (by omega)]; exact hk _ _ _ (h10 k q).2 (by omega)⟩
end YSU

