/-! ===== contracts of the reference: guards and intruders ===== -/
theorem yKp.tg {a b : Nat} {G G1 : AH} {ta : Nat} {ea : va_E} (hk : yKp a b G G1) (hb : G b = none) (ha : G a = some (ta, ea)) : yTg (fun t => t ≠ ta) G G1 := fun q t e hq ht => hk q _ hq (fun e9 => by
  rw [e9, ha] at hq
  cases hq
  exact ht rfl) (fun e9 => by
  rw [e9, hb] at hq
  cases hq)
abbrev rgNew (ρ : RS) (s : Nat) (fld : Nat → Int32) (cell mc : Int32) : RS := (ρ.1, fun j => if j = 380 + s then 1 else rZ ρ j, fun j => if j = 380 + s then true else rB ρ j, fun j => if j = 380 + s then mc else rM ρ j, fun j => if j = 380 + s then (fun i => if i = 0 then cell else 0) else rV ρ j, fun j n => if j = 360 + s then fld n else rF ρ j n)
abbrev rnNew (ρ : RS) (s : Nat) (fld : Nat → Int32) (w : Nat → Int32) : RS := (ρ.1, ρ.2.1, ρ.2.2.1, ρ.2.2.2.1, fun j => if j = 440 + s then w else rV ρ j, fun j n => if j = 420 + s then fld n else rF ρ j n)
theorem yway0 {ρ : RS} {m : Int32} {f : Nat → Int32} : ∀ j : Nat, m.toInt ≤ (j : Int) → (j : Int) < m.toInt → rcell ρ (f j) := fun j h1 h2 => by omega
theorem yway1 {ρ : RS} {m i v : Int32} {f : Nat → Int32} (h9 : 0 ≤ m.toInt) (h0 : m.toInt ≤ i.toInt) (hb : i.toInt ≤ 239) (h : ∀ j : Nat, m.toInt ≤ (j : Int) → (j : Int) < i.toInt → rcell ρ (f j)) (hv : rcell ρ v) : ∀ j : Nat, m.toInt ≤ (j : Int) → (j : Int) < (i + 1).toInt → rcell ρ (upd f (Int32.toNatClampNeg i) v j) := by
  intro j h1 h2
  rw [yadd (by rw [yl_1]; omega) (by rw [yl_1]; omega), yl_1] at h2
  by_cases e : j = Int32.toNatClampNeg i
  · rw [e, pk_us]
    exact hv
  · rw [pk_un e]
    have e1 : (Int32.toNatClampNeg i : Int) = i.toInt := by
      show ((i.toInt.toNat : Nat) : Int) = i.toInt
      omega
    exact h j h1 (by omega)
theorem yway2 {ρ : RS} {m i : Int32} {f : Nat → Int32} (hc : (239 : Int32) < i) (h : ∀ j : Nat, m.toInt ≤ (j : Int) → (j : Int) < i.toInt → rcell ρ (f j)) : ∀ j : Nat, m.toInt ≤ (j : Int) → j < 240 → rcell ρ (f j) := by
  intro j h1 h2
  rw [ylt, yl_239] at hc
  exact h j h1 (by omega)
section YGN
variable {l : Launch} {S0 : State} {A0 : Array Value} {D : va_G} {aC : Nat → ClassId} {ic : Int32 → Nat} {de : Nat} {ad : Nat → Nat} {G : AH} {ρ : RS} {K : yK} {d mc ms : Nat} {Q : Option Value → AH → Prop} {X : String → AH → Prop} {pc kc ks : Nat} {L : yL} {rest : List Value}
/-- a new guard gets its tags -/
theorem m_RaddG0 (_ : yS l S0 A0 D aC) (_ : yIc S0 ic de) (h : atR aC ic de ad G ρ) {a la ea : Nat} {e1 : va_E} {mc9 : Int32} {el : Nat → Nat} (ha : G a = some (502, e1)) (hl : yLst aC de G 503 504 la ea true mc9 (0 + 1) el)
    (kk : ∀ G2 : AH, G2 a = some (360 + rZ ρ 212, e1) → yLst aC de G2 (380 + rZ ρ 212) (400 + rZ ρ 212) la ea true mc9 (0 + 1) el → atR aC ic de ad G2 ρ → yTg kA G G2 → Y l S0 D K d mc ms Q X pc L rest G2 kc ks) : Y l S0 D K d mc ms Q X pc L rest G kc ks := by
  obtain ⟨h1, h2⟩ := hl
  obtain ⟨-, h10, h3⟩ := h2.resolve_right (fun q => Bool.noConfusion q.1)
  refine y_retag (t2 := 360 + rZ ρ 212) ha (by decide) ?_
  have k1 : yTg kA G (yup G a (360 + rZ ρ 212, e1)) := yTg.ret ha (by decide)
  have r1 : yTg (fun t => t ≠ 502) G (yup G a (360 + rZ ρ 212, e1)) := yTg.ret ha (fun q => q rfl)
  have x1 : atR aC ic de ad (yup G a (360 + rZ ρ 212, e1)) ρ := h.kp (k1.narrow kA_R)
  have a1 : (yup G a (360 + rZ ρ 212, e1)) a = some (360 + rZ ρ 212, e1) := yup_s _ _ _
  generalize yup G a (360 + rZ ρ 212, e1) = G1 at k1 r1 x1 a1 ⊢
  have l1 := r1 _ _ _ h1 (by decide)
  have m1 := r1 _ _ _ h3 (by decide)
  refine y_retag (t2 := 380 + rZ ρ 212) l1 (by decide) ?_
  have k2 := k1.trans (yTg.ret (f := kA) (t2 := 380 + rZ ρ 212) (e1 := .inr (3, [.int mc9, .ref ea, .int (Int32.ofNat (0 + 1))])) l1 (by decide))
  have r2 := yTg.ret (f := fun t => t ≠ 503) (t2 := 380 + rZ ρ 212) (e1 := .inr (3, [.int mc9, .ref ea, .int (Int32.ofNat (0 + 1))])) l1 (fun q => q rfl)
  have x2 := x1.kp (yTg.ret (t2 := 380 + rZ ρ 212) (e1 := .inr (3, [.int mc9, .ref ea, .int (Int32.ofNat (0 + 1))])) l1 (by decide))
  have b2 : (yup G1 la (380 + rZ ρ 212, .inr (3, [.int mc9, .ref ea, .int (Int32.ofNat (0 + 1))]))) la = some (380 + rZ ρ 212, .inr (3, [.int mc9, .ref ea, .int (Int32.ofNat (0 + 1))])) := yup_s _ _ _
  generalize yup G1 la (380 + rZ ρ 212, .inr (3, [.int mc9, .ref ea, .int (Int32.ofNat (0 + 1))])) = G2 at k2 r2 x2 b2 ⊢
  have hz := h.2.2.1.2.2.1
  have a2 := r2 _ _ _ a1 (by omega)
  have m2 := r2 _ _ _ m1 (by decide)
  refine y_retag (t2 := 400 + rZ ρ 212) m2 (by decide) ?_
  have k3 := k2.trans (yTg.ret (f := kA) (t2 := 400 + rZ ρ 212) (e1 := .inl (aC 4, 10, .inr (.inr (.inr (.inr (yel el (0 + 1))))))) m2 (by decide))
  have r3 := yTg.ret (f := fun t => t ≠ 504) (t2 := 400 + rZ ρ 212) (e1 := .inl (aC 4, 10, .inr (.inr (.inr (.inr (yel el (0 + 1))))))) m2 (fun q => q rfl)
  have x3 := x2.kp (yTg.ret (t2 := 400 + rZ ρ 212) (e1 := .inl (aC 4, 10, .inr (.inr (.inr (.inr (yel el (0 + 1))))))) m2 (by decide))
  have c3 : (yup G2 ea (400 + rZ ρ 212, .inl (aC 4, 10, .inr (.inr (.inr (.inr (yel el (0 + 1)))))))) ea = some (400 + rZ ρ 212, .inl (aC 4, 10, .inr (.inr (.inr (.inr (yel el (0 + 1))))))) := yup_s _ _ _
  generalize yup G2 ea (400 + rZ ρ 212, .inl (aC 4, 10, .inr (.inr (.inr (.inr (yel el (0 + 1))))))) = G3 at k3 r3 x3 c3 ⊢
  exact kk G3 (r3 _ _ _ a2 (by omega)) ⟨r3 _ _ _ b2 (by omega), Or.inl ⟨rfl, h10, c3⟩⟩ x3 k3
theorem m_RaddN0 (_ : yS l S0 A0 D aC) (_ : yIc S0 ic de) (h : atR aC ic de ad G ρ) {a w : Nat} {e1 e2 : va_E} (ha : G a = some (505, e1)) (hw : G w = some (506, e2))
    (kk : ∀ G2 : AH, G2 a = some (420 + rZ ρ 215, e1) → G2 w = some (440 + rZ ρ 215, e2) → atR aC ic de ad G2 ρ → yTg kA G G2 → Y l S0 D K d mc ms Q X pc L rest G2 kc ks) : Y l S0 D K d mc ms Q X pc L rest G kc ks := by
  have hz := h.2.2.1.2.2.2.2.2.1
  refine y_retag (t2 := 420 + rZ ρ 215) ha (by decide) ?_
  have k1 : yTg kA G (yup G a (420 + rZ ρ 215, e1)) := yTg.ret ha (by decide)
  have r1 : yTg (fun t => t ≠ 505) G (yup G a (420 + rZ ρ 215, e1)) := yTg.ret ha (fun q => q rfl)
  have x1 : atR aC ic de ad (yup G a (420 + rZ ρ 215, e1)) ρ := h.kp (k1.narrow kA_R)
  have a1 : (yup G a (420 + rZ ρ 215, e1)) a = some (420 + rZ ρ 215, e1) := yup_s _ _ _
  generalize yup G a (420 + rZ ρ 215, e1) = G1 at k1 r1 x1 a1 ⊢
  have l1 := r1 _ _ _ hw (by decide)
  refine y_retag (t2 := 440 + rZ ρ 215) l1 (by decide) ?_
  have k2 := k1.trans (yTg.ret (f := kA) (t2 := 440 + rZ ρ 215) (e1 := e2) l1 (by decide))
  have r2 := yTg.ret (f := fun t => t ≠ 506) (t2 := 440 + rZ ρ 215) (e1 := e2) l1 (fun q => q rfl)
  have x2 := x1.kp (yTg.ret (t2 := 440 + rZ ρ 215) (e1 := e2) l1 (by decide))
  have b2 : (yup G1 w (440 + rZ ρ 215, e2)) w = some (440 + rZ ρ 215, e2) := yup_s _ _ _
  generalize yup G1 w (440 + rZ ρ 215, e2) = G2 at k2 r2 x2 b2 ⊢
  exact kk G2 (r2 _ _ _ a1 (by omega)) b2 x2 k2
theorem cl_obj10 : Cond.castable RX10 "java/lang/Object" ∈ lw_tbl := lw_in9 _ (List.mem_of_getElem? (i := 213) (by decide +kernel))
theorem cl_obj11 : Cond.castable RX11 "java/lang/Object" ∈ lw_tbl := lw_in9 _ (List.mem_of_getElem? (i := 214) (by decide +kernel))
/-- adding a guard -/
theorem m_RaddG (hS : yS l S0 A0 D aC) (hI : yIc S0 ic de) (h : atR aC ic de ad G ρ) (hs : rZ ρ 212 ≤ 5) {a la ea : Nat} {from_ to_ stay cell mc9 : Int32} (ha : G a = some (360 + rZ ρ 212, .inr (14, [.int from_, .int to_, .int stay, .ref la, .int 0, .int 0]))) (hl : yLst aC de G (380 + rZ ρ 212) (400 + rZ ρ 212) la ea true mc9 (0 + 1) (fun i => if i = 0 then ic cell else 0)) (hc : rcell ρ cell) (hf : 0 ≤ from_.toInt) (ht : 1 ≤ stay.toInt) :
    yM l S0 D yJx4a65c_add_9ea2d cJx4a65c_add_9ea2d 2 (some .boolean) 14 1 10 [.ref (ad 212), .ref a] G (fun r G1 => r = some (.int 1) ∧ ∃ ad1, atR aC ic de ad1 G1 (rAdd (rgNew ρ (rZ ρ 212) (fun n => if n = 0 then from_ else if n = 1 then to_ else if n = 2 then stay else 0) cell mc9) 212) ∧ ad1 200 = ad 200 ∧ yTg kR G G1) (fun _ _ => False) := by
  have hz := h.2.2.1
  obtain ⟨b1, b2, b3, b4, b5, b6, b7⟩ := hz
  have hx1 : rFr ρ (360 + rZ ρ 212) := by refine ⟨?_, ?_, ?_, ?_, ?_, ?_, ?_, ?_, ?_, ?_⟩ <;> omega
  have hx2 : rFr ρ (380 + rZ ρ 212) := by refine ⟨?_, ?_, ?_, ?_, ?_, ?_, ?_, ?_, ?_, ?_⟩ <;> omega
  have hx3 : rFr ρ (400 + rZ ρ 212) := by refine ⟨?_, ?_, ?_, ?_, ?_, ?_, ?_, ?_, ?_, ?_⟩ <;> omega
  have h1 := ((h.1.re h.2.2.1 (a := a) hx1).re h.2.2.1 (a := la) hx2).re h.2.2.1 (a := ea) hx3
  generalize hs9 : rZ ρ 212 = s at *
  generalize hρ2 : rgNew ρ s (fun n => if n = 0 then from_ else if n = 1 then to_ else if n = 2 then stay else 0) cell mc9 = ρ2
  have cZ : ∀ j, ¬ rFr ρ j → rZ ρ2 j = rZ ρ j := fun j hj => by rw [← hρ2]; exact if_neg (fun q => hj (by rw [q]; exact hx2))
  have cB : ∀ j, ¬ rFr ρ j → rB ρ2 j = rB ρ j := fun j hj => by rw [← hρ2]; exact if_neg (fun q => hj (by rw [q]; exact hx2))
  have cM : ∀ j, ¬ rFr ρ j → rM ρ2 j = rM ρ j := fun j hj => by rw [← hρ2]; exact if_neg (fun q => hj (by rw [q]; exact hx2))
  have cV : ∀ j, ¬ rFr ρ j → rV ρ2 j = rV ρ j := fun j hj => by rw [← hρ2]; exact if_neg (fun q => hj (by rw [q]; exact hx2))
  have cF : ∀ j n, ¬ rFr ρ j → rF ρ2 j n = rF ρ j n := fun j n hj => by rw [← hρ2]; exact if_neg (fun q => hj (by rw [q]; exact hx1))
  have cI : rI ρ2 = rI ρ := by rw [← hρ2]
  have z2 : rZ ρ2 (380 + s) = 0 + 1 := by rw [← hρ2]; exact if_pos rfl
  have B2 : rB ρ2 (380 + s) = true := by rw [← hρ2]; exact if_pos rfl
  have M2 : rM ρ2 (380 + s) = mc9 := by rw [← hρ2]; exact if_pos rfl
  have V2 : rV ρ2 (380 + s) = fun i => if i = 0 then cell else 0 := by rw [← hρ2]; exact if_pos rfl
  have F2 : ∀ n, rF ρ2 (360 + s) n = if n = 0 then from_ else if n = 1 then to_ else if n = 2 then stay else 0 := fun n => by rw [← hρ2]; exact if_pos rfl
  have z212 : rZ ρ2 212 = s := (cZ 212 (fun q => by have := q.1; omega)).trans hs9
  have z201 : rZ ρ2 201 = rZ ρ 201 := cZ 201 (fun q => by have := q.1; omega)
  have h2 : atH aC ic de (adx (adx (adx ad (360 + s) a) (380 + s) la) (400 + s) ea) G ρ2 := h1.cg h.2.2.1 cI cZ cB cM cV cF
  have hb2 : rb ρ2 := h.2.cg cI cZ cV cF
  generalize hd2 : adx (adx (adx ad (360 + s) a) (380 + s) la) (400 + s) ea = ad2 at h1 h2
  have d0 : ∀ j, j < 360 → ad2 j = ad j := fun j hj => by rw [← hd2, adx_n (by omega), adx_n (by omega), adx_n (by omega)]
  have d1 : ad2 (360 + s) = a := by rw [← hd2, adx_n (by omega), adx_n (by omega), adx_s]
  have d2 : ad2 (380 + s) = la := by rw [← hd2, adx_n (by omega), adx_s]
  have d3 : ad2 (400 + s) = ea := by rw [← hd2, adx_s]
  have hOb : yOb2 aC S0 D G a := Or.inl (Or.inl ⟨14, _, _, _, _, cl_X10, cl_obj10, Or.inl ⟨_, ha⟩⟩)
  refine yM.mono (m_Radd hS hI h2 (d0 212 (by decide)) (h2.ls 212 (by decide)) (by decide) hOb (by omega)) (fun r G1 q => ?_) (fun _ _ q => q)
  obtain ⟨hr, ea1, q1, q2⟩ := q
  rw [z212] at q1
  have hn2 : G1 (ad2 (360 + s)) = some (360 + s, rGd ad2 ρ2 s) ∧ rLs aC ic de ad2 G1 ρ2 (380 + s) := by
    refine ⟨?_, ?_⟩
    · rw [d1, rGd, F2, F2, F2, F2, F2, d2]
      exact q2 _ _ _ ha ⟨by omega, by rw [rT_lt (by decide)]; omega⟩
    · have hl2 := (yLst.kp hl (q2.narrow (fun t ht => by rw [rT_lt (by decide)]; omega))).el (el1 := rEl ic ad2 ρ2 (380 + s)) (fun i hi => by
        obtain rfl : i = 0 := by omega
        show ic cell = _
        unfold rEl
        rw [if_neg (by omega), if_neg (by omega), if_neg (by omega), if_neg (by omega), if_neg (by omega), V2]
        rfl)
      show yLst aC de G1 (380 + s) (rT (380 + s)) (ad2 (380 + s)) (ad2 (rT (380 + s))) (rB ρ2 (380 + s)) (rM ρ2 (380 + s)) (rZ ρ2 (380 + s)) (rEl ic ad2 ρ2 (380 + s))
      rw [B2, M2, z2, d2, rT_ge (by omega), show 380 + s + 20 = 400 + s by omega, d3]
      exact hl2
  have e212 : ∀ mcx, rls ρ2 212 true mcx (rZ ρ2 212 + 1) = rls ρ2 212 true mcx (s + 1) := fun mcx => by rw [z212]
  refine ⟨hr, adx ad2 (rT 212) ea1, ?_, ?_, q2.narrow (fun t ht => ?_)⟩
  · show atR aC ic de _ G1 (rls ρ2 212 true (rM ρ2 212 + 1) (rZ ρ2 212 + 1))
    rw [e212]
    refine ⟨atH.addL h2 hb2.2.1 (Or.inl (by decide)) z212 q1 q2 (fun i hi => ?_) (fun e => absurd e (by decide)) (fun e => absurd e (by decide)) (fun e => absurd e (by decide)) (fun _ => hn2) (fun e => absurd e (by decide)), hb2.addGu z212 hs ⟨?_, ?_, ?_, ?_, fun i hi => ?_⟩⟩
    · show (if i = s then a else rEl ic ad2 ρ2 212 i) = rEl ic ad2 ρ2 212 i
      by_cases c : i = s
      · rw [if_pos c, c]
        exact d1.symm
      · rw [if_neg c]
    · rw [F2]
      exact hf
    · rw [F2]
      exact ht
    · rw [z2]
      decide
    · rw [z2]
      decide
    · rw [z2] at hi
      obtain rfl : i = 0 := by omega
      rw [V2]
      unfold rcell
      rw [z201]
      exact hc
  · rw [rT_lt (by decide), adx_n (by decide), d0 200 (by decide)]
  · rw [rT_lt (by decide)]
    omega
/-- adding an intruder -/
theorem m_RaddN (hS : yS l S0 A0 D aC) (hI : yIc S0 ic de) (h : atR aC ic de ad G ρ) (hs : rZ ρ 215 ≤ 3) {a w : Nat} {from_ many : Int32} {fw : Nat → Int32} (ha : G a = some (420 + rZ ρ 215, .inr (15, [.int from_, .int many, .ref w, .int 0, .int (-1)]))) (hw : G w = some (440 + rZ ρ 215, .inl (aC 0, 240, .inl fw))) (hf : 0 ≤ from_.toInt) (hc : ∀ m : Nat, from_.toInt ≤ (m : Int) → m < 240 → rcell ρ (fw m)) :
    yM l S0 D yJx4a65c_add_9ea2d cJx4a65c_add_9ea2d 2 (some .boolean) 14 1 10 [.ref (ad 215), .ref a] G (fun r G1 => r = some (.int 1) ∧ ∃ ad1, atR aC ic de ad1 G1 (rAdd (rnNew ρ (rZ ρ 215) (fun n => if n = 0 then from_ else if n = 1 then many else if n = 3 then -1 else 0) fw) 215) ∧ ad1 200 = ad 200 ∧ yTg kR G G1) (fun _ _ => False) := by
  have hz := h.2.2.1
  obtain ⟨b1, b2, b3, b4, b5, b6, b7⟩ := hz
  have hx1 : rFr ρ (420 + rZ ρ 215) := by refine ⟨?_, ?_, ?_, ?_, ?_, ?_, ?_, ?_, ?_, ?_⟩ <;> omega
  have hx2 : rFr ρ (440 + rZ ρ 215) := by refine ⟨?_, ?_, ?_, ?_, ?_, ?_, ?_, ?_, ?_, ?_⟩ <;> omega
  have h1 := (h.1.re h.2.2.1 (a := a) hx1).re h.2.2.1 (a := w) hx2
  generalize hs9 : rZ ρ 215 = s at *
  generalize hρ2 : rnNew ρ s (fun n => if n = 0 then from_ else if n = 1 then many else if n = 3 then -1 else 0) fw = ρ2
  have cZ : ∀ j, ¬ rFr ρ j → rZ ρ2 j = rZ ρ j := fun j hj => by rw [← hρ2]
  have cB : ∀ j, ¬ rFr ρ j → rB ρ2 j = rB ρ j := fun j hj => by rw [← hρ2]
  have cM : ∀ j, ¬ rFr ρ j → rM ρ2 j = rM ρ j := fun j hj => by rw [← hρ2]
  have cV : ∀ j, ¬ rFr ρ j → rV ρ2 j = rV ρ j := fun j hj => by rw [← hρ2]; exact if_neg (fun q => hj (by rw [q]; exact hx2))
  have cF : ∀ j n, ¬ rFr ρ j → rF ρ2 j n = rF ρ j n := fun j n hj => by rw [← hρ2]; exact if_neg (fun q => hj (by rw [q]; exact hx1))
  have cI : rI ρ2 = rI ρ := by rw [← hρ2]
  have V2 : rV ρ2 (440 + s) = fw := by rw [← hρ2]; exact if_pos rfl
  have F2 : ∀ n, rF ρ2 (420 + s) n = if n = 0 then from_ else if n = 1 then many else if n = 3 then -1 else 0 := fun n => by rw [← hρ2]; exact if_pos rfl
  have z215 : rZ ρ2 215 = s := (cZ 215 (fun q => by have := q.1; omega)).trans hs9
  have z201 : rZ ρ2 201 = rZ ρ 201 := cZ 201 (fun q => by have := q.1; omega)
  have h2 : atH aC ic de (adx (adx ad (420 + s) a) (440 + s) w) G ρ2 := h1.cg h.2.2.1 cI cZ cB cM cV cF
  have hb2 : rb ρ2 := h.2.cg cI cZ cV cF
  generalize hd2 : adx (adx ad (420 + s) a) (440 + s) w = ad2 at h1 h2
  have d0 : ∀ j, j < 360 → ad2 j = ad j := fun j hj => by rw [← hd2, adx_n (by omega), adx_n (by omega)]
  have d1 : ad2 (420 + s) = a := by rw [← hd2, adx_n (by omega), adx_s]
  have d2 : ad2 (440 + s) = w := by rw [← hd2, adx_s]
  have hOb : yOb2 aC S0 D G a := Or.inl (Or.inl ⟨15, _, _, _, _, cl_X11, cl_obj11, Or.inl ⟨_, ha⟩⟩)
  refine yM.mono (m_Radd hS hI h2 (d0 215 (by decide)) (h2.ls 215 (by decide)) (by decide) hOb (by omega)) (fun r G1 q => ?_) (fun _ _ q => q)
  obtain ⟨hr, ea1, q1, q2⟩ := q
  rw [z215] at q1
  have hn5 : G1 (ad2 (420 + s)) = some (420 + s, rIn ad2 ρ2 s) ∧ G1 (ad2 (440 + s)) = some (440 + s, .inl (aC 0, 240, .inl (rV ρ2 (440 + s)))) := by
    refine ⟨?_, ?_⟩
    · rw [d1, rIn, F2, F2, F2, F2, d2]
      exact q2 _ _ _ ha ⟨by omega, by rw [rT_lt (by decide)]; omega⟩
    · rw [d2, V2]
      exact q2 _ _ _ hw ⟨by omega, by rw [rT_lt (by decide)]; omega⟩
  have e215 : ∀ mcx, rls ρ2 215 true mcx (rZ ρ2 215 + 1) = rls ρ2 215 true mcx (s + 1) := fun mcx => by rw [z215]
  refine ⟨hr, adx ad2 (rT 215) ea1, ?_, ?_, q2.narrow (fun t ht => ?_)⟩
  · show atR aC ic de _ G1 (rls ρ2 215 true (rM ρ2 215 + 1) (rZ ρ2 215 + 1))
    rw [e215]
    refine ⟨atH.addL h2 hb2.2.1 (Or.inl (by decide)) z215 q1 q2 (fun i hi => ?_) (fun e => absurd e (by decide)) (fun e => absurd e (by decide)) (fun e => absurd e (by decide)) (fun e => absurd e (by decide)) (fun _ => hn5), hb2.addIn z215 hs ⟨?_, fun m h1 h2 => ?_⟩⟩
    · show (if i = s then a else rEl ic ad2 ρ2 215 i) = rEl ic ad2 ρ2 215 i
      by_cases c : i = s
      · rw [if_pos c, c]
        exact d1.symm
      · rw [if_neg c]
    · rw [F2]
      exact hf
    · rw [F2] at h1
      rw [V2]
      unfold rcell
      rw [z201]
      exact hc m h1 h2
  · rw [rT_lt (by decide), adx_n (by decide), d0 200 (by decide)]
  · rw [rT_lt (by decide)]
    omega
end YGN
abbrev OKgd (from_ to stay : Int32) : Prop := (0 ≤ from_ ∧ from_ ≤ 239) ∧ (from_ ≤ to ∧ to ≤ 239) ∧ (1 ≤ stay ∧ stay ≤ 20)
abbrev rgF (from_ to stay : Int32) : Nat → Int32 := fun n => if n = 0 then from_ else if n = 1 then to else if n = 2 then stay else 0
abbrev roGuard (cell from_ to stay : Int32) (r : Option Value) (ρ ρ1 : RS) : Prop := (OKR ρ cell ∧ OKgd from_ to stay ∧ (¬ Int32.ofNat (rZ ρ 212) = 6 ∧ ¬ rkd ρ cell = 1) ∧ r = some (.int (Int32.ofNat ((if 212 = 380 + rZ ρ 212 then 1 else rZ ρ 212) + 1) - 1)) ∧ ρ1 = rAdd (rgNew (rin ρ 0 0) (rZ ρ 212) (rgF from_ to stay) cell (0 + 1)) 212) ∨ roNo (¬ OKR ρ cell) 1 ρ ρ1 ∨ roNo (OKR ρ cell ∧ ¬ OKgd from_ to stay) 2 ρ ρ1 ∨ roNo (OKR ρ cell ∧ OKgd from_ to stay ∧ ¬ (¬ Int32.ofNat (rZ ρ 212) = 6 ∧ ¬ rkd ρ cell = 1)) 3 ρ ρ1
abbrev rnF (minute many : Int32) : Nat → Int32 := fun n => if n = 0 then minute else if n = 1 then many else if n = 3 then -1 else 0
abbrev OKN (ρ : RS) (cell minute moves : Int32) : Prop := OKR ρ cell ∧ (OKm minute ∧ 0 ≤ moves)
abbrev roIntr (cell minute moves : Int32) (r : Option Value) (ρ ρ1 : RS) : Prop := (OKN ρ cell minute moves ∧ ¬ Int32.ofNat (rZ ρ 215) = 4 ∧ (∀ p : Nat, minute.toInt + (p : Int) ≤ 239 → rok ρ (rhw ρ cell moves.toInt.toNat p)) ∧ r = some (.int (Int32.ofNat (rZ ρ 215 + 1) - 1)) ∧ ∃ fw : Nat → Int32, (∀ p : Nat, minute.toInt + (p : Int) ≤ 239 → fw (minute.toInt.toNat + p) = rhw ρ cell moves.toInt.toNat p) ∧ ρ1 = rAdd (rnNew (rin ρ 0 0) (rZ ρ 215) (rnF minute (Int32.ofNat (ndg moves.toInt.toNat))) fw) 215) ∨ roNo (¬ OKR ρ cell) 1 ρ ρ1 ∨ roNo (OKR ρ cell ∧ ¬ (OKm minute ∧ 0 ≤ moves)) 2 ρ ρ1 ∨ roNo (OKN ρ cell minute moves ∧ (Int32.ofNat (rZ ρ 215) = 4 ∨ ∃ p : Nat, minute.toInt + (p : Int) ≤ 239 ∧ ¬ rok ρ (rhw ρ cell moves.toInt.toNat p))) 3 ρ ρ1
set_option maxHeartbeats 4000000 in
set_option maxRecDepth 100000 in
theorem m_X10_init {l : Launch} {S0 : State} {A0 : Array Value} {D : va_G} {aC : Nat → ClassId} {ic : Int32 → Nat} {de : Nat} {G : AH} (hS : yS l S0 A0 D aC) (hI : yIc S0 ic de) {a : Nat} (h : G a = some (502, .inr (14, [.int 0, .int 0, .int 0, .null, .int 0, .int 0]))) (cell : Int32) (from_ : Int32) (to_ : Int32) (stay : Int32) (hcell : rsm cell) : yM l S0 D yX10_init cX10_init 5 none 16 2 13 [.ref a, .int cell, .int from_, .int to_, .int stay] G (fun r G1 => r = none ∧ ∃ la ea : Nat, G1 a = some (502, .inr (14, [.int from_, .int to_, .int stay, .ref la, .int 0, .int 0])) ∧ yLst aC de G1 503 504 la ea true (0 + 1) (0 + 1) (fun i => if i = 0 then ic cell else 0) ∧ yTg kA G G1) (fun _ _ => False) := by
  refine yM.ofK K_X10_init rfl (by decide) (Nat.le_of_ble_eq_true rfl) ?_
  refine y_blk 1 tq_X10_init (z := (1, [(0, .ref a), (1, .int cell), (2, .int from_), (3, .int to_), (4, .int stay)], [.ref a])) rfl ?_
  refine y_objInit hS tq_X10_init rfl ⟨by decide +kernel, by decide +kernel⟩ (by decide) (by decide) ?_
  refine y_blk 1 tq_X10_init (z := (5, [(0, .ref a), (1, .int cell), (2, .int from_), (3, .int to_), (4, .int stay)], [.ref a])) rfl ?_
  refine y_new 503 hS tq_X10_init (kc := 1) (ks := 10) rfl nw_X10_9 (fun a5 hne5 => ?_)
  have hle5 : yLe G (yup G a5 (503, .inr (3, [.int 0, .null, .int 0]))) := yLe.new hne5
  have hA5 : (yup G a5 (503, .inr (3, [.int 0, .null, .int 0]))) a5 = some (503, .inr (3, [.int 0, .null, .int 0])) := yup_s _ _ _
  have hB5_a : (yup G a5 (503, .inr (3, [.int 0, .null, .int 0]))) a = some (502, .inr (14, [.int 0, .int 0, .int 0, .null, .int 0, .int 0])) := hle5 _ _ h
  have kt5 : yTg kA G (yup G a5 (503, .inr (3, [.int 0, .null, .int 0]))) := ((yTg.rfl' (f := kA) (G := G))).trans (yTg.le hle5)
  generalize yup G a5 (503, .inr (3, [.int 0, .null, .int 0])) = G5 at hle5 hA5 hB5_a kt5 ⊢
  refine y_blk 1 tq_X10_init (z := (9, [(0, .ref a), (1, .int cell), (2, .int from_), (3, .int to_), (4, .int stay)], [.ref a5, .ref a5, .ref a])) rfl ?_
  refine y_callI hS tq_X10_init rfl (As := []) rfl ci_X10_11 (m_Jinit hS hI (by decide) hA5) rfl (by decide) (Nat.le_of_ble_eq_true rfl) (fun r9 Gc9 q9 => ?_) (fun _ _ h9 => h9.elim)
  obtain ⟨rfl, eG9⟩ := q9
  subst eG9
  have hA9 : (yup G5 a5 (503, .inr (3, [.int 0, .ref de, .int 0]))) a5 = some (503, .inr (3, [.int 0, .ref de, .int 0])) := yup_s _ _ _
  have hB9_a : (yup G5 a5 (503, .inr (3, [.int 0, .ref de, .int 0]))) a = some (502, .inr (14, [.int 0, .int 0, .int 0, .null, .int 0, .int 0])) := yup_o hB5_a hA5 (by decide)
  have kt9 : yTg kA G (yup G5 a5 (503, .inr (3, [.int 0, .ref de, .int 0]))) := (kt5).trans (yTg.up hA5 (by decide))
  generalize yup G5 a5 (503, .inr (3, [.int 0, .ref de, .int 0])) = G9 at hA9 hB9_a kt9 ⊢
  refine y_blk 0 tq_X10_init (z := (12, [(0, .ref a), (1, .int cell), (2, .int from_), (3, .int to_), (4, .int stay)], [.ref a5, .ref a])) rfl ?_
  refine y_putF hS tq_X10_init rfl fp_X10_12_X10 rfl hB9_a (by omega) rfl rfl (Nat.le_of_ble_eq_true rfl) ?_
  have hA12 : (yup G9 a (502, .inr (14, [.int 0, .int 0, .int 0, .ref a5, .int 0, .int 0]))) a = some (502, .inr (14, [.int 0, .int 0, .int 0, .ref a5, .int 0, .int 0])) := yup_s _ _ _
  have hB12_a5 : (yup G9 a (502, .inr (14, [.int 0, .int 0, .int 0, .ref a5, .int 0, .int 0]))) a5 = some (503, .inr (3, [.int 0, .ref de, .int 0])) := yup_o hA9 hB9_a (by decide)
  have kt12 : yTg kA G (yup G9 a (502, .inr (14, [.int 0, .int 0, .int 0, .ref a5, .int 0, .int 0]))) := (kt9).trans (yTg.up hB9_a (by decide))
  show Y l S0 D K_X10_init 16 2 13 (fun r G1 => r = none ∧ ∃ la ea : Nat, G1 a = some (502, .inr (14, [.int from_, .int to_, .int stay, .ref la, .int 0, .int 0])) ∧ yLst aC de G1 503 504 la ea true (0 + 1) (0 + 1) (fun i => if i = 0 then ic cell else 0) ∧ yTg kA G G1) (fun _ _ => False) (12 + 3) [(0, .ref a), (1, .int cell), (2, .int from_), (3, .int to_), (4, .int stay)] [] (yup G9 a (502, .inr (14, [.int 0, .int 0, .int 0, .ref a5, .int 0, .int 0]))) 1 10
  generalize yup G9 a (502, .inr (14, [.int 0, .int 0, .int 0, .ref a5, .int 0, .int 0])) = G12 at hA12 hB12_a5 kt12 ⊢
  refine y_blk 1 tq_X10_init (z := (16, [(0, .ref a), (1, .int cell), (2, .int from_), (3, .int to_), (4, .int stay)], [.ref a])) rfl ?_
  refine y_get hS tq_X10_init (v := .ref a5) rfl fg_X10_12_X10 hA12 rfl ?_
  refine y_blk 1 tq_X10_init (z := (20, [(0, .ref a), (1, .int cell), (2, .int from_), (3, .int to_), (4, .int stay)], [.int cell, .ref a5])) rfl ?_
  refine y_callS hS tq_X10_init rfl (As := [.int cell]) rfl cs_X10_18 (m_JvalueOf hS hI (hcell).1 (hcell).2) rfl (by decide) (Nat.le_of_ble_eq_true rfl) (fun r20 Gc20 q20 => ?_) (fun _ _ h9 => h9.elim)
  obtain ⟨rfl, eG20⟩ := q20
  have eG20 := eG20.symm
  subst eG20
  refine y_blk 0 tq_X10_init (z := (23, [(0, .ref a), (1, .int cell), (2, .int from_), (3, .int to_), (4, .int stay)], [.ref (ic cell), .ref a5])) rfl ?_
  have hl23 : yLst aC de G12 503 504 a5 de false 0 0 (fun _ => 0) := ⟨hB12_a5, Or.inr ⟨rfl, rfl, rfl⟩⟩
  refine y_callF hS tq_X10_init rfl (As := [.ref (ic cell)]) rfl cf_X10_24 (Or.inl ⟨_, hB12_a5⟩) (m_Jadd hS hI hl23 (yObI (hI.1 _ (hcell).1 (hcell).2)) (by decide) (by decide) (by decide)) rfl (by decide) (Nat.le_of_ble_eq_true rfl) (fun r23 Gc23 q23 => ?_) (fun _ _ h9 => h9.elim)
  obtain ⟨rfl, ea23, hl23a, -, hl23b, hl23c⟩ := q23
  have hl23b := hl23b rfl
  have hT23 := hl23c.tg hl23b hB12_a5
  obtain ⟨hA23, hl23d⟩ := hl23a
  have hE23 := (hl23d.resolve_right (fun q => Bool.noConfusion q.1)).2.2
  have hB23_a := (hT23 _ _ _ hA12 (by decide))
  have kt23 := (kt12).trans (hT23.narrow (fun t ht => by omega))
  show Y l S0 D K_X10_init 16 2 13 (fun r G1 => r = none ∧ ∃ la ea : Nat, G1 a = some (502, .inr (14, [.int from_, .int to_, .int stay, .ref la, .int 0, .int 0])) ∧ yLst aC de G1 503 504 la ea true (0 + 1) (0 + 1) (fun i => if i = 0 then ic cell else 0) ∧ yTg kA G G1) (fun _ _ => False) 28 [(0, .ref a), (1, .int cell), (2, .int from_), (3, .int to_), (4, .int stay)] [.int 1] Gc23 0 0
  refine y_blk 3 tq_X10_init (z := (31, [(0, .ref a), (1, .int cell), (2, .int from_), (3, .int to_), (4, .int stay)], [.int from_, .ref a])) rfl ?_
  refine y_putF hS tq_X10_init rfl fp_X10_30_X10 rfl hB23_a (by omega) rfl rfl (Nat.le_of_ble_eq_true rfl) ?_
  have hA31 : (yup Gc23 a (502, .inr (14, [.int from_, .int 0, .int 0, .ref a5, .int 0, .int 0]))) a = some (502, .inr (14, [.int from_, .int 0, .int 0, .ref a5, .int 0, .int 0])) := yup_s _ _ _
  have hB31_a5 : (yup Gc23 a (502, .inr (14, [.int from_, .int 0, .int 0, .ref a5, .int 0, .int 0]))) a5 = some (503, .inr (3, [.int (0 + 1), .ref ea23, .int (Int32.ofNat (0 + 1))])) := yup_o hA23 hB23_a (by decide)
  have hB31_ea23 : (yup Gc23 a (502, .inr (14, [.int from_, .int 0, .int 0, .ref a5, .int 0, .int 0]))) ea23 = some (504, .inl (aC 4, 10, .inr (.inr (.inr (.inr (yel (fun i => if i = 0 then (ic cell) else 0) (0 + 1))))))) := yup_o hE23 hB23_a (by decide)
  have kt31 : yTg kA G (yup Gc23 a (502, .inr (14, [.int from_, .int 0, .int 0, .ref a5, .int 0, .int 0]))) := (kt23).trans (yTg.up hB23_a (by decide))
  show Y l S0 D K_X10_init 16 2 13 (fun r G1 => r = none ∧ ∃ la ea : Nat, G1 a = some (502, .inr (14, [.int from_, .int to_, .int stay, .ref la, .int 0, .int 0])) ∧ yLst aC de G1 503 504 la ea true (0 + 1) (0 + 1) (fun i => if i = 0 then ic cell else 0) ∧ yTg kA G G1) (fun _ _ => False) (31 + 3) [(0, .ref a), (1, .int cell), (2, .int from_), (3, .int to_), (4, .int stay)] [] (yup Gc23 a (502, .inr (14, [.int from_, .int 0, .int 0, .ref a5, .int 0, .int 0]))) 0 0
  generalize yup Gc23 a (502, .inr (14, [.int from_, .int 0, .int 0, .ref a5, .int 0, .int 0])) = G31 at hA31 hB31_a5 hB31_ea23 kt31 ⊢
  refine y_blk 2 tq_X10_init (z := (36, [(0, .ref a), (1, .int cell), (2, .int from_), (3, .int to_), (4, .int stay)], [.int to_, .ref a])) rfl ?_
  refine y_putF hS tq_X10_init rfl fp_X10_34_X10 rfl hA31 (by omega) rfl rfl (Nat.le_of_ble_eq_true rfl) ?_
  have hA36 : (yup G31 a (502, .inr (14, [.int from_, .int to_, .int 0, .ref a5, .int 0, .int 0]))) a = some (502, .inr (14, [.int from_, .int to_, .int 0, .ref a5, .int 0, .int 0])) := yup_s _ _ _
  have hB36_a5 : (yup G31 a (502, .inr (14, [.int from_, .int to_, .int 0, .ref a5, .int 0, .int 0]))) a5 = some (503, .inr (3, [.int (0 + 1), .ref ea23, .int (Int32.ofNat (0 + 1))])) := yup_o hB31_a5 hA31 (by decide)
  have hB36_ea23 : (yup G31 a (502, .inr (14, [.int from_, .int to_, .int 0, .ref a5, .int 0, .int 0]))) ea23 = some (504, .inl (aC 4, 10, .inr (.inr (.inr (.inr (yel (fun i => if i = 0 then (ic cell) else 0) (0 + 1))))))) := yup_o hB31_ea23 hA31 (by decide)
  have kt36 : yTg kA G (yup G31 a (502, .inr (14, [.int from_, .int to_, .int 0, .ref a5, .int 0, .int 0]))) := (kt31).trans (yTg.up hA31 (by decide))
  show Y l S0 D K_X10_init 16 2 13 (fun r G1 => r = none ∧ ∃ la ea : Nat, G1 a = some (502, .inr (14, [.int from_, .int to_, .int stay, .ref la, .int 0, .int 0])) ∧ yLst aC de G1 503 504 la ea true (0 + 1) (0 + 1) (fun i => if i = 0 then ic cell else 0) ∧ yTg kA G G1) (fun _ _ => False) (36 + 3) [(0, .ref a), (1, .int cell), (2, .int from_), (3, .int to_), (4, .int stay)] [] (yup G31 a (502, .inr (14, [.int from_, .int to_, .int 0, .ref a5, .int 0, .int 0]))) 0 0
  generalize yup G31 a (502, .inr (14, [.int from_, .int to_, .int 0, .ref a5, .int 0, .int 0])) = G36 at hA36 hB36_a5 hB36_ea23 kt36 ⊢
  refine y_blk 2 tq_X10_init (z := (42, [(0, .ref a), (1, .int cell), (2, .int from_), (3, .int to_), (4, .int stay)], [.int stay, .ref a])) rfl ?_
  refine y_putF hS tq_X10_init rfl fp_X10_37_X10 rfl hA36 (by omega) rfl rfl (Nat.le_of_ble_eq_true rfl) ?_
  have hA42 : (yup G36 a (502, .inr (14, [.int from_, .int to_, .int stay, .ref a5, .int 0, .int 0]))) a = some (502, .inr (14, [.int from_, .int to_, .int stay, .ref a5, .int 0, .int 0])) := yup_s _ _ _
  have hB42_a5 : (yup G36 a (502, .inr (14, [.int from_, .int to_, .int stay, .ref a5, .int 0, .int 0]))) a5 = some (503, .inr (3, [.int (0 + 1), .ref ea23, .int (Int32.ofNat (0 + 1))])) := yup_o hB36_a5 hA36 (by decide)
  have hB42_ea23 : (yup G36 a (502, .inr (14, [.int from_, .int to_, .int stay, .ref a5, .int 0, .int 0]))) ea23 = some (504, .inl (aC 4, 10, .inr (.inr (.inr (.inr (yel (fun i => if i = 0 then (ic cell) else 0) (0 + 1))))))) := yup_o hB36_ea23 hA36 (by decide)
  have kt42 : yTg kA G (yup G36 a (502, .inr (14, [.int from_, .int to_, .int stay, .ref a5, .int 0, .int 0]))) := (kt36).trans (yTg.up hA36 (by decide))
  show Y l S0 D K_X10_init 16 2 13 (fun r G1 => r = none ∧ ∃ la ea : Nat, G1 a = some (502, .inr (14, [.int from_, .int to_, .int stay, .ref la, .int 0, .int 0])) ∧ yLst aC de G1 503 504 la ea true (0 + 1) (0 + 1) (fun i => if i = 0 then ic cell else 0) ∧ yTg kA G G1) (fun _ _ => False) (42 + 3) [(0, .ref a), (1, .int cell), (2, .int from_), (3, .int to_), (4, .int stay)] [] (yup G36 a (502, .inr (14, [.int from_, .int to_, .int stay, .ref a5, .int 0, .int 0]))) 0 0
  generalize yup G36 a (502, .inr (14, [.int from_, .int to_, .int stay, .ref a5, .int 0, .int 0])) = G42 at hA42 hB42_a5 hB42_ea23 kt42 ⊢
  refine y_blk 0 tq_X10_init (z := (45, [(0, .ref a), (1, .int cell), (2, .int from_), (3, .int to_), (4, .int stay)], [])) rfl ?_
  exact y_vret tq_X10_init rfl rfl (⟨rfl, a5, ea23, hA42, ⟨hB42_a5, Or.inl ⟨rfl, by decide, hB42_ea23⟩⟩, kt42⟩)
set_option maxHeartbeats 4000000 in
set_option maxRecDepth 100000 in
theorem m_X11_init {l : Launch} {S0 : State} {A0 : Array Value} {D : va_G} {aC : Nat → ClassId} {ic : Int32 → Nat} {de : Nat} {G : AH} (hS : yS l S0 A0 D aC) (hI : yIc S0 ic de) {a : Nat} (h : G a = some (505, .inr (15, [.int 0, .int 0, .null, .int 0, .int 0]))) (from_ : Int32) (many : Int32) : yM l S0 D yX11_init cX11_init 3 none 16 1 240 [.ref a, .int from_, .int many] G (fun r G1 => r = none ∧ ∃ w : Nat, G1 a = some (505, .inr (15, [.int from_, .int many, .ref w, .int 0, .int (-1)])) ∧ G1 w = some (506, .inl (aC 0, 240, .inl (fun _ => 0))) ∧ yTg kA G G1) (fun _ _ => False) := by
  refine yM.ofK K_X11_init rfl (by decide) (Nat.le_of_ble_eq_true rfl) ?_
  refine y_blk 1 tq_X11_init (z := (1, [(0, .ref a), (1, .int from_), (2, .int many)], [.ref a])) rfl ?_
  refine y_objInit hS tq_X11_init rfl ⟨by decide +kernel, by decide +kernel⟩ (by decide) (by decide) ?_
  refine y_blk 2 tq_X11_init (z := (8, [(0, .ref a), (1, .int from_), (2, .int many)], [.int 240, .ref a])) rfl ?_
  refine y_newa_int 506 hS tq_X11_init (kc := 0) (ks := 0) (n := 240) rfl wd_176 (by decide) (by decide) (by decide) (fun a8 hne8 => ?_)
  have hle8 : yLe G (yup G a8 (506, .inl (aC 0, 240, .inl (fun _ => 0)))) := yLe.new hne8
  have hA8 : (yup G a8 (506, .inl (aC 0, 240, .inl (fun _ => 0)))) a8 = some (506, .inl (aC 0, 240, .inl (fun _ => 0))) := yup_s _ _ _
  have hB8_a : (yup G a8 (506, .inl (aC 0, 240, .inl (fun _ => 0)))) a = some (505, .inr (15, [.int 0, .int 0, .null, .int 0, .int 0])) := hle8 _ _ h
  have kt8 : yTg kA G (yup G a8 (506, .inl (aC 0, 240, .inl (fun _ => 0)))) := ((yTg.rfl' (f := kA) (G := G))).trans (yTg.le hle8)
  generalize yup G a8 (506, .inl (aC 0, 240, .inl (fun _ => 0))) = G8 at hle8 hA8 hB8_a kt8 ⊢
  refine y_blk 0 tq_X11_init (z := (10, [(0, .ref a), (1, .int from_), (2, .int many)], [.ref a8, .ref a])) rfl ?_
  refine y_putF hS tq_X11_init rfl fp_X11_9_X11 rfl hB8_a (by omega) rfl rfl (Nat.le_of_ble_eq_true rfl) ?_
  have hA10 : (yup G8 a (505, .inr (15, [.int 0, .int 0, .ref a8, .int 0, .int 0]))) a = some (505, .inr (15, [.int 0, .int 0, .ref a8, .int 0, .int 0])) := yup_s _ _ _
  have hB10_a8 : (yup G8 a (505, .inr (15, [.int 0, .int 0, .ref a8, .int 0, .int 0]))) a8 = some (506, .inl (aC 0, 240, .inl (fun _ => 0))) := yup_o hA8 hB8_a (by decide)
  have kt10 : yTg kA G (yup G8 a (505, .inr (15, [.int 0, .int 0, .ref a8, .int 0, .int 0]))) := (kt8).trans (yTg.up hB8_a (by decide))
  show Y l S0 D K_X11_init 16 1 240 (fun r G1 => r = none ∧ ∃ w : Nat, G1 a = some (505, .inr (15, [.int from_, .int many, .ref w, .int 0, .int (-1)])) ∧ G1 w = some (506, .inl (aC 0, 240, .inl (fun _ => 0))) ∧ yTg kA G G1) (fun _ _ => False) (10 + 3) [(0, .ref a), (1, .int from_), (2, .int many)] [] (yup G8 a (505, .inr (15, [.int 0, .int 0, .ref a8, .int 0, .int 0]))) 0 0
  generalize yup G8 a (505, .inr (15, [.int 0, .int 0, .ref a8, .int 0, .int 0])) = G10 at hA10 hB10_a8 kt10 ⊢
  refine y_blk 2 tq_X11_init (z := (15, [(0, .ref a), (1, .int from_), (2, .int many)], [.int (-1), .ref a])) rfl ?_
  refine y_put hS tq_X11_init rfl fp_X11_15_X11 hA10 (by omega) rfl rfl (Nat.le_of_ble_eq_true rfl) ?_
  have hA15 : (yup G10 a (505, .inr (15, [.int 0, .int 0, .ref a8, .int 0, .int (-1)]))) a = some (505, .inr (15, [.int 0, .int 0, .ref a8, .int 0, .int (-1)])) := yup_s _ _ _
  have hB15_a8 : (yup G10 a (505, .inr (15, [.int 0, .int 0, .ref a8, .int 0, .int (-1)]))) a8 = some (506, .inl (aC 0, 240, .inl (fun _ => 0))) := yup_o hB10_a8 hA10 (by decide)
  have kt15 : yTg kA G (yup G10 a (505, .inr (15, [.int 0, .int 0, .ref a8, .int 0, .int (-1)]))) := (kt10).trans (yTg.up hA10 (by decide))
  show Y l S0 D K_X11_init 16 1 240 (fun r G1 => r = none ∧ ∃ w : Nat, G1 a = some (505, .inr (15, [.int from_, .int many, .ref w, .int 0, .int (-1)])) ∧ G1 w = some (506, .inl (aC 0, 240, .inl (fun _ => 0))) ∧ yTg kA G G1) (fun _ _ => False) (15 + 3) [(0, .ref a), (1, .int from_), (2, .int many)] [] (yup G10 a (505, .inr (15, [.int 0, .int 0, .ref a8, .int 0, .int (-1)]))) 0 0
  generalize yup G10 a (505, .inr (15, [.int 0, .int 0, .ref a8, .int 0, .int (-1)])) = G15 at hA15 hB15_a8 kt15 ⊢
  refine y_blk 2 tq_X11_init (z := (20, [(0, .ref a), (1, .int from_), (2, .int many)], [.int from_, .ref a])) rfl ?_
  refine y_putF hS tq_X11_init rfl fp_X11_19_X11 rfl hA15 (by omega) rfl rfl (Nat.le_of_ble_eq_true rfl) ?_
  have hA20 : (yup G15 a (505, .inr (15, [.int from_, .int 0, .ref a8, .int 0, .int (-1)]))) a = some (505, .inr (15, [.int from_, .int 0, .ref a8, .int 0, .int (-1)])) := yup_s _ _ _
  have hB20_a8 : (yup G15 a (505, .inr (15, [.int from_, .int 0, .ref a8, .int 0, .int (-1)]))) a8 = some (506, .inl (aC 0, 240, .inl (fun _ => 0))) := yup_o hB15_a8 hA15 (by decide)
  have kt20 : yTg kA G (yup G15 a (505, .inr (15, [.int from_, .int 0, .ref a8, .int 0, .int (-1)]))) := (kt15).trans (yTg.up hA15 (by decide))
  show Y l S0 D K_X11_init 16 1 240 (fun r G1 => r = none ∧ ∃ w : Nat, G1 a = some (505, .inr (15, [.int from_, .int many, .ref w, .int 0, .int (-1)])) ∧ G1 w = some (506, .inl (aC 0, 240, .inl (fun _ => 0))) ∧ yTg kA G G1) (fun _ _ => False) (20 + 3) [(0, .ref a), (1, .int from_), (2, .int many)] [] (yup G15 a (505, .inr (15, [.int from_, .int 0, .ref a8, .int 0, .int (-1)]))) 0 0
  generalize yup G15 a (505, .inr (15, [.int from_, .int 0, .ref a8, .int 0, .int (-1)])) = G20 at hA20 hB20_a8 kt20 ⊢
  refine y_blk 2 tq_X11_init (z := (25, [(0, .ref a), (1, .int from_), (2, .int many)], [.int many, .ref a])) rfl ?_
  refine y_putF hS tq_X11_init rfl fp_X11_22_X11 rfl hA20 (by omega) rfl rfl (Nat.le_of_ble_eq_true rfl) ?_
  have hA25 : (yup G20 a (505, .inr (15, [.int from_, .int many, .ref a8, .int 0, .int (-1)]))) a = some (505, .inr (15, [.int from_, .int many, .ref a8, .int 0, .int (-1)])) := yup_s _ _ _
  have hB25_a8 : (yup G20 a (505, .inr (15, [.int from_, .int many, .ref a8, .int 0, .int (-1)]))) a8 = some (506, .inl (aC 0, 240, .inl (fun _ => 0))) := yup_o hB20_a8 hA20 (by decide)
  have kt25 : yTg kA G (yup G20 a (505, .inr (15, [.int from_, .int many, .ref a8, .int 0, .int (-1)]))) := (kt20).trans (yTg.up hA20 (by decide))
  show Y l S0 D K_X11_init 16 1 240 (fun r G1 => r = none ∧ ∃ w : Nat, G1 a = some (505, .inr (15, [.int from_, .int many, .ref w, .int 0, .int (-1)])) ∧ G1 w = some (506, .inl (aC 0, 240, .inl (fun _ => 0))) ∧ yTg kA G G1) (fun _ _ => False) (25 + 3) [(0, .ref a), (1, .int from_), (2, .int many)] [] (yup G20 a (505, .inr (15, [.int from_, .int many, .ref a8, .int 0, .int (-1)]))) 0 0
  generalize yup G20 a (505, .inr (15, [.int from_, .int many, .ref a8, .int 0, .int (-1)])) = G25 at hA25 hB25_a8 kt25 ⊢
  refine y_blk 0 tq_X11_init (z := (28, [(0, .ref a), (1, .int from_), (2, .int many)], [])) rfl ?_
  exact y_vret tq_X11_init rfl rfl (⟨rfl, a8, hA25, hB25_a8, kt25⟩)
set_option maxHeartbeats 4000000 in
set_option maxRecDepth 100000 in
theorem m_X12_guard {l : Launch} {S0 : State} {A0 : Array Value} {D : va_G} {aC : Nat → ClassId} {ic : Int32 → Nat} {de : Nat} {ad : Nat → Nat} {G : AH} {ρ : RS} (hS : yS l S0 A0 D aC) (hI : yIc S0 ic de) (hX : atR aC ic de ad G ρ) (cell : Int32) (from_ : Int32) (to_ : Int32) (stay : Int32) : yM l S0 D yX12_guard cX12_guard 5 (some .int) 18 4 29 [.ref (ad 200), .int cell, .int from_, .int to_, .int stay] G (fun r G1 => (∃ v : Int32, r = some (.int v)) ∧ ∃ (ad1 : Nat → Nat) (ρ1 : RS), atR aC ic de ad1 G1 ρ1 ∧ ad1 200 = ad 200 ∧ yTg kR G G1 ∧ roGuard cell from_ to_ stay r ρ ρ1) (fun _ _ => False) := by
  refine yM.ofK K_X12_guard rfl (by decide) (Nat.le_of_ble_eq_true rfl) ?_
  refine y_blk 2 tq_X12_guard (z := (2, [(0, .ref (ad 200)), (1, .int cell), (2, .int from_), (3, .int to_), (4, .int stay)], [.int 0, .ref (ad 200)])) rfl ?_
  refine y_put hS tq_X12_guard rfl fp_X12_51_X12 hX.m (by omega) rfl rfl (Nat.le_of_ble_eq_true rfl) ?_
  have hX2 : atR aC ic de ad (yup G (ad 200) (200, .inr (16, [.int 0, .int (rI ρ 1), .int (rI ρ 2), .ref (ad 201), .int (rI ρ 3), .int (rI ρ 4), .ref (ad 210), .ref (ad 211), .ref (ad 212), .ref (ad 213), .int (rI ρ 5), .int (rI ρ 6), .int (rI ρ 7), .ref (ad 202), .ref (ad 214), .int (rI ρ 8), .ref (ad 203), .ref (ad 215), .ref (ad 216), .int (rI ρ 9)]))) ((rin ρ 0 0)) := atR.setIb hX rfl rfl (hX.2.setI (by decide))
  have kt2 : yTg kR G (yup G (ad 200) (200, .inr (16, [.int 0, .int (rI ρ 1), .int (rI ρ 2), .ref (ad 201), .int (rI ρ 3), .int (rI ρ 4), .ref (ad 210), .ref (ad 211), .ref (ad 212), .ref (ad 213), .int (rI ρ 5), .int (rI ρ 6), .int (rI ρ 7), .ref (ad 202), .ref (ad 214), .int (rI ρ 8), .ref (ad 203), .ref (ad 215), .ref (ad 216), .int (rI ρ 9)]))) := ((yTg.rfl' (f := kR) (G := G))).trans (yTg.up hX.m (kR_n (by omega) (by omega)))
  show Y l S0 D K_X12_guard 18 4 29 (fun r G1 => (∃ v : Int32, r = some (.int v)) ∧ ∃ (ad1 : Nat → Nat) (ρ1 : RS), atR aC ic de ad1 G1 ρ1 ∧ ad1 200 = ad 200 ∧ yTg kR G G1 ∧ roGuard cell from_ to_ stay r ρ ρ1) (fun _ _ => False) (2 + 3) [(0, .ref (ad 200)), (1, .int cell), (2, .int from_), (3, .int to_), (4, .int stay)] [] (yup G (ad 200) (200, .inr (16, [.int 0, .int (rI ρ 1), .int (rI ρ 2), .ref (ad 201), .int (rI ρ 3), .int (rI ρ 4), .ref (ad 210), .ref (ad 211), .ref (ad 212), .ref (ad 213), .int (rI ρ 5), .int (rI ρ 6), .int (rI ρ 7), .ref (ad 202), .ref (ad 214), .int (rI ρ 8), .ref (ad 203), .ref (ad 215), .ref (ad 216), .int (rI ρ 9)]))) 4 29
  generalize yup G (ad 200) (200, .inr (16, [.int 0, .int (rI ρ 1), .int (rI ρ 2), .ref (ad 201), .int (rI ρ 3), .int (rI ρ 4), .ref (ad 210), .ref (ad 211), .ref (ad 212), .ref (ad 213), .int (rI ρ 5), .int (rI ρ 6), .int (rI ρ 7), .ref (ad 202), .ref (ad 214), .int (rI ρ 8), .ref (ad 203), .ref (ad 215), .ref (ad 216), .int (rI ρ 9)])) = G2 at hX2 kt2 ⊢
  refine y_blk 2 tq_X12_guard (z := (7, [(0, .ref (ad 200)), (1, .int cell), (2, .int from_), (3, .int to_), (4, .int stay)], [.int cell, .ref (ad 200)])) rfl ?_
  refine y_callV hS tq_X12_guard rfl (As := [.int cell]) rfl cv_X12_157 hX2.m (m_X12_isCell hS hI hX2 cell) rfl (by decide) (Nat.le_of_ble_eq_true rfl) (fun r7 Gc7 q7 => ?_) (fun E9 G9 h9 => h9.elim)
  obtain ⟨rfl, eG7⟩ := q7
  have eG7 := eG7.symm
  subst eG7
  refine y_blk 0 tq_X12_guard (z := (10, [(0, .ref (ad 200)), (1, .int cell), (2, .int from_), (3, .int to_), (4, .int stay)], [.int (if 0 ≤ cell ∧ cell ≤ (Int32.ofNat (rZ ((rin ρ 0 0)) 201)) - 1 then 1 else 0)])) rfl ?_
  refine y_if_ne tq_X12_guard 19 rfl rfl (fun c10 => ?_) (fun c10 => ?_)
  · skip
    have hq10 := yif1 c10
    have hn10 := yinN (n := rZ ((rin ρ 0 0)) 201) (by have := hX2.2.n64; omega) hq10
    have ha10 := hn10.1
    have hb10 := hn10.2
    refine y_blk 1 tq_X12_guard (z := (20, [(0, .ref (ad 200)), (1, .int cell), (2, .int from_), (3, .int to_), (4, .int stay)], [.int from_])) rfl ?_
    refine y_callS hS tq_X12_guard rfl (As := [.int from_]) rfl cs_X12_163 (m_X12_isMinute hS from_) rfl (by decide) (Nat.le_of_ble_eq_true rfl) (fun r20 Gc20 q20 => ?_) (fun E9 G9 h9 => h9.elim)
    obtain ⟨rfl, eG20⟩ := q20
    have eG20 := eG20.symm
    subst eG20
    refine y_blk 0 tq_X12_guard (z := (23, [(0, .ref (ad 200)), (1, .int cell), (2, .int from_), (3, .int to_), (4, .int stay)], [.int (if 0 ≤ from_ ∧ from_ ≤ 239 then 1 else 0)])) rfl ?_
    refine y_if_eq tq_X12_guard 48 rfl rfl (fun c23 => ?_) (fun c23 => ?_)
    · skip
      refine y_blk 2 tq_X12_guard (z := (50, [(0, .ref (ad 200)), (1, .int cell), (2, .int from_), (3, .int to_), (4, .int stay)], [.int 2, .ref (ad 200)])) rfl ?_
      refine y_callV hS tq_X12_guard rfl (As := [.int 2]) rfl cv_X12_140 hX2.m (m_X12_no hS hI hX2 2) rfl (by decide) (Nat.le_of_ble_eq_true rfl) (fun r50 Gc50 q50 => ?_) (fun E9 G9 h9 => h9.elim)
      obtain ⟨rfl, hX50, kt50_⟩ := q50
      have kt50 := (kt2).trans kt50_
      refine y_blk 0 tq_X12_guard (z := (53, [(0, .ref (ad 200)), (1, .int cell), (2, .int from_), (3, .int to_), (4, .int stay)], [.int 0])) rfl ?_
      exact y_iret tq_X12_guard rfl rfl (⟨⟨_, rfl⟩, ad, _, hX50, rfl, kt50, Or.inr (Or.inr (Or.inl (⟨⟨yif1 c10, (by first | exact fun q => rif c45 q.2.2 | exact fun q => rif c34 q.2.1 | exact fun q => rif c23 q.1)⟩, rfl, (rSm.in0 (rSm.in0 rSm.rfl'))⟩)))⟩)
    · skip
      have hq23 := yif1 c23
      simp only [yle, yl_m1, yl_0, yl_1, yl_2, yl_3, yl_4, yl_5, yl_6, yl_7, yl_8, yl_9, yl_10, yl_11, yl_12, yl_60, yl_90, yl_239, yl_240] at hq23
      have ha23 := hq23.1
      have hb23 := hq23.2
      refine y_blk 3 tq_X12_guard (z := (31, [(0, .ref (ad 200)), (1, .int cell), (2, .int from_), (3, .int to_), (4, .int stay)], [.int 239, .int from_, .int to_])) rfl ?_
      refine y_callS hS tq_X12_guard rfl (As := [.int to_, .int from_, .int 239]) rfl cs_X12_54 (m_X12_in hS to_ from_ 239) rfl (by decide) (Nat.le_of_ble_eq_true rfl) (fun r31 Gc31 q31 => ?_) (fun E9 G9 h9 => h9.elim)
      obtain ⟨rfl, eG31⟩ := q31
      have eG31 := eG31.symm
      subst eG31
      refine y_blk 0 tq_X12_guard (z := (34, [(0, .ref (ad 200)), (1, .int cell), (2, .int from_), (3, .int to_), (4, .int stay)], [.int (if from_ ≤ to_ ∧ to_ ≤ 239 then 1 else 0)])) rfl ?_
      refine y_if_eq tq_X12_guard 48 rfl rfl (fun c34 => ?_) (fun c34 => ?_)
      · skip
        refine y_blk 2 tq_X12_guard (z := (50, [(0, .ref (ad 200)), (1, .int cell), (2, .int from_), (3, .int to_), (4, .int stay)], [.int 2, .ref (ad 200)])) rfl ?_
        refine y_callV hS tq_X12_guard rfl (As := [.int 2]) rfl cv_X12_140 hX2.m (m_X12_no hS hI hX2 2) rfl (by decide) (Nat.le_of_ble_eq_true rfl) (fun r50 Gc50 q50 => ?_) (fun E9 G9 h9 => h9.elim)
        obtain ⟨rfl, hX50, kt50_⟩ := q50
        have kt50 := (kt2).trans kt50_
        refine y_blk 0 tq_X12_guard (z := (53, [(0, .ref (ad 200)), (1, .int cell), (2, .int from_), (3, .int to_), (4, .int stay)], [.int 0])) rfl ?_
        exact y_iret tq_X12_guard rfl rfl (⟨⟨_, rfl⟩, ad, _, hX50, rfl, kt50, Or.inr (Or.inr (Or.inl (⟨⟨yif1 c10, (by first | exact fun q => rif c45 q.2.2 | exact fun q => rif c34 q.2.1 | exact fun q => rif c23 q.1)⟩, rfl, (rSm.in0 (rSm.in0 rSm.rfl'))⟩)))⟩)
      · skip
        have hq34 := yif1 c34
        simp only [yle, yl_m1, yl_0, yl_1, yl_2, yl_3, yl_4, yl_5, yl_6, yl_7, yl_8, yl_9, yl_10, yl_11, yl_12, yl_60, yl_90, yl_239, yl_240] at hq34
        have ha34 := hq34.1
        have hb34 := hq34.2
        refine y_blk 3 tq_X12_guard (z := (42, [(0, .ref (ad 200)), (1, .int cell), (2, .int from_), (3, .int to_), (4, .int stay)], [.int 20, .int 1, .int stay])) rfl ?_
        refine y_callS hS tq_X12_guard rfl (As := [.int stay, .int 1, .int 20]) rfl cs_X12_54 (m_X12_in hS stay 1 20) rfl (by decide) (Nat.le_of_ble_eq_true rfl) (fun r42 Gc42 q42 => ?_) (fun E9 G9 h9 => h9.elim)
        obtain ⟨rfl, eG42⟩ := q42
        have eG42 := eG42.symm
        subst eG42
        refine y_blk 0 tq_X12_guard (z := (45, [(0, .ref (ad 200)), (1, .int cell), (2, .int from_), (3, .int to_), (4, .int stay)], [.int (if 1 ≤ stay ∧ stay ≤ 20 then 1 else 0)])) rfl ?_
        refine y_if_ne tq_X12_guard 54 rfl rfl (fun c45 => ?_) (fun c45 => ?_)
        · skip
          have hq45 := yif1 c45
          simp only [yle, yl_m1, yl_0, yl_1, yl_2, yl_3, yl_4, yl_5, yl_6, yl_7, yl_8, yl_9, yl_10, yl_11, yl_12, yl_60, yl_90, yl_239, yl_240] at hq45
          have ha45 := hq45.1
          have hb45 := hq45.2
          refine y_blk 1 tq_X12_guard (z := (55, [(0, .ref (ad 200)), (1, .int cell), (2, .int from_), (3, .int to_), (4, .int stay)], [.ref (ad 200)])) rfl ?_
          refine y_get hS tq_X12_guard (v := .ref (ad 212)) rfl fg_X12_27_X12 hX2.m rfl ?_
          refine y_blk 0 tq_X12_guard (z := (58, [(0, .ref (ad 200)), (1, .int cell), (2, .int from_), (3, .int to_), (4, .int stay)], [.ref (ad 212)])) rfl ?_
          refine y_callF hS tq_X12_guard rfl (As := []) rfl cf_X12_58 (Or.inl ⟨_, (hX2.ls 212 (by decide)).1⟩) (m_Jsize hS (hX2.ls 212 (by decide))) rfl (by decide) (Nat.le_of_ble_eq_true rfl) (fun r58 Gc58 q58 => ?_) (fun _ _ h9 => h9.elim)
          obtain ⟨rfl, eG58⟩ := q58
          have eG58 := eG58.symm
          subst eG58
          refine y_blk 1 tq_X12_guard (z := (65, [(0, .ref (ad 200)), (1, .int cell), (2, .int from_), (3, .int to_), (4, .int stay)], [.int 6, .int (Int32.ofNat (rZ ((rin ρ 0 0)) 212))])) rfl ?_
          refine y_icmp_eq tq_X12_guard 78 rfl rfl (fun c65 => ?_) (fun c65 => ?_)
          · skip
            refine y_blk 2 tq_X12_guard (z := (80, [(0, .ref (ad 200)), (1, .int cell), (2, .int from_), (3, .int to_), (4, .int stay)], [.int 3, .ref (ad 200)])) rfl ?_
            refine y_callV hS tq_X12_guard rfl (As := [.int 3]) rfl cv_X12_140 hX2.m (m_X12_no hS hI hX2 3) rfl (by decide) (Nat.le_of_ble_eq_true rfl) (fun r80 Gc80 q80 => ?_) (fun E9 G9 h9 => h9.elim)
            obtain ⟨rfl, hX80, kt80_⟩ := q80
            have kt80 := (kt2).trans kt80_
            refine y_blk 0 tq_X12_guard (z := (83, [(0, .ref (ad 200)), (1, .int cell), (2, .int from_), (3, .int to_), (4, .int stay)], [.int 0])) rfl ?_
            exact y_iret tq_X12_guard rfl rfl (⟨⟨_, rfl⟩, ad, _, hX80, rfl, kt80, Or.inr (Or.inr (Or.inr (⟨⟨yif1 c10, ⟨yif1 c23, yif1 c34, yif1 c45⟩, (by first | exact fun q => q.1 c65 | exact fun q => q.2 c75)⟩, rfl, (rSm.in0 (rSm.in0 rSm.rfl'))⟩)))⟩)
          · skip
            refine y_blk 1 tq_X12_guard (z := (69, [(0, .ref (ad 200)), (1, .int cell), (2, .int from_), (3, .int to_), (4, .int stay)], [.ref (ad 200)])) rfl ?_
            refine y_get hS tq_X12_guard (v := .ref (ad 201)) rfl fg_X12_7_X12 hX2.m rfl ?_
            refine y_blk 1 tq_X12_guard (z := (73, [(0, .ref (ad 200)), (1, .int cell), (2, .int from_), (3, .int to_), (4, .int stay)], [.int cell, .ref (ad 201)])) rfl ?_
            refine y_iald hS tq_X12_guard rfl hX2.ki (by first | exact yIn (by decide) (by decide) | exact yIn (by assumption) (by assumption) | (exact yIn (by omega) (by omega))) ?_
            refine y_blk 1 tq_X12_guard (z := (75, [(0, .ref (ad 200)), (1, .int cell), (2, .int from_), (3, .int to_), (4, .int stay)], [.int 1, .int ((rV ((rin ρ 0 0)) 201) (Int32.toNatClampNeg cell))])) rfl ?_
            refine y_icmp_ne tq_X12_guard 84 rfl rfl (fun c75 => ?_) (fun c75 => ?_)
            · skip
              refine y_blk 1 tq_X12_guard (z := (85, [(0, .ref (ad 200)), (1, .int cell), (2, .int from_), (3, .int to_), (4, .int stay)], [.ref (ad 200)])) rfl ?_
              refine y_get hS tq_X12_guard (v := .ref (ad 212)) rfl fg_X12_27_X12 hX2.m rfl ?_
              refine y_blk 0 tq_X12_guard (z := (88, [(0, .ref (ad 200)), (1, .int cell), (2, .int from_), (3, .int to_), (4, .int stay)], [.ref (ad 212)])) rfl ?_
              refine y_new 502 hS tq_X12_guard (kc := 3) (ks := 23) rfl nw_X12_84 (fun a88 hne88 => ?_)
              have hle88 : yLe G2 (yup G2 a88 (502, .inr (14, [.int 0, .int 0, .int 0, .null, .int 0, .int 0]))) := yLe.new hne88
              have hA88 : (yup G2 a88 (502, .inr (14, [.int 0, .int 0, .int 0, .null, .int 0, .int 0]))) a88 = some (502, .inr (14, [.int 0, .int 0, .int 0, .null, .int 0, .int 0])) := yup_s _ _ _
              have hX88 := hX2.kp (yTg.le hle88)
              have kt88 : yTg kR G (yup G2 a88 (502, .inr (14, [.int 0, .int 0, .int 0, .null, .int 0, .int 0]))) := (kt2).trans (yTg.le hle88)
              generalize yup G2 a88 (502, .inr (14, [.int 0, .int 0, .int 0, .null, .int 0, .int 0])) = G88 at hle88 hA88 hX88 kt88 ⊢
              refine y_blk 5 tq_X12_guard (z := (97, [(0, .ref (ad 200)), (1, .int cell), (2, .int from_), (3, .int to_), (4, .int stay)], [.int stay, .int to_, .int from_, .int cell, .ref a88, .ref a88, .ref (ad 212)])) rfl ?_
              refine y_callI hS tq_X12_guard rfl (As := [.int cell, .int from_, .int to_, .int stay]) rfl ci_X12_173 (m_X10_init hS hI hA88 cell from_ to_ stay (rcell.sm hX88.2 hn10)) rfl (by decide) (Nat.le_of_ble_eq_true rfl) (fun r97 Gc97 q97 => ?_) (fun _ _ h9 => h9.elim)
              obtain ⟨rfl, la97, ea97, hO97, hy97, kt97_⟩ := q97
              have hX97 := hX88.kp (kt97_.narrow kA_R)
              have kt97 := (kt88).trans (kt97_.narrow kR_A)
              refine y_blk 0 tq_X12_guard (z := (100, [(0, .ref (ad 200)), (1, .int cell), (2, .int from_), (3, .int to_), (4, .int stay)], [.ref a88, .ref (ad 212)])) rfl ?_
              have hne100 : rZ ρ 212 ≠ 6 := fun q => c65 (by show Int32.ofNat (rZ ρ 212) = 6; rw [q]; rfl)
              have hz100 : rZ ρ 212 ≤ 6 := hX.2.2.1.2.2.1
              refine m_RaddG0 hS hI hX97 hO97 hy97 (fun G100a hGa100 hLa100 hXa100 hTa100 => ?_)
              refine y_callF hS tq_X12_guard rfl (As := [.ref a88]) rfl cf_X12_166 (Or.inl ⟨_, (hXa100.ls 212 (by decide)).1⟩) (m_RaddG hS hI hXa100 (by show rZ ρ 212 ≤ 5; omega) hGa100 hLa100 hn10 (by omega) (by omega)) rfl (by decide) (Nat.le_of_ble_eq_true rfl) (fun r100 Gc100 q100 => ?_) (fun _ _ h9 => h9.elim)
              obtain ⟨rfl, adn100, hX100, hd100, kt100_⟩ := q100
              have kt100 := ((kt97).trans (hTa100.narrow kR_A)).trans kt100_
              show Y l S0 D K_X12_guard 18 4 29 (fun r G1 => (∃ v : Int32, r = some (.int v)) ∧ ∃ (ad1 : Nat → Nat) (ρ1 : RS), atR aC ic de ad1 G1 ρ1 ∧ ad1 200 = ad 200 ∧ yTg kR G G1 ∧ roGuard cell from_ to_ stay r ρ ρ1) (fun _ _ => False) 105 [(0, .ref (ad 200)), (1, .int cell), (2, .int from_), (3, .int to_), (4, .int stay)] [.int 1] Gc100 0 0
              refine y_blk 2 tq_X12_guard (z := (107, [(0, .ref (ad 200)), (1, .int cell), (2, .int from_), (3, .int to_), (4, .int stay)], [.ref (ad 200)])) rfl ?_
              refine y_get hS tq_X12_guard (v := .ref (adn100 212)) rfl fg_X12_27_X12 (yEq hd100 hX100.m) rfl ?_
              refine y_blk 0 tq_X12_guard (z := (110, [(0, .ref (ad 200)), (1, .int cell), (2, .int from_), (3, .int to_), (4, .int stay)], [.ref (adn100 212)])) rfl ?_
              refine y_callF hS tq_X12_guard rfl (As := []) rfl cf_X12_58 (Or.inl ⟨_, (hX100.ls 212 (by decide)).1⟩) (m_Jsize hS (hX100.ls 212 (by decide))) rfl (by decide) (Nat.le_of_ble_eq_true rfl) (fun r110 Gc110 q110 => ?_) (fun _ _ h9 => h9.elim)
              obtain ⟨rfl, eG110⟩ := q110
              have eG110 := eG110.symm
              subst eG110
              refine y_blk 2 tq_X12_guard (z := (117, [(0, .ref (ad 200)), (1, .int cell), (2, .int from_), (3, .int to_), (4, .int stay)], [.int ((Int32.ofNat (rZ ((rAdd (rgNew ((rin ρ 0 0)) (rZ ((rin ρ 0 0)) 212) (fun n => if n = 0 then from_ else if n = 1 then to_ else if n = 2 then stay else 0) cell (0 + 1)) 212)) 212)) - 1)])) rfl ?_
              exact y_iret tq_X12_guard rfl rfl (⟨⟨_, rfl⟩, adn100, _, hX100, hd100, kt100, Or.inl (⟨yif1 c10, ⟨yif1 c23, yif1 c34, yif1 c45⟩, ⟨c65, c75⟩, rfl, rfl⟩)⟩)
            · skip
              refine y_blk 2 tq_X12_guard (z := (80, [(0, .ref (ad 200)), (1, .int cell), (2, .int from_), (3, .int to_), (4, .int stay)], [.int 3, .ref (ad 200)])) rfl ?_
              refine y_callV hS tq_X12_guard rfl (As := [.int 3]) rfl cv_X12_140 hX2.m (m_X12_no hS hI hX2 3) rfl (by decide) (Nat.le_of_ble_eq_true rfl) (fun r80 Gc80 q80 => ?_) (fun E9 G9 h9 => h9.elim)
              obtain ⟨rfl, hX80, kt80_⟩ := q80
              have kt80 := (kt2).trans kt80_
              refine y_blk 0 tq_X12_guard (z := (83, [(0, .ref (ad 200)), (1, .int cell), (2, .int from_), (3, .int to_), (4, .int stay)], [.int 0])) rfl ?_
              exact y_iret tq_X12_guard rfl rfl (⟨⟨_, rfl⟩, ad, _, hX80, rfl, kt80, Or.inr (Or.inr (Or.inr (⟨⟨yif1 c10, ⟨yif1 c23, yif1 c34, yif1 c45⟩, (by first | exact fun q => q.1 c65 | exact fun q => q.2 c75)⟩, rfl, (rSm.in0 (rSm.in0 rSm.rfl'))⟩)))⟩)
        · skip
          refine y_blk 2 tq_X12_guard (z := (50, [(0, .ref (ad 200)), (1, .int cell), (2, .int from_), (3, .int to_), (4, .int stay)], [.int 2, .ref (ad 200)])) rfl ?_
          refine y_callV hS tq_X12_guard rfl (As := [.int 2]) rfl cv_X12_140 hX2.m (m_X12_no hS hI hX2 2) rfl (by decide) (Nat.le_of_ble_eq_true rfl) (fun r50 Gc50 q50 => ?_) (fun E9 G9 h9 => h9.elim)
          obtain ⟨rfl, hX50, kt50_⟩ := q50
          have kt50 := (kt2).trans kt50_
          refine y_blk 0 tq_X12_guard (z := (53, [(0, .ref (ad 200)), (1, .int cell), (2, .int from_), (3, .int to_), (4, .int stay)], [.int 0])) rfl ?_
          exact y_iret tq_X12_guard rfl rfl (⟨⟨_, rfl⟩, ad, _, hX50, rfl, kt50, Or.inr (Or.inr (Or.inl (⟨⟨yif1 c10, (by first | exact fun q => rif c45 q.2.2 | exact fun q => rif c34 q.2.1 | exact fun q => rif c23 q.1)⟩, rfl, (rSm.in0 (rSm.in0 rSm.rfl'))⟩)))⟩)
  · skip
    refine y_blk 2 tq_X12_guard (z := (15, [(0, .ref (ad 200)), (1, .int cell), (2, .int from_), (3, .int to_), (4, .int stay)], [.int 1, .ref (ad 200)])) rfl ?_
    refine y_callV hS tq_X12_guard rfl (As := [.int 1]) rfl cv_X12_140 hX2.m (m_X12_no hS hI hX2 1) rfl (by decide) (Nat.le_of_ble_eq_true rfl) (fun r15 Gc15 q15 => ?_) (fun E9 G9 h9 => h9.elim)
    obtain ⟨rfl, hX15, kt15_⟩ := q15
    have kt15 := (kt2).trans kt15_
    refine y_blk 0 tq_X12_guard (z := (18, [(0, .ref (ad 200)), (1, .int cell), (2, .int from_), (3, .int to_), (4, .int stay)], [.int 0])) rfl ?_
    exact y_iret tq_X12_guard rfl rfl (⟨⟨_, rfl⟩, ad, _, hX15, rfl, kt15, Or.inr (Or.inl (⟨rif c10, rfl, (rSm.in0 (rSm.in0 rSm.rfl'))⟩))⟩)
set_option maxHeartbeats 4000000 in
set_option maxRecDepth 100000 in
theorem m_X12_intruder {l : Launch} {S0 : State} {A0 : Array Value} {D : va_G} {aC : Nat → ClassId} {ic : Int32 → Nat} {de : Nat} {ad : Nat → Nat} {G : AH} {ρ : RS} (hS : yS l S0 A0 D aC) (hI : yIc S0 ic de) (hX : atR aC ic de ad G ρ) (cell : Int32) (minute : Int32) (moves : Int32) : yM l S0 D yX12_intruder cX12_intruder 8 (some .int) 18 3 255 [.ref (ad 200), .int cell, .int minute, .int moves] G (fun r G1 => (∃ v : Int32, r = some (.int v)) ∧ ∃ (ad1 : Nat → Nat) (ρ1 : RS), atR aC ic de ad1 G1 ρ1 ∧ ad1 200 = ad 200 ∧ yTg kR G G1 ∧ roIntr cell minute moves r ρ ρ1) (fun _ _ => False) := by
  refine yM.ofK K_X12_intruder rfl (by decide) (Nat.le_of_ble_eq_true rfl) ?_
  have J75 : ∀ (n75 : Nat) (v75_4 : Nat) (v75_5 : Int32) (v75_6 : Int32) (G75 : AH) (s75 : RS) (w75 : Nat) (fw75 : Nat → Int32) (mn75 : Int32) (hX75 : atR aC ic de ad G75 s75) (kt75 : yTg kR G G75) (r975 : rSm ρ s75) (pO75 : G75 v75_4 = some (505, .inr (15, [.int minute, .int mn75, .ref w75, .int 0, .int (-1)]))) (pW75 : G75 w75 = some (506, .inl (aC 0, 240, .inl fw75))) (hc5_75 : rcell s75 v75_5) (hm0_75 : minute.toInt ≤ v75_6.toInt) (hm9_75 : 0 ≤ minute.toInt) (hw_75 : ∀ j : Nat, minute.toInt ≤ (j : Int) → (j : Int) < v75_6.toInt → rcell s75 (fw75 j)) (hz_75 : s75 = rin ρ 0 0) (hmv_75 : 0 ≤ moves.toInt) (hmn_75 : mn75 = Int32.ofNat (ndg moves.toInt.toNat)) (hok_75 : OKR ρ cell ∧ (OKm minute ∧ 0 ≤ moves)) (hfu_75 : ¬ Int32.ofNat (rZ ρ 215) = 4) (hwk_75 : rwk ρ cell minute moves fw75 v75_5 v75_6) (hq_75 : rZ s75 215 ≤ 3), ((239 : Int32).toInt + 1 - v75_6.toInt).toNat = n75 → Y l S0 D K_X12_intruder 18 3 255 (fun r G1 => (∃ v : Int32, r = some (.int v)) ∧ ∃ (ad1 : Nat → Nat) (ρ1 : RS), atR aC ic de ad1 G1 ρ1 ∧ ad1 200 = ad 200 ∧ yTg kR G G1 ∧ roIntr cell minute moves r ρ ρ1) (fun _ _ => False) 75 [(0, .ref (ad 200)), (1, .int cell), (2, .int minute), (3, .int moves), (4, .ref v75_4), (5, .int v75_5), (6, .int v75_6)] [] G75 1 10 := by
    intro n75
    induction n75 using Nat.strongRecOn with
    | _ n75 ih75 =>
    intro v75_4 v75_5 v75_6 G75 s75 w75 fw75 mn75 hX75 kt75 r975 pO75 pW75 hc5_75 hm0_75 hm9_75 hw_75 hz_75 hmv_75 hmn_75 hok_75 hfu_75 hwk_75 hq_75 hn75
    subst hn75
    have J126 : ∀ (v126_5 : Int32) (v126_7 : Int32) (hd_126 : v126_5 = -1 ∨ rcell s75 v126_5) (hat_126 : v126_5 = rhw ρ cell moves.toInt.toNat (v75_6.toInt - minute.toInt).toNat) (c80 : ¬ (239 : Int32) < v75_6), Y l S0 D K_X12_intruder 18 3 255 (fun r G1 => (∃ v : Int32, r = some (.int v)) ∧ ∃ (ad1 : Nat → Nat) (ρ1 : RS), atR aC ic de ad1 G1 ρ1 ∧ ad1 200 = ad 200 ∧ yTg kR G G1 ∧ roIntr cell minute moves r ρ ρ1) (fun _ _ => False) 126 [(0, .ref (ad 200)), (1, .int cell), (2, .int minute), (3, .int moves), (4, .ref v75_4), (5, .int v126_5), (6, .int v75_6), (7, .int v126_7)] [] G75 1 10 := by
      intro v126_5 v126_7 hd_126 hat_126 c80
      have b80 : v75_6.toInt ≤ 239 := by rw [ylt] at c80; have z9 : (239 : Int32).toInt = 239 := (by decide); omega
      refine y_blk 2 tq_X12_intruder (z := (129, [(0, .ref (ad 200)), (1, .int cell), (2, .int minute), (3, .int moves), (4, .ref v75_4), (5, .int v126_5), (6, .int v75_6), (7, .int v126_7)], [.int (-1), .int v126_5])) rfl ?_
      refine y_icmp_eq tq_X12_intruder 143 rfl rfl (fun c129 => ?_) (fun c129 => ?_)
      · skip
        refine y_blk 2 tq_X12_intruder (z := (145, [(0, .ref (ad 200)), (1, .int cell), (2, .int minute), (3, .int moves), (4, .ref v75_4), (5, .int v126_5), (6, .int v75_6), (7, .int v126_7)], [.int 3, .ref (ad 200)])) rfl ?_
        refine y_callV hS tq_X12_intruder rfl (As := [.int 3]) rfl cv_X12_140 hX75.m (m_X12_no hS hI hX75 3) rfl (by decide) (Nat.le_of_ble_eq_true rfl) (fun r145 Gc145 q145 => ?_) (fun E9 G9 h9 => h9.elim)
        obtain ⟨rfl, hX145, kt145_⟩ := q145
        have kt145 := (kt75).trans kt145_
        refine y_blk 0 tq_X12_intruder (z := (148, [(0, .ref (ad 200)), (1, .int cell), (2, .int minute), (3, .int moves), (4, .ref v75_4), (5, .int v126_5), (6, .int v75_6), (7, .int v126_7)], [.int 0])) rfl ?_
        exact y_iret tq_X12_intruder rfl rfl (⟨⟨_, rfl⟩, ad, _, hX145, rfl, kt145, Or.inr (Or.inr (Or.inr (⟨⟨hok_75, Or.inr (rhw_bad hm0_75 b80 hat_126 (by first | exact Or.inl c129 | exact Or.inr c140) hz_75)⟩, rfl, (rSm.in0 r975)⟩)))⟩)
      · skip
        have hcc := hd_126.resolve_left c129
        have hcc0 := hcc.1
        have hcc1 := hcc.2
        refine y_blk 1 tq_X12_intruder (z := (133, [(0, .ref (ad 200)), (1, .int cell), (2, .int minute), (3, .int moves), (4, .ref v75_4), (5, .int v126_5), (6, .int v75_6), (7, .int v126_7)], [.ref (ad 200)])) rfl ?_
        refine y_get hS tq_X12_intruder (v := .ref (ad 201)) rfl fg_X12_7_X12 hX75.m rfl ?_
        refine y_blk 1 tq_X12_intruder (z := (138, [(0, .ref (ad 200)), (1, .int cell), (2, .int minute), (3, .int moves), (4, .ref v75_4), (5, .int v126_5), (6, .int v75_6), (7, .int v126_7)], [.int v126_5, .ref (ad 201)])) rfl ?_
        refine y_iald hS tq_X12_intruder rfl hX75.ki (by first | exact yIn (by decide) (by decide) | exact yIn (by assumption) (by assumption) | (exact yIn (by omega) (by omega))) ?_
        refine y_blk 1 tq_X12_intruder (z := (140, [(0, .ref (ad 200)), (1, .int cell), (2, .int minute), (3, .int moves), (4, .ref v75_4), (5, .int v126_5), (6, .int v75_6), (7, .int v126_7)], [.int 1, .int ((rV s75 201) (Int32.toNatClampNeg v126_5))])) rfl ?_
        refine y_icmp_ne tq_X12_intruder 149 rfl rfl (fun c140 => ?_) (fun c140 => ?_)
        · skip
          refine y_blk 1 tq_X12_intruder (z := (151, [(0, .ref (ad 200)), (1, .int cell), (2, .int minute), (3, .int moves), (4, .ref v75_4), (5, .int v126_5), (6, .int v75_6), (7, .int v126_7)], [.ref v75_4])) rfl ?_
          refine y_get hS tq_X12_intruder (v := .ref w75) rfl fg_X12_243_X11 pO75 rfl ?_
          refine y_blk 2 tq_X12_intruder (z := (158, [(0, .ref (ad 200)), (1, .int cell), (2, .int minute), (3, .int moves), (4, .ref v75_4), (5, .int v126_5), (6, .int v75_6), (7, .int v126_7)], [.int v126_5, .int v75_6, .ref w75])) rfl ?_
          refine y_iast hS tq_X12_intruder rfl pW75 (by decide) (by exact yIn (by omega) (by omega)) ?_
          have hA158 : (yup G75 w75 (506, .inl (aC 0, 240, .inl (upd fw75 (Int32.toNatClampNeg v75_6) v126_5)))) w75 = some (506, .inl (aC 0, 240, .inl (upd fw75 (Int32.toNatClampNeg v75_6) v126_5))) := yup_s _ _ _
          have hX158 : atR aC ic de ad (yup G75 w75 (506, .inl (aC 0, 240, .inl (upd fw75 (Int32.toNatClampNeg v75_6) v126_5)))) s75 := hX75.kp (yTg.up pW75 (by decide))
          have kt158 : yTg kR G (yup G75 w75 (506, .inl (aC 0, 240, .inl (upd fw75 (Int32.toNatClampNeg v75_6) v126_5)))) := (kt75).trans (yTg.up pW75 (by decide))
          have hB158_v75_4 : (yup G75 w75 (506, .inl (aC 0, 240, .inl (upd fw75 (Int32.toNatClampNeg v75_6) v126_5)))) v75_4 = some (505, .inr (15, [.int minute, .int mn75, .ref w75, .int 0, .int (-1)])) := yup_o pO75 pW75 (by decide)
          generalize yup G75 w75 (506, .inl (aC 0, 240, .inl (upd fw75 (Int32.toNatClampNeg v75_6) v126_5))) = G158 at hA158 hX158 kt158 hB158_v75_4 ⊢
          refine y_blk 2 tq_X12_intruder (z := (75, [(6, .int (v75_6 + 1)), (0, .ref (ad 200)), (1, .int cell), (2, .int minute), (3, .int moves), (4, .ref v75_4), (5, .int v126_5), (7, .int v126_7)], [])) rfl ?_
          refine y_pick (L2 := [(0, .ref (ad 200)), (1, .int cell), (2, .int minute), (3, .int moves), (4, .ref v75_4), (5, .int v126_5), (6, .int (v75_6 + 1))]) [1, 2, 3, 4, 5, 6, 0] rfl ?_
          exact ih75 _ (by exact ydec2 c80 (by decide)) v75_4 v126_5 (v75_6 + 1) G158 s75 w75 (upd fw75 (Int32.toNatClampNeg v75_6) v126_5) mn75 hX158 kt158 r975 hB158_v75_4 hA158 (by first | assumption | exact hn10) (by first | assumption | exact Int.le_refl _ | exact yposgtL (by assumption) c80 (by decide)) (by first | assumption | omega) (by first | assumption | exact yway0 | exact yway1 hm9_75 hm0_75 b80 hw_75 (by assumption)) (by first | assumption | rfl) (by first | assumption | (have z9 := yle.mp c27; have z0 : (0 : Int32).toInt = 0 := (by decide); omega)) (by first | assumption | rfl) (by first | assumption | exact ⟨yif1 c10, yif1 c23, c27⟩) (by first | assumption | exact c46) (by first | exact hwk_75.step hm9_75 b80 hat_126 c129 c140 hz_75 | exact rwk.init) (by first | assumption | (show rZ ρ 215 ≤ 3; omega)) rfl
        · skip
          refine y_blk 2 tq_X12_intruder (z := (145, [(0, .ref (ad 200)), (1, .int cell), (2, .int minute), (3, .int moves), (4, .ref v75_4), (5, .int v126_5), (6, .int v75_6), (7, .int v126_7)], [.int 3, .ref (ad 200)])) rfl ?_
          refine y_callV hS tq_X12_intruder rfl (As := [.int 3]) rfl cv_X12_140 hX75.m (m_X12_no hS hI hX75 3) rfl (by decide) (Nat.le_of_ble_eq_true rfl) (fun r145 Gc145 q145 => ?_) (fun E9 G9 h9 => h9.elim)
          obtain ⟨rfl, hX145, kt145_⟩ := q145
          have kt145 := (kt75).trans kt145_
          refine y_blk 0 tq_X12_intruder (z := (148, [(0, .ref (ad 200)), (1, .int cell), (2, .int minute), (3, .int moves), (4, .ref v75_4), (5, .int v126_5), (6, .int v75_6), (7, .int v126_7)], [.int 0])) rfl ?_
          exact y_iret tq_X12_intruder rfl rfl (⟨⟨_, rfl⟩, ad, _, hX145, rfl, kt145, Or.inr (Or.inr (Or.inr (⟨⟨hok_75, Or.inr (rhw_bad hm0_75 b80 hat_126 (by first | exact Or.inl c129 | exact Or.inr c140) hz_75)⟩, rfl, (rSm.in0 r975)⟩)))⟩)
    refine y_blk 2 tq_X12_intruder (z := (80, [(0, .ref (ad 200)), (1, .int cell), (2, .int minute), (3, .int moves), (4, .ref v75_4), (5, .int v75_5), (6, .int v75_6)], [.int 239, .int v75_6])) rfl ?_
    refine y_icmp_gt tq_X12_intruder 165 rfl rfl (fun c80 => ?_) (fun c80 => ?_)
    · skip
      refine y_blk 1 tq_X12_intruder (z := (166, [(0, .ref (ad 200)), (1, .int cell), (2, .int minute), (3, .int moves), (4, .ref v75_4), (5, .int v75_5), (6, .int v75_6)], [.ref (ad 200)])) rfl ?_
      refine y_get hS tq_X12_intruder (v := .ref (ad 215)) rfl fg_X12_42_X12 hX75.m rfl ?_
      refine y_blk 1 tq_X12_intruder (z := (171, [(0, .ref (ad 200)), (1, .int cell), (2, .int minute), (3, .int moves), (4, .ref v75_4), (5, .int v75_5), (6, .int v75_6)], [.ref v75_4, .ref (ad 215)])) rfl ?_
      refine m_RaddN0 hS hI hX75 pO75 pW75 (fun G171a hGa171 hWa171 hXa171 hTa171 => ?_)
      refine y_callF hS tq_X12_intruder rfl (As := [.ref v75_4]) rfl cf_X12_166 (Or.inl ⟨_, (hXa171.ls 215 (by decide)).1⟩) (m_RaddN hS hI hXa171 hq_75 hGa171 hWa171 hm9_75 (yway2 c80 hw_75)) rfl (by decide) (Nat.le_of_ble_eq_true rfl) (fun r171 Gc171 q171 => ?_) (fun _ _ h9 => h9.elim)
      obtain ⟨rfl, adn171, hX171, hd171, kt171_⟩ := q171
      have kt171 := ((kt75).trans (hTa171.narrow kR_A)).trans kt171_
      show Y l S0 D K_X12_intruder 18 3 255 (fun r G1 => (∃ v : Int32, r = some (.int v)) ∧ ∃ (ad1 : Nat → Nat) (ρ1 : RS), atR aC ic de ad1 G1 ρ1 ∧ ad1 200 = ad 200 ∧ yTg kR G G1 ∧ roIntr cell minute moves r ρ ρ1) (fun _ _ => False) 176 [(0, .ref (ad 200)), (1, .int cell), (2, .int minute), (3, .int moves), (4, .ref v75_4), (5, .int v75_5), (6, .int v75_6)] [.int 1] Gc171 0 0
      refine y_blk 2 tq_X12_intruder (z := (178, [(0, .ref (ad 200)), (1, .int cell), (2, .int minute), (3, .int moves), (4, .ref v75_4), (5, .int v75_5), (6, .int v75_6)], [.ref (ad 200)])) rfl ?_
      refine y_get hS tq_X12_intruder (v := .ref (adn171 215)) rfl fg_X12_42_X12 (yEq hd171 hX171.m) rfl ?_
      refine y_blk 0 tq_X12_intruder (z := (181, [(0, .ref (ad 200)), (1, .int cell), (2, .int minute), (3, .int moves), (4, .ref v75_4), (5, .int v75_5), (6, .int v75_6)], [.ref (adn171 215)])) rfl ?_
      refine y_callF hS tq_X12_intruder rfl (As := []) rfl cf_X12_58 (Or.inl ⟨_, (hX171.ls 215 (by decide)).1⟩) (m_Jsize hS (hX171.ls 215 (by decide))) rfl (by decide) (Nat.le_of_ble_eq_true rfl) (fun r181 Gc181 q181 => ?_) (fun _ _ h9 => h9.elim)
      obtain ⟨rfl, eG181⟩ := q181
      have eG181 := eG181.symm
      subst eG181
      refine y_blk 2 tq_X12_intruder (z := (188, [(0, .ref (ad 200)), (1, .int cell), (2, .int minute), (3, .int moves), (4, .ref v75_4), (5, .int v75_5), (6, .int v75_6)], [.int ((Int32.ofNat (rZ ((rAdd (rnNew s75 (rZ s75 215) (fun n => if n = 0 then minute else if n = 1 then mn75 else if n = 3 then -1 else 0) fw75) 215)) 215)) - 1)])) rfl ?_
      exact y_iret tq_X12_intruder rfl rfl (⟨⟨_, rfl⟩, adn171, _, hX171, hd171, kt171, Or.inl ((by subst hz_75; subst hmn_75; exact ⟨hok_75, hfu_75, fun p hp => (hwk_75.all c80 p hp).2, rfl, _, fun p hp => (hwk_75.all c80 p hp).1, rfl⟩))⟩)
    · skip
      have b80 : v75_6.toInt ≤ 239 := by rw [ylt] at c80; have z9 : (239 : Int32).toInt = 239 := (by decide); omega
      refine y_blk 9 tq_X12_intruder (z := (96, [(7, .int ((v75_6 - minute) - 1)), (0, .ref (ad 200)), (1, .int cell), (2, .int minute), (3, .int moves), (4, .ref v75_4), (5, .int v75_5), (6, .int v75_6)], [.ref v75_4, .int 0, .int ((v75_6 - minute) - 1)])) rfl ?_
      refine y_get hS tq_X12_intruder (v := .int mn75) rfl fg_X12_234_X11 pO75 rfl ?_
      refine y_blk 2 tq_X12_intruder (z := (101, [(7, .int ((v75_6 - minute) - 1)), (0, .ref (ad 200)), (1, .int cell), (2, .int minute), (3, .int moves), (4, .ref v75_4), (5, .int v75_5), (6, .int v75_6)], [.int (mn75 - 1), .int 0, .int ((v75_6 - minute) - 1)])) rfl ?_
      refine y_callS hS tq_X12_intruder rfl (As := [.int ((v75_6 - minute) - 1), .int 0, .int (mn75 - 1)]) rfl cs_X12_54 (m_X12_in hS ((v75_6 - minute) - 1) 0 (mn75 - 1)) rfl (by decide) (Nat.le_of_ble_eq_true rfl) (fun r101 Gc101 q101 => ?_) (fun E9 G9 h9 => h9.elim)
      obtain ⟨rfl, eG101⟩ := q101
      have eG101 := eG101.symm
      subst eG101
      refine y_blk 0 tq_X12_intruder (z := (104, [(7, .int ((v75_6 - minute) - 1)), (0, .ref (ad 200)), (1, .int cell), (2, .int minute), (3, .int moves), (4, .ref v75_4), (5, .int v75_5), (6, .int v75_6)], [.int (if 0 ≤ ((v75_6 - minute) - 1) ∧ ((v75_6 - minute) - 1) ≤ (mn75 - 1) then 1 else 0)])) rfl ?_
      refine y_if_eq tq_X12_intruder 126 rfl rfl (fun c104 => ?_) (fun c104 => ?_)
      · skip
        refine y_blk 0 tq_X12_intruder (z := (126, [(7, .int ((v75_6 - minute) - 1)), (0, .ref (ad 200)), (1, .int cell), (2, .int minute), (3, .int moves), (4, .ref v75_4), (5, .int v75_5), (6, .int v75_6)], [])) rfl ?_
        refine y_pick (L2 := [(0, .ref (ad 200)), (1, .int cell), (2, .int minute), (3, .int moves), (4, .ref v75_4), (5, .int v75_5), (6, .int v75_6), (7, .int ((v75_6 - minute) - 1))]) [1, 2, 3, 4, 5, 6, 7, 0] rfl ?_
        exact J126 v75_5 ((v75_6 - minute) - 1) (by first | exact Or.inr (by assumption) | exact hr_x121.1) (by first | exact rhw_old hwk_75 hmn_75 b80 hm9_75 c104 | exact rhw_new hwk_75 hmn_75 b80 hm9_75 ha104 hb104 hr_x118 hz_75 hr_x121.2) (by exact c80)
      · skip
        have hq104 := yif1 c104
        simp only [yle, yl_m1, yl_0, yl_1, yl_2, yl_3, yl_4, yl_5, yl_6, yl_7, yl_8, yl_9, yl_10, yl_11, yl_12, yl_60, yl_90, yl_239, yl_240] at hq104
        have ha104 := hq104.1
        have hb104 := hq104.2
        refine y_blk 5 tq_X12_intruder (z := (115, [(7, .int ((v75_6 - minute) - 1)), (0, .ref (ad 200)), (1, .int cell), (2, .int minute), (3, .int moves), (4, .ref v75_4), (5, .int v75_5), (6, .int v75_6)], [.ref v75_4, .int ((v75_6 - minute) - 1), .int moves, .int v75_5, .ref (ad 200)])) rfl ?_
        refine y_get hS tq_X12_intruder (v := .int mn75) rfl fg_X12_234_X11 pO75 rfl ?_
        refine y_blk 0 tq_X12_intruder (z := (118, [(7, .int ((v75_6 - minute) - 1)), (0, .ref (ad 200)), (1, .int cell), (2, .int minute), (3, .int moves), (4, .ref v75_4), (5, .int v75_5), (6, .int v75_6)], [.int mn75, .int ((v75_6 - minute) - 1), .int moves, .int v75_5, .ref (ad 200)])) rfl ?_
        refine y_callS hS tq_X12_intruder rfl (As := [.int moves, .int ((v75_6 - minute) - 1), .int mn75]) rfl cs_X12_237 (m_X12_digit hS moves ((v75_6 - minute) - 1) mn75 hmv_75 ha104 (rnm hmn_75 hb104)) rfl (by decide) (Nat.le_of_ble_eq_true rfl) (fun r118 Gc118 q118 => ?_) (fun E9 G9 h9 => h9.elim)
        obtain ⟨⟨x118, hr_x118, rfl⟩, eG118⟩ := q118
        have eG118 := eG118.symm
        subst eG118
        refine y_blk 0 tq_X12_intruder (z := (121, [(7, .int ((v75_6 - minute) - 1)), (0, .ref (ad 200)), (1, .int cell), (2, .int minute), (3, .int moves), (4, .ref v75_4), (5, .int v75_5), (6, .int v75_6)], [.int x118, .int v75_5, .ref (ad 200)])) rfl ?_
        refine y_callV hS tq_X12_intruder rfl (As := [.int v75_5, .int x118]) rfl cv_X12_240 hX75.m (m_X12_moved hS hI hX75 v75_5 x118 (by first | (with_reducible assumption) | (with_reducible exact hX75.lac (by assumption)) | (with_reducible exact hX75.poc (by assumption)) | (with_reducible exact hX75.wac (by assumption) (by assumption) (by omega)) | assumption | exact hX75.lac (by assumption) | exact hX75.poc (by assumption) | exact hX75.wac (by assumption) (by assumption) (by omega))) rfl (by decide) (Nat.le_of_ble_eq_true rfl) (fun r121 Gc121 q121 => ?_) (fun E9 G9 h9 => h9.elim)
        obtain ⟨⟨x121, hr_x121, rfl⟩, eG121⟩ := q121
        have eG121 := eG121.symm
        subst eG121
        refine y_blk 1 tq_X12_intruder (z := (126, [(5, .int x121), (7, .int ((v75_6 - minute) - 1)), (0, .ref (ad 200)), (1, .int cell), (2, .int minute), (3, .int moves), (4, .ref v75_4), (6, .int v75_6)], [])) rfl ?_
        refine y_pick (L2 := [(0, .ref (ad 200)), (1, .int cell), (2, .int minute), (3, .int moves), (4, .ref v75_4), (5, .int x121), (6, .int v75_6), (7, .int ((v75_6 - minute) - 1))]) [2, 3, 4, 5, 6, 0, 7, 1] rfl ?_
        exact J126 x121 ((v75_6 - minute) - 1) (by first | exact Or.inr (by assumption) | exact hr_x121.1) (by first | exact rhw_old hwk_75 hmn_75 b80 hm9_75 c104 | exact rhw_new hwk_75 hmn_75 b80 hm9_75 ha104 hb104 hr_x118 hz_75 hr_x121.2) (by exact c80)
  refine y_blk 2 tq_X12_intruder (z := (2, [(0, .ref (ad 200)), (1, .int cell), (2, .int minute), (3, .int moves)], [.int 0, .ref (ad 200)])) rfl ?_
  refine y_put hS tq_X12_intruder rfl fp_X12_51_X12 hX.m (by omega) rfl rfl (Nat.le_of_ble_eq_true rfl) ?_
  have hX2 : atR aC ic de ad (yup G (ad 200) (200, .inr (16, [.int 0, .int (rI ρ 1), .int (rI ρ 2), .ref (ad 201), .int (rI ρ 3), .int (rI ρ 4), .ref (ad 210), .ref (ad 211), .ref (ad 212), .ref (ad 213), .int (rI ρ 5), .int (rI ρ 6), .int (rI ρ 7), .ref (ad 202), .ref (ad 214), .int (rI ρ 8), .ref (ad 203), .ref (ad 215), .ref (ad 216), .int (rI ρ 9)]))) ((rin ρ 0 0)) := atR.setIb hX rfl rfl (hX.2.setI (by decide))
  have kt2 : yTg kR G (yup G (ad 200) (200, .inr (16, [.int 0, .int (rI ρ 1), .int (rI ρ 2), .ref (ad 201), .int (rI ρ 3), .int (rI ρ 4), .ref (ad 210), .ref (ad 211), .ref (ad 212), .ref (ad 213), .int (rI ρ 5), .int (rI ρ 6), .int (rI ρ 7), .ref (ad 202), .ref (ad 214), .int (rI ρ 8), .ref (ad 203), .ref (ad 215), .ref (ad 216), .int (rI ρ 9)]))) := ((yTg.rfl' (f := kR) (G := G))).trans (yTg.up hX.m (kR_n (by omega) (by omega)))
  show Y l S0 D K_X12_intruder 18 3 255 (fun r G1 => (∃ v : Int32, r = some (.int v)) ∧ ∃ (ad1 : Nat → Nat) (ρ1 : RS), atR aC ic de ad1 G1 ρ1 ∧ ad1 200 = ad 200 ∧ yTg kR G G1 ∧ roIntr cell minute moves r ρ ρ1) (fun _ _ => False) (2 + 3) [(0, .ref (ad 200)), (1, .int cell), (2, .int minute), (3, .int moves)] [] (yup G (ad 200) (200, .inr (16, [.int 0, .int (rI ρ 1), .int (rI ρ 2), .ref (ad 201), .int (rI ρ 3), .int (rI ρ 4), .ref (ad 210), .ref (ad 211), .ref (ad 212), .ref (ad 213), .int (rI ρ 5), .int (rI ρ 6), .int (rI ρ 7), .ref (ad 202), .ref (ad 214), .int (rI ρ 8), .ref (ad 203), .ref (ad 215), .ref (ad 216), .int (rI ρ 9)]))) 3 255
  generalize yup G (ad 200) (200, .inr (16, [.int 0, .int (rI ρ 1), .int (rI ρ 2), .ref (ad 201), .int (rI ρ 3), .int (rI ρ 4), .ref (ad 210), .ref (ad 211), .ref (ad 212), .ref (ad 213), .int (rI ρ 5), .int (rI ρ 6), .int (rI ρ 7), .ref (ad 202), .ref (ad 214), .int (rI ρ 8), .ref (ad 203), .ref (ad 215), .ref (ad 216), .int (rI ρ 9)])) = G2 at hX2 kt2 ⊢
  refine y_blk 2 tq_X12_intruder (z := (7, [(0, .ref (ad 200)), (1, .int cell), (2, .int minute), (3, .int moves)], [.int cell, .ref (ad 200)])) rfl ?_
  refine y_callV hS tq_X12_intruder rfl (As := [.int cell]) rfl cv_X12_157 hX2.m (m_X12_isCell hS hI hX2 cell) rfl (by decide) (Nat.le_of_ble_eq_true rfl) (fun r7 Gc7 q7 => ?_) (fun E9 G9 h9 => h9.elim)
  obtain ⟨rfl, eG7⟩ := q7
  have eG7 := eG7.symm
  subst eG7
  refine y_blk 0 tq_X12_intruder (z := (10, [(0, .ref (ad 200)), (1, .int cell), (2, .int minute), (3, .int moves)], [.int (if 0 ≤ cell ∧ cell ≤ (Int32.ofNat (rZ ((rin ρ 0 0)) 201)) - 1 then 1 else 0)])) rfl ?_
  refine y_if_ne tq_X12_intruder 19 rfl rfl (fun c10 => ?_) (fun c10 => ?_)
  · skip
    have hq10 := yif1 c10
    have hn10 := yinN (n := rZ ((rin ρ 0 0)) 201) (by have := hX2.2.n64; omega) hq10
    have ha10 := hn10.1
    have hb10 := hn10.2
    refine y_blk 1 tq_X12_intruder (z := (20, [(0, .ref (ad 200)), (1, .int cell), (2, .int minute), (3, .int moves)], [.int minute])) rfl ?_
    refine y_callS hS tq_X12_intruder rfl (As := [.int minute]) rfl cs_X12_163 (m_X12_isMinute hS minute) rfl (by decide) (Nat.le_of_ble_eq_true rfl) (fun r20 Gc20 q20 => ?_) (fun E9 G9 h9 => h9.elim)
    obtain ⟨rfl, eG20⟩ := q20
    have eG20 := eG20.symm
    subst eG20
    refine y_blk 0 tq_X12_intruder (z := (23, [(0, .ref (ad 200)), (1, .int cell), (2, .int minute), (3, .int moves)], [.int (if 0 ≤ minute ∧ minute ≤ 239 then 1 else 0)])) rfl ?_
    refine y_if_eq tq_X12_intruder 30 rfl rfl (fun c23 => ?_) (fun c23 => ?_)
    · skip
      refine y_blk 2 tq_X12_intruder (z := (32, [(0, .ref (ad 200)), (1, .int cell), (2, .int minute), (3, .int moves)], [.int 2, .ref (ad 200)])) rfl ?_
      refine y_callV hS tq_X12_intruder rfl (As := [.int 2]) rfl cv_X12_140 hX2.m (m_X12_no hS hI hX2 2) rfl (by decide) (Nat.le_of_ble_eq_true rfl) (fun r32 Gc32 q32 => ?_) (fun E9 G9 h9 => h9.elim)
      obtain ⟨rfl, hX32, kt32_⟩ := q32
      have kt32 := (kt2).trans kt32_
      refine y_blk 0 tq_X12_intruder (z := (35, [(0, .ref (ad 200)), (1, .int cell), (2, .int minute), (3, .int moves)], [.int 0])) rfl ?_
      exact y_iret tq_X12_intruder rfl rfl (⟨⟨_, rfl⟩, ad, _, hX32, rfl, kt32, Or.inr (Or.inr (Or.inl (⟨⟨yif1 c10, (by first | exact fun q => rif c23 q.1 | exact fun q => c27 q.2)⟩, rfl, (rSm.in0 (rSm.in0 rSm.rfl'))⟩)))⟩)
    · skip
      have hq23 := yif1 c23
      simp only [yle, yl_m1, yl_0, yl_1, yl_2, yl_3, yl_4, yl_5, yl_6, yl_7, yl_8, yl_9, yl_10, yl_11, yl_12, yl_60, yl_90, yl_239, yl_240] at hq23
      have ha23 := hq23.1
      have hb23 := hq23.2
      refine y_blk 1 tq_X12_intruder (z := (27, [(0, .ref (ad 200)), (1, .int cell), (2, .int minute), (3, .int moves)], [.int moves])) rfl ?_
      refine y_if_ge tq_X12_intruder 36 rfl rfl (fun c27 => ?_) (fun c27 => ?_)
      · skip
        refine y_blk 1 tq_X12_intruder (z := (37, [(0, .ref (ad 200)), (1, .int cell), (2, .int minute), (3, .int moves)], [.ref (ad 200)])) rfl ?_
        refine y_get hS tq_X12_intruder (v := .ref (ad 215)) rfl fg_X12_42_X12 hX2.m rfl ?_
        refine y_blk 0 tq_X12_intruder (z := (40, [(0, .ref (ad 200)), (1, .int cell), (2, .int minute), (3, .int moves)], [.ref (ad 215)])) rfl ?_
        refine y_callF hS tq_X12_intruder rfl (As := []) rfl cf_X12_58 (Or.inl ⟨_, (hX2.ls 215 (by decide)).1⟩) (m_Jsize hS (hX2.ls 215 (by decide))) rfl (by decide) (Nat.le_of_ble_eq_true rfl) (fun r40 Gc40 q40 => ?_) (fun _ _ h9 => h9.elim)
        obtain ⟨rfl, eG40⟩ := q40
        have eG40 := eG40.symm
        subst eG40
        refine y_blk 1 tq_X12_intruder (z := (46, [(0, .ref (ad 200)), (1, .int cell), (2, .int minute), (3, .int moves)], [.int 4, .int (Int32.ofNat (rZ ((rin ρ 0 0)) 215))])) rfl ?_
        refine y_icmp_ne tq_X12_intruder 55 rfl rfl (fun c46 => ?_) (fun c46 => ?_)
        · skip
          have hne46 : rZ ρ 215 ≠ 4 := fun q => c46 (by show Int32.ofNat (rZ ρ 215) = 4; rw [q]; rfl)
          have hz46 : rZ ρ 215 ≤ 4 := hX.2.2.1.2.2.2.2.2.1
          refine y_blk 0 tq_X12_intruder (z := (55, [(0, .ref (ad 200)), (1, .int cell), (2, .int minute), (3, .int moves)], [])) rfl ?_
          refine y_new 505 hS tq_X12_intruder (kc := 2) (ks := 250) rfl nw_X12_152 (fun a55 hne55 => ?_)
          have hle55 : yLe G2 (yup G2 a55 (505, .inr (15, [.int 0, .int 0, .null, .int 0, .int 0]))) := yLe.new hne55
          have hA55 : (yup G2 a55 (505, .inr (15, [.int 0, .int 0, .null, .int 0, .int 0]))) a55 = some (505, .inr (15, [.int 0, .int 0, .null, .int 0, .int 0])) := yup_s _ _ _
          have hX55 := hX2.kp (yTg.le hle55)
          have kt55 : yTg kR G (yup G2 a55 (505, .inr (15, [.int 0, .int 0, .null, .int 0, .int 0]))) := (kt2).trans (yTg.le hle55)
          generalize yup G2 a55 (505, .inr (15, [.int 0, .int 0, .null, .int 0, .int 0])) = G55 at hle55 hA55 hX55 kt55 ⊢
          refine y_blk 3 tq_X12_intruder (z := (61, [(0, .ref (ad 200)), (1, .int cell), (2, .int minute), (3, .int moves)], [.int moves, .int minute, .ref a55, .ref a55])) rfl ?_
          refine y_callS hS tq_X12_intruder rfl (As := [.int moves]) rfl cs_X12_228 (m_X12_digits hS moves) rfl (by decide) (Nat.le_of_ble_eq_true rfl) (fun r61 Gc61 q61 => ?_) (fun E9 G9 h9 => h9.elim)
          obtain ⟨rfl, eG61⟩ := q61
          have eG61 := eG61.symm
          subst eG61
          refine y_blk 0 tq_X12_intruder (z := (64, [(0, .ref (ad 200)), (1, .int cell), (2, .int minute), (3, .int moves)], [.int (Int32.ofNat (ndg moves.toInt.toNat)), .int minute, .ref a55, .ref a55])) rfl ?_
          refine y_callI hS tq_X12_intruder rfl (As := [.int minute, .int (Int32.ofNat (ndg moves.toInt.toNat))]) rfl ci_X12_231 (m_X11_init hS hI hA55 minute (Int32.ofNat (ndg moves.toInt.toNat))) rfl (by decide) (Nat.le_of_ble_eq_true rfl) (fun r64 Gc64 q64 => ?_) (fun _ _ h9 => h9.elim)
          obtain ⟨rfl, w64, hO64, hW64, kt64_⟩ := q64
          have hX64 := hX55.kp (kt64_.narrow kA_R)
          have kt64 := (kt55).trans (kt64_.narrow kR_A)
          refine y_blk 5 tq_X12_intruder (z := (75, [(6, .int minute), (5, .int cell), (4, .ref a55), (0, .ref (ad 200)), (1, .int cell), (2, .int minute), (3, .int moves)], [])) rfl ?_
          refine y_pick (L2 := [(0, .ref (ad 200)), (1, .int cell), (2, .int minute), (3, .int moves), (4, .ref a55), (5, .int cell), (6, .int minute)]) [3, 4, 5, 6, 2, 1, 0] rfl ?_
          exact J75 _ a55 cell minute Gc64 (rin ρ 0 0) w64 (fun _ => 0) (Int32.ofNat (ndg moves.toInt.toNat)) hX64 kt64 (rSm.in0 rSm.rfl') hO64 hW64 (by first | assumption | exact hn10) (by first | assumption | exact Int.le_refl _ | exact yposgtL (by assumption) c80 (by decide)) (by first | assumption | omega) (by first | assumption | exact yway0 | exact yway1 hm9_75 hm0_75 b80 hw_75 (by assumption)) (by first | assumption | rfl) (by first | assumption | (have z9 := yle.mp c27; have z0 : (0 : Int32).toInt = 0 := (by decide); omega)) (by first | assumption | rfl) (by first | assumption | exact ⟨yif1 c10, yif1 c23, c27⟩) (by first | assumption | exact c46) (by first | exact hwk_75.step hm9_75 b80 hat_126 c129 c140 hz_75 | exact rwk.init) (by first | assumption | (show rZ ρ 215 ≤ 3; omega)) rfl
        · skip
          refine y_blk 2 tq_X12_intruder (z := (51, [(0, .ref (ad 200)), (1, .int cell), (2, .int minute), (3, .int moves)], [.int 3, .ref (ad 200)])) rfl ?_
          refine y_callV hS tq_X12_intruder rfl (As := [.int 3]) rfl cv_X12_140 hX2.m (m_X12_no hS hI hX2 3) rfl (by decide) (Nat.le_of_ble_eq_true rfl) (fun r51 Gc51 q51 => ?_) (fun E9 G9 h9 => h9.elim)
          obtain ⟨rfl, hX51, kt51_⟩ := q51
          have kt51 := (kt2).trans kt51_
          refine y_blk 0 tq_X12_intruder (z := (54, [(0, .ref (ad 200)), (1, .int cell), (2, .int minute), (3, .int moves)], [.int 0])) rfl ?_
          exact y_iret tq_X12_intruder rfl rfl (⟨⟨_, rfl⟩, ad, _, hX51, rfl, kt51, Or.inr (Or.inr (Or.inr (⟨⟨⟨yif1 c10, yif1 c23, c27⟩, Or.inl c46⟩, rfl, (rSm.in0 (rSm.in0 rSm.rfl'))⟩)))⟩)
      · skip
        refine y_blk 2 tq_X12_intruder (z := (32, [(0, .ref (ad 200)), (1, .int cell), (2, .int minute), (3, .int moves)], [.int 2, .ref (ad 200)])) rfl ?_
        refine y_callV hS tq_X12_intruder rfl (As := [.int 2]) rfl cv_X12_140 hX2.m (m_X12_no hS hI hX2 2) rfl (by decide) (Nat.le_of_ble_eq_true rfl) (fun r32 Gc32 q32 => ?_) (fun E9 G9 h9 => h9.elim)
        obtain ⟨rfl, hX32, kt32_⟩ := q32
        have kt32 := (kt2).trans kt32_
        refine y_blk 0 tq_X12_intruder (z := (35, [(0, .ref (ad 200)), (1, .int cell), (2, .int minute), (3, .int moves)], [.int 0])) rfl ?_
        exact y_iret tq_X12_intruder rfl rfl (⟨⟨_, rfl⟩, ad, _, hX32, rfl, kt32, Or.inr (Or.inr (Or.inl (⟨⟨yif1 c10, (by first | exact fun q => rif c23 q.1 | exact fun q => c27 q.2)⟩, rfl, (rSm.in0 (rSm.in0 rSm.rfl'))⟩)))⟩)
  · skip
    refine y_blk 2 tq_X12_intruder (z := (15, [(0, .ref (ad 200)), (1, .int cell), (2, .int minute), (3, .int moves)], [.int 1, .ref (ad 200)])) rfl ?_
    refine y_callV hS tq_X12_intruder rfl (As := [.int 1]) rfl cv_X12_140 hX2.m (m_X12_no hS hI hX2 1) rfl (by decide) (Nat.le_of_ble_eq_true rfl) (fun r15 Gc15 q15 => ?_) (fun E9 G9 h9 => h9.elim)
    obtain ⟨rfl, hX15, kt15_⟩ := q15
    have kt15 := (kt2).trans kt15_
    refine y_blk 0 tq_X12_intruder (z := (18, [(0, .ref (ad 200)), (1, .int cell), (2, .int minute), (3, .int moves)], [.int 0])) rfl ?_
    exact y_iret tq_X12_intruder rfl rfl (⟨⟨_, rfl⟩, ad, _, hX15, rfl, kt15, Or.inr (Or.inl (⟨rif c10, rfl, (rSm.in0 (rSm.in0 rSm.rfl'))⟩))⟩)
