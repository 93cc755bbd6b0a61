/-! ===== what is asked, told whole: a counter's loop as a fold ===== -/
def itI {α : Type} (F : Int32 → α → α) (a : α) : Nat → α
  | 0 => a
  | n + 1 => F (Int32.ofNat n) (itI F a n)
theorem itI_0 {α : Type} {F : Int32 → α → α} {a : α} : a = itI F a (0 : Int32).toInt.toNat := rfl
theorem itI_s {α : Type} {F : Int32 → α → α} {a acc v : α} {i n : Int32} (e : acc = itI F a i.toInt.toNat) (h : 0 ≤ i.toInt ∧ i.toInt ≤ n.toInt) (c : ¬ n ≤ i) (hv : v = F i acc) : v = itI F a (i + 1).toInt.toNat := by
  obtain ⟨e1, e2⟩ := xcn_nat h c
  rw [e1]
  show v = F (Int32.ofNat i.toInt.toNat) (itI F a i.toInt.toNat)
  rw [e2, ← e]
  exact hv
theorem itI_e {α : Type} {F : Int32 → α → α} {a acc : α} {i n : Int32} (e : acc = itI F a i.toInt.toNat) (h : 0 ≤ i.toInt ∧ i.toInt ≤ n.toInt) (c : n ≤ i) : acc = itI F a n.toInt.toNat := by
  rw [xcn_stop h c] at e
  exact e
theorem itI_cg {α : Type} {F F1 : Int32 → α → α} {a : α} : ∀ {n : Nat}, (∀ j : Nat, j < n → F (Int32.ofNat j) = F1 (Int32.ofNat j)) → itI F a n = itI F1 a n
  | 0, _ => rfl
  | n + 1, h => by
    show F (Int32.ofNat n) (itI F a n) = F1 (Int32.ofNat n) (itI F1 a n)
    rw [h n (Nat.lt_succ_self n), itI_cg (fun j hj => h j (Nat.lt_succ_of_lt hj))]
/-- the first one for which it is so; -1 without one -/
def ffF (P : Int32 → Prop) [DecidablePred P] : Int32 → Int32 → Int32 := fun m a => if a = -1 ∧ P m then m else a
theorem itf_no {P : Int32 → Prop} [DecidablePred P] : ∀ {n : Nat}, (∀ j : Nat, j < n → ¬ P (Int32.ofNat j)) → itI (ffF P) (-1) n = -1
  | 0, _ => rfl
  | n + 1, h => by
    show (if itI (ffF P) (-1) n = -1 ∧ P (Int32.ofNat n) then Int32.ofNat n else itI (ffF P) (-1) n) = -1
    rw [if_neg (fun q => h n (Nat.lt_succ_self n) q.2)]
    exact itf_no (fun j hj => h j (Nat.lt_succ_of_lt hj))
theorem itf_hit {P : Int32 → Prop} [DecidablePred P] {i : Nat} (h1 : P (Int32.ofNat i)) (h2 : ∀ j : Nat, j < i → ¬ P (Int32.ofNat j)) : ∀ {n : Nat}, i < n → n ≤ 1000 → itI (ffF P) (-1) n = Int32.ofNat i
  | 0, h, _ => absurd h (Nat.not_lt_zero i)
  | n + 1, h, h9 => by
    show (if itI (ffF P) (-1) n = -1 ∧ P (Int32.ofNat n) then Int32.ofNat n else itI (ffF P) (-1) n) = Int32.ofNat i
    by_cases q : i = n
    · subst q
      rw [itf_no h2, if_pos ⟨rfl, h1⟩]
    · rw [itf_hit h1 h2 (n := n) (by omega) (by omega), if_neg (fun z => by
        have e := congrArg Int32.toInt z.1
        have em : (-1 : Int32).toInt = -1 := by decide
        rw [yofNat (by omega), em] at e
        omega)]
/-- nothing yet -/
theorem itf_0 {P : Int32 → Prop} : ∀ j : Nat, j < (0 : Int32).toInt.toNat → ¬ P (Int32.ofNat j) := fun j hj => absurd hj (Nat.not_lt_zero j)
theorem itf_s {P : Int32 → Prop} {i n : Int32} (e : ∀ j : Nat, j < i.toInt.toNat → ¬ P (Int32.ofNat j)) (h : 0 ≤ i.toInt ∧ i.toInt ≤ n.toInt) (c : ¬ n ≤ i) (hp : ¬ P i) : ∀ j : Nat, j < (i + 1).toInt.toNat → ¬ P (Int32.ofNat j) := by
  obtain ⟨e1, e2⟩ := xcn_nat h c
  intro j hj
  rw [e1] at hj
  by_cases q : j = i.toInt.toNat
  · rw [q, e2]
    exact hp
  · exact e j (by omega)
theorem itf_end {P : Int32 → Prop} [DecidablePred P] {i n : Int32} (e : ∀ j : Nat, j < i.toInt.toNat → ¬ P (Int32.ofNat j)) (h : 0 ≤ i.toInt ∧ i.toInt ≤ n.toInt) (c : n ≤ i) : -1 = itI (ffF P) (-1) n.toInt.toNat := by
  rw [xcn_stop h c] at e
  exact (itf_no e).symm
theorem itf_at {P : Int32 → Prop} [DecidablePred P] {i n : Int32} (e : ∀ j : Nat, j < i.toInt.toNat → ¬ P (Int32.ofNat j)) (h : 0 ≤ i.toInt ∧ i.toInt ≤ n.toInt) (c : ¬ n ≤ i) (h9 : n.toInt ≤ 1000) (hp : P i) : i = itI (ffF P) (-1) n.toInt.toNat := by
  obtain ⟨-, e2⟩ := xcn_nat h c
  rw [yle] at c
  have hp2 : P (Int32.ofNat i.toInt.toNat) := by rw [e2]; exact hp
  rw [itf_hit hp2 e (n := n.toInt.toNat) (by omega) (by omega), e2]
noncomputable def cif (P : Prop) (a b : Int32) : Int32 := @ite _ P (Classical.propDecidable P) a b
theorem cif_t {P : Prop} {a b : Int32} (h : P) : cif P a b = a := @if_pos P (Classical.propDecidable P) h _ a b
theorem cif_f {P : Prop} {a b : Int32} (h : ¬ P) : cif P a b = b := @if_neg P (Classical.propDecidable P) h _ a b
theorem cif_cg {P Q : Prop} {a b : Int32} (h : P ↔ Q) : cif P a b = cif Q a b := by rw [propext h]
theorem and0l {P Q : Prop} [Decidable P] [Decidable Q] (h : ¬ P) : (0 : Int32) = if P ∧ Q then 1 else 0 := (if_neg (fun q : P ∧ Q => h q.1)).symm
theorem and0r {P Q : Prop} [Decidable P] [Decidable Q] (h : ¬ Q) : (0 : Int32) = if P ∧ Q then 1 else 0 := (if_neg (fun q : P ∧ Q => h q.2)).symm
theorem and1 {P Q : Prop} [Decidable P] [Decidable Q] (h1 : P) (h2 : Q) : (1 : Int32) = if P ∧ Q then 1 else 0 := (if_pos (And.intro h1 h2)).symm
/-! the class: posts, wires -/
def xhldF (σ : XS) (m : Int32) : Int32 → Int64 → Int64 := fun p v => v ||| xset (xsta σ p m)
def xhld (σ : XS) (m : Int32) : Int64 := itI (xhldF σ m) 0 (σ.1 5).toInt.toNat
abbrev xemQ (σ : XS) (post m : Int32) : Prop := ¬ xis (xhld σ m) (xat σ 10 post)
def xemF (σ : XS) (post : Int32) : Int32 → Int32 → Int32 := fun m a => if xemQ σ post m then (if a = -1 then m else a) else a
def xemC (σ : XS) (post : Int32) : Int32 → Int32 → Int32 := fun m a => if xemQ σ post m then a + 1 else a
def xem1 (σ : XS) (post : Int32) : Int32 := itI (xemF σ post) (-1) (240 : Int32).toInt.toNat
def xemN (σ : XS) (post : Int32) : Int32 := itI (xemC σ post) 0 (240 : Int32).toInt.toNat
def xonF (σ : XS) (cell m : Int32) : Int32 → Int32 → Int32 := fun p a => a + (if xcel σ p m = cell then 1 else 0)
def xonN (σ : XS) (cell m : Int32) : Int32 := itI (xonF σ cell m) 0 (σ.1 16).toInt.toNat
def xnoi (σ : XS) (w m : Int32) : Int32 := (29 * m + 7 * xat σ 22 w) - (29 * m + 7 * xat σ 22 w) / 11 * 11
abbrev xrgQ (σ : XS) (w m : Int32) : Prop := xat σ 23 w ≤ xnoi σ w m + 5 * xonN σ (xat σ 22 w) m
abbrev xiwQ (σ : XS) (w m : Int32) : Prop := 0 < xonN σ (xat σ 22 w) m
def xrgF (σ : XS) (w f : Int32) : Int32 → Int32 → Int32 := fun m a => if xrgQ σ w m then (if f = 0 then a + 1 else if xiwQ σ w m then a else a + 1) else a
def xrgN (σ : XS) (w f : Int32) : Int32 := itI (xrgF σ w f) 0 (240 : Int32).toInt.toNat
abbrev xtrQ (σ : XS) (w : Int32) : Int32 → Prop := fun m => xiwQ σ w m ∧ xrgQ σ w m
def xtrN (σ : XS) (w : Int32) : Int32 := itI (ffF (xtrQ σ w)) (-1) (240 : Int32).toInt.toNat
set_option maxHeartbeats 4000000 in
set_option maxRecDepth 100000 in
theorem m_X2_cellsHeld_v {l : Launch} {S0 : State} {A0 : Array Value} {D : va_G} {aC : Nat → ClassId} {ad : Nat → Nat} {G : AH} {σ : XS} (hS : yS l S0 A0 D aC) (hX : atX aC ad G σ) (minute : Int32) : yM l S0 D yX2_cellsHeld cX2_cellsHeld 5 (some .long) 12 0 0 [.ref (ad 6), .int minute] G (fun r G1 => r = some (.long (xhld σ minute)) ∧ G1 = G) (fun _ _ => False) := by
  refine yM.ofK K_X2_cellsHeld rfl (by decide) (Nat.le_of_ble_eq_true rfl) ?_
  have J5 : ∀ (n5 : Nat) (v5_2 : Int64) (v5_4 : Int32) (hh5 : 0 ≤ v5_4.toInt ∧ v5_4.toInt ≤ (σ.1 5 : Int32).toInt) (ea5 : v5_2 = itI (xhldF σ minute) 0 v5_4.toInt.toNat), ((σ.1 5 : Int32).toInt - v5_4.toInt).toNat = n5 → Y l S0 D K_X2_cellsHeld 12 0 0 (fun r G1 => r = some (.long (xhld σ minute)) ∧ G1 = G) (fun _ _ => False) 5 [(0, .ref (ad 6)), (1, .int minute), (2, .long v5_2), (4, .int v5_4)] [] G 0 0 := by
    intro n5
    induction n5 using Nat.strongRecOn with
    | _ n5 ih5 =>
    intro v5_2 v5_4 hh5 ea5 hn5
    subst hn5
    refine y_blk 2 tq_X2_cellsHeld (z := (8, [(0, .ref (ad 6)), (1, .int minute), (2, .long v5_2), (4, .int v5_4)], [.ref (ad 6), .int v5_4])) rfl ?_
    refine y_callV hS tq_X2_cellsHeld rfl (As := []) rfl cv_X2_46 (hX.1 6 _ rfl) (m_X2_count hS hX ) rfl (by decide) (Nat.le_of_ble_eq_true rfl) (fun r8 Gc8 q8 => ?_) (fun E9 G9 h9 => h9.elim)
    obtain ⟨rfl, eG8⟩ := q8
    have eG8 := eG8.symm
    subst eG8
    refine y_blk 0 tq_X2_cellsHeld (z := (11, [(0, .ref (ad 6)), (1, .int minute), (2, .long v5_2), (4, .int v5_4)], [.int (σ.1 5), .int v5_4])) rfl ?_
    refine y_icmp_ge tq_X2_cellsHeld 33 rfl rfl (fun c11 => ?_) (fun c11 => ?_)
    · skip
      refine y_blk 1 tq_X2_cellsHeld (z := (34, [(0, .ref (ad 6)), (1, .int minute), (2, .long v5_2), (4, .int v5_4)], [.long v5_2])) rfl ?_
      exact y_lret tq_X2_cellsHeld rfl rfl (⟨congrArg (fun z => some (Value.long z)) (itI_e ea5 hh5 c11), rfl⟩)
    · skip
      refine y_blk 4 tq_X2_cellsHeld (z := (19, [(0, .ref (ad 6)), (1, .int minute), (2, .long v5_2), (4, .int v5_4)], [.int minute, .int v5_4, .ref (ad 6), .long v5_2])) rfl ?_
      refine y_callV hS tq_X2_cellsHeld rfl (As := [.int v5_4, .int minute]) rfl cv_X2_61 (hX.1 6 _ rfl) (m_X2_standAt_ok hS hX v5_4 minute) rfl (by decide) (Nat.le_of_ble_eq_true rfl) (fun r19 Gc19 q19 => ?_) (fun E9 G9 h9 => h9.elim)
      obtain ⟨rfl, eG19⟩ := q19
      have eG19 := eG19.symm
      subst eG19
      refine y_blk 0 tq_X2_cellsHeld (z := (22, [(0, .ref (ad 6)), (1, .int minute), (2, .long v5_2), (4, .int v5_4)], [.int (xsta σ v5_4 minute), .long v5_2])) rfl ?_
      refine y_callSN hS tq_X2_cellsHeld rfl (As := [.int (xsta σ v5_4 minute)]) rfl cs_X2_71 (m_X8_setOf hS  (xsta σ v5_4 minute)) rfl (by decide) (Nat.le_of_ble_eq_true rfl) (fun r22 Gc22 q22 => ?_) (fun E9 G9 h9 => h9.elim)
      obtain ⟨rfl, eG22⟩ := q22
      have eG22 := eG22.symm
      subst eG22
      refine y_blk 4 tq_X2_cellsHeld (z := (5, [(4, .int (v5_4 + 1)), (2, .long (v5_2 ||| (xset (xsta σ v5_4 minute)))), (0, .ref (ad 6)), (1, .int minute)], [])) rfl ?_
      refine y_pick (L2 := [(0, .ref (ad 6)), (1, .int minute), (2, .long (v5_2 ||| (xset (xsta σ v5_4 minute)))), (4, .int (v5_4 + 1))]) [2, 3, 1, 0] rfl ?_
      exact ih5 _ (by exact ydec c11) (v5_2 ||| (xset (xsta σ v5_4 minute))) (v5_4 + 1) (by first | exact xcn_step hh5 c11 | exact xcn_init (hX.2.1 5).1) (by first | exact itI_s ea5 hh5 c11 (by rfl) | with_reducible exact itI_0) rfl
  refine y_blk 4 tq_X2_cellsHeld (z := (5, [(4, .int 0), (2, .long 0), (0, .ref (ad 6)), (1, .int minute)], [])) rfl ?_
  refine y_pick (L2 := [(0, .ref (ad 6)), (1, .int minute), (2, .long 0), (4, .int 0)]) [2, 3, 1, 0] rfl ?_
  exact J5 _ 0 0 (by first | exact xcn_step hh5 c11 | exact xcn_init (hX.2.1 5).1) (by first | exact itI_s ea5 hh5 c11 (by rfl) | with_reducible exact itI_0) rfl
set_option maxHeartbeats 4000000 in
set_option maxRecDepth 100000 in
theorem m_X3_countOn_v {l : Launch} {S0 : State} {A0 : Array Value} {D : va_G} {aC : Nat → ClassId} {ad : Nat → Nat} {G : AH} {σ : XS} (hS : yS l S0 A0 D aC) (hX : atX aC ad G σ) (cell : Int32) (minute : Int32) : yM l S0 D yX3_countOn cX3_countOn 5 (some .int) 12 0 0 [.ref (ad 8), .int cell, .int minute] G (fun r G1 => r = some (.int (xonN σ cell minute)) ∧ G1 = G) (fun _ _ => False) := by
  refine yM.ofK K_X3_countOn rfl (by decide) (Nat.le_of_ble_eq_true rfl) ?_
  have J5 : ∀ (n5 : Nat) (v5_3 : Int32) (v5_4 : Int32) (hh5 : 0 ≤ v5_4.toInt ∧ v5_4.toInt ≤ (σ.1 16 : Int32).toInt) (ea5 : v5_3 = itI (xonF σ cell minute) 0 v5_4.toInt.toNat), ((σ.1 16 : Int32).toInt - v5_4.toInt).toNat = n5 → Y l S0 D K_X3_countOn 12 0 0 (fun r G1 => r = some (.int (xonN σ cell minute)) ∧ G1 = G) (fun _ _ => False) 5 [(0, .ref (ad 8)), (1, .int cell), (2, .int minute), (3, .int v5_3), (4, .int v5_4)] [] G 0 0 := by
    intro n5
    induction n5 using Nat.strongRecOn with
    | _ n5 ih5 =>
    intro v5_3 v5_4 hh5 ea5 hn5
    subst hn5
    refine y_blk 2 tq_X3_countOn (z := (8, [(0, .ref (ad 8)), (1, .int cell), (2, .int minute), (3, .int v5_3), (4, .int v5_4)], [.ref (ad 8), .int v5_4])) rfl ?_
    refine y_callV hS tq_X3_countOn rfl (As := []) rfl cv_X3_57 (hX.1 8 _ rfl) (m_X3_count hS hX ) rfl (by decide) (Nat.le_of_ble_eq_true rfl) (fun r8 Gc8 q8 => ?_) (fun E9 G9 h9 => h9.elim)
    obtain ⟨rfl, eG8⟩ := q8
    have eG8 := eG8.symm
    subst eG8
    refine y_blk 0 tq_X3_countOn (z := (11, [(0, .ref (ad 8)), (1, .int cell), (2, .int minute), (3, .int v5_3), (4, .int v5_4)], [.int (σ.1 16), .int v5_4])) rfl ?_
    refine y_icmp_ge tq_X3_countOn 39 rfl rfl (fun c11 => ?_) (fun c11 => ?_)
    · skip
      refine y_blk 1 tq_X3_countOn (z := (40, [(0, .ref (ad 8)), (1, .int cell), (2, .int minute), (3, .int v5_3), (4, .int v5_4)], [.int v5_3])) rfl ?_
      exact y_iret tq_X3_countOn rfl rfl (⟨congrArg (fun z => some (Value.int z)) (itI_e ea5 hh5 c11), rfl⟩)
    · skip
      refine y_blk 4 tq_X3_countOn (z := (19, [(0, .ref (ad 8)), (1, .int cell), (2, .int minute), (3, .int v5_3), (4, .int v5_4)], [.int minute, .int v5_4, .ref (ad 8), .int v5_3])) rfl ?_
      refine y_callV hS tq_X3_countOn rfl (As := [.int v5_4, .int minute]) rfl cv_X3_80 (hX.1 8 _ rfl) (m_X3_cellAt_ok hS hX v5_4 minute) rfl (by decide) (Nat.le_of_ble_eq_true rfl) (fun r19 Gc19 q19 => ?_) (fun E9 G9 h9 => h9.elim)
      obtain ⟨rfl, eG19⟩ := q19
      have eG19 := eG19.symm
      subst eG19
      refine y_blk 1 tq_X3_countOn (z := (23, [(0, .ref (ad 8)), (1, .int cell), (2, .int minute), (3, .int v5_3), (4, .int v5_4)], [.int cell, .int (xcel σ v5_4 minute), .int v5_3])) rfl ?_
      refine y_icmp_ne tq_X3_countOn 30 rfl rfl (fun c23 => ?_) (fun c23 => ?_)
      · skip
        refine y_blk 5 tq_X3_countOn (z := (5, [(4, .int (v5_4 + 1)), (3, .int (v5_3 + 0)), (0, .ref (ad 8)), (1, .int cell), (2, .int minute)], [])) rfl ?_
        refine y_pick (L2 := [(0, .ref (ad 8)), (1, .int cell), (2, .int minute), (3, .int (v5_3 + 0)), (4, .int (v5_4 + 1))]) [2, 3, 4, 1, 0] rfl ?_
        exact ih5 _ (by exact ydec c11) (v5_3 + 0) (v5_4 + 1) (by first | exact xcn_step hh5 c11 | exact xcn_init (hX.2.1 16).1) (by first | exact itI_s ea5 hh5 c11 (by unfold xonF; simp only [yif0, Classical.not_not] at *; (repeat' split) <;> first | contradiction | with_reducible rfl) | with_reducible exact itI_0) rfl
      · skip
        refine y_blk 6 tq_X3_countOn (z := (5, [(4, .int (v5_4 + 1)), (3, .int (v5_3 + 1)), (0, .ref (ad 8)), (1, .int cell), (2, .int minute)], [])) rfl ?_
        refine y_pick (L2 := [(0, .ref (ad 8)), (1, .int cell), (2, .int minute), (3, .int (v5_3 + 1)), (4, .int (v5_4 + 1))]) [2, 3, 4, 1, 0] rfl ?_
        exact ih5 _ (by exact ydec c11) (v5_3 + 1) (v5_4 + 1) (by first | exact xcn_step hh5 c11 | exact xcn_init (hX.2.1 16).1) (by first | exact itI_s ea5 hh5 c11 (by unfold xonF; simp only [yif0, Classical.not_not] at *; (repeat' split) <;> first | contradiction | with_reducible rfl) | with_reducible exact itI_0) rfl
  refine y_blk 4 tq_X3_countOn (z := (5, [(4, .int 0), (3, .int 0), (0, .ref (ad 8)), (1, .int cell), (2, .int minute)], [])) rfl ?_
  refine y_pick (L2 := [(0, .ref (ad 8)), (1, .int cell), (2, .int minute), (3, .int 0), (4, .int 0)]) [2, 3, 4, 1, 0] rfl ?_
  exact J5 _ 0 0 (by first | exact xcn_step hh5 c11 | exact xcn_init (hX.2.1 16).1) (by first | exact itI_s ea5 hh5 c11 (by unfold xonF; simp only [yif0, Classical.not_not] at *; (repeat' split) <;> first | contradiction | with_reducible rfl) | with_reducible exact itI_0) rfl
set_option maxHeartbeats 4000000 in
set_option maxRecDepth 100000 in
theorem m_X6_ownNoise_v {l : Launch} {S0 : State} {A0 : Array Value} {D : va_G} {aC : Nat → ClassId} {ad : Nat → Nat} {G : AH} {σ : XS} (hS : yS l S0 A0 D aC) (hX : atX aC ad G σ) (wire : Int32) (minute : Int32) : yM l S0 D yX6_ownNoise cX6_ownNoise 3 (some .int) 11 0 0 [.ref (ad 9), .int wire, .int minute] G (fun r G1 => r = some (.int (xnoi σ wire minute)) ∧ G1 = G) (fun _ _ => False) := by
  refine yM.ofK K_X6_ownNoise rfl (by decide) (Nat.le_of_ble_eq_true rfl) ?_
  refine y_blk 5 tq_X6_ownNoise (z := (7, [(0, .ref (ad 9)), (1, .int wire), (2, .int minute)], [.ref (ad 9), .int 7, .int (29 * minute)])) rfl ?_
  refine y_get hS tq_X6_ownNoise (v := .ref (ad 144)) rfl fg_X6_14_X6 (hX.1 9 _ rfl) rfl ?_
  refine y_blk 1 tq_X6_ownNoise (z := (11, [(0, .ref (ad 9)), (1, .int wire), (2, .int minute)], [.int wire, .ref (ad 144), .int 7, .int (29 * minute)])) rfl ?_
  refine y_callV hS tq_X6_ownNoise rfl (As := [.int wire]) rfl cv_X6_38 (hX.num (k := 22) (by decide)) (m_X5_at hS hX (k := 22) (by decide) wire) rfl (by decide) (Nat.le_of_ble_eq_true rfl) (fun r11 Gc11 q11 => ?_) (fun E9 G9 h9 => h9.elim)
  obtain ⟨rfl, eG11⟩ := q11
  have eG11 := eG11.symm
  subst eG11
  refine y_blk 3 tq_X6_ownNoise (z := (18, [(0, .ref (ad 9)), (1, .int wire), (2, .int minute)], [.int 11, .int ((29 * minute) + (7 * (xat σ 22 wire)))])) rfl ?_
  refine y_irem tq_X6_ownNoise rfl (by decide) ?_
  refine y_blk 0 tq_X6_ownNoise (z := (19, [(0, .ref (ad 9)), (1, .int wire), (2, .int minute)], [.int (((29 * minute) + (7 * (xat σ 22 wire))) - ((29 * minute) + (7 * (xat σ 22 wire))) / 11 * 11)])) rfl ?_
  exact y_iret tq_X6_ownNoise rfl rfl (⟨by first | rfl | (congr 2; unfold xnoi; (repeat' split) <;> first | rfl | (exfalso; simp only [ylt, yle, yeqI, yl_m1, yl_0, yl_1, yl_2, yl_3, yl_4, yl_5, yl_6, yl_7, yl_8, yl_9, yl_10, yl_11, yl_12, yl_15, yl_16, yl_20, yl_60, yl_64, yl_90, yl_97, yl_99, yl_100, yl_120, yl_239, yl_240] at *; omega)), rfl⟩)
set_option maxHeartbeats 4000000 in
set_option maxRecDepth 100000 in
theorem m_X8_rings_v {l : Launch} {S0 : State} {A0 : Array Value} {D : va_G} {aC : Nat → ClassId} {ad : Nat → Nat} {G : AH} {σ : XS} (hS : yS l S0 A0 D aC) (hX : atX aC ad G σ) (wire : Int32) (minute : Int32) : yM l S0 D yX8_rings cX8_rings 4 (some .boolean) 13 0 0 [.ref (ad 1), .int wire, .int minute] G (fun r G1 => r = some (.int (if xrgQ σ wire minute then 1 else 0)) ∧ G1 = G) (fun _ _ => False) := by
  refine yM.ofK K_X8_rings rfl (by decide) (Nat.le_of_ble_eq_true rfl) ?_
  refine y_blk 1 tq_X8_rings (z := (1, [(0, .ref (ad 1)), (1, .int wire), (2, .int minute)], [.ref (ad 1)])) rfl ?_
  refine y_get hS tq_X8_rings (v := .ref (ad 8)) rfl fg_X8_59_X8 (hX.1 1 _ rfl) rfl ?_
  refine y_blk 1 tq_X8_rings (z := (5, [(0, .ref (ad 1)), (1, .int wire), (2, .int minute)], [.ref (ad 1), .ref (ad 8)])) rfl ?_
  refine y_get hS tq_X8_rings (v := .ref (ad 9)) rfl fg_X8_66_X8 (hX.1 1 _ rfl) rfl ?_
  refine y_blk 1 tq_X8_rings (z := (9, [(0, .ref (ad 1)), (1, .int wire), (2, .int minute)], [.int wire, .ref (ad 9), .ref (ad 8)])) rfl ?_
  refine y_callV hS tq_X8_rings rfl (As := [.int wire]) rfl cv_X8_327 (hX.1 9 _ rfl) (m_X6_cellOf hS hX wire) rfl (by decide) (Nat.le_of_ble_eq_true rfl) (fun r9 Gc9 q9 => ?_) (fun E9 G9 h9 => h9.elim)
  obtain ⟨rfl, eG9⟩ := q9
  have eG9 := eG9.symm
  subst eG9
  refine y_blk 1 tq_X8_rings (z := (13, [(0, .ref (ad 1)), (1, .int wire), (2, .int minute)], [.int minute, .int (xat σ 22 wire), .ref (ad 8)])) rfl ?_
  refine y_callV hS tq_X8_rings rfl (As := [.int (xat σ 22 wire), .int minute]) rfl cv_X8_478 (hX.1 8 _ rfl) (m_X3_countOn_v hS hX (xat σ 22 wire) minute) rfl (by decide) (Nat.le_of_ble_eq_true rfl) (fun r13 Gc13 q13 => ?_) (fun E9 G9 h9 => h9.elim)
  obtain ⟨rfl, eG13⟩ := q13
  have eG13 := eG13.symm
  subst eG13
  refine y_blk 2 tq_X8_rings (z := (18, [(3, .int (xonN σ (xat σ 22 wire) minute)), (0, .ref (ad 1)), (1, .int wire), (2, .int minute)], [.ref (ad 1)])) rfl ?_
  refine y_get hS tq_X8_rings (v := .ref (ad 9)) rfl fg_X8_66_X8 (hX.1 1 _ rfl) rfl ?_
  refine y_blk 2 tq_X8_rings (z := (23, [(3, .int (xonN σ (xat σ 22 wire) minute)), (0, .ref (ad 1)), (1, .int wire), (2, .int minute)], [.int minute, .int wire, .ref (ad 9)])) rfl ?_
  refine y_callV hS tq_X8_rings rfl (As := [.int wire, .int minute]) rfl cv_X8_481 (hX.1 9 _ rfl) (m_X6_ownNoise_v hS hX wire minute) rfl (by decide) (Nat.le_of_ble_eq_true rfl) (fun r23 Gc23 q23 => ?_) (fun E9 G9 h9 => h9.elim)
  obtain ⟨rfl, eG23⟩ := q23
  have eG23 := eG23.symm
  subst eG23
  refine y_blk 5 tq_X8_rings (z := (31, [(3, .int (xonN σ (xat σ 22 wire) minute)), (0, .ref (ad 1)), (1, .int wire), (2, .int minute)], [.ref (ad 1), .int ((xnoi σ wire minute) + (5 * (xonN σ (xat σ 22 wire) minute)))])) rfl ?_
  refine y_get hS tq_X8_rings (v := .ref (ad 9)) rfl fg_X8_66_X8 (hX.1 1 _ rfl) rfl ?_
  refine y_blk 1 tq_X8_rings (z := (35, [(3, .int (xonN σ (xat σ 22 wire) minute)), (0, .ref (ad 1)), (1, .int wire), (2, .int minute)], [.int wire, .ref (ad 9), .int ((xnoi σ wire minute) + (5 * (xonN σ (xat σ 22 wire) minute)))])) rfl ?_
  refine y_callV hS tq_X8_rings rfl (As := [.int wire]) rfl cv_X8_330 (hX.1 9 _ rfl) (m_X6_barOf hS hX wire) rfl (by decide) (Nat.le_of_ble_eq_true rfl) (fun r35 Gc35 q35 => ?_) (fun E9 G9 h9 => h9.elim)
  obtain ⟨rfl, eG35⟩ := q35
  have eG35 := eG35.symm
  subst eG35
  refine y_blk 0 tq_X8_rings (z := (38, [(3, .int (xonN σ (xat σ 22 wire) minute)), (0, .ref (ad 1)), (1, .int wire), (2, .int minute)], [.int (xat σ 23 wire), .int ((xnoi σ wire minute) + (5 * (xonN σ (xat σ 22 wire) minute)))])) rfl ?_
  refine y_icmp_lt tq_X8_rings 45 rfl rfl (fun c38 => ?_) (fun c38 => ?_)
  · skip
    refine y_blk 1 tq_X8_rings (z := (46, [(3, .int (xonN σ (xat σ 22 wire) minute)), (0, .ref (ad 1)), (1, .int wire), (2, .int minute)], [.int 0])) rfl ?_
    exact y_zret tq_X8_rings rfl rfl (rfl) (⟨by first | rfl | (congr 2; (repeat' split) <;> first | rfl | (exfalso; simp only [ylt, yle, yeqI, yl_m1, yl_0, yl_1, yl_2, yl_3, yl_4, yl_5, yl_6, yl_7, yl_8, yl_9, yl_10, yl_11, yl_12, yl_15, yl_16, yl_20, yl_60, yl_64, yl_90, yl_97, yl_99, yl_100, yl_120, yl_239, yl_240] at *; omega)), rfl⟩)
  · skip
    refine y_blk 2 tq_X8_rings (z := (46, [(3, .int (xonN σ (xat σ 22 wire) minute)), (0, .ref (ad 1)), (1, .int wire), (2, .int minute)], [.int 1])) rfl ?_
    exact y_zret tq_X8_rings rfl rfl (rfl) (⟨by first | rfl | (congr 2; (repeat' split) <;> first | rfl | (exfalso; simp only [ylt, yle, yeqI, yl_m1, yl_0, yl_1, yl_2, yl_3, yl_4, yl_5, yl_6, yl_7, yl_8, yl_9, yl_10, yl_11, yl_12, yl_15, yl_16, yl_20, yl_60, yl_64, yl_90, yl_97, yl_99, yl_100, yl_120, yl_239, yl_240] at *; omega)), rfl⟩)
set_option maxHeartbeats 4000000 in
set_option maxRecDepth 100000 in
theorem m_X8_isIntruded_v {l : Launch} {S0 : State} {A0 : Array Value} {D : va_G} {aC : Nat → ClassId} {ad : Nat → Nat} {G : AH} {σ : XS} (hS : yS l S0 A0 D aC) (hX : atX aC ad G σ) (wire : Int32) (minute : Int32) : yM l S0 D yX8_isIntruded cX8_isIntruded 3 (some .boolean) 13 0 0 [.ref (ad 1), .int wire, .int minute] G (fun r G1 => r = some (.int (if xiwQ σ wire minute then 1 else 0)) ∧ G1 = G) (fun _ _ => False) := by
  refine yM.ofK K_X8_isIntruded rfl (by decide) (Nat.le_of_ble_eq_true rfl) ?_
  refine y_blk 1 tq_X8_isIntruded (z := (1, [(0, .ref (ad 1)), (1, .int wire), (2, .int minute)], [.ref (ad 1)])) rfl ?_
  refine y_get hS tq_X8_isIntruded (v := .ref (ad 8)) rfl fg_X8_59_X8 (hX.1 1 _ rfl) rfl ?_
  refine y_blk 1 tq_X8_isIntruded (z := (5, [(0, .ref (ad 1)), (1, .int wire), (2, .int minute)], [.ref (ad 1), .ref (ad 8)])) rfl ?_
  refine y_get hS tq_X8_isIntruded (v := .ref (ad 9)) rfl fg_X8_66_X8 (hX.1 1 _ rfl) rfl ?_
  refine y_blk 1 tq_X8_isIntruded (z := (9, [(0, .ref (ad 1)), (1, .int wire), (2, .int minute)], [.int wire, .ref (ad 9), .ref (ad 8)])) rfl ?_
  refine y_callV hS tq_X8_isIntruded rfl (As := [.int wire]) rfl cv_X8_327 (hX.1 9 _ rfl) (m_X6_cellOf hS hX wire) rfl (by decide) (Nat.le_of_ble_eq_true rfl) (fun r9 Gc9 q9 => ?_) (fun E9 G9 h9 => h9.elim)
  obtain ⟨rfl, eG9⟩ := q9
  have eG9 := eG9.symm
  subst eG9
  refine y_blk 1 tq_X8_isIntruded (z := (13, [(0, .ref (ad 1)), (1, .int wire), (2, .int minute)], [.int minute, .int (xat σ 22 wire), .ref (ad 8)])) rfl ?_
  refine y_callV hS tq_X8_isIntruded rfl (As := [.int (xat σ 22 wire), .int minute]) rfl cv_X8_478 (hX.1 8 _ rfl) (m_X3_countOn_v hS hX (xat σ 22 wire) minute) rfl (by decide) (Nat.le_of_ble_eq_true rfl) (fun r13 Gc13 q13 => ?_) (fun E9 G9 h9 => h9.elim)
  obtain ⟨rfl, eG13⟩ := q13
  have eG13 := eG13.symm
  subst eG13
  refine y_blk 0 tq_X8_isIntruded (z := (16, [(0, .ref (ad 1)), (1, .int wire), (2, .int minute)], [.int (xonN σ (xat σ 22 wire) minute)])) rfl ?_
  refine y_if_le tq_X8_isIntruded 23 rfl rfl (fun c16 => ?_) (fun c16 => ?_)
  · skip
    refine y_blk 1 tq_X8_isIntruded (z := (24, [(0, .ref (ad 1)), (1, .int wire), (2, .int minute)], [.int 0])) rfl ?_
    exact y_zret tq_X8_isIntruded rfl rfl (rfl) (⟨by first | rfl | (congr 2; (repeat' split) <;> first | rfl | (exfalso; simp only [ylt, yle, yeqI, yl_m1, yl_0, yl_1, yl_2, yl_3, yl_4, yl_5, yl_6, yl_7, yl_8, yl_9, yl_10, yl_11, yl_12, yl_15, yl_16, yl_20, yl_60, yl_64, yl_90, yl_97, yl_99, yl_100, yl_120, yl_239, yl_240] at *; omega)), rfl⟩)
  · skip
    refine y_blk 2 tq_X8_isIntruded (z := (24, [(0, .ref (ad 1)), (1, .int wire), (2, .int minute)], [.int 1])) rfl ?_
    exact y_zret tq_X8_isIntruded rfl rfl (rfl) (⟨by first | rfl | (congr 2; (repeat' split) <;> first | rfl | (exfalso; simp only [ylt, yle, yeqI, yl_m1, yl_0, yl_1, yl_2, yl_3, yl_4, yl_5, yl_6, yl_7, yl_8, yl_9, yl_10, yl_11, yl_12, yl_15, yl_16, yl_20, yl_60, yl_64, yl_90, yl_97, yl_99, yl_100, yl_120, yl_239, yl_240] at *; omega)), rfl⟩)
set_option maxHeartbeats 4000000 in
set_option maxRecDepth 100000 in
theorem m_X8_countRings_v {l : Launch} {S0 : State} {A0 : Array Value} {D : va_G} {aC : Nat → ClassId} {ad : Nat → Nat} {G : AH} {σ : XS} (hS : yS l S0 A0 D aC) (hX : atX aC ad G σ) (wire : Int32) (onlyFalseOnes : Int32) : yM l S0 D yX8_countRings cX8_countRings 5 (some .int) 14 0 0 [.ref (ad 1), .int wire, .int onlyFalseOnes] G (fun r G1 => r = some (.int (xrgN σ wire onlyFalseOnes)) ∧ G1 = G) (fun _ _ => False) := by
  refine yM.ofK K_X8_countRings rfl (by decide) (Nat.le_of_ble_eq_true rfl) ?_
  have J5 : ∀ (n5 : Nat) (v5_3 : Int32) (v5_4 : Int32) (hh5 : 0 ≤ v5_4.toInt ∧ v5_4.toInt ≤ (240 : Int32).toInt) (ea5 : v5_3 = itI (xrgF σ wire onlyFalseOnes) 0 v5_4.toInt.toNat), ((240 : Int32).toInt - v5_4.toInt).toNat = n5 → Y l S0 D K_X8_countRings 14 0 0 (fun r G1 => r = some (.int (xrgN σ wire onlyFalseOnes)) ∧ G1 = G) (fun _ _ => False) 5 [(0, .ref (ad 1)), (1, .int wire), (2, .int onlyFalseOnes), (3, .int v5_3), (4, .int v5_4)] [] G 0 0 := by
    intro n5
    induction n5 using Nat.strongRecOn with
    | _ n5 ih5 =>
    intro v5_3 v5_4 hh5 ea5 hn5
    subst hn5
    refine y_blk 2 tq_X8_countRings (z := (10, [(0, .ref (ad 1)), (1, .int wire), (2, .int onlyFalseOnes), (3, .int v5_3), (4, .int v5_4)], [.int 240, .int v5_4])) rfl ?_
    refine y_icmp_ge tq_X8_countRings 46 rfl rfl (fun c10 => ?_) (fun c10 => ?_)
    · skip
      refine y_blk 1 tq_X8_countRings (z := (47, [(0, .ref (ad 1)), (1, .int wire), (2, .int onlyFalseOnes), (3, .int v5_3), (4, .int v5_4)], [.int v5_3])) rfl ?_
      exact y_iret tq_X8_countRings rfl rfl (⟨congrArg (fun z => some (Value.int z)) (itI_e ea5 hh5 c10), rfl⟩)
    · skip
      refine y_blk 3 tq_X8_countRings (z := (17, [(0, .ref (ad 1)), (1, .int wire), (2, .int onlyFalseOnes), (3, .int v5_3), (4, .int v5_4)], [.int v5_4, .int wire, .ref (ad 1)])) rfl ?_
      refine y_callV hS tq_X8_countRings rfl (As := [.int wire, .int v5_4]) rfl cv_X8_484 (hX.1 1 _ rfl) (m_X8_rings_v hS hX wire v5_4) rfl (by decide) (Nat.le_of_ble_eq_true rfl) (fun r17 Gc17 q17 => ?_) (fun E9 G9 h9 => h9.elim)
      obtain ⟨rfl, eG17⟩ := q17
      have eG17 := eG17.symm
      subst eG17
      refine y_blk 0 tq_X8_countRings (z := (20, [(0, .ref (ad 1)), (1, .int wire), (2, .int onlyFalseOnes), (3, .int v5_3), (4, .int v5_4)], [.int (if xrgQ σ wire v5_4 then 1 else 0)])) rfl ?_
      refine y_if_eq tq_X8_countRings 40 rfl rfl (fun c20 => ?_) (fun c20 => ?_)
      · skip
        refine y_blk 2 tq_X8_countRings (z := (5, [(4, .int (v5_4 + 1)), (0, .ref (ad 1)), (1, .int wire), (2, .int onlyFalseOnes), (3, .int v5_3)], [])) rfl ?_
        refine y_pick (L2 := [(0, .ref (ad 1)), (1, .int wire), (2, .int onlyFalseOnes), (3, .int v5_3), (4, .int (v5_4 + 1))]) [1, 2, 3, 4, 0] rfl ?_
        exact ih5 _ (by exact ydec c10) v5_3 (v5_4 + 1) (by first | exact xcn_step hh5 c10 | exact xcn_init (by decide)) (by first | exact itI_s ea5 hh5 c10 (by unfold xrgF; simp only [yif0, Classical.not_not] at *; (repeat' split) <;> first | contradiction | with_reducible rfl) | with_reducible exact itI_0) rfl
      · skip
        refine y_blk 1 tq_X8_countRings (z := (24, [(0, .ref (ad 1)), (1, .int wire), (2, .int onlyFalseOnes), (3, .int v5_3), (4, .int v5_4)], [.int onlyFalseOnes])) rfl ?_
        refine y_if_eq tq_X8_countRings 37 rfl rfl (fun c24 => ?_) (fun c24 => ?_)
        · skip
          refine y_blk 3 tq_X8_countRings (z := (5, [(4, .int (v5_4 + 1)), (3, .int (v5_3 + 1)), (0, .ref (ad 1)), (1, .int wire), (2, .int onlyFalseOnes)], [])) rfl ?_
          refine y_pick (L2 := [(0, .ref (ad 1)), (1, .int wire), (2, .int onlyFalseOnes), (3, .int (v5_3 + 1)), (4, .int (v5_4 + 1))]) [2, 3, 4, 1, 0] rfl ?_
          exact ih5 _ (by exact ydec c10) (v5_3 + 1) (v5_4 + 1) (by first | exact xcn_step hh5 c10 | exact xcn_init (by decide)) (by first | exact itI_s ea5 hh5 c10 (by unfold xrgF; simp only [yif0, Classical.not_not] at *; (repeat' split) <;> first | contradiction | with_reducible rfl) | with_reducible exact itI_0) rfl
        · skip
          refine y_blk 3 tq_X8_countRings (z := (31, [(0, .ref (ad 1)), (1, .int wire), (2, .int onlyFalseOnes), (3, .int v5_3), (4, .int v5_4)], [.int v5_4, .int wire, .ref (ad 1)])) rfl ?_
          refine y_callV hS tq_X8_countRings rfl (As := [.int wire, .int v5_4]) rfl cv_X8_487 (hX.1 1 _ rfl) (m_X8_isIntruded_v hS hX wire v5_4) rfl (by decide) (Nat.le_of_ble_eq_true rfl) (fun r31 Gc31 q31 => ?_) (fun E9 G9 h9 => h9.elim)
          obtain ⟨rfl, eG31⟩ := q31
          have eG31 := eG31.symm
          subst eG31
          refine y_blk 0 tq_X8_countRings (z := (34, [(0, .ref (ad 1)), (1, .int wire), (2, .int onlyFalseOnes), (3, .int v5_3), (4, .int v5_4)], [.int (if xiwQ σ wire v5_4 then 1 else 0)])) rfl ?_
          refine y_if_ne tq_X8_countRings 40 rfl rfl (fun c34 => ?_) (fun c34 => ?_)
          · skip
            refine y_blk 2 tq_X8_countRings (z := (5, [(4, .int (v5_4 + 1)), (0, .ref (ad 1)), (1, .int wire), (2, .int onlyFalseOnes), (3, .int v5_3)], [])) rfl ?_
            refine y_pick (L2 := [(0, .ref (ad 1)), (1, .int wire), (2, .int onlyFalseOnes), (3, .int v5_3), (4, .int (v5_4 + 1))]) [1, 2, 3, 4, 0] rfl ?_
            exact ih5 _ (by exact ydec c10) v5_3 (v5_4 + 1) (by first | exact xcn_step hh5 c10 | exact xcn_init (by decide)) (by first | exact itI_s ea5 hh5 c10 (by unfold xrgF; simp only [yif0, Classical.not_not] at *; (repeat' split) <;> first | contradiction | with_reducible rfl) | with_reducible exact itI_0) rfl
          · skip
            refine y_blk 3 tq_X8_countRings (z := (5, [(4, .int (v5_4 + 1)), (3, .int (v5_3 + 1)), (0, .ref (ad 1)), (1, .int wire), (2, .int onlyFalseOnes)], [])) rfl ?_
            refine y_pick (L2 := [(0, .ref (ad 1)), (1, .int wire), (2, .int onlyFalseOnes), (3, .int (v5_3 + 1)), (4, .int (v5_4 + 1))]) [2, 3, 4, 1, 0] rfl ?_
            exact ih5 _ (by exact ydec c10) (v5_3 + 1) (v5_4 + 1) (by first | exact xcn_step hh5 c10 | exact xcn_init (by decide)) (by first | exact itI_s ea5 hh5 c10 (by unfold xrgF; simp only [yif0, Classical.not_not] at *; (repeat' split) <;> first | contradiction | with_reducible rfl) | with_reducible exact itI_0) rfl
  refine y_blk 4 tq_X8_countRings (z := (5, [(4, .int 0), (3, .int 0), (0, .ref (ad 1)), (1, .int wire), (2, .int onlyFalseOnes)], [])) rfl ?_
  refine y_pick (L2 := [(0, .ref (ad 1)), (1, .int wire), (2, .int onlyFalseOnes), (3, .int 0), (4, .int 0)]) [2, 3, 4, 1, 0] rfl ?_
  exact J5 _ 0 0 (by first | exact xcn_step hh5 c10 | exact xcn_init (by decide)) (by first | exact itI_s ea5 hh5 c10 (by unfold xrgF; simp only [yif0, Classical.not_not] at *; (repeat' split) <;> first | contradiction | with_reducible rfl) | with_reducible exact itI_0) rfl
set_option maxHeartbeats 4000000 in
set_option maxRecDepth 100000 in
theorem m_X8_firstTrueRing_v {l : Launch} {S0 : State} {A0 : Array Value} {D : va_G} {aC : Nat → ClassId} {ad : Nat → Nat} {G : AH} {σ : XS} (hS : yS l S0 A0 D aC) (hX : atX aC ad G σ) (wire : Int32) : yM l S0 D yX8_firstTrueRing cX8_firstTrueRing 3 (some .int) 14 0 0 [.ref (ad 1), .int wire] G (fun r G1 => r = some (.int (xtrN σ wire)) ∧ G1 = G) (fun _ _ => False) := by
  refine yM.ofK K_X8_firstTrueRing rfl (by decide) (Nat.le_of_ble_eq_true rfl) ?_
  have J2 : ∀ (n2 : Nat) (v2_2 : Int32) (hh2 : 0 ≤ v2_2.toInt ∧ v2_2.toInt ≤ (240 : Int32).toInt) (ea2 : ∀ j : Nat, j < v2_2.toInt.toNat → ¬ xtrQ σ wire (Int32.ofNat j)), ((240 : Int32).toInt - v2_2.toInt).toNat = n2 → Y l S0 D K_X8_firstTrueRing 14 0 0 (fun r G1 => r = some (.int (xtrN σ wire)) ∧ G1 = G) (fun _ _ => False) 2 [(0, .ref (ad 1)), (1, .int wire), (2, .int v2_2)] [] G 0 0 := by
    intro n2
    induction n2 using Nat.strongRecOn with
    | _ n2 ih2 =>
    intro v2_2 hh2 ea2 hn2
    subst hn2
    refine y_blk 2 tq_X8_firstTrueRing (z := (6, [(0, .ref (ad 1)), (1, .int wire), (2, .int v2_2)], [.int 240, .int v2_2])) rfl ?_
    refine y_icmp_ge tq_X8_firstTrueRing 35 rfl rfl (fun c6 => ?_) (fun c6 => ?_)
    · skip
      refine y_blk 1 tq_X8_firstTrueRing (z := (36, [(0, .ref (ad 1)), (1, .int wire), (2, .int v2_2)], [.int (-1)])) rfl ?_
      exact y_iret tq_X8_firstTrueRing rfl rfl (⟨congrArg (fun z => some (Value.int z)) (by first | exact itf_end (P := xtrQ σ wire) ea2 hh2 c6 | exact itf_at (P := xtrQ σ wire) ea2 hh2 c6 (by decide) (by simp only [yif0, Classical.not_not] at *; exact ⟨by assumption, by assumption⟩)), rfl⟩)
    · skip
      refine y_blk 3 tq_X8_firstTrueRing (z := (12, [(0, .ref (ad 1)), (1, .int wire), (2, .int v2_2)], [.int v2_2, .int wire, .ref (ad 1)])) rfl ?_
      refine y_callV hS tq_X8_firstTrueRing rfl (As := [.int wire, .int v2_2]) rfl cv_X8_487 (hX.1 1 _ rfl) (m_X8_isIntruded_v hS hX wire v2_2) rfl (by decide) (Nat.le_of_ble_eq_true rfl) (fun r12 Gc12 q12 => ?_) (fun E9 G9 h9 => h9.elim)
      obtain ⟨rfl, eG12⟩ := q12
      have eG12 := eG12.symm
      subst eG12
      refine y_blk 0 tq_X8_firstTrueRing (z := (15, [(0, .ref (ad 1)), (1, .int wire), (2, .int v2_2)], [.int (if xiwQ σ wire v2_2 then 1 else 0)])) rfl ?_
      refine y_if_eq tq_X8_firstTrueRing 29 rfl rfl (fun c15 => ?_) (fun c15 => ?_)
      · skip
        refine y_blk 2 tq_X8_firstTrueRing (z := (2, [(2, .int (v2_2 + 1)), (0, .ref (ad 1)), (1, .int wire)], [])) rfl ?_
        refine y_pick (L2 := [(0, .ref (ad 1)), (1, .int wire), (2, .int (v2_2 + 1))]) [1, 2, 0] rfl ?_
        exact ih2 _ (by exact ydec c6) (v2_2 + 1) (by first | exact xcn_step hh2 c6 | exact xcn_init (by decide)) (by first | exact itf_s (P := xtrQ σ wire) ea2 hh2 c6 (fun q => by simp only [yif0, Classical.not_not] at *; first | contradiction | exact absurd q.1 (by assumption) | exact absurd q.2 (by assumption)) | exact itf_0 (P := xtrQ σ wire)) rfl
      · skip
        refine y_blk 3 tq_X8_firstTrueRing (z := (21, [(0, .ref (ad 1)), (1, .int wire), (2, .int v2_2)], [.int v2_2, .int wire, .ref (ad 1)])) rfl ?_
        refine y_callV hS tq_X8_firstTrueRing rfl (As := [.int wire, .int v2_2]) rfl cv_X8_484 (hX.1 1 _ rfl) (m_X8_rings_v hS hX wire v2_2) rfl (by decide) (Nat.le_of_ble_eq_true rfl) (fun r21 Gc21 q21 => ?_) (fun E9 G9 h9 => h9.elim)
        obtain ⟨rfl, eG21⟩ := q21
        have eG21 := eG21.symm
        subst eG21
        refine y_blk 0 tq_X8_firstTrueRing (z := (24, [(0, .ref (ad 1)), (1, .int wire), (2, .int v2_2)], [.int (if xrgQ σ wire v2_2 then 1 else 0)])) rfl ?_
        refine y_if_eq tq_X8_firstTrueRing 29 rfl rfl (fun c24 => ?_) (fun c24 => ?_)
        · skip
          refine y_blk 2 tq_X8_firstTrueRing (z := (2, [(2, .int (v2_2 + 1)), (0, .ref (ad 1)), (1, .int wire)], [])) rfl ?_
          refine y_pick (L2 := [(0, .ref (ad 1)), (1, .int wire), (2, .int (v2_2 + 1))]) [1, 2, 0] rfl ?_
          exact ih2 _ (by exact ydec c6) (v2_2 + 1) (by first | exact xcn_step hh2 c6 | exact xcn_init (by decide)) (by first | exact itf_s (P := xtrQ σ wire) ea2 hh2 c6 (fun q => by simp only [yif0, Classical.not_not] at *; first | contradiction | exact absurd q.1 (by assumption) | exact absurd q.2 (by assumption)) | exact itf_0 (P := xtrQ σ wire)) rfl
        · skip
          refine y_blk 1 tq_X8_firstTrueRing (z := (28, [(0, .ref (ad 1)), (1, .int wire), (2, .int v2_2)], [.int v2_2])) rfl ?_
          exact y_iret tq_X8_firstTrueRing rfl rfl (⟨congrArg (fun z => some (Value.int z)) (by first | exact itf_end (P := xtrQ σ wire) ea2 hh2 c6 | exact itf_at (P := xtrQ σ wire) ea2 hh2 c6 (by decide) (by simp only [yif0, Classical.not_not] at *; exact ⟨by assumption, by assumption⟩)), rfl⟩)
  refine y_blk 2 tq_X8_firstTrueRing (z := (2, [(2, .int 0), (0, .ref (ad 1)), (1, .int wire)], [])) rfl ?_
  refine y_pick (L2 := [(0, .ref (ad 1)), (1, .int wire), (2, .int 0)]) [1, 2, 0] rfl ?_
  exact J2 _ 0 (by first | exact xcn_step hh2 c6 | exact xcn_init (by decide)) (by first | exact itf_s (P := xtrQ σ wire) ea2 hh2 c6 (fun q => by simp only [yif0, Classical.not_not] at *; first | contradiction | exact absurd q.1 (by assumption) | exact absurd q.2 (by assumption)) | exact itf_0 (P := xtrQ σ wire)) rfl
set_option maxHeartbeats 4000000 in
set_option maxRecDepth 100000 in
theorem m_X8_ofWire_v {l : Launch} {S0 : State} {A0 : Array Value} {D : va_G} {aC : Nat → ClassId} {ad : Nat → Nat} {G : AH} {σ : XS} (hS : yS l S0 A0 D aC) (hX : atX aC ad G σ) (wire : Int32) (what : Int32) : yM l S0 D yX8_ofWire cX8_ofWire 3 (some .int) 15 2 12 [.ref (ad 1), .int wire, .int what] G (fun r G1 => (r = some (.int (if what = 0 then xat σ 22 wire else if what = 1 then xat σ 23 wire else if what = 2 then xrgN σ wire 0 else if what = 3 then xrgN σ wire 1 else xtrN σ wire)) ∧ ((0 ≤ wire ∧ wire ≤ σ.1 22 - 1) ∧ (0 ≤ what ∧ what ≤ 4))) ∧ ∃ σ1 : XS, atX aC ad G1 σ1 ∧ keepX G G1 ∧ xfr [] σ σ1 ∧ σ1 = σ) (fun E G1 => ((E = "java/lang/IndexOutOfBoundsException" ∧ (¬ (0 ≤ wire ∧ wire ≤ σ.1 22 - 1))) ∨ (E = "java/lang/IllegalArgumentException" ∧ ((0 ≤ wire ∧ wire ≤ σ.1 22 - 1) ∧ (¬ (0 ≤ what ∧ what ≤ 4))))) ∧ G1 = G) := by
  refine yM.ofK K_X8_ofWire rfl (by decide) (Nat.le_of_ble_eq_true rfl) ?_
  refine y_blk 2 tq_X8_ofWire (z := (2, [(0, .ref (ad 1)), (1, .int wire), (2, .int what)], [.ref (ad 1), .int wire])) rfl ?_
  refine y_get hS tq_X8_ofWire (v := .ref (ad 9)) rfl fg_X8_66_X8 (hX.1 1 _ rfl) rfl ?_
  refine y_blk 0 tq_X8_ofWire (z := (5, [(0, .ref (ad 1)), (1, .int wire), (2, .int what)], [.ref (ad 9), .int wire])) rfl ?_
  refine y_callV hS tq_X8_ofWire rfl (As := []) rfl cv_X8_326 (hX.1 9 _ rfl) (m_X6_count hS hX ) rfl (by decide) (Nat.le_of_ble_eq_true rfl) (fun r5 Gc5 q5 => ?_) (fun E9 G9 h9 => h9.elim)
  obtain ⟨rfl, eG5⟩ := q5
  have eG5 := eG5.symm
  subst eG5
  refine y_blk 0 tq_X8_ofWire (z := (8, [(0, .ref (ad 1)), (1, .int wire), (2, .int what)], [.int (σ.1 22), .int wire])) rfl ?_
  refine y_callS hS tq_X8_ofWire rfl (As := [.int wire, .int (σ.1 22)]) rfl cs_X8_164 (m_X8_needThere hS  wire (σ.1 22)) rfl (by decide) (Nat.le_of_ble_eq_true rfl) (fun r8 Gc8 q8 => ?_) (fun E9 G9 h9 => ⟨(Or.inl (And.intro h9.1.1 (by first | exact h9.1.2 | exact absurd h9.1.2 (by decide) | exact absurd rfl hq2 | exact absurd rfl hq11 | exact absurd rfl hq19 | exact absurd rfl hq21 | exact absurd rfl hq24 | exact absurd rfl hq30 | exact absurd rfl hq35 | exact absurd rfl hq39 | exact absurd rfl hq40 | exact absurd rfl hq57 | exact absurd rfl hq45 | exact absurd rfl hq38 | exact absurd rfl hq34 | exact absurd rfl hq33 | exact absurd rfl hq29 | (have z9 := h9.1.2; clear h9; (repeat' apply And.intro) <;> first | (first | assumption | (simp only [yif0, Classical.not_not, ylt, yle, xcp0, xcp3, xcp5, xcp10, xcp12, xcp16, xcp22, yl_m1, yl_0, yl_1, yl_2, yl_3, yl_4, yl_5, yl_6, yl_7, yl_8, yl_9, yl_10, yl_11, yl_12, yl_15, yl_16, yl_20, yl_60, yl_64, yl_90, yl_97, yl_99, yl_100, yl_120, yl_239, yl_240] at *; first | omega | assumption | contradiction)) | (intro q9; (simp only [yif0, Classical.not_not, ylt, yle, xcp0, xcp3, xcp5, xcp10, xcp12, xcp16, xcp22, yl_m1, yl_0, yl_1, yl_2, yl_3, yl_4, yl_5, yl_6, yl_7, yl_8, yl_9, yl_10, yl_11, yl_12, yl_15, yl_16, yl_20, yl_60, yl_64, yl_90, yl_97, yl_99, yl_100, yl_120, yl_239, yl_240] at *; first | omega | contradiction | (obtain ⟨qa, qb⟩ := q9; contradiction))))))), h9.2⟩)
  obtain ⟨⟨rfl, hq8⟩, eG8⟩ := q8
  have eG8 := eG8.symm
  subst eG8
  refine y_blk 3 tq_X8_ofWire (z := (14, [(0, .ref (ad 1)), (1, .int wire), (2, .int what)], [.int 4, .int 0, .int what])) rfl ?_
  refine y_callS hS tq_X8_ofWire rfl (As := [.int what, .int 0, .int 4]) rfl cs_X8_76 (m_X8_isIn hS  what 0 4) rfl (by decide) (Nat.le_of_ble_eq_true rfl) (fun r14 Gc14 q14 => ?_) (fun E9 G9 h9 => h9.elim)
  obtain ⟨rfl, eG14⟩ := q14
  have eG14 := eG14.symm
  subst eG14
  refine y_blk 0 tq_X8_ofWire (z := (17, [(0, .ref (ad 1)), (1, .int wire), (2, .int what)], [.int (if 0 ≤ what ∧ what ≤ 4 then 1 else 0)])) rfl ?_
  refine y_callS hS tq_X8_ofWire rfl (As := [.int (if 0 ≤ what ∧ what ≤ 4 then 1 else 0)]) rfl cs_X8_117 (m_X8_needLet hS  (if 0 ≤ what ∧ what ≤ 4 then 1 else 0)) rfl (by decide) (Nat.le_of_ble_eq_true rfl) (fun r17 Gc17 q17 => ?_) (fun E9 G9 h9 => ⟨(Or.inr (And.intro h9.1.1 (by first | exact h9.1.2 | exact absurd h9.1.2 (by decide) | exact absurd rfl hq2 | exact absurd rfl hq11 | exact absurd rfl hq19 | exact absurd rfl hq21 | exact absurd rfl hq24 | exact absurd rfl hq30 | exact absurd rfl hq35 | exact absurd rfl hq39 | exact absurd rfl hq40 | exact absurd rfl hq57 | exact absurd rfl hq45 | exact absurd rfl hq38 | exact absurd rfl hq34 | exact absurd rfl hq33 | exact absurd rfl hq29 | (have z9 := h9.1.2; clear h9; (repeat' apply And.intro) <;> first | (first | assumption | (simp only [yif0, Classical.not_not, ylt, yle, xcp0, xcp3, xcp5, xcp10, xcp12, xcp16, xcp22, yl_m1, yl_0, yl_1, yl_2, yl_3, yl_4, yl_5, yl_6, yl_7, yl_8, yl_9, yl_10, yl_11, yl_12, yl_15, yl_16, yl_20, yl_60, yl_64, yl_90, yl_97, yl_99, yl_100, yl_120, yl_239, yl_240] at *; first | omega | assumption | contradiction)) | (intro q9; (simp only [yif0, Classical.not_not, ylt, yle, xcp0, xcp3, xcp5, xcp10, xcp12, xcp16, xcp22, yl_m1, yl_0, yl_1, yl_2, yl_3, yl_4, yl_5, yl_6, yl_7, yl_8, yl_9, yl_10, yl_11, yl_12, yl_15, yl_16, yl_20, yl_60, yl_64, yl_90, yl_97, yl_99, yl_100, yl_120, yl_239, yl_240] at *; first | omega | contradiction | (obtain ⟨qa, qb⟩ := q9; contradiction))))))), h9.2⟩)
  obtain ⟨⟨rfl, hq17⟩, eG17⟩ := q17
  have eG17 := eG17.symm
  subst eG17
  refine y_blk 1 tq_X8_ofWire (z := (21, [(0, .ref (ad 1)), (1, .int wire), (2, .int what)], [.int what])) rfl ?_
  by_cases s21_0 : what = 0
  · refine y_swIn tq_X8_ofWire 52 rfl (by rw [s21_0]; decide) (by rw [s21_0]; decide) (by rw [s21_0]; rfl) rfl ?_
    refine y_blk 1 tq_X8_ofWire (z := (53, [(0, .ref (ad 1)), (1, .int wire), (2, .int what)], [.ref (ad 1)])) rfl ?_
    refine y_get hS tq_X8_ofWire (v := .ref (ad 9)) rfl fg_X8_66_X8 (hX.1 1 _ rfl) rfl ?_
    refine y_blk 1 tq_X8_ofWire (z := (57, [(0, .ref (ad 1)), (1, .int wire), (2, .int what)], [.int wire, .ref (ad 9)])) rfl ?_
    refine y_callV hS tq_X8_ofWire rfl (As := [.int wire]) rfl cv_X8_327 (hX.1 9 _ rfl) (m_X6_cellOf hS hX wire) rfl (by decide) (Nat.le_of_ble_eq_true rfl) (fun r57 Gc57 q57 => ?_) (fun E9 G9 h9 => h9.elim)
    obtain ⟨rfl, eG57⟩ := q57
    have eG57 := eG57.symm
    subst eG57
    refine y_blk 0 tq_X8_ofWire (z := (60, [(0, .ref (ad 1)), (1, .int wire), (2, .int what)], [.int (xat σ 22 wire)])) rfl ?_
    exact y_iret tq_X8_ofWire rfl rfl (⟨⟨congrArg (fun z => some (Value.int z)) (by (repeat' split) <;> first | contradiction | with_reducible rfl), (by first | exact absurd rfl hq2 | exact absurd rfl hq11 | exact absurd rfl hq19 | exact absurd rfl hq21 | exact absurd rfl hq24 | exact absurd rfl hq30 | exact absurd rfl hq35 | exact absurd rfl hq39 | exact absurd rfl hq40 | exact absurd rfl hq57 | exact absurd rfl hq45 | exact absurd rfl hq38 | exact absurd rfl hq34 | exact absurd rfl hq33 | exact absurd rfl hq29 | ((repeat' apply And.intro) <;> first | assumption | (simp only [yif0, Classical.not_not, ylt, yle, xcp0, xcp3, xcp5, xcp10, xcp12, xcp16, xcp22, yl_m1, yl_0, yl_1, yl_2, yl_3, yl_4, yl_5, yl_6, yl_7, yl_8, yl_9, yl_10, yl_11, yl_12, yl_15, yl_16, yl_20, yl_60, yl_64, yl_90, yl_97, yl_99, yl_100, yl_120, yl_239, yl_240] at *; first | omega | assumption | contradiction)))⟩, _, hX, keepX.rfl', (xkn.rfl').w, rfl⟩)
  by_cases s21_1 : what = 1
  · refine y_swIn tq_X8_ofWire 61 rfl (by rw [s21_1]; decide) (by rw [s21_1]; decide) (by rw [s21_1]; rfl) rfl ?_
    refine y_blk 1 tq_X8_ofWire (z := (62, [(0, .ref (ad 1)), (1, .int wire), (2, .int what)], [.ref (ad 1)])) rfl ?_
    refine y_get hS tq_X8_ofWire (v := .ref (ad 9)) rfl fg_X8_66_X8 (hX.1 1 _ rfl) rfl ?_
    refine y_blk 1 tq_X8_ofWire (z := (66, [(0, .ref (ad 1)), (1, .int wire), (2, .int what)], [.int wire, .ref (ad 9)])) rfl ?_
    refine y_callV hS tq_X8_ofWire rfl (As := [.int wire]) rfl cv_X8_330 (hX.1 9 _ rfl) (m_X6_barOf hS hX wire) rfl (by decide) (Nat.le_of_ble_eq_true rfl) (fun r66 Gc66 q66 => ?_) (fun E9 G9 h9 => h9.elim)
    obtain ⟨rfl, eG66⟩ := q66
    have eG66 := eG66.symm
    subst eG66
    refine y_blk 0 tq_X8_ofWire (z := (69, [(0, .ref (ad 1)), (1, .int wire), (2, .int what)], [.int (xat σ 23 wire)])) rfl ?_
    exact y_iret tq_X8_ofWire rfl rfl (⟨⟨congrArg (fun z => some (Value.int z)) (by (repeat' split) <;> first | contradiction | with_reducible rfl), (by first | exact absurd rfl hq2 | exact absurd rfl hq11 | exact absurd rfl hq19 | exact absurd rfl hq21 | exact absurd rfl hq24 | exact absurd rfl hq30 | exact absurd rfl hq35 | exact absurd rfl hq39 | exact absurd rfl hq40 | exact absurd rfl hq57 | exact absurd rfl hq45 | exact absurd rfl hq38 | exact absurd rfl hq34 | exact absurd rfl hq33 | exact absurd rfl hq29 | ((repeat' apply And.intro) <;> first | assumption | (simp only [yif0, Classical.not_not, ylt, yle, xcp0, xcp3, xcp5, xcp10, xcp12, xcp16, xcp22, yl_m1, yl_0, yl_1, yl_2, yl_3, yl_4, yl_5, yl_6, yl_7, yl_8, yl_9, yl_10, yl_11, yl_12, yl_15, yl_16, yl_20, yl_60, yl_64, yl_90, yl_97, yl_99, yl_100, yl_120, yl_239, yl_240] at *; first | omega | assumption | contradiction)))⟩, _, hX, keepX.rfl', (xkn.rfl').w, rfl⟩)
  by_cases s21_2 : what = 2
  · refine y_swIn tq_X8_ofWire 70 rfl (by rw [s21_2]; decide) (by rw [s21_2]; decide) (by rw [s21_2]; rfl) rfl ?_
    refine y_blk 3 tq_X8_ofWire (z := (73, [(0, .ref (ad 1)), (1, .int wire), (2, .int what)], [.int 0, .int wire, .ref (ad 1)])) rfl ?_
    refine y_callV hS tq_X8_ofWire rfl (As := [.int wire, .int 0]) rfl cv_X8_333 (hX.1 1 _ rfl) (m_X8_countRings_v hS hX wire 0) rfl (by decide) (Nat.le_of_ble_eq_true rfl) (fun r73 Gc73 q73 => ?_) (fun E9 G9 h9 => h9.elim)
    obtain ⟨rfl, eG73⟩ := q73
    have eG73 := eG73.symm
    subst eG73
    refine y_blk 0 tq_X8_ofWire (z := (76, [(0, .ref (ad 1)), (1, .int wire), (2, .int what)], [.int (xrgN σ wire 0)])) rfl ?_
    exact y_iret tq_X8_ofWire rfl rfl (⟨⟨congrArg (fun z => some (Value.int z)) (by (repeat' split) <;> first | contradiction | with_reducible rfl), (by first | exact absurd rfl hq2 | exact absurd rfl hq11 | exact absurd rfl hq19 | exact absurd rfl hq21 | exact absurd rfl hq24 | exact absurd rfl hq30 | exact absurd rfl hq35 | exact absurd rfl hq39 | exact absurd rfl hq40 | exact absurd rfl hq57 | exact absurd rfl hq45 | exact absurd rfl hq38 | exact absurd rfl hq34 | exact absurd rfl hq33 | exact absurd rfl hq29 | ((repeat' apply And.intro) <;> first | assumption | (simp only [yif0, Classical.not_not, ylt, yle, xcp0, xcp3, xcp5, xcp10, xcp12, xcp16, xcp22, yl_m1, yl_0, yl_1, yl_2, yl_3, yl_4, yl_5, yl_6, yl_7, yl_8, yl_9, yl_10, yl_11, yl_12, yl_15, yl_16, yl_20, yl_60, yl_64, yl_90, yl_97, yl_99, yl_100, yl_120, yl_239, yl_240] at *; first | omega | assumption | contradiction)))⟩, _, hX, keepX.rfl', (xkn.rfl').w, rfl⟩)
  by_cases s21_3 : what = 3
  · refine y_swIn tq_X8_ofWire 77 rfl (by rw [s21_3]; decide) (by rw [s21_3]; decide) (by rw [s21_3]; rfl) rfl ?_
    refine y_blk 3 tq_X8_ofWire (z := (80, [(0, .ref (ad 1)), (1, .int wire), (2, .int what)], [.int 1, .int wire, .ref (ad 1)])) rfl ?_
    refine y_callV hS tq_X8_ofWire rfl (As := [.int wire, .int 1]) rfl cv_X8_333 (hX.1 1 _ rfl) (m_X8_countRings_v hS hX wire 1) rfl (by decide) (Nat.le_of_ble_eq_true rfl) (fun r80 Gc80 q80 => ?_) (fun E9 G9 h9 => h9.elim)
    obtain ⟨rfl, eG80⟩ := q80
    have eG80 := eG80.symm
    subst eG80
    refine y_blk 0 tq_X8_ofWire (z := (83, [(0, .ref (ad 1)), (1, .int wire), (2, .int what)], [.int (xrgN σ wire 1)])) rfl ?_
    exact y_iret tq_X8_ofWire rfl rfl (⟨⟨congrArg (fun z => some (Value.int z)) (by (repeat' split) <;> first | contradiction | with_reducible rfl), (by first | exact absurd rfl hq2 | exact absurd rfl hq11 | exact absurd rfl hq19 | exact absurd rfl hq21 | exact absurd rfl hq24 | exact absurd rfl hq30 | exact absurd rfl hq35 | exact absurd rfl hq39 | exact absurd rfl hq40 | exact absurd rfl hq57 | exact absurd rfl hq45 | exact absurd rfl hq38 | exact absurd rfl hq34 | exact absurd rfl hq33 | exact absurd rfl hq29 | ((repeat' apply And.intro) <;> first | assumption | (simp only [yif0, Classical.not_not, ylt, yle, xcp0, xcp3, xcp5, xcp10, xcp12, xcp16, xcp22, yl_m1, yl_0, yl_1, yl_2, yl_3, yl_4, yl_5, yl_6, yl_7, yl_8, yl_9, yl_10, yl_11, yl_12, yl_15, yl_16, yl_20, yl_60, yl_64, yl_90, yl_97, yl_99, yl_100, yl_120, yl_239, yl_240] at *; first | omega | assumption | contradiction)))⟩, _, hX, keepX.rfl', (xkn.rfl').w, rfl⟩)
  refine y_swOut tq_X8_ofWire 84 rfl (by have z0 : what.toInt ≠ 0 := fun q => s21_0 (Int32.toInt_inj.mp (q.trans (by decide))); have z1 : what.toInt ≠ 1 := fun q => s21_1 (Int32.toInt_inj.mp (q.trans (by decide))); have z2 : what.toInt ≠ 2 := fun q => s21_2 (Int32.toInt_inj.mp (q.trans (by decide))); have z3 : what.toInt ≠ 3 := fun q => s21_3 (Int32.toInt_inj.mp (q.trans (by decide))); omega) rfl ?_
  refine y_blk 2 tq_X8_ofWire (z := (86, [(0, .ref (ad 1)), (1, .int wire), (2, .int what)], [.int wire, .ref (ad 1)])) rfl ?_
  refine y_callV hS tq_X8_ofWire rfl (As := [.int wire]) rfl cv_X8_337 (hX.1 1 _ rfl) (m_X8_firstTrueRing_v hS hX wire) rfl (by decide) (Nat.le_of_ble_eq_true rfl) (fun r86 Gc86 q86 => ?_) (fun E9 G9 h9 => h9.elim)
  obtain ⟨rfl, eG86⟩ := q86
  have eG86 := eG86.symm
  subst eG86
  refine y_blk 0 tq_X8_ofWire (z := (89, [(0, .ref (ad 1)), (1, .int wire), (2, .int what)], [.int (xtrN σ wire)])) rfl ?_
  exact y_iret tq_X8_ofWire rfl rfl (⟨⟨congrArg (fun z => some (Value.int z)) (by (repeat' split) <;> first | contradiction | with_reducible rfl), (by first | exact absurd rfl hq2 | exact absurd rfl hq11 | exact absurd rfl hq19 | exact absurd rfl hq21 | exact absurd rfl hq24 | exact absurd rfl hq30 | exact absurd rfl hq35 | exact absurd rfl hq39 | exact absurd rfl hq40 | exact absurd rfl hq57 | exact absurd rfl hq45 | exact absurd rfl hq38 | exact absurd rfl hq34 | exact absurd rfl hq33 | exact absurd rfl hq29 | ((repeat' apply And.intro) <;> first | assumption | (simp only [yif0, Classical.not_not, ylt, yle, xcp0, xcp3, xcp5, xcp10, xcp12, xcp16, xcp22, yl_m1, yl_0, yl_1, yl_2, yl_3, yl_4, yl_5, yl_6, yl_7, yl_8, yl_9, yl_10, yl_11, yl_12, yl_15, yl_16, yl_20, yl_60, yl_64, yl_90, yl_97, yl_99, yl_100, yl_120, yl_239, yl_240] at *; first | omega | assumption | contradiction)))⟩, _, hX, keepX.rfl', (xkn.rfl').w, rfl⟩)
set_option maxHeartbeats 4000000 in
set_option maxRecDepth 100000 in
theorem m_X8_empty_v {l : Launch} {S0 : State} {A0 : Array Value} {D : va_G} {aC : Nat → ClassId} {ad : Nat → Nat} {G : AH} {σ : XS} (hS : yS l S0 A0 D aC) (hX : atX aC ad G σ) (post : Int32) (isFirst : Int32) : yM l S0 D yX8_empty cX8_empty 6 (some .int) 13 1 6 [.ref (ad 1), .int post, .int isFirst] G (fun r G1 => (r = some (.int (if isFirst = 0 then xemN σ post else xem1 σ post)) ∧ (0 ≤ post ∧ post ≤ σ.1 10 - 1)) ∧ ∃ σ1 : XS, atX aC ad G1 σ1 ∧ keepX G G1 ∧ xfr [] σ σ1 ∧ σ1 = σ) (fun E G1 => ((E = "java/lang/IndexOutOfBoundsException" ∧ (¬ (0 ≤ post ∧ post ≤ σ.1 10 - 1)))) ∧ G1 = G) := by
  refine yM.ofK K_X8_empty rfl (by decide) (Nat.le_of_ble_eq_true rfl) ?_
  have J19 : ∀ (n19 : Nat) (v19_3 : Int32) (v19_4 : Int32) (v19_5 : Int32) (hok19 : (0 ≤ post ∧ post ≤ σ.1 10 - 1)) (hh19 : 0 ≤ v19_5.toInt ∧ v19_5.toInt ≤ (240 : Int32).toInt) (ea19 : v19_3 = itI (xemF σ post) (-1) v19_5.toInt.toNat) (eb19 : v19_4 = itI (xemC σ post) 0 v19_5.toInt.toNat), ((240 : Int32).toInt - v19_5.toInt).toNat = n19 → Y l S0 D K_X8_empty 13 1 6 (fun r G1 => (r = some (.int (if isFirst = 0 then xemN σ post else xem1 σ post)) ∧ (0 ≤ post ∧ post ≤ σ.1 10 - 1)) ∧ ∃ σ1 : XS, atX aC ad G1 σ1 ∧ keepX G G1 ∧ xfr [] σ σ1 ∧ σ1 = σ) (fun E G1 => ((E = "java/lang/IndexOutOfBoundsException" ∧ (¬ (0 ≤ post ∧ post ≤ σ.1 10 - 1)))) ∧ G1 = G) 19 [(0, .ref (ad 1)), (1, .int post), (2, .int isFirst), (3, .int v19_3), (4, .int v19_4), (5, .int v19_5)] [] G 0 0 := by
    intro n19
    induction n19 using Nat.strongRecOn with
    | _ n19 ih19 =>
    intro v19_3 v19_4 v19_5 hok19 hh19 ea19 eb19 hn19
    subst hn19
    refine y_blk 2 tq_X8_empty (z := (24, [(0, .ref (ad 1)), (1, .int post), (2, .int isFirst), (3, .int v19_3), (4, .int v19_4), (5, .int v19_5)], [.int 240, .int v19_5])) rfl ?_
    refine y_icmp_ge tq_X8_empty 71 rfl rfl (fun c24 => ?_) (fun c24 => ?_)
    · skip
      refine y_blk 1 tq_X8_empty (z := (72, [(0, .ref (ad 1)), (1, .int post), (2, .int isFirst), (3, .int v19_3), (4, .int v19_4), (5, .int v19_5)], [.int isFirst])) rfl ?_
      refine y_if_eq tq_X8_empty 79 rfl rfl (fun c72 => ?_) (fun c72 => ?_)
      · skip
        refine y_blk 1 tq_X8_empty (z := (81, [(0, .ref (ad 1)), (1, .int post), (2, .int isFirst), (3, .int v19_3), (4, .int v19_4), (5, .int v19_5)], [.int v19_4])) rfl ?_
        exact y_iret tq_X8_empty rfl rfl (⟨⟨congrArg (fun z => some (Value.int z)) (by first | exact (itI_e eb19 hh19 c24).trans (if_pos (by assumption)).symm | exact (itI_e ea19 hh19 c24).trans (if_neg (by assumption)).symm), hok19⟩, _, hX, keepX.rfl', (xkn.rfl').w, rfl⟩)
      · skip
        refine y_blk 2 tq_X8_empty (z := (81, [(0, .ref (ad 1)), (1, .int post), (2, .int isFirst), (3, .int v19_3), (4, .int v19_4), (5, .int v19_5)], [.int v19_3])) rfl ?_
        exact y_iret tq_X8_empty rfl rfl (⟨⟨congrArg (fun z => some (Value.int z)) (by first | exact (itI_e eb19 hh19 c24).trans (if_pos (by assumption)).symm | exact (itI_e ea19 hh19 c24).trans (if_neg (by assumption)).symm), hok19⟩, _, hX, keepX.rfl', (xkn.rfl').w, rfl⟩)
    · skip
      refine y_blk 1 tq_X8_empty (z := (28, [(0, .ref (ad 1)), (1, .int post), (2, .int isFirst), (3, .int v19_3), (4, .int v19_4), (5, .int v19_5)], [.ref (ad 1)])) rfl ?_
      refine y_get hS tq_X8_empty (v := .ref (ad 6)) rfl fg_X8_33_X8 (hX.1 1 _ rfl) rfl ?_
      refine y_blk 1 tq_X8_empty (z := (33, [(0, .ref (ad 1)), (1, .int post), (2, .int isFirst), (3, .int v19_3), (4, .int v19_4), (5, .int v19_5)], [.int v19_5, .ref (ad 6)])) rfl ?_
      refine y_callV hS tq_X8_empty rfl (As := [.int v19_5]) rfl cv_X8_236 (hX.1 6 _ rfl) (m_X2_cellsHeld_v hS hX v19_5) rfl (by decide) (Nat.le_of_ble_eq_true rfl) (fun r33 Gc33 q33 => ?_) (fun E9 G9 h9 => h9.elim)
      obtain ⟨rfl, eG33⟩ := q33
      have eG33 := eG33.symm
      subst eG33
      refine y_blk 1 tq_X8_empty (z := (37, [(0, .ref (ad 1)), (1, .int post), (2, .int isFirst), (3, .int v19_3), (4, .int v19_4), (5, .int v19_5)], [.ref (ad 1), .long (xhld σ v19_5)])) rfl ?_
      refine y_get hS tq_X8_empty (v := .ref (ad 120)) rfl fg_X8_42_X8 (hX.1 1 _ rfl) rfl ?_
      refine y_blk 1 tq_X8_empty (z := (41, [(0, .ref (ad 1)), (1, .int post), (2, .int isFirst), (3, .int v19_3), (4, .int v19_4), (5, .int v19_5)], [.int post, .ref (ad 120), .long (xhld σ v19_5)])) rfl ?_
      refine y_callV hS tq_X8_empty rfl (As := [.int post]) rfl cv_X8_239 (hX.num (k := 10) (by decide)) (m_X5_at hS hX (k := 10) (by decide) post) rfl (by decide) (Nat.le_of_ble_eq_true rfl) (fun r41 Gc41 q41 => ?_) (fun E9 G9 h9 => h9.elim)
      obtain ⟨rfl, eG41⟩ := q41
      have eG41 := eG41.symm
      subst eG41
      refine y_blk 0 tq_X8_empty (z := (44, [(0, .ref (ad 1)), (1, .int post), (2, .int isFirst), (3, .int v19_3), (4, .int v19_4), (5, .int v19_5)], [.int (xat σ 10 post), .long (xhld σ v19_5)])) rfl ?_
      refine y_callS hS tq_X8_empty rfl (As := [.long (xhld σ v19_5), .int (xat σ 10 post)]) rfl cs_X8_124 (m_X8_isOf hS  (xhld σ v19_5) (xat σ 10 post)) rfl (by decide) (Nat.le_of_ble_eq_true rfl) (fun r44 Gc44 q44 => ?_) (fun E9 G9 h9 => h9.elim)
      obtain ⟨rfl, eG44⟩ := q44
      have eG44 := eG44.symm
      subst eG44
      refine y_blk 0 tq_X8_empty (z := (47, [(0, .ref (ad 1)), (1, .int post), (2, .int isFirst), (3, .int v19_3), (4, .int v19_4), (5, .int v19_5)], [.int (if xis (xhld σ v19_5) (xat σ 10 post) then 1 else 0)])) rfl ?_
      refine y_if_ne tq_X8_empty 65 rfl rfl (fun c47 => ?_) (fun c47 => ?_)
      · skip
        refine y_blk 2 tq_X8_empty (z := (19, [(5, .int (v19_5 + 1)), (0, .ref (ad 1)), (1, .int post), (2, .int isFirst), (3, .int v19_3), (4, .int v19_4)], [])) rfl ?_
        refine y_pick (L2 := [(0, .ref (ad 1)), (1, .int post), (2, .int isFirst), (3, .int v19_3), (4, .int v19_4), (5, .int (v19_5 + 1))]) [1, 2, 3, 4, 5, 0] rfl ?_
        exact ih19 _ (by exact ydec c24) v19_3 v19_4 (v19_5 + 1) (by assumption) (by first | exact xcn_step hh19 c24 | exact xcn_init (by decide)) (by first | exact itI_s ea19 hh19 c24 (by unfold xemF; simp only [yif0, Classical.not_not] at *; (repeat' split) <;> first | contradiction | with_reducible rfl) | with_reducible exact itI_0) (by first | exact itI_s eb19 hh19 c24 (by unfold xemC; simp only [yif0, Classical.not_not] at *; (repeat' split) <;> first | contradiction | with_reducible rfl) | with_reducible exact itI_0) rfl
      · skip
        refine y_blk 2 tq_X8_empty (z := (52, [(0, .ref (ad 1)), (1, .int post), (2, .int isFirst), (3, .int v19_3), (4, .int v19_4), (5, .int v19_5)], [.int (-1), .int v19_3])) rfl ?_
        refine y_icmp_ne tq_X8_empty 60 rfl rfl (fun c52 => ?_) (fun c52 => ?_)
        · skip
          refine y_blk 5 tq_X8_empty (z := (19, [(5, .int (v19_5 + 1)), (4, .int (v19_4 + 1)), (3, .int v19_3), (0, .ref (ad 1)), (1, .int post), (2, .int isFirst)], [])) rfl ?_
          refine y_pick (L2 := [(0, .ref (ad 1)), (1, .int post), (2, .int isFirst), (3, .int v19_3), (4, .int (v19_4 + 1)), (5, .int (v19_5 + 1))]) [3, 4, 5, 2, 1, 0] rfl ?_
          exact ih19 _ (by exact ydec c24) v19_3 (v19_4 + 1) (v19_5 + 1) (by assumption) (by first | exact xcn_step hh19 c24 | exact xcn_init (by decide)) (by first | exact itI_s ea19 hh19 c24 (by unfold xemF; simp only [yif0, Classical.not_not] at *; (repeat' split) <;> first | contradiction | with_reducible rfl) | with_reducible exact itI_0) (by first | exact itI_s eb19 hh19 c24 (by unfold xemC; simp only [yif0, Classical.not_not] at *; (repeat' split) <;> first | contradiction | with_reducible rfl) | with_reducible exact itI_0) rfl
        · skip
          refine y_blk 6 tq_X8_empty (z := (19, [(5, .int (v19_5 + 1)), (4, .int (v19_4 + 1)), (3, .int v19_5), (0, .ref (ad 1)), (1, .int post), (2, .int isFirst)], [])) rfl ?_
          refine y_pick (L2 := [(0, .ref (ad 1)), (1, .int post), (2, .int isFirst), (3, .int v19_5), (4, .int (v19_4 + 1)), (5, .int (v19_5 + 1))]) [3, 4, 5, 2, 1, 0] rfl ?_
          exact ih19 _ (by exact ydec c24) v19_5 (v19_4 + 1) (v19_5 + 1) (by assumption) (by first | exact xcn_step hh19 c24 | exact xcn_init (by decide)) (by first | exact itI_s ea19 hh19 c24 (by unfold xemF; simp only [yif0, Classical.not_not] at *; (repeat' split) <;> first | contradiction | with_reducible rfl) | with_reducible exact itI_0) (by first | exact itI_s eb19 hh19 c24 (by unfold xemC; simp only [yif0, Classical.not_not] at *; (repeat' split) <;> first | contradiction | with_reducible rfl) | with_reducible exact itI_0) rfl
  refine y_blk 2 tq_X8_empty (z := (2, [(0, .ref (ad 1)), (1, .int post), (2, .int isFirst)], [.ref (ad 1), .int post])) rfl ?_
  refine y_get hS tq_X8_empty (v := .ref (ad 120)) rfl fg_X8_42_X8 (hX.1 1 _ rfl) rfl ?_
  refine y_blk 0 tq_X8_empty (z := (5, [(0, .ref (ad 1)), (1, .int post), (2, .int isFirst)], [.ref (ad 120), .int post])) rfl ?_
  refine y_callV hS tq_X8_empty rfl (As := []) rfl cv_X8_193 (hX.num (k := 10) (by decide)) (m_X5_size hS hX (k := 10) (by decide) ) rfl (by decide) (Nat.le_of_ble_eq_true rfl) (fun r5 Gc5 q5 => ?_) (fun E9 G9 h9 => h9.elim)
  obtain ⟨rfl, eG5⟩ := q5
  have eG5 := eG5.symm
  subst eG5
  refine y_blk 0 tq_X8_empty (z := (8, [(0, .ref (ad 1)), (1, .int post), (2, .int isFirst)], [.int (σ.1 10), .int post])) rfl ?_
  refine y_callS hS tq_X8_empty rfl (As := [.int post, .int (σ.1 10)]) rfl cs_X8_164 (m_X8_needThere hS  post (σ.1 10)) rfl (by decide) (Nat.le_of_ble_eq_true rfl) (fun r8 Gc8 q8 => ?_) (fun E9 G9 h9 => ⟨(And.intro h9.1.1 (by first | exact h9.1.2 | exact absurd h9.1.2 (by decide) | exact absurd rfl hq2 | exact absurd rfl hq11 | exact absurd rfl hq19 | exact absurd rfl hq21 | exact absurd rfl hq24 | exact absurd rfl hq30 | exact absurd rfl hq35 | exact absurd rfl hq39 | exact absurd rfl hq40 | exact absurd rfl hq57 | exact absurd rfl hq45 | exact absurd rfl hq38 | exact absurd rfl hq34 | exact absurd rfl hq33 | exact absurd rfl hq29 | (have z9 := h9.1.2; clear h9; (repeat' apply And.intro) <;> first | (first | assumption | (simp only [yif0, Classical.not_not, ylt, yle, xcp0, xcp3, xcp5, xcp10, xcp12, xcp16, xcp22, yl_m1, yl_0, yl_1, yl_2, yl_3, yl_4, yl_5, yl_6, yl_7, yl_8, yl_9, yl_10, yl_11, yl_12, yl_15, yl_16, yl_20, yl_60, yl_64, yl_90, yl_97, yl_99, yl_100, yl_120, yl_239, yl_240] at *; first | omega | assumption | contradiction)) | (intro q9; (simp only [yif0, Classical.not_not, ylt, yle, xcp0, xcp3, xcp5, xcp10, xcp12, xcp16, xcp22, yl_m1, yl_0, yl_1, yl_2, yl_3, yl_4, yl_5, yl_6, yl_7, yl_8, yl_9, yl_10, yl_11, yl_12, yl_15, yl_16, yl_20, yl_60, yl_64, yl_90, yl_97, yl_99, yl_100, yl_120, yl_239, yl_240] at *; first | omega | contradiction | (obtain ⟨qa, qb⟩ := q9; contradiction)))))), h9.2⟩)
  obtain ⟨⟨rfl, hq8⟩, eG8⟩ := q8
  have eG8 := eG8.symm
  subst eG8
  refine y_blk 6 tq_X8_empty (z := (19, [(5, .int 0), (4, .int 0), (3, .int (-1)), (0, .ref (ad 1)), (1, .int post), (2, .int isFirst)], [])) rfl ?_
  refine y_pick (L2 := [(0, .ref (ad 1)), (1, .int post), (2, .int isFirst), (3, .int (-1)), (4, .int 0), (5, .int 0)]) [3, 4, 5, 2, 1, 0] rfl ?_
  exact J19 _ (-1) 0 0 (by assumption) (by first | exact xcn_step hh19 c24 | exact xcn_init (by decide)) (by first | exact itI_s ea19 hh19 c24 (by unfold xemF; simp only [yif0, Classical.not_not] at *; (repeat' split) <;> first | contradiction | with_reducible rfl) | with_reducible exact itI_0) (by first | exact itI_s eb19 hh19 c24 (by unfold xemC; simp only [yif0, Classical.not_not] at *; (repeat' split) <;> first | contradiction | with_reducible rfl) | with_reducible exact itI_0) rfl
