/-! ===== the layer: an abstract heap by addresses, with tags; a judgement over it ===== -/
/-- what the statement's start is known to be: the launch without traces, the tables' words, the classes and the arrays -/
def yty (aC : Nat → ClassId) : List (ClassId × FieldType) := [(aC 0, .int), (aC 1, .long), (aC 2, .boolean), (aC 3, .byte), (aC 4, .object "java/lang/Object")]
def yS (l : Launch) (S0 : State) (A0 : Array Value) (D : va_G) (aC : Nat → ClassId) : Prop :=
  l.stackTraces = false ∧ (∀ w ∈ lw_tbl, w.before A0 S0 = true) ∧ va_K D vwCl (yty aC) S0 ∧ (Jvm.Cond.and given_1 narrow_1).before A0 S0 = true
abbrev AH : Type := Nat → Option (Nat × va_E)
def yup (G : AH) (a : Nat) (x : Nat × va_E) : AH := fun q => if q = a then some x else G q
theorem yup_s (G : AH) (a : Nat) (x : Nat × va_E) : yup G a x a = some x := if_pos rfl
theorem yup_n {G : AH} {a b : Nat} (x : Nat × va_E) (h : b ≠ a) : yup G a x b = G b := if_neg h
/-- the heap H holds what G says; what was there at the start stands -/
def yH (S0 : State) (D : va_G) (G : AH) (H : Heap) : Prop :=
  S0.heap.size ≤ H.size ∧ (∀ q : Nat, q < S0.heap.size → H[q]? = S0.heap[q]?) ∧ ∀ (a t : Nat) (e : va_E), G a = some (t, e) → va_at D vwCl (a, e) H ∧ (t ≠ 0 → S0.heap.size ≤ a)
theorem yH.put {S0 : State} {D : va_G} {G : AH} {H H1 : Heap} (h : yH S0 D G H) {a t : Nat} {e0 e : va_E} (hG : G a = some (t, e0)) (ht : t ≠ 0) (he : va_at D vwCl (a, e) H1) (hz : H1.size = H.size) (hq : ∀ q : Nat, q ≠ a → H1[q]? = H[q]?) : yH S0 D (yup G a (t, e)) H1 := by
  obtain ⟨h1, h2, h3⟩ := h
  have ha : S0.heap.size ≤ a := (h3 a t e0 hG).2 ht
  refine ⟨by omega, fun q hq0 => (hq q (by omega)).trans (h2 q hq0), fun b u x hb => ?_⟩
  by_cases hba : b = a
  · subst hba
    rw [yup_s] at hb
    cases hb
    exact ⟨he, fun _ => ha⟩
  · rw [yup_n _ hba] at hb
    obtain ⟨g1, g2⟩ := h3 b u x hb
    exact ⟨g1.kept (hq b hba), g2⟩
theorem yH.lt {S0 : State} {D : va_G} {G : AH} {H : Heap} (h : yH S0 D G H) {a : Nat} {x : Nat × va_E} (hG : G a = some x) : a < H.size := by
  obtain ⟨t, e⟩ := x
  exact (h.2.2 a t e hG).1.lt
theorem yH.push {S0 : State} {D : va_G} {G : AH} {H H1 : Heap} (h : yH S0 D G H) (t : Nat) {e : va_E} (he : va_at D vwCl (H.size, e) H1) (hz : H1.size = H.size + 1) (hq : ∀ q : Nat, q < H.size → H1[q]? = H[q]?) : yH S0 D (yup G H.size (t, e)) H1 := by
  have hl := fun {a : Nat} {x : Nat × va_E} (q : G a = some x) => h.lt q
  obtain ⟨h1, h2, h3⟩ := h
  refine ⟨by omega, fun q hq0 => (hq q (by omega)).trans (h2 q hq0), fun b u x hb => ?_⟩
  by_cases hba : b = H.size
  · subst hba
    rw [yup_s] at hb
    cases hb
    exact ⟨he, fun _ => h1⟩
  · rw [yup_n _ hba] at hb
    have hb2 := hl hb
    obtain ⟨g1, g2⟩ := h3 b u x hb
    exact ⟨g1.kept (hq b hb2), g2⟩
/-- a method's constants: class, name, code, locals, answer, handlers -/
abbrev yK : Type := String × String × ByteArray × Nat × Option FieldType × List ExceptionTableEntry
abbrev yK.own (K : yK) : String := K.1
abbrev yK.nm (K : yK) : String := K.2.1
abbrev yK.cc (K : yK) : ByteArray := K.2.2.1
abbrev yK.nL (K : yK) : Nat := K.2.2.2.1
abbrev yK.ret (K : yK) : Option FieldType := K.2.2.2.2.1
abbrev yK.et (K : yK) : List ExceptionTableEntry := K.2.2.2.2.2
/-- what stays of a method's activation -/
def yF (S0 : State) (K : yK) (p : Program) (s : State) (m : MethodId) (meth : Method) (c : Code) : Prop :=
  p.tables.exec = Jvm.exec ∧ c.code = K.cc ∧ c.maxLocals = K.nL ∧ s.vm.findClass K.own = some m.cls ∧ meth.sig.returnType = K.ret ∧ meth.locks = false ∧ meth.name = K.nm ∧ c.exceptionTable.toList = K.et ∧ S0.WarmedH s.vm ∧ S0.heap.size ≤ s.heap.size ∧ ∀ q : Nat, q < S0.heap.size → s.heap[q]? = S0.heap[q]?
def yQ (S0 : State) (D : va_G) (Q : Option Value → AH → Prop) : Array Value → State → Outcome → State → Prop := fun _ _ o t => ∃ (r : Option Value) (G : AH), o = .returned r ∧ Q r G ∧ yH S0 D G t.heap
def yX (S0 : State) (D : va_G) (X : String → AH → Prop) : String → State → State → Prop := fun E _ t => ∃ G : AH, X E G ∧ yH S0 D G t.heap
/-- the room of a method at height d, with its cells and slots -/
abbrev yR (d k n : Nat) : Room := { frames := d, cells := k, slots := n, locals := 64 * d }
/-- the judgement: at pc, with locals L, stack st, heap G, and kc cells of ks slots left, the method comes to its end with Q, or throws with X -/
def Y (l : Launch) (S0 : State) (D : va_G) (K : yK) (d mc ms : Nat) (Q : Option Value → AH → Prop) (X : String → AH → Prop) (pc : Nat) (L : List (Nat × Value)) (st : List Value) (G : AH) (kc ks : Nat) : Prop :=
  ∀ (p : Program) (e : Env) (s : State) (m : MethodId) (args : Array Value) (below : List Frame) (meth : Method) (c : Code) (H : Heap) (locs : List Loc) (cells slots : Nat) (ls : Array Slot),
    yF S0 K p s m meth c → lv_has ls K.nL L → yH S0 D G H → s.heap.size ≤ H.size → (∀ q ∈ locs, S0.heap.size ≤ q.base) → cells + kc ≤ mc → slots + ks ≤ ms →
    W p l e (yR d mc ms) s m args below meth c H locs cells slots (vx_MQ below (yQ S0 D Q) (yX S0 D X) args s mc ms (fun q => S0.heap.size ≤ q)) (F0 m pc ls st)
/-- a method's contract for these arguments in this heap -/
def yM (l : Launch) (S0 : State) (D : va_G) (y : MethodName) (cc : ByteArray) (nL : Nat) (ret : Option FieldType) (d mc ms : Nat) (As : List Value) (G : AH) (Q : Option Value → AH → Prop) (X : String → AH → Prop) : Prop :=
  vx_Met l y [Cond.code y cc nL ret] (yR d mc ms) (fun v U => v = As.toArray ∧ yH S0 D G U.heap ∧ S0.WarmedH U.vm) (yQ S0 D Q) (yX S0 D X) mc ms (fun q => S0.heap.size ≤ q)
set_option maxHeartbeats 4000000 in
theorem yM.of {l : Launch} {S0 : State} {D : va_G} {y : MethodName} {cc : ByteArray} {nL : Nat} {ret : Option FieldType} {d mc ms : Nat} {As : List Value} {G : AH} {Q : Option Value → AH → Prop} {X : String → AH → Prop}
    (hy : plainName y.cls = true) (hn : (lg_sl As).length ≤ nL) (hY : Y l S0 D (y.cls, y.name, cc, nL, ret, []) d mc ms Q X 0 (lv_args 0 As) [] G mc ms) : yM l S0 D y cc nL ret d mc ms As G Q X := by
  refine vx_ofW (cc := cc) (maxL := nL) (ret := ret) hy rfl ?_
  intro p e s m args below meth c s₁ B hml ht hv
  obtain ⟨rfl, hG, hW⟩ := hv
  have hl := lv_entry As (n := nL) hn
  rw [lg_entry_eq]
  have hown : s.vm.findClass y.cls = some m.cls := findClass_of_methodNamed B.named
  have het : c.exceptionTable.toList = [] := by
    cases h : c.exceptionTable.toList with
    | nil => rfl
    | cons a b => exact absurd (by rw [h]; exact List.mem_cons_self) (ht a)
  refine hY p e s m _ below meth c s.heap [] 0 0 _ ⟨B.exec, B.bytes, hml, hown, B.returns, B.notSynchronized, (name_of_methodNamed B.named B.method).1, het, hW, hG.1, hG.2.1⟩ hl hG (Nat.le_refl _) (fun q h => nomatch h) (by omega) (by omega)
