/-! ===== more rows: objects from before the law, interfaces, casts, arrays of references, statics ===== -/
def yZa (S0 : State) (D : va_G) (a : Nat) (e : va_E) : Prop := va_at D vwCl (a, e) S0.heap
/-- a place of the heap, or one from before the law -/
def yA (S0 : State) (D : va_G) (G : AH) (a : Nat) (e : va_E) : Prop := (∃ t, G a = some (t, e)) ∨ yZa S0 D a e
theorem yH.P {S0 : State} {D : va_G} {G : AH} {H : Heap} (h : yH S0 D G H) {a : Nat} {e : va_E} (hG : yA S0 D G a e) : va_P D vwCl [(a, e)] H := by
  rcases hG with ⟨t, hG⟩ | hG
  · exact h.P1 hG
  · intro k q hk
    cases k with
    | zero => cases hk; exact va_at.kept hG (h.2.1 a (va_at.lt hG))
    | succ k => simp at hk
theorem yCast {l : Launch} {S0 s : State} {A0 args : Array Value} {D : va_G} {aC : Nat → ClassId} {C E : String} (hS : yS l S0 A0 D aC) (hW : S0.WarmedH s.vm) (hm : Cond.castable C E ∈ lw_tbl) : va_Nw (.castable C E) s := va_Nw.warmC hW (va_Nw.of rfl (hS.2.1 _ hm))
/-- what may be put into an array of Objects -/
def yOb (aC : Nat → ClassId) (S0 : State) (D : va_G) (G : AH) (v : Nat) : Prop := (∃ ci C T N fs, yCl ci C T N ∧ Cond.castable C "java/lang/Object" ∈ lw_tbl ∧ yA S0 D G v (.inr (ci, fs))) ∨ (∃ x, yA S0 D G v (.inl (aC 0, x)))
theorem yObAny {l : Launch} {S0 s : State} {A0 : Array Value} {D : va_G} {aC : Nat → ClassId} {G : AH} {H : Heap} {v : Nat} (hS : yS l S0 A0 D aC) (hW : S0.WarmedH s.vm) (hG : yH S0 D G H) (hv : yOb aC S0 D G v) : va_Any "java/lang/Object" s H v := by
  rcases hv with ⟨ci, C, T, N, fs, hcl, hc, hv⟩ | ⟨x, hv⟩
  · exact va_rAny (ws := [(v, .inr (ci, fs))]) (q0 := 0) (hS.K hW) (hG.P hv) rfl hcl.1 (fun comp c0 h1 h2 => vb_asgC (yCast hS (args := A0) hW hc) comp c0 h1 h2)
  · have hP : H[v]? = some (vp_cell (aC 0) x) := (hG.P hv) 0 _ rfl
    have hvm0 : (vp_cell (aC 0) x).vm = .none := by
      obtain ⟨n, f | f | f | f | f⟩ := x <;> rfl
    have hcl0 : (vp_cell (aC 0) x).cls = aC 0 := by
      obtain ⟨n, f | f | f | f | f⟩ := x <;> rfl
    obtain ⟨hA, hN⟩ := (hS.K hW).2 0 _ rfl
    obtain ⟨-, kA, hkA, -⟩ := hA 0 (fun _ => .int 0)
    refine ⟨_, hP, by rw [hvm0]; rfl, ⟨kA, by rw [hcl0]; exact hkA⟩, fun comp hcomp => ?_⟩
    rw [hcl0]
    exact vb_asgC (C := "[I") (yCast hS (args := A0) hW (by decide +kernel)) comp (aC 0) hcomp hN
/-- a call through an interface by entry ix of own: method x of the interface, y of class ci -/
def yCF (own : String) (ix ci : Nat) (x y : MethodName) (cc : ByteArray) (nL : Nat) (ret : Option FieldType) (n : Nat) : Prop := ∃ (C : String) (T : u_T) (N : Nat), yCl ci C T N ∧ yWd (.code y cc nL ret) ∧ yWd (.methodLink own ix x) ∧ yWd (.instanceMethod y) ∧ yWd (.selects C x y) ∧ yWd (.initialized y.cls) ∧ (Cond.declares x ∈ lw_tbl ∧ Cond.interfaceMethod x.cls x.cls x.name x.desc ∈ lw_tbl ∧ Cond.publicMethod y ∈ lw_tbl ∧ Cond.unhidden C x.name x.desc ∈ lw_tbl ∧ Cond.castable C x.cls ∈ lw_tbl) ∧ (x.cls ≠ "java/lang/invoke/MethodHandle" ∧ x.cls ≠ "java/lang/invoke/VarHandle" ∧ (parseMethodDescriptor x.desc).map (fun d => d.parameters.length) = some n) ∧ nL ≤ 45
/-- checkcast to class ci, by entry ix of own -/
def yCK (own : String) (ix ci : Nat) : Prop := ∃ (C : String) (T : u_T) (N : Nat), yCl ci C T N ∧ yWd (.classLink own ix C)
/-- field k of class ci by entry ix of own, through a class that inherits it -/
def yFLs (own : String) (ix ci k : Nat) : Prop := ∃ (C ref : String) (T : u_T) (N : Nat), yCl ci C T N ∧ k < N ∧ yWd (.fieldLink own ix ref (T k).2.1 (T k).2.2.1) ∧ yWd (.sameField ref (T k).1 (T k).2.1 (T k).2.2.1)
def yFPs (own : String) (ix ci k : Nat) (ty : FieldType) : Prop := ∃ (C ref : String) (T : u_T) (N : Nat), yCl ci C T N ∧ k < N ∧ (T k).2.2.2 = false ∧ parseFieldDescriptor (T k).2.2.1 = some ty ∧ yWd (.fieldLink own ix ref (T k).2.1 (T k).2.2.1) ∧ yWd (.sameField ref (T k).1 (T k).2.1 (T k).2.2.1)
/-- field k of class ci by entry ix of own, private, of a nest mate -/
def yFLn (own : String) (ix ci k : Nat) (host : String) : Prop := ∃ (C : String) (T : u_T) (N : Nat), yCl ci C T N ∧ k < N ∧ Cond.fieldLinkNest own ix (T k).1 (T k).2.1 (T k).2.2.1 host ∈ lw_tbl
def yFPn (own : String) (ix ci k : Nat) (host : String) (ty : FieldType) : Prop := ∃ (C : String) (T : u_T) (N : Nat), yCl ci C T N ∧ k < N ∧ (T k).2.2.2 = false ∧ parseFieldDescriptor (T k).2.2.1 = some ty ∧ Cond.fieldLinkNest own ix (T k).1 (T k).2.1 (T k).2.2.1 host ∈ lw_tbl
section YR2
variable {l : Launch} {S0 : State} {A0 : Array Value} {D : va_G} {aC : Nat → ClassId} {K : yK} {d mc ms : Nat} {Q : Option Value → AH → Prop} {X : String → AH → Prop} {T : yT}
variable {pc kc ks : Nat} {L : yL} {rest : List Value} {G : AH}
theorem y_forget {G2 : AH} (h : ∀ a x, G2 a = some x → G a = some x) (k : Y l S0 D K d mc ms Q X pc L rest G2 kc ks) : Y l S0 D K d mc ms Q X pc L rest G kc ks := by
  intro p e s m args below meth c H locs cells slots ls F hl hG hz hL hc hs
  exact k p e s m args below meth c H locs cells slots ls F hl ⟨hG.1, hG.2.1, fun a t e he => hG.2.2 a t e (h _ _ he)⟩ hz hL hc hs
theorem y_retag {a t t2 : Nat} {e : va_E} (hg : G a = some (t, e)) (h0 : t ≠ 0) (k : Y l S0 D K d mc ms Q X pc L rest (yup G a (t2, e)) kc ks) : Y l S0 D K d mc ms Q X pc L rest G kc ks := by
  intro p e9 s m args below meth c H locs cells slots ls F hl hG hz hL hc hs
  refine k p e9 s m args below meth c H locs cells slots ls F hl ⟨hG.1, hG.2.1, fun b u x hb => ?_⟩ hz hL hc hs
  by_cases hba : b = a
  · subst hba
    rw [yup_s] at hb
    cases hb
    exact ⟨(hG.2.2 _ _ _ hg).1, fun _ => (hG.2.2 _ _ _ hg).2 h0⟩
  · rw [yup_n _ hba] at hb
    exact hG.2.2 b u x hb
theorem y_getA (hS : yS l S0 A0 D aC) (hT : yTok K.cc T) {ix ci k a : Nat} {fs : List Value} {v : Value} (ht : yat pc T = some (.getfield ix, 3)) (hf : yFL K.own ix ci k) (hg : yA S0 D G a (.inr (ci, fs))) (hv : fs[k]? = some v) (kk : Y l S0 D K d mc ms Q X (pc + 3) L (v :: rest) G kc ks) : Y l S0 D K d mc ms Q X pc L (.ref a :: rest) G kc ks := by
  intro p e s m args below meth c H locs cells slots ls F hl hG hz hL hc hs
  obtain ⟨C, T9, N, hcl, hk, hw⟩ := hf
  exact va_get (D := D) (cl := vwCl) (ws := [(a, .inr (ci, fs))]) F.1 F.2.1 (Ts := u_ws C T9 N) (fun w9 h9 => (hcl.2.1 w9 h9).use hS F.2.2.2.2.2.2.2.2.1) (fun w9 h9 => h9) F.2.2.2.1 (hS.K F.2.2.2.2.2.2.2.2.1) (hG.P hg) 0 rfl hcl.1 k hk (hw.use hS F.2.2.2.2.2.2.2.2.1) (fun x h => h) hv (yat_ok hT ht) (kk p e s m args below meth c H locs cells slots ls F hl hG hz hL hc hs)
theorem y_getS (hS : yS l S0 A0 D aC) (hT : yTok K.cc T) {ix ci k a t : Nat} {fs : List Value} {v : Value} (ht : yat pc T = some (.getfield ix, 3)) (hf : yFLs K.own ix ci k) (hg : G a = some (t, .inr (ci, fs))) (hv : fs[k]? = some v) (kk : Y l S0 D K d mc ms Q X (pc + 3) L (v :: rest) G kc ks) : Y l S0 D K d mc ms Q X pc L (.ref a :: rest) G kc ks := by
  intro p e s m args below meth c H locs cells slots ls F hl hG hz hL hc hs
  obtain ⟨C, ref, T9, N, hcl, hk, hw, hsm⟩ := hf
  exact va_get (D := D) (cl := vwCl) (ws := [(a, .inr (ci, fs))]) F.1 F.2.1 (Ts := u_ws C T9 N) (fun w9 h9 => (hcl.2.1 w9 h9).use hS F.2.2.2.2.2.2.2.2.1) (fun w9 h9 => h9) F.2.2.2.1 (hS.K F.2.2.2.2.2.2.2.2.1) (hG.P1 hg) 0 rfl hcl.1 k hk (hw.use hS F.2.2.2.2.2.2.2.2.1) (fun x h => u_same (args := A0) (hsm.use hS F.2.2.2.2.2.2.2.2.1) x h) hv (yat_ok hT ht) (kk p e s m args below meth c H locs cells slots ls F hl hG hz hL hc hs)
theorem y_getN (hS : yS l S0 A0 D aC) (hT : yTok K.cc T) {ix ci k a t : Nat} {host : String} {fs : List Value} {v : Value} (ht : yat pc T = some (.getfield ix, 3)) (hf : yFLn K.own ix ci k host) (hg : G a = some (t, .inr (ci, fs))) (hv : fs[k]? = some v) (kk : Y l S0 D K d mc ms Q X (pc + 3) L (v :: rest) G kc ks) : Y l S0 D K d mc ms Q X pc L (.ref a :: rest) G kc ks := by
  intro p e s m args below meth c H locs cells slots ls F hl hG hz hL hc hs
  obtain ⟨C, T9, N, hcl, hk, hw⟩ := hf
  exact va_getN (D := D) (cl := vwCl) (ws := [(a, .inr (ci, fs))]) F.1 F.2.1 (Ts := u_ws C T9 N) (fun w9 h9 => (hcl.2.1 w9 h9).use hS F.2.2.2.2.2.2.2.2.1) (fun w9 h9 => h9) F.2.2.2.1 (hS.K F.2.2.2.2.2.2.2.2.1) (hG.P1 hg) 0 rfl hcl.1 k hk (va_Nw.use rfl (va_Nw.warmF F.2.2.2.2.2.2.2.2.1 (va_Nw.of rfl (hS.2.1 _ hw)))) (fun x h => h) hv (yat_ok hT ht) (kk p e s m args below meth c H locs cells slots ls F hl hG hz hL hc hs)
theorem y_putS (hS : yS l S0 A0 D aC) (hT : yTok K.cc T) {ix ci k a t : Nat} {fs : List Value} {v : Value} {ty : FieldType} (ht : yat pc T = some (.putfield ix, 3)) (hf : yFPs K.own ix ci k ty) (hg : G a = some (t, .inr (ci, fs))) (h0 : t ≠ 0) (hn : narrow ty v = v) (hfit : fits ty v = true) (hkl : k < fs.length) (kk : Y l S0 D K d mc ms Q X (pc + 3) L rest (yup G a (t, .inr (ci, fs.set k v))) kc ks) : Y l S0 D K d mc ms Q X pc L (v :: .ref a :: rest) G kc ks := by
  intro p e s m args below meth c H locs cells slots ls F hl hG hz hL hc hs
  obtain ⟨C, ref, T9, N, hcl, hk, hfin, hd, hw, hsm⟩ := hf
  have hcl1 := hcl.1
  obtain ⟨ty0, hty⟩ := hcl.2.2.1
  have hts : ∀ w ∈ u_ws C T9 N, w.before args s = true := fun w9 h9 => (hcl.2.1 w9 h9).use hS F.2.2.2.2.2.2.2.2.1
  have hK := hS.K F.2.2.2.2.2.2.2.2.1
  have hap := va_apart (own := K.own) hts (fun w9 h9 => h9) ty0 hty hcl.2.2.2 hK hcl.1
  obtain ⟨r, h1, cell, q1, q2, q3, q4⟩ := (hG.2.2 a t _ hg).1
  have hr : r = (C, T9, N) := Option.some.inj (h1.symm.trans hcl.1)
  subst hr
  obtain ⟨hSl, hfc, kC, hkC, hkind⟩ := hK.1 ci _ hcl.1
  obtain ⟨cf, kf, fi, f, hi, hsl⟩ := hSl k hk
  have hlay := hts _ (u_in_lay hk)
  unfold u_lay at hlay
  rw [if_neg (by rw [hfin]; decide)] at hlay
  have hst := (u_facts hfc hkC (u_lays hts (fun w9 h9 => h9) hk) hi).1
  have h6 := u_store hfc hkC hkind hlay hi hd hn hfit
  have ha := (hG.2.2 a t _ hg).2 h0
  have hi2 := u_same (args := A0) (hsm.use hS F.2.2.2.2.2.2.2.2.1) _ hi
  refine W.putK F.1 F.2.1 (f := f) ⟨F.2.2.2.1, hw.use hS F.2.2.2.2.2.2.2.2.1, ⟨_, _, _, hi2⟩, hst⟩ (by rw [q2]; exact h6) q1 q3 (by rw [hsl]; exact k2_hasslot (q4 k hk)) rfl rfl (yat_ok hT ht) fun H1 e1 e2 e3 => ?_
  rw [hsl] at e1 ⊢
  refine kk p e s m args below meth c H1 _ cells slots ls F hl (hG.put hg h0 ⟨_, hcl1, t_OB.to (V := updV (vp_V fs) k v) ⟨_, e1, q2, q3, t_set q4 hap hk v⟩ (fun j _ => vp_updV_set hkl v j)⟩ e2 e3) (by omega) (fun q hq => ?_) hc hs
  rcases List.mem_append.mp hq with h | h
  · exact hL q h
  · rw [List.mem_singleton.mp h]; exact ha
theorem y_putN (hS : yS l S0 A0 D aC) (hT : yTok K.cc T) {ix ci k a t : Nat} {host : String} {fs : List Value} {v : Value} {ty : FieldType} (ht : yat pc T = some (.putfield ix, 3)) (hf : yFPn K.own ix ci k host ty) (hg : G a = some (t, .inr (ci, fs))) (h0 : t ≠ 0) (hn : narrow ty v = v) (hfit : fits ty v = true) (hkl : k < fs.length) (kk : Y l S0 D K d mc ms Q X (pc + 3) L rest (yup G a (t, .inr (ci, fs.set k v))) kc ks) : Y l S0 D K d mc ms Q X pc L (v :: .ref a :: rest) G kc ks := by
  intro p e s m args below meth c H locs cells slots ls F hl hG hz hL hc hs
  obtain ⟨C, T9, N, hcl, hk, hfin, hd, hw⟩ := hf
  have hcl1 := hcl.1
  obtain ⟨ty0, hty⟩ := hcl.2.2.1
  have hts : ∀ w ∈ u_ws C T9 N, w.before args s = true := fun w9 h9 => (hcl.2.1 w9 h9).use hS F.2.2.2.2.2.2.2.2.1
  have hK := hS.K F.2.2.2.2.2.2.2.2.1
  have hap := va_apart (own := K.own) hts (fun w9 h9 => h9) ty0 hty hcl.2.2.2 hK hcl.1
  obtain ⟨r, h1, cell, q1, q2, q3, q4⟩ := (hG.2.2 a t _ hg).1
  have hr : r = (C, T9, N) := Option.some.inj (h1.symm.trans hcl.1)
  subst hr
  obtain ⟨hSl, hfc, kC, hkC, hkind⟩ := hK.1 ci _ hcl.1
  obtain ⟨cf, kf, fi, f, hi, hsl⟩ := hSl k hk
  have hlay := hts _ (u_in_lay hk)
  unfold u_lay at hlay
  rw [if_neg (by rw [hfin]; decide)] at hlay
  have hst := (u_facts hfc hkC (u_lays hts (fun w9 h9 => h9) hk) hi).1
  have h6 := u_store hfc hkC hkind hlay hi hd hn hfit
  have ha := (hG.2.2 a t _ hg).2 h0
  refine va_WputK F.1 F.2.1 (f := f) F.2.2.2.1 (va_Nw.use rfl (va_Nw.warmF F.2.2.2.2.2.2.2.2.1 (va_Nw.of rfl (hS.2.1 _ hw)))) hi hst (by rw [q2]; exact h6) q1 q3 (by rw [hsl]; exact k2_hasslot (q4 k hk)) rfl rfl (yat_ok hT ht) fun H1 e1 e2 e3 => ?_
  rw [hsl] at e1 ⊢
  refine kk p e s m args below meth c H1 _ cells slots ls F hl (hG.put hg h0 ⟨_, hcl1, t_OB.to (V := updV (vp_V fs) k v) ⟨_, e1, q2, q3, t_set q4 hap hk v⟩ (fun j _ => vp_updV_set hkl v j)⟩ e2 e3) (by omega) (fun q hq => ?_) hc hs
  rcases List.mem_append.mp hq with h | h
  · exact hL q h
  · rw [List.mem_singleton.mp h]; exact ha
theorem y_gets (hS : yS l S0 A0 D aC) (hT : yTok K.cc T) {ix : Nat} {C n d9 : String} {v : Value} (ht : yat pc T = some (.getstatic ix, 3)) (hw : yWd (.fieldLink K.own ix C n d9)) (hZ : va_Z C n d9 v (fun q => S0.heap.size ≤ q) S0 S0.heap) (kk : Y l S0 D K d mc ms Q X (pc + 3) L (v :: rest) G kc ks) : Y l S0 D K d mc ms Q X pc L rest G kc ks := by
  intro p e s m args below meth c H locs cells slots ls F hl hG hz hL hc hs
  have hW0 := F.2.2.2.2.2.2.2.2.1
  obtain ⟨cf, kf, fi, f, a, cell, h1, h2, h3, h4, h5, h6, h7, h8⟩ := hZ.moved (U := s) hW0.alike
  exact W.gets F.1 F.2.1 F.2.2.2.1 (hw.use hS hW0) h1 h2 h3 h4 (by rw [hG.2.1 a (Array.getElem?_eq_some_iff.mp h5).1]; exact h5) (fun e => by rw [e] at h6; cases h6) h7 rfl (yat_ok hT ht) (kk p e s m args below meth c H locs cells slots ls F hl hG hz hL hc hs)
theorem y_castG (hS : yS l S0 A0 D aC) (hT : yTok K.cc T) {ix ci a : Nat} {fs : List Value} (ht : yat pc T = some (.checkcast ix, 3)) (hf : yCK K.own ix ci) (hg : yA S0 D G a (.inr (ci, fs))) (kk : Y l S0 D K d mc ms Q X (pc + 3) L (.ref a :: rest) G kc ks) : Y l S0 D K d mc ms Q X pc L (.ref a :: rest) G kc ks := by
  intro p e s m args below meth c H locs cells slots ls F hl hG hz hL hc hs
  obtain ⟨C, T9, N, hcl, hw⟩ := hf
  have hW0 := F.2.2.2.2.2.2.2.2.1
  exact va_castS F.1 F.2.1 F.2.2.2.1 (hw.use hS hW0) ((hS.K hW0).1 ci _ hcl.1).2 (va_recv (q0 := 0) (ws := [(a, .inr (ci, fs))]) (hS.K hW0) (hG.P hg) hcl.1 rfl) (yat_ok hT ht) (kk p e s m args below meth c H locs cells slots ls F hl hG hz hL hc hs)
theorem y_castA (hS : yS l S0 A0 D aC) (hT : yTok K.cc T) {ix a : Nat} {x : vp_A} (ht : yat pc T = some (.checkcast ix, 3)) (hw : yWd (.classLink K.own ix "[I")) (hg : yA S0 D G a (.inl (aC 0, x))) (kk : Y l S0 D K d mc ms Q X (pc + 3) L (.ref a :: rest) G kc ks) : Y l S0 D K d mc ms Q X pc L (.ref a :: rest) G kc ks := by
  intro p e s m args below meth c H locs cells slots ls F hl hG hz hL hc hs
  have hW0 := F.2.2.2.2.2.2.2.2.1
  exact va_castA (D := D) (cl := vwCl) (ws := [(a, .inl (aC 0, x))]) F.1 F.2.1 F.2.2.2.1 (hw.use hS hW0) (hG.P hg) 0 rfl ((hS.K hW0).2 0 _ rfl).2 (yat_ok hT ht) (kk p e s m args below meth c H locs cells slots ls F hl hG hz hL hc hs)
theorem y_castN (hT : yTok K.cc T) {ix : Nat} (ht : yat pc T = some (.checkcast ix, 3)) (kk : Y l S0 D K d mc ms Q X (pc + 3) L (.null :: rest) G kc ks) : Y l S0 D K d mc ms Q X pc L (.null :: rest) G kc ks := by
  intro p e s m args below meth c H locs cells slots ls F hl hG hz hL hc hs
  exact lv_castN F.1 F.2.1 (yat_ok hT ht) (kk p e s m args below meth c H locs cells slots ls F hl hG hz hL hc hs)
theorem y_acmp_eq (hT : yTok K.cc T) {rx ry : Option Nat} {off : Int} (tgt : Nat) (ht : yat pc T = some (.if_acmp .eq off, 3)) (hg : (pc : Int) + off = (tgt : Int)) (kt : rx = ry → Y l S0 D K d mc ms Q X tgt L rest G kc ks) (kf : ¬ rx = ry → Y l S0 D K d mc ms Q X (pc + 3) L rest G kc ks) : Y l S0 D K d mc ms Q X pc L (va_rf ry :: va_rf rx :: rest) G kc ks := by
  intro p e s m args below meth c H locs cells slots ls F hl hG hz hL hc hs
  exact lv_acmp_eq F.1 F.2.1 (yat_ok hT ht) hg (fun q => kt q p e s m args below meth c H locs cells slots ls F hl hG hz hL hc hs) (fun q => kf q p e s m args below meth c H locs cells slots ls F hl hG hz hL hc hs)
theorem y_anew (t : Nat) (hS : yS l S0 A0 D aC) (hT : yTok K.cc T) {ix : Nat} {i : Int32} {n : Nat} (ht : yat pc T = some (.anewarray ix, 3)) (hw : yWd (.classLink K.own ix "java/lang/Object")) (hw2 : Cond.arrayOver (.object "java/lang/Object") ∈ lw_tbl) (hi : ¬ i < 0) (hn : i.toNatClampNeg = n) (hb : n ≤ 10000) (kk : ∀ a : Nat, (∀ (b : Nat) (x : Nat × va_E), G b = some x → b ≠ a) → Y l S0 D K d mc ms Q X (pc + 3) L (.ref a :: rest) (yup G a (t, .inl (aC 4, n, .inr (.inr (.inr (.inr (fun _ => none))))))) kc ks) : Y l S0 D K d mc ms Q X pc L (.int i :: rest) G (kc + 1) (ks + n) := by
  intro p e s m args below meth c H locs cells slots ls F hl hG hz hL hc hs
  subst hn
  have hW0 := F.2.2.2.2.2.2.2.2.1
  refine W.anew F.1 F.2.1 F.2.2.2.1 (hw.use hS hW0) (va_AO.use (va_AO.moved hW0.alike (va_AO.of (hS.2.1 _ hw2)))) rfl (yat_ok hT ht) rfl hi (by omega) (by show cells + 1 ≤ mc; omega) (by show slots + _ ≤ ms; omega) fun cA kA comp f1 f2 f3 f4 => ?_
  have hcA : cA = aC 4 := yArr ((hS.K (s := s) hW0).2 4 _ rfl).2 f1
  subst hcA
  generalize hH1 : H.push ({ cls := aC 4, slots := Array.replicate i.toNatClampNeg .null, vm := .none } : Cell) = H1
  have z1 : H1.size = H.size + 1 := by rw [← hH1, Array.size_push]
  have e1 : H1[H.size]? = some (arrV (aC 4) i.toNatClampNeg (fun _ => .null)) := by rw [← hH1, Array.getElem?_push_size, ← arrV_new]
  have o1 : ∀ q : Nat, q < H.size → H1[q]? = H[q]? := fun q hq => by rw [← hH1, Array.getElem?_push, if_neg (Nat.ne_of_lt hq)]
  exact kk H.size (fun b x hb => Nat.ne_of_lt (hG.lt hb)) p e s m args below meth c H1 locs (cells + 1) (slots + i.toNatClampNeg) ls F hl (hG.push t (e := .inl (aC 4, i.toNatClampNeg, .inr (.inr (.inr (.inr (fun _ => none)))))) (by show H1[H.size]? = some (vp_cell _ _); rw [vp_cell_q]; exact e1) z1 o1) (by omega) hL (by omega) (by omega)
theorem y_aast (hS : yS l S0 A0 D aC) (hT : yTok K.cc T) {a t n v : Nat} {f : Nat → Option Nat} {i : Int32} (ht : yat pc T = some (.aastore, 1)) (hg : G a = some (t, .inl (aC 4, n, .inr (.inr (.inr (.inr f)))))) (h0 : t ≠ 0) (hv : yOb aC S0 D G v) (hi : vp_in i n) (kk : Y l S0 D K d mc ms Q X (pc + 1) L rest (yup G a (t, .inl (aC 4, n, .inr (.inr (.inr (.inr (va_up f i.toNatClampNeg (some v)))))))) kc ks) : Y l S0 D K d mc ms Q X pc L (.ref v :: .int i :: .ref a :: rest) G kc ks := by
  intro p e s m args below meth c H locs cells slots ls F hl hG hz hL hc hs
  have hW0 := F.2.2.2.2.2.2.2.2.1
  have hK := hS.K hW0
  have ha := (hG.2.2 a t _ hg).2 h0
  have h1 : H[a]? = some (vp_cell (aC 4) (n, .inr (.inr (.inr (.inr f))))) := (hG.2.2 a t _ hg).1
  have hlt : i.toNatClampNeg < n := Nat.not_le.mp fun q => hi (Or.inr q)
  have hi0 : ¬ i < 0 := fun q => hi (Or.inl q)
  obtain ⟨cellV, g1, g3, ⟨kC, hkC⟩, hasg⟩ := yObAny hS hW0 hG hv
  obtain ⟨kA, comp, k1, k2, k3, -⟩ := (hK.2 4 _ rfl).2
  obtain ⟨kE, hkE, -⟩ := Vm.findClass_spec k3
  refine W.aast F.1 F.2.1 h1 (fun q h => by cases h) (fun h => by cases h) k1 k2 rfl hkE ⟨hi0, by show _ < (arrV _ _ _).slots.size; rw [arrV_size]; exact hlt⟩ g1 (fun q h => by rw [h] at g3; cases g3) hkC (hasg _ k3) rfl rfl (yat_ok hT ht) fun H1 e1 z oq => ?_
  refine kk p e s m args below meth c H1 _ cells slots ls F hl (hG.put hg h0 ?_ z oq) (by omega) (fun q hq => ?_) hc hs
  · show H1[a]? = some (vp_cell _ _)
    rw [e1]
    rw [vp_cell_q, vp_cell_q, arrV_store]
    congr 2
    funext q
    by_cases hq : q = i.toNatClampNeg
    · subst hq
      simp [updV, va_up, va_rf]
    · simp [updV, va_up, hq]
  · rcases List.mem_append.mp hq with h | h
    · exact hL q h
    · rw [List.mem_singleton.mp h]; exact ha
theorem y_aastN (hS : yS l S0 A0 D aC) (hT : yTok K.cc T) {a t n : Nat} {f : Nat → Option Nat} {i : Int32} (ht : yat pc T = some (.aastore, 1)) (hg : G a = some (t, .inl (aC 4, n, .inr (.inr (.inr (.inr f)))))) (h0 : t ≠ 0) (hi : vp_in i n) (kk : Y l S0 D K d mc ms Q X (pc + 1) L rest (yup G a (t, .inl (aC 4, n, .inr (.inr (.inr (.inr (va_up f i.toNatClampNeg none))))))) kc ks) : Y l S0 D K d mc ms Q X pc L (.null :: .int i :: .ref a :: rest) G kc ks := by
  intro p e s m args below meth c H locs cells slots ls F hl hG hz hL hc hs
  have hW0 := F.2.2.2.2.2.2.2.2.1
  have hK := hS.K hW0
  have ha := (hG.2.2 a t _ hg).2 h0
  have h1 : H[a]? = some (vp_cell (aC 4) (n, .inr (.inr (.inr (.inr f))))) := (hG.2.2 a t _ hg).1
  refine va_WaastN (C := "java/lang/Object") F.1 F.2.1 h1 ((hK.2 4 _ rfl).1 n (fun j => va_rf (f j))) (fun h => by cases h) (by show ¬ (i < 0 ∨ (arrV _ _ _).slots.size ≤ _); rw [arrV_size]; exact hi) rfl rfl (yat_ok hT ht) fun H1 e1 z oq => ?_
  refine kk p e s m args below meth c H1 _ cells slots ls F hl (hG.put hg h0 ?_ z oq) (by omega) (fun q hq => ?_) hc hs
  · show H1[a]? = some (vp_cell _ _)
    rw [e1]
    rw [vp_cell_q, vp_cell_q, arrV_store]
    congr 2
    funext q
    by_cases hq : q = i.toNatClampNeg
    · subst hq
      simp [updV, va_up, va_rf]
    · simp [updV, va_up, hq]
  · rcases List.mem_append.mp hq with h | h
    · exact hL q h
    · rw [List.mem_singleton.mp h]; exact ha
theorem y_objInit (hS : yS l S0 A0 D aC) (hT : yTok K.cc T) {ix a : Nat} (ht : yat pc T = some (.invokespecial ix, 3)) (hw : yWd (.methodLink K.own ix Lib.objectInit)) (hr : (rest.map fun v => v.category).sum ≤ 8) (hd : 1 ≤ d) (kk : Y l S0 D K d mc ms Q X (pc + 3) L rest G kc ks) : Y l S0 D K d mc ms Q X pc L (.ref a :: rest) G kc ks := by
  intro p e s m args below meth c H locs cells slots ls F hl hG hz hL hc hs
  have hW0 := F.2.2.2.2.2.2.2.2.1
  exact W.objInit F.1 F.2.1 F.2.2.2.1 (hw.use hS hW0) (yWd.use (w := .instanceMethod Lib.objectInit) ⟨by decide +kernel, by decide +kernel⟩ hS hW0) (yWd.use (w := .code Lib.objectInit ⟨#[0xb1]⟩ 1 none) ⟨by decide +kernel, by decide +kernel⟩ hS hW0) rfl (hl.1.trans F.2.2.1.symm) rfl (yat_ok hT ht) hd (by show 0 + _ + 12 ≤ 64 * d; omega) (kk p e s m args below meth c H locs cells slots ls F hl hG hz hL hc hs)
theorem y_runR5 {p : Program} {e : Env} {s : State} {m : MethodId} {args a : Array Value} {below : List Frame} {meth : Method} {c : Code} {H : Heap} {locs : List Loc} {cells slots : Nat} {ls : Array Slot} {k n : Nat} {st0 : List Value} {Qc : Option Value → AH → Prop} {Xc : String → AH → Prop}
    (F : yF S0 K p s m meth c) (he : K.et = []) (hl : lv_has ls K.nL L) (hL : ∀ q ∈ locs, S0.heap.size ≤ q.base) (hc : cells + (kc + k) ≤ mc) (hs : slots + (ks + n) ≤ ms)
    (hr : vx_Run5 p l e (yR d mc ms) s m args below meth c H locs cells slots k n (F0 m pc ls st0) rest (yQ S0 D Qc a) (yX S0 D Xc) (fun q => S0.heap.size ≤ q))
    (kr : ∀ (r : Option Value) (G1 : AH), Qc r G1 → Y l S0 D K d mc ms Q X (pc + 5) L (r.toList ++ rest) G1 kc ks) (kx : ∀ (E : String) (G1 : AH), Xc E G1 → X E G1) :
    W p l e (yR d mc ms) s m args below meth c H locs cells slots (vx_MQ below (yQ S0 D Q) (yX S0 D X) args s mc ms (fun q => S0.heap.size ≤ q)) (F0 m pc ls st0) := by
  intro T9 hT9 X9
  rcases hr T9 hT9 X9 with ⟨v, st₀, t, T', L', h0, X', hL', e1, e2, ⟨r, G', hv, hq, hy⟩, st⟩ | ⟨q, st₀, t, T', L', E, ce, h0, X', hL', e1, e2, ⟨G', hx, hy⟩, hce, hcv, hcl, st⟩
  · cases hv
    obtain ⟨t2, a1, b1⟩ := kr v G' hq p e s m args below meth c T'.heap (locs ++ L') (cells + k) (slots + n) ls F hl (by rw [e1]; exact hy) X'.same.2.1 (fun q9 h9 => (List.mem_append.mp h9).elim (hL q9) (hL' q9)) (by omega) (by omega) T' rfl X'
    exact ⟨t2, st t2 a1, b1⟩
  · obtain ⟨t2, a1, b1⟩ := (vx_out (Qc := yQ S0 D Q) (XC := yX S0 D X) (p := p) (l := l) (e := e) (R := yR d mc ms) (s := s) (m := m) (args := args) (below := below) (meth := meth) (c := c) (H := T'.heap) (locs := locs ++ L') (cells := cells + k) (slots := slots + n) (ls := ls) (rest := rest) (free := fun q => S0.heap.size ≤ q) (pc := pc) (q := q) (mc := mc) (ms := ms)
      (fun x hx9 => by have h9 := F.2.2.2.2.2.2.2.1; rw [h9, he] at hx9; cases hx9) F.2.2.2.2.2.1 (by rw [e1]; exact hce) hcv hcl (fun t9 h9 _ => ⟨G', kx E G' hx, by rw [h9, e1]; exact hy⟩) (fun q9 h9 => (List.mem_append.mp h9).elim (hL q9) (hL' q9)) (by omega) (by omega)) T' rfl X'
    exact ⟨t2, st.trans a1, b1⟩
theorem y_callF (hS : yS l S0 A0 D aC) (hT : yTok K.cc T) (he : K.et = []) {ix cnt nL2 n d2 k2 n2 : Nat} {x y : MethodName} {cc2 : ByteArray} {ret : Option FieldType} {ci a : Nat} {fs : List Value} {As : List Value} {Qc : Option Value → AH → Prop} {Xc : String → AH → Prop} (ht : yat pc T = some (.invokeinterface ix cnt, 5)) (hf : yCF K.own ix ci x y cc2 nL2 ret n) (hg : yA S0 D G a (.inr (ci, fs))) (hM : yM l S0 D y cc2 nL2 ret d2 k2 n2 (.ref a :: As) G Qc Xc) (hn : As.length = n) (hd : d2 < d) (hr : (rest.map fun v => v.category).sum ≤ 8)
    (kr : ∀ (r : Option Value) (G1 : AH), Qc r G1 → Y l S0 D K d mc ms Q X (pc + 5) L (r.toList ++ rest) G1 kc ks) (kx : ∀ (E : String) (G1 : AH), Xc E G1 → X E G1) : Y l S0 D K d mc ms Q X pc L (As.reverse ++ .ref a :: rest) G (kc + k2) (ks + n2) := by
  intro p e s m args below meth c H locs cells slots ls F hl hG hz hL hc hs
  have hW0 := F.2.2.2.2.2.2.2.2.1
  obtain ⟨C, T9, N, hcl, hwc, hwl, hwn, hwv, hwi, hfw, hy, hnl⟩ := hf
  have hws : ∀ w ∈ [Cond.code y cc2 nL2 ret], ∀ (a' : Array Value) (U : State), s.WarmedH U.vm → w.before a' U = true := fun w9 h9 a' U hU => by rw [List.mem_singleton.mp h9]; exact hwc.use hS (State.WarmedH.trans hW0 hU)
  have hlen : ∀ sig, parseMethodDescriptor x.desc = some sig → n = sig.parameters.length := fun sig h => by have h2 := hy.2.2; rw [h] at h2; exact (Option.some.inj h2).symm
  have hFw : va_Fw C x y s := va_Fw.moved ⟨hy.1, hy.2.1⟩ hW0.alike (va_Fw.of (hS.2.1 _ hfw.1) (hS.2.1 _ hfw.2.1) (hS.2.1 _ hfw.2.2.1) (hS.2.1 _ hfw.2.2.2.1) (hS.2.1 _ hfw.2.2.2.2))
  have hci : va_CI (yR d mc ms) s args K.own C ix x y cc2 nL2 ret [Cond.code y cc2 nL2 ret] (yR d2 k2 n2) k2 n2 n := ⟨⟨rfl, rfl, hd, by show 8 + (nL2 + 11) + 64 * d2 ≤ 64 * d; omega, hws, List.mem_singleton.mpr rfl⟩, hwl.use hS hW0, va_any rfl hFw.1, va_any rfl hFw.2.1, hwv.use hS hW0, hwn.use hS hW0, va_any rfl hFw.2.2.1, va_any rfl hFw.2.2.2.1, va_any rfl hFw.2.2.2.2, hwi.use hS hW0, hwc.use hS hW0, ⟨hy.1, hy.2.1⟩, hlen⟩
  exact y_runR5 F he hl hL (by omega) (by omega) (vx_runF (As := As) (rest := rest) (n := n) (Ts := []) ((hS.K hW0).1 ci _ hcl.1).2 ⟨F.1, F.2.1, F.2.2.1, F.2.2.2.1, fun w9 h9 => nomatch h9⟩ hM hci ⟨fun a9 U g9 mk q9 => q9, va_recv (q0 := 0) (ws := [(a, .inr (ci, fs))]) (hS.K hW0) (hG.P hg) hcl.1 rfl, fun U hU hW => ⟨rfl, by rw [hU]; exact hG, State.WarmedH.trans hW0 hW⟩⟩ rfl hn hl.1 rfl (lv_room hr) (yat_ok hT ht) ⟨by show cells + k2 ≤ mc; omega, by show slots + n2 ≤ ms; omega⟩) kr kx
theorem y_callVA (hS : yS l S0 A0 D aC) (hT : yTok K.cc T) (he : K.et = []) {ix nL2 n d2 k2 n2 : Nat} {y : MethodName} {cc2 : ByteArray} {ret : Option FieldType} {ci a : Nat} {fs : List Value} {As : List Value} {Qc : Option Value → AH → Prop} {Xc : String → AH → Prop} (ht : yat pc T = some (.invokevirtual ix, 3)) (hf : yCV K.own ix ci y cc2 nL2 ret n) (hg : yA S0 D G a (.inr (ci, fs))) (hM : yM l S0 D y cc2 nL2 ret d2 k2 n2 (.ref a :: As) G Qc Xc) (hn : As.length = n) (hd : d2 < d) (hr : (rest.map fun v => v.category).sum ≤ 8)
    (kr : ∀ (r : Option Value) (G1 : AH), Qc r G1 → Y l S0 D K d mc ms Q X (pc + 3) L (r.toList ++ rest) G1 kc ks) (kx : ∀ (E : String) (G1 : AH), Xc E G1 → X E G1) : Y l S0 D K d mc ms Q X pc L (As.reverse ++ .ref a :: rest) G (kc + k2) (ks + n2) := by
  intro p e s m args below meth c H locs cells slots ls F hl hG hz hL hc hs
  have hW0 := F.2.2.2.2.2.2.2.2.1
  obtain ⟨C, T9, N, hcl, hwc, hwl, hwn, hwv, hwi, hy, hnl⟩ := hf
  have hB : (yR d2 k2 n2).cells = k2 ∧ (yR d2 k2 n2).slots = n2 ∧ (yR d2 k2 n2).frames + 1 ≤ (yR d mc ms).frames ∧ 8 + (nL2 + 11) + (yR d2 k2 n2).locals ≤ (yR d mc ms).locals := ⟨rfl, rfl, hd, by show 8 + (nL2 + 11) + 64 * d2 ≤ 64 * d; omega⟩
  have hws : ∀ w ∈ [Cond.code y cc2 nL2 ret], ∀ (a' : Array Value) (U : State), s.WarmedH U.vm → w.before a' U = true := fun w9 h9 a' U hU => by rw [List.mem_singleton.mp h9]; exact hwc.use hS (State.WarmedH.trans hW0 hU)
  have hlen : ∀ sig, parseMethodDescriptor y.desc = some sig → n = sig.parameters.length := fun sig h => by have h2 := hy.2.2; rw [h] at h2; exact (Option.some.inj h2).symm
  exact y_runR F he hl hL (by omega) (by omega) (vx_runV (As := As) (rest := rest) (n := n) (Ts := []) ⟨F.1, F.2.1, F.2.2.1, F.2.2.2.1, fun w9 h9 => nomatch h9⟩ hM ⟨⟨hB.1, hB.2.1, hB.2.2.1, hB.2.2.2, hws, List.mem_singleton.mpr rfl, hwc.use hS hW0, hwi.use hS hW0, ⟨hy.1, hy.2.1⟩, hlen, hwl.use hS hW0⟩, hwn.use hS hW0, hwv.use hS hW0⟩ ⟨fun a9 U g9 mk q9 => q9, va_recv (q0 := 0) (ws := [(a, .inr (ci, fs))]) (hS.K hW0) (hG.P hg) hcl.1 rfl, fun U hU hW => ⟨rfl, by rw [hU]; exact hG, State.WarmedH.trans hW0 hW⟩⟩ rfl hn hl.1 rfl (lv_room hr) (yat_ok hT ht) ⟨by show cells + k2 ≤ mc; omega, by show slots + n2 ≤ ms; omega⟩) kr kx
end YR2
