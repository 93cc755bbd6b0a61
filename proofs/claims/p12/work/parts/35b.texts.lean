/-! ===== texts: inherited, private and super calls, a text by ldc_w, System.arraycopy of bytes, texts of the start and made ones ===== -/
theorem yM.met {l : Launch} {S0 : State} {D : va_G} {y : MethodName} {cc : ByteArray} {nL : Nat} {ret : Option FieldType} {d mc ms : Nat} {As : List Value} {G : AH} {Q : Option Value → AH → Prop} (h : yM l S0 D y cc nL ret d mc ms As G Q (fun _ _ => False)) :
    Met l y [Cond.code y cc nL ret] (yR d mc ms) (fun v U => v = As.toArray ∧ yH S0 D G U.heap ∧ S0.WarmedH U.vm) (yQ S0 D Q) mc ms (fun q => S0.heap.size ≤ q) := by
  intro p e ha hc hk s m args below hf happ hP hKp
  obtain ⟨k, o, h1, h2, h3, h4⟩ := h p e ha hc hk s m args below hf happ hP hKp
  refine ⟨k, o, h1, h2, h3, ?_⟩
  rcases h4 with h4 | ⟨q, hq, E, ce, L, ⟨G1, e1, e2⟩, h5⟩
  · exact h4
  · exact e1.elim
theorem ySelP {y : MethodName} {s : State} {args : Array Value} {C : String} {n : Nat} (hy : y.cls ≠ "java/lang/invoke/MethodHandle" ∧ y.cls ≠ "java/lang/invoke/VarHandle")
    (hins : (Cond.instantiable C n).before args s = true) (hpriv : (Cond.privateMethod y).before args s = true) (hinst : (Cond.instanceMethod y).before args s = true) (hsame : (Cond.sameMethod y.cls y.cls y.name y.desc).before args s = true) : (Cond.selects C y y).before args s = true := by
  obtain ⟨c, k, hc, hk, -, -, -, -⟩ := Cond.instantiable_spec hins
  obtain ⟨cn, ck, r1, hcn, hck, hni, -, -⟩ := Cond.sameMethod_found hsame
  obtain ⟨mk, methM, hnamed, hmethM, -, -⟩ := Cond.instanceMethod_spec hinst
  have hfound : s.methodFound? y.cls y.name y.desc = some mk := State.methodFound?_of_named hnamed hy
  have hsel : selectMethod {} s.vm c mk = .method mk := selectMethod_private hmethM (Cond.privateMethod_at hpriv mk methM hnamed hmethM)
  have hmk : mk.cls = cn := Option.some.inj ((findClass_of_methodNamed hnamed).symm.trans hcn)
  simp only [Cond.before, Cond.holds, Cond.value, hc, hfound, hnamed, hsel, hmk, hck]
  simp
  exact hni
def yCU (own : String) (ix ci : Nat) (owner : String) (x y : MethodName) (cc : ByteArray) (nL : Nat) (ret : Option FieldType) (n : Nat) : Prop := ∃ (C : String) (T : u_T) (N : Nat), yCl ci C T N ∧ yWd (.code y cc nL ret) ∧ yWd (.methodLink own ix x) ∧ yWd (.sameMethod x.cls owner x.name x.desc) ∧ yWd (.instanceMethod y) ∧ yWd (.initialized y.cls) ∧ (owner ≠ "java/lang/invoke/MethodHandle" ∧ owner ≠ "java/lang/invoke/VarHandle" ∧ (parseMethodDescriptor x.desc).map (fun d => d.parameters.length) = some n) ∧ nL ≤ 45 ∧ (yWd (.selects C x y) ∨ (x = y ∧ (y.cls ≠ "java/lang/invoke/MethodHandle" ∧ y.cls ≠ "java/lang/invoke/VarHandle") ∧ Cond.privateMethod y ∈ lw_tbl ∧ Cond.instanceMethod y ∈ lw_tbl ∧ Cond.sameMethod y.cls y.cls y.name y.desc ∈ lw_tbl ∧ goodWord (.selects C x y) = true ∧ ∃ k, Cond.instantiable C k ∈ lw_tbl)) ∧ (∃ (b0 : ByteArray) (m0 : Nat) (r0 : Option FieldType), yWd (.code ⟨owner, x.name, x.desc⟩ b0 m0 r0) ∧ yWd (.instanceMethod ⟨owner, x.name, x.desc⟩))
def yCSU (own : String) (ix ci : Nat) (y : MethodName) (cc : ByteArray) (nL : Nat) (ret : Option FieldType) (n : Nat) : Prop := ∃ (C : String) (T : u_T) (N : Nat), yCl ci C T N ∧ yWd (.code y cc nL ret) ∧ yWd (.methodLink own ix y) ∧ yWd (.sameMethod y.cls y.cls y.name y.desc) ∧ yWd (.superclass own y.cls) ∧ yWd (.instanceMethod y) ∧ yWd (.initialized y.cls) ∧ (parseMethodDescriptor y.desc).map (fun d => d.parameters.length) = some n ∧ y.name ≠ "<init>" ∧ nL ≤ 45
/-- a byte array of n bytes, made (of a tag in P) or from the start -/
def yBy (P : Nat → Prop) (aC : Nat → ClassId) (S0 : State) (G : AH) (v n : Nat) : Prop := (∃ (t : Nat) (f : Nat → Int32), P t ∧ G v = some (t, .inl (aC 3, n, .inl f)) ∧ ∀ j, fits .byte (.int (f j)) = true) ∨ ∃ f : Nat → Int32, va_T .byte v n (fun j => .int (f j)) (yOld S0) S0 S0.heap ∧ ∀ j, fits .byte (.int (f j)) = true
/-- a text of n letters, all of them Latin-1 -/
def ySt (P : Nat → Prop) (aC : Nat → ClassId) (S0 : State) (G : AH) (q n : Nat) : Prop := (∃ (t v : Nat) (h z : Value), P t ∧ G q = some (t, .inr (0, [.ref v, .int 0, h, z])) ∧ yBy P aC S0 G v n) ∨ (va_O "java/lang/String" q (yOld S0) S0 S0.heap ∧ va_OF "java/lang/String" "coder" "B" (.int 0) q (yOld S0) S0 S0.heap ∧ ∃ v, va_OF "java/lang/String" "value" "[B" (.ref v) q (yOld S0) S0 S0.heap ∧ yBy P aC S0 G v n)
/-- a builder of n letters with room for 16, its tags T and T + 1 -/
def ySB (aC : Nat → ClassId) (G : AH) (a T n : Nat) : Prop := ∃ (v : Nat) (f : Nat → Int32) (ml : Value), G a = some (T, .inr (1, [.ref v, .int 0, ml, .int (Int32.ofNat n)])) ∧ G v = some (T + 1, .inl (aC 3, 16, .inl f)) ∧ ∀ j, fits .byte (.int (f j)) = true
theorem yBy.kp {P f : Nat → Prop} {aC : Nat → ClassId} {S0 : State} {G G1 : AH} {v n : Nat} (h : yBy P aC S0 G v n) (hk : yTg f G G1) (hp : ∀ t, P t → f t) : yBy P aC S0 G1 v n := by
  rcases h with ⟨t, g, h1, h2, h3⟩ | h
  · exact Or.inl ⟨t, g, h1, hk _ _ _ h2 (hp _ h1), h3⟩
  · exact Or.inr h
theorem ySt.kp {P f : Nat → Prop} {aC : Nat → ClassId} {S0 : State} {G G1 : AH} {v n : Nat} (h : ySt P aC S0 G v n) (hk : yTg f G G1) (hp : ∀ t, P t → f t) : ySt P aC S0 G1 v n := by
  rcases h with ⟨t, g, x, z, h1, h2, h3⟩ | ⟨h1, h2, g, h3, h4⟩
  · exact Or.inl ⟨t, g, x, z, h1, hk _ _ _ h2 (hp _ h1), h3.kp hk hp⟩
  · exact Or.inr ⟨h1, h2, g, h3, h4.kp hk hp⟩
theorem ySB.kp {f : Nat → Prop} {aC : Nat → ClassId} {G G1 : AH} {a T n : Nat} (h : ySB aC G a T n) (hk : yTg f G G1) (h1 : f T) (h2 : f (T + 1)) : ySB aC G1 a T n := by
  obtain ⟨v, g, ml, q1, q2, q3⟩ := h
  exact ⟨v, g, ml, hk _ _ _ q1 h1, hk _ _ _ q2 h2, q3⟩
theorem yfit_nar (x : Int32) : fits .byte (.int (vp_nar .byte x)) = true := by
  have e : vp_nar .byte x = (Int32.toInt8 x).toInt32 := rfl
  rw [e]
  show (decide (-128 ≤ (Int32.toInt8 x).toInt32) && decide ((Int32.toInt8 x).toInt32 ≤ 127)) = true
  have h0 : ((Int32.toInt8 x).toInt32).toInt = (Int32.toInt8 x).toInt := Int8.toInt_toInt32 _
  have h1 := Int8.le_toInt (Int32.toInt8 x)
  have h2 := Int8.toInt_lt (Int32.toInt8 x)
  have h3 : (-128 : Int32).toInt = -128 := by decide
  have h4 : (127 : Int32).toInt = 127 := by decide
  rw [Bool.and_eq_true, decide_eq_true_eq, decide_eq_true_eq, yle, yle, h3, h4, h0]
  omega
theorem yfit_upd {g : Nat → Int32} (h : ∀ j, fits .byte (.int (g j)) = true) (i : Nat) (x : Int32) : ∀ j, fits .byte (.int (upd g i (vp_nar .byte x) j)) = true := by
  intro j
  unfold upd
  split
  · exact yfit_nar x
  · exact h j
section YST
variable {l : Launch} {S0 : State} {A0 : Array Value} {D : va_G} {aC : Nat → ClassId} {K : yK} {d mc ms : Nat} {Q : Option Value → AH → Prop} {X : String → AH → Prop} {T : yT}
variable {pc kc ks : Nat} {L : yL} {rest : List Value} {G : AH}
theorem y_runA {p : Program} {e : Env} {s : State} {m : MethodId} {args a : Array Value} {below : List Frame} {meth : Method} {c : Code} {H : Heap} {locs : List Loc} {cells slots : Nat} {ls : Array Slot} {k n : Nat} {st0 : List Value} {Qc : Option Value → AH → Prop}
    (F : yF S0 K p s m meth c) (hl : lv_has ls K.nL L) (hL : ∀ q ∈ locs, S0.heap.size ≤ q.base) (hc : cells + (kc + k) ≤ mc) (hs : slots + (ks + n) ≤ ms)
    (hr : va_Run p l e (yR d mc ms) s m args below meth c H locs cells slots k n (F0 m pc ls st0) rest (yQ S0 D Qc a) (fun q => S0.heap.size ≤ q))
    (kr : ∀ (r : Option Value) (G1 : AH), Qc r G1 → Y l S0 D K d mc ms Q X (pc + 3) L (r.toList ++ rest) G1 kc ks) :
    W p l e (yR d mc ms) s m args below meth c H locs cells slots (vx_MQ below (yQ S0 D Q) (yX S0 D X) args s mc ms (fun q => S0.heap.size ≤ q)) (F0 m pc ls st0) := by
  intro T9 hT9 X9
  obtain ⟨v, st₀, t, T', L', h0, X', hL', e1, e2, ⟨r, G', hv, hq, hy⟩, st⟩ := hr T9 hT9 X9
  cases hv
  obtain ⟨t2, a1, b1⟩ := kr v G' hq p e s m args below meth c T'.heap (locs ++ L') (cells + k) (slots + n) ls F hl (by rw [e1]; exact hy) X'.same.2.1 (fun q9 h9 => (List.mem_append.mp h9).elim (hL q9) (hL' q9)) (by omega) (by omega) T' rfl X'
  exact ⟨t2, st t2 a1, b1⟩
theorem y_callU (hS : yS l S0 A0 D aC) (hT : yTok K.cc T) {ix nL2 n d2 k2 n2 ci a t : Nat} {owner : String} {x y : MethodName} {cc2 : ByteArray} {ret : Option FieldType} {fs : List Value} {As : List Value} {Qc : Option Value → AH → Prop} (ht : yat pc T = some (.invokevirtual ix, 3)) (hf : yCU K.own ix ci owner x y cc2 nL2 ret n) (hg : G a = some (t, .inr (ci, fs))) (hM : yM l S0 D y cc2 nL2 ret d2 k2 n2 (.ref a :: As) G Qc (fun _ _ => False)) (hn : As.length = n) (hd : d2 < d) (hr : (rest.map fun v => v.category).sum ≤ 8)
    (kr : ∀ (r : Option Value) (G1 : AH), Qc r G1 → Y l S0 D K d mc ms Q X (pc + 3) L (r.toList ++ rest) G1 kc ks) : Y l S0 D K d mc ms Q X pc L (As.reverse ++ .ref a :: rest) G (kc + k2) (ks + n2) := by
  intro p e s m args below meth c H locs cells slots ls F hl hG hz hL hc hs
  have hW0 := F.2.2.2.2.2.2.2.2.1
  obtain ⟨C, T9, N, hcl, hwc, hwl, hwm, hwn, hwi, hy, hnl, hsel, b0, m0, r0, hd0, hi0⟩ := hf
  have hB : (yR d2 k2 n2).cells = k2 ∧ (yR d2 k2 n2).slots = n2 ∧ (yR d2 k2 n2).frames + 1 ≤ (yR d mc ms).frames ∧ 8 + (nL2 + 11) + (yR d2 k2 n2).locals ≤ (yR d mc ms).locals := ⟨rfl, rfl, hd, by show 8 + (nL2 + 11) + 64 * d2 ≤ 64 * d; omega⟩
  have hws : ∀ w ∈ [Cond.code y cc2 nL2 ret], ∀ (a' : Array Value) (U : State), s.WarmedH U.vm → w.before a' U = true := fun w9 h9 a' U hU => by rw [List.mem_singleton.mp h9]; exact hwc.use hS (State.WarmedH.trans hW0 hU)
  have hlen : ∀ sig, parseMethodDescriptor x.desc = some sig → n = sig.parameters.length := fun sig h => by have h2 := hy.2.2; rw [h] at h2; exact (Option.some.inj h2).symm
  have hse : (Cond.selects C x y).before args s = true := by
    rcases hsel with h | ⟨rfl, hy2, h, hi9, hm9, hgw, k, hk⟩
    · exact h.use hS hW0
    · exact word_at hW0 (good_of_word hgw) (ySelP hy2 (hS.2.1 _ hk) (hS.2.1 _ h) (hS.2.1 _ hi9) (hS.2.1 _ hm9))
  exact y_runA F hl hL (by omega) (by omega) (va_runU (owner := owner) (As := As) (rest := rest) (n := n) (Ts := []) ⟨F.1, F.2.1, F.2.2.1, F.2.2.2.1, fun w9 h9 => nomatch h9⟩ hM.met ⟨⟨hB.1, hB.2.1, hB.2.2.1, hB.2.2.2, hws, List.mem_singleton.mpr rfl⟩, hwc.use hS hW0, hwi.use hS hW0, ⟨hy.1, hy.2.1⟩, hlen, hwl.use hS hW0, hwm.use hS hW0, va_Decl.of (args := args) (hi0.use hS hW0) (hd0.use hS hW0), hse, hwn.use hS hW0⟩ ⟨fun a9 U g9 mk q9 => q9, va_recv (q0 := 0) (ws := [(a, .inr (ci, fs))]) (hS.K hW0) (hG.P1 hg) hcl.1 rfl, fun U hU hW => ⟨rfl, by rw [hU]; exact hG, State.WarmedH.trans hW0 hW⟩⟩ rfl hn hl.1 rfl (lv_room hr) (yat_ok hT ht) ⟨by show cells + k2 ≤ mc; omega, by show slots + n2 ≤ ms; omega⟩) kr
theorem y_callSU (hS : yS l S0 A0 D aC) (hT : yTok K.cc T) {ix nL2 n d2 k2 n2 ci a t : Nat} {y : MethodName} {cc2 : ByteArray} {ret : Option FieldType} {fs : List Value} {As : List Value} {Qc : Option Value → AH → Prop} (ht : yat pc T = some (.invokespecial ix, 3)) (hf : yCSU K.own ix ci y cc2 nL2 ret n) (hg : G a = some (t, .inr (ci, fs))) (hM : yM l S0 D y cc2 nL2 ret d2 k2 n2 (.ref a :: As) G Qc (fun _ _ => False)) (hn : As.length = n) (hd : d2 < d) (hr : (rest.map fun v => v.category).sum ≤ 8)
    (kr : ∀ (r : Option Value) (G1 : AH), Qc r G1 → Y l S0 D K d mc ms Q X (pc + 3) L (r.toList ++ rest) G1 kc ks) : Y l S0 D K d mc ms Q X pc L (As.reverse ++ .ref a :: rest) G (kc + k2) (ks + n2) := by
  intro p e s m args below meth c H locs cells slots ls F hl hG hz hL hc hs
  have hW0 := F.2.2.2.2.2.2.2.2.1
  obtain ⟨C, T9, N, hcl, hwc, hwl, hwm, hws9, hwn, hwi, hy, hno, hnl⟩ := hf
  have hB : (yR d2 k2 n2).cells = k2 ∧ (yR d2 k2 n2).slots = n2 ∧ (yR d2 k2 n2).frames + 1 ≤ (yR d mc ms).frames ∧ 8 + (nL2 + 11) + (yR d2 k2 n2).locals ≤ (yR d mc ms).locals := ⟨rfl, rfl, hd, by show 8 + (nL2 + 11) + 64 * d2 ≤ 64 * d; omega⟩
  have hws : ∀ w ∈ [Cond.code y cc2 nL2 ret], ∀ (a' : Array Value) (U : State), s.WarmedH U.vm → w.before a' U = true := fun w9 h9 a' U hU => by rw [List.mem_singleton.mp h9]; exact hwc.use hS (State.WarmedH.trans hW0 hU)
  have hlen : ∀ sig, parseMethodDescriptor y.desc = some sig → n = sig.parameters.length := fun sig h => by have h2 := hy; rw [h] at h2; exact (Option.some.inj h2).symm
  exact y_runA F hl hL (by omega) (by omega) (va_runSU (C := C) (As := As) (rest := rest) (n := n) (Ts := []) ((hS.K hW0).1 ci _ hcl.1).2 ⟨F.1, F.2.1, F.2.2.1, F.2.2.2.1, fun w9 h9 => nomatch h9⟩ hM.met ⟨⟨hB.1, hB.2.1, hB.2.2.1, hB.2.2.2, hws, List.mem_singleton.mpr rfl⟩, hwl.use hS hW0, hwm.use hS hW0, hws9.use hS hW0, hwn.use hS hW0, hwi.use hS hW0, hwc.use hS hW0, hno, hlen⟩ ⟨fun a9 U g9 mk q9 => q9, va_recv (q0 := 0) (ws := [(a, .inr (ci, fs))]) (hS.K hW0) (hG.P1 hg) hcl.1 rfl, fun U hU hW => ⟨rfl, by rw [hU]; exact hG, State.WarmedH.trans hW0 hW⟩⟩ rfl hn hl.1 rfl (lv_room hr) (yat_ok hT ht) ⟨by show cells + k2 ≤ mc; omega, by show slots + n2 ≤ ms; omega⟩) kr
theorem y_ldcwS (hT : yTok K.cc T) {ix q : Nat} {tx : String} (ht : yat pc T = some (.ldc_w ix, 3)) (hZ : vk_R K.own ix tx q S0) (kk : Y l S0 D K d mc ms Q X (pc + 3) L (.ref q :: rest) G kc ks) : Y l S0 D K d mc ms Q X pc L rest G kc ks := by
  intro p e s m args below meth c H locs cells slots ls F hl hG hz hL hc hs
  have hk := kk p e s m args below meth c H locs cells slots ls F hl hG hz hL hc hs
  have hR := hZ.warm F.2.2.2.2.2.2.2.2.1
  have hexec := F.1
  have hdg : decode c.code pc = .ok (.ldc_w ix, 3) := by rw [F.2.1]; exact yat_ok hT ht
  intro T8 hT8 X8
  obtain ⟨t, a1, b1⟩ := hk T8 hT8 X8
  refine ⟨t, ?_, b1⟩
  obtain ⟨k, cf, i, a', hk1, hcf, hcp, -, hr, hev'⟩ := Cond.stringRef_spec F.2.2.2.1 hR.1
  cases hR.2.symm.trans hev'
  obtain ⟨k', hk', he⟩ := X8.warmed.alike.2.2 _ _ hk1
  have hr' : k'.resolved[ix]? = some (some (.string q)) := by
    rcases X8.warmed.entry hk1 hk' ix with h | ⟨h, -⟩
    · rw [h]; exact hr
    · rw [hr] at h; cases h
  jvm_step X8.here [hexec, hdg, ldc_w.wp_string (e := e) (s := T8) (f := F0 m pc ls rest) X8.here.top hk' (by rw [he]; exact hcf) hcp hr']
  exact a1
theorem y_mmin (hS : yS l S0 A0 D aC) (hT : yTok K.cc T) {ix : Nat} {x y : Int32} (ht : yat pc T = some (.invokestatic ix, 3)) (hw : yWd (.methodLink K.own ix Lib.Math.min.name)) (hr : (rest.map fun v => v.category).sum ≤ 8) (hd : 1 ≤ d) (kk : Y l S0 D K d mc ms Q X (pc + 3) L (.int (if y < x then y else x) :: rest) G kc ks) : Y l S0 D K d mc ms Q X pc L (.int y :: .int x :: rest) G kc ks := by
  intro p e s m args below meth c H locs cells slots ls F hl hG hz hL hc hs
  have hW0 := F.2.2.2.2.2.2.2.2.1
  exact va_mmin F.1 F.2.1 (F.2.2.1.trans hl.1.symm) F.2.2.2.1 (hw.use hS hW0) (yWd.use (w := .static Lib.Math.min.name) ⟨by decide +kernel, by decide +kernel⟩ hS hW0) (yWd.use (w := .initialized "java/lang/Math") ⟨by decide +kernel, by decide +kernel⟩ hS hW0) (yWd.use (w := .code Lib.Math.min.name Lib.Math.min.code 2 (some .int)) ⟨by decide +kernel, by decide +kernel⟩ hS hW0) hd (by show _ ≤ 64 * d; omega) (by show cells ≤ mc; omega) (by show slots ≤ ms; omega) (yat_ok hT ht) (kk p e s m args below meth c H locs cells slots ls F hl hG hz hL hc hs)
theorem y_tbO (hT : yTok K.cc T) {a n : Nat} {f : Nat → Value} {i : Int32} {v : Value} (ht : yat pc T = some (.baload, 1)) (hA : va_T .byte a n f (yOld S0) S0 S0.heap) (hi : vp_in i n) (hv : f i.toNatClampNeg = v) (kk : Y l S0 D K d mc ms Q X (pc + 1) L (v :: rest) G kc ks) : Y l S0 D K d mc ms Q X pc L (.int i :: .ref a :: rest) G kc ks := by
  intro p e s m args below meth c H locs cells slots ls F hl hG hz hL hc hs
  exact va_tb F.1 F.2.1 (yT_at F hA) (yVS F hG hz hL) hi hv (yat_ok hT ht) (kk p e s m args below meth c H locs cells slots ls F hl hG hz hL hc hs)
theorem y_lenB (hS : yS l S0 A0 D aC) (hT : yTok K.cc T) {P : Nat → Prop} {a n : Nat} (ht : yat pc T = some (.arraylength, 1)) (hB : yBy P aC S0 G a n) (kk : Y l S0 D K d mc ms Q X (pc + 1) L (.int (Int32.ofNat n) :: rest) G kc ks) : Y l S0 D K d mc ms Q X pc L (.ref a :: rest) G kc ks := by
  rcases hB with ⟨t, f, -, hg, -⟩ | ⟨f, hX, -⟩
  · exact y_alen (x := (n, .inl f)) hS hT 3 rfl ht hg kk
  · intro p e s m args below meth c H locs cells slots ls F hl hG hz hL hc hs
    exact va_tlen F.1 F.2.1 (yT_at F hX) (yVS F hG hz hL) rfl (yat_ok hT ht) (kk p e s m args below meth c H locs cells slots ls F hl hG hz hL hc hs)
theorem y_getSv (hS : yS l S0 A0 D aC) (hT : yTok K.cc T) {P : Nat → Prop} {ix q n : Nat} (ht : yat pc T = some (.getfield ix, 3)) (hf : yFL K.own ix 0 0) (hw : yWd (.fieldLink K.own ix "java/lang/String" "value" "[B")) (hq : ySt P aC S0 G q n) (kk : ∀ v, yBy P aC S0 G v n → Y l S0 D K d mc ms Q X (pc + 3) L (.ref v :: rest) G kc ks) : Y l S0 D K d mc ms Q X pc L (.ref q :: rest) G kc ks := by
  rcases hq with ⟨t, v, h, z, -, hg, hv⟩ | ⟨hO, hc, v, hv, hb⟩
  · exact y_get hS hT (v := .ref v) ht hf hg rfl (kk v hv)
  · exact y_getO hS hT ht hw hv (kk v hb)
theorem y_getSc (hS : yS l S0 A0 D aC) (hT : yTok K.cc T) {P : Nat → Prop} {ix q n : Nat} (ht : yat pc T = some (.getfield ix, 3)) (hf : yFL K.own ix 0 1) (hw : yWd (.fieldLink K.own ix "java/lang/String" "coder" "B")) (hq : ySt P aC S0 G q n) (kk : Y l S0 D K d mc ms Q X (pc + 3) L (.int 0 :: rest) G kc ks) : Y l S0 D K d mc ms Q X pc L (.ref q :: rest) G kc ks := by
  rcases hq with ⟨t, v, h, z, -, hg, hv⟩ | ⟨hO, hc, v, hv, hb⟩
  · exact y_get hS hT (v := .int 0) ht hf hg rfl kk
  · exact y_getO hS hT ht hw hc kk
theorem y_callVS (hS : yS l S0 A0 D aC) (hT : yTok K.cc T) (he : K.et = []) {P : Nat → Prop} {ix nL2 n d2 k2 n2 a n9 : Nat} {y : MethodName} {cc2 : ByteArray} {ret : Option FieldType} {As : List Value} {Qc : Option Value → AH → Prop} (ht : yat pc T = some (.invokevirtual ix, 3)) (hf : yCV K.own ix 0 y cc2 nL2 ret n) (hq : ySt P aC S0 G a n9) (hM : yM l S0 D y cc2 nL2 ret d2 k2 n2 (.ref a :: As) G Qc (fun _ _ => False)) (hn : As.length = n) (hd : d2 < d) (hr : (rest.map fun v => v.category).sum ≤ 8)
    (kr : ∀ (r : Option Value) (G1 : AH), Qc r G1 → Y l S0 D K d mc ms Q X (pc + 3) L (r.toList ++ rest) G1 kc ks) : Y l S0 D K d mc ms Q X pc L (As.reverse ++ .ref a :: rest) G (kc + k2) (ks + n2) := by
  rcases hq with ⟨t, v, h, z, -, hg, -⟩ | ⟨hO, -⟩
  · exact y_callV hS hT he ht hf hg hM hn hd hr kr (fun _ _ h => h.elim)
  · exact y_callVO hS hT he ht hf ⟨_, _, _, rfl, hO⟩ hM hn hd hr kr (fun _ _ h => h.elim)
theorem y_cpy (hS : yS l S0 A0 D aC) (hT : yTok K.cc T) {P : Nat → Prop} {ix a0 n0 a t n1 : Nat} {g : Nat → Int32} {sp dp n : Int32} (ht : yat pc T = some (.invokestatic ix, 3)) (hf : yWd (.methodLink K.own ix arraycopyName)) (hwn : yWd (.native arraycopyName)) (hws : yWd (.static arraycopyName)) (hwi : yWd (.initialized "java/lang/System")) (hsrc : yBy P aC S0 G a0 n0) (hg : G a = some (t, .inl (aC 3, n1, .inl g))) (h0 : t ≠ 0) (hg9 : ∀ j, fits .byte (.int (g j)) = true) (h1 : ¬ sp < 0) (h2 : ¬ dp < 0) (h3 : ¬ n < 0) (h4 : sp.toNatClampNeg + n.toNatClampNeg ≤ n0) (h5 : dp.toNatClampNeg + n.toNatClampNeg ≤ n1) (hr : (rest.map fun v => v.category).sum ≤ 8) (hd : 4 ≤ d)
    (kk : ∀ g1 : Nat → Int32, (∀ j, fits .byte (.int (g1 j)) = true) → Y l S0 D K d mc ms Q X (pc + 3) L rest (yup G a (t, .inl (aC 3, n1, .inl g1))) kc ks) : Y l S0 D K d mc ms Q X pc L (.int n :: .int dp :: .ref a :: .int sp :: .ref a0 :: rest) G kc ks := by
  intro p e s m args below meth c H locs cells slots ls F hl hG hz hL hc hs
  have hW0 := F.2.2.2.2.2.2.2.2.1
  have hK := hS.K (s := s) hW0
  obtain ⟨f, hfit, scr, hc0, hs2, hs3, hs4, hs5⟩ : ∃ f : Nat → Int32, (∀ j, fits .byte (.int (f j)) = true) ∧ ∃ scr : Cell, H[a0]? = some scr ∧ s.isArrayOf scr .byte ∧ scr.vm ≠ .unknown ∧ n0 ≤ scr.slots.size ∧ ∀ j, j < n0 → scr.slots[j]? = some (.int (f j)) := by
    rcases hsrc with ⟨t0, f, -, hg0, hft⟩ | ⟨f, hX, hft⟩
    · exact ⟨f, hft, vp_cell (aC 3) (n0, .inl f), (hG.2.2 a0 t0 _ hg0).1, (hK.2 3 _ rfl).1 n0 (fun j => .int (f j)), (fun h => by cases h), by show n0 ≤ (arrV _ _ _).slots.size; rw [arrV_size]; exact Nat.le_refl _, fun j hj => by show (arrV (aC 3) n0 (fun j => .int (f j))).slots[j]? = _; rw [arrV_read _ _ hj]⟩
    · obtain ⟨scr, q1, q2, q3, q4, -, q5, q6⟩ := yT_at F hX
      exact ⟨f, hft, scr, by rw [(yVS F hG hz hL).2.1 a0 (Array.getElem?_eq_some_iff.mp q1).1 q6]; exact q1, q2, q3, q4, q5⟩
  have hc1 : H[a]? = some (vp_cell (aC 3) (n1, .inl g)) := (hG.2.2 a t _ hg).1
  obtain ⟨hs6, k0, hk0, cm0, hkk0⟩ := hs2
  obtain ⟨-, k1, hk1, cm1, hkk1⟩ := (hK.2 3 _ rfl).1 n1 (fun j => .int (g j))
  have nn : ∀ z : Int32, ¬ z < 0 → z.toInt = (z.toNatClampNeg : Int) := by
    intro z hz
    have hz0 : (0 : Int) ≤ z.toInt := by
      have := Int32.not_lt.mp hz
      simpa using Int32.le_iff_toInt_le.mp this
    show z.toInt = ((z.toInt.toNat : Nat) : Int)
    omega
  have hnf : nativeFrameWords "java/lang/System" "arraycopy" 5 ≤ 200 := by decide
  intro T8 hT8 X8
  obtain ⟨vm', X', step⟩ := X8.arraycopy F.1 F.2.2.2.1 (hf.use hS hW0) (hwn.use hS hW0) (hws.use hS hW0) (hwi.use hS hW0) (src := a0) (dst := a) (cs := scr) (cd := vp_cell (aC 3) (n1, .inl g)) (srcPos := sp) (destPos := dp) (n := n) (by rw [hT8]; exact hc0) (by rw [hT8]; exact hc1)
    hs6 (fun _ h => by cases h) hs3 (fun h => by cases h) hk0 hk1 hkk0 hkk1 (by simp [refKind]) h1 h2 h3
    (by rw [nn sp h1, nn n h3]; show ¬ _ > (scr.slots.size : Int); omega)
    (by rw [nn dp h2, nn n h3]; show ¬ _ > ((arrV (aC 3) n1 (fun j => .int (g j))).slots.size : Int); rw [arrV_size]; omega)
    (fun vm₁ _ i hi => by
      have e : scr.slots.getD (sp.toNatClampNeg + i) .null = .int (f (sp.toNatClampNeg + i)) := by
        rw [Array.getD_eq_getD_getElem?, hs5 _ (by omega)]
        rfl
      refine ⟨?_, ?_⟩
      · rw [e]
        exact hfit _
      · rw [e]
        exact trivial)
    (g := F0 m pc ls (.int n :: .int dp :: .ref a :: .int sp :: .ref a0 :: rest)) rfl (hl.1.trans F.2.2.1.symm) (rest := rest) rfl (by rw [F.2.1]; exact yat_ok hT ht) (by show 1 ≤ d; omega) (by show 2 * 0 + _ + _ ≤ 64 * d; omega)
  have e1 : copied scr (vp_cell (aC 3) (n1, .inl g)) sp dp n = vp_cell (aC 3) (n1, .inl (va_cpy f g sp.toNatClampNeg dp.toNatClampNeg n.toNatClampNeg)) := va_copiedX (fun z => .int z) scr (aC 3) f g hs5 h4
  rw [e1] at X' step
  have hla : a < H.size := (Array.getElem?_eq_some_iff.mp hc1).1
  have hheap : ((T8.setVm vm').setCell a (vp_cell (aC 3) (n1, .inl (va_cpy f g sp.toNatClampNeg dp.toNatClampNeg n.toNatClampNeg)))).heap = H.setIfInBounds a (vp_cell (aC 3) (n1, .inl (va_cpy f g sp.toNatClampNeg dp.toNatClampNeg n.toNatClampNeg))) := by rw [← hT8]; rfl
  have oq : ∀ q : Nat, q ≠ a → (H.setIfInBounds a (vp_cell (aC 3) (n1, .inl (va_cpy f g sp.toNatClampNeg dp.toNatClampNeg n.toNatClampNeg))))[q]? = H[q]? := fun q hq => by simp [Array.getElem?_setIfInBounds, Ne.symm hq]
  have ha0 : S0.heap.size ≤ a := (hG.2.2 a t _ hg).2 h0
  obtain ⟨t9, a1, b1⟩ := kk (va_cpy f g sp.toNatClampNeg dp.toNatClampNeg n.toNatClampNeg) (fun j => by unfold va_cpy; split; exact hfit _; exact hg9 _) p e s m args below meth c _ _ cells slots ls F hl (hG.put hg h0 (show (H.setIfInBounds a _)[a]? = some _ by simp [Array.getElem?_setIfInBounds, hla]) (by simp) oq) (by simp; exact hz) (fun q hq => by
      rcases List.mem_append.mp hq with h | h
      · exact hL q h
      · obtain ⟨z, -, hz9⟩ := List.mem_map.mp h
        rw [← hz9]
        exact ha0) hc hs _ hheap X'
  exact ⟨t9, step t9 a1, b1⟩
end YST
/-- what the texts of the reference and the digits' table are at the start -/
theorem yLitOf {l : Launch} {S0 : State} {A0 : Array Value} {D : va_G} {aC : Nat → ClassId} (hS : yS l S0 A0 D aC) {own tx : String} {ix n : Nat} {bs : List Int32} (h0 : (Cond.stringRef own ix tx).before A0 S0 = true) (hn : n < 2 ^ 31) (h1 : (Cond.exactly (.string own ix) "java/lang/String").before A0 S0 = true) (h2 : (Cond.eq (.field (.string own ix) "java/lang/String" "coder" "B") (.int 0)).before A0 S0 = true)
    (h3 : (Cond.arrayOf (.field (.string own ix) "java/lang/String" "value" "[B") .byte).before A0 S0 = true) (h4 : (Cond.eq (.length (.field (.string own ix) "java/lang/String" "value" "[B")) (.int (Int32.ofNat n))).before A0 S0 = true) (h5 : ∀ j : Nat, j < n → (Cond.eq (.elem (.field (.string own ix) "java/lang/String" "value" "[B") (.int (Int32.ofNat j))) (.int (bs.getD j 0))).before A0 S0 = true) (hb : ∀ j, fits .byte (.int (bs.getD j 0)) = true) :
    ∃ q : Nat, vk_R own ix tx q S0 ∧ ∀ (P : Nat → Prop) (G : AH), ySt P aC S0 G q n := by
  obtain ⟨adK, adV, hK, hE⟩ := vk_Sof (args := A0) (s := S0) (N := 1) (tm := fun _ => .string own ix) (len := [n]) (byt := [bs]) (A := yOld S0)
    (fun i hi => by obtain rfl : i = 0 := (by omega); exact hn) (fun i _ => h1) (fun i _ => h2) (fun i _ => h3) (fun i hi => by obtain rfl : i = 0 := (by omega); exact h4) (fun i hi => by obtain rfl : i = 0 := (by omega); exact h5) (fun i j hi hj hne => absurd (show i = j by omega) hne) yOldA
  obtain ⟨q1, q2, q3, q4⟩ := hK.1 0 (by decide)
  exact ⟨adK 0, vk_R.of h0 (hE 0 (by decide)), fun P G => Or.inr ⟨q1, q2, adV 0, q3, Or.inr ⟨fun j => bs.getD j 0, q4, hb⟩⟩⟩
def K_J4_length_8abf5 : yK := (yJ4_length_8abf5.cls, yJ4_length_8abf5.name, cJ4_length_8abf5, 1, (some .int), [])
def t_J4_length_8abf5 : yT := [(0, .aload_n 0, 1), (1, .invokespecial 343, 3), (4, .ireturn, 1)]
theorem tq_J4_length_8abf5 : yTok (yK.cc K_J4_length_8abf5) t_J4_length_8abf5 := (ychk_ok _ _ 0 rfl (by decide +kernel))
theorem wd_2182 : yWd (.sameMethod "java/lang/AbstractStringBuilder" "java/lang/AbstractStringBuilder" "ensureCapacityInternal" "(I)V") := ⟨lw_in9 _ (List.mem_of_getElem? (i := 189) rfl), rfl⟩
theorem cu_J5_100 : yCU RJ5 100 1 "java/lang/AbstractStringBuilder" yJ5_ensureCapacityInternal_d00df yJ5_ensureCapacityInternal_d00df cJ5_ensureCapacityInternal_d00df 3 none 1 := ⟨_, _, _, cl_J4, wd_1336, wd_1333, wd_2182, wd_1335, wd_106, ⟨by decide, by decide, by decide +kernel⟩, by decide, Or.inr ⟨rfl, ⟨by decide, by decide⟩, lw_in6 _ (List.mem_of_getElem? (i := 61) (by decide +kernel)), lw_in6 _ (List.mem_of_getElem? (i := 62) (by decide +kernel)), lw_in9 _ (List.mem_of_getElem? (i := 189) (by decide +kernel)), (show goodWord (Cond.selects RJ4 yJ5_ensureCapacityInternal_d00df yJ5_ensureCapacityInternal_d00df) = true from by decide +kernel), 4, lw_in6 _ (List.mem_of_getElem? (i := 10) (by decide +kernel))⟩, ⟨_, _, _, wd_1336, wd_1335⟩⟩
theorem wd_1370 : yWd (.sameMethod "java/lang/AbstractStringBuilder" "java/lang/AbstractStringBuilder" "isLatin1" "()Z") := ⟨lw_in6 _ (List.mem_of_getElem? (i := 97) rfl), rfl⟩
theorem wd_1371 : yWd (.selects "java/lang/StringBuilder" ⟨"java/lang/AbstractStringBuilder","isLatin1","()Z"⟩ ⟨"java/lang/AbstractStringBuilder","isLatin1","()Z"⟩) := ⟨lw_in6 _ (List.mem_of_getElem? (i := 98) rfl), rfl⟩
theorem cu_J5_83 : yCU RJ5 83 1 "java/lang/AbstractStringBuilder" yJ5_isLatin1_aae02 yJ5_isLatin1_aae02 cJ5_isLatin1_aae02 1 (some .boolean) 0 := ⟨_, _, _, cl_J4, wd_1372, wd_1368, wd_1370, wd_1369, wd_106, ⟨by decide, by decide, by decide +kernel⟩, by decide, Or.inl wd_1371, ⟨_, _, _, wd_1372, wd_1369⟩⟩
theorem wd_2188 : yWd (.sameMethod "java/lang/AbstractStringBuilder" "java/lang/AbstractStringBuilder" "putStringAt" "(ILjava/lang/String;)V") := ⟨lw_in9 _ (List.mem_of_getElem? (i := 195) rfl), rfl⟩
theorem cu_J5_208 : yCU RJ5 208 1 "java/lang/AbstractStringBuilder" yJ5_putStringAt_47b60 yJ5_putStringAt_47b60 cJ5_putStringAt_47b60 3 none 2 := ⟨_, _, _, cl_J4, wd_1521, wd_1518, wd_2188, wd_1520, wd_106, ⟨by decide, by decide, by decide +kernel⟩, by decide, Or.inr ⟨rfl, ⟨by decide, by decide⟩, lw_in7 _ (List.mem_of_getElem? (i := 6) (by decide +kernel)), lw_in7 _ (List.mem_of_getElem? (i := 7) (by decide +kernel)), lw_in9 _ (List.mem_of_getElem? (i := 195) (by decide +kernel)), (show goodWord (Cond.selects RJ4 yJ5_putStringAt_47b60 yJ5_putStringAt_47b60) = true from by decide +kernel), 4, lw_in6 _ (List.mem_of_getElem? (i := 10) (by decide +kernel))⟩, ⟨_, _, _, wd_1521, wd_1520⟩⟩
theorem wd_2189 : yWd (.sameMethod "java/lang/AbstractStringBuilder" "java/lang/AbstractStringBuilder" "inflateIfNeededFor" "(Ljava/lang/String;)V") := ⟨lw_in9 _ (List.mem_of_getElem? (i := 196) rfl), rfl⟩
theorem cu_J5_397 : yCU RJ5 397 1 "java/lang/AbstractStringBuilder" yJ5_inflateIfNeededFor_a7421 yJ5_inflateIfNeededFor_a7421 cJ5_inflateIfNeededFor_a7421 2 none 1 := ⟨_, _, _, cl_J4, wd_1525, wd_1522, wd_2189, wd_1524, wd_106, ⟨by decide, by decide, by decide +kernel⟩, by decide, Or.inr ⟨rfl, ⟨by decide, by decide⟩, lw_in7 _ (List.mem_of_getElem? (i := 10) (by decide +kernel)), lw_in7 _ (List.mem_of_getElem? (i := 11) (by decide +kernel)), lw_in9 _ (List.mem_of_getElem? (i := 196) (by decide +kernel)), (show goodWord (Cond.selects RJ4 yJ5_inflateIfNeededFor_a7421 yJ5_inflateIfNeededFor_a7421) = true from by decide +kernel), 4, lw_in6 _ (List.mem_of_getElem? (i := 10) (by decide +kernel))⟩, ⟨_, _, _, wd_1525, wd_1524⟩⟩
theorem wd_1436 : yWd (.sameMethod "java/lang/AbstractStringBuilder" "java/lang/AbstractStringBuilder" "getValue" "()[B") := ⟨lw_in6 _ (List.mem_of_getElem? (i := 163) rfl), rfl⟩
theorem wd_1437 : yWd (.selects "java/lang/StringBuilder" ⟨"java/lang/AbstractStringBuilder","getValue","()[B"⟩ ⟨"java/lang/AbstractStringBuilder","getValue","()[B"⟩) := ⟨lw_in6 _ (List.mem_of_getElem? (i := 164) rfl), rfl⟩
theorem cu_J0_552 : yCU RJ0 552 1 "java/lang/AbstractStringBuilder" yJ5_getValue_6d5f1 yJ5_getValue_6d5f1 cJ5_getValue_6d5f1 1 (some (.array .byte)) 0 := ⟨_, _, _, cl_J4, wd_1438, wd_1434, wd_1436, wd_1435, wd_106, ⟨by decide, by decide, by decide +kernel⟩, by decide, Or.inl wd_1437, ⟨_, _, _, wd_1438, wd_1435⟩⟩
theorem wd_1441 : yWd (.sameMethod "java/lang/AbstractStringBuilder" "java/lang/AbstractStringBuilder" "length" "()I") := ⟨lw_in6 _ (List.mem_of_getElem? (i := 168) rfl), rfl⟩
theorem wd_1442 : yWd (.selects "java/lang/StringBuilder" ⟨"java/lang/AbstractStringBuilder","length","()I"⟩ ⟨"java/lang/StringBuilder","length","()I"⟩) := ⟨lw_in6 _ (List.mem_of_getElem? (i := 169) rfl), rfl⟩
theorem wd_1444 : yWd (.code yJ4_length_8abf5 cJ4_length_8abf5 1 (some .int)) := ⟨lw_in6 _ (List.mem_of_getElem? (i := 171) rfl), rfl⟩
theorem wd_1443 : yWd (.instanceMethod ⟨"java/lang/StringBuilder","length","()I"⟩) := ⟨lw_in6 _ (List.mem_of_getElem? (i := 170) rfl), rfl⟩
theorem cu_J0_549 : yCU RJ0 549 1 "java/lang/AbstractStringBuilder" yJ5_length_8abf5 yJ4_length_8abf5 cJ4_length_8abf5 1 (some .int) 0 := ⟨_, _, _, cl_J4, wd_1444, wd_1439, wd_1441, wd_1443, wd_107, ⟨by decide, by decide, by decide +kernel⟩, by decide, Or.inl wd_1442, ⟨_, _, _, wd_1446, wd_1440⟩⟩
theorem cu_J0_1047 : yCU RJ0 1047 1 "java/lang/AbstractStringBuilder" yJ5_isLatin1_aae02 yJ5_isLatin1_aae02 cJ5_isLatin1_aae02 1 (some .boolean) 0 := ⟨_, _, _, cl_J4, wd_1372, wd_1447, wd_1370, wd_1369, wd_106, ⟨by decide, by decide, by decide +kernel⟩, by decide, Or.inl wd_1371, ⟨_, _, _, wd_1372, wd_1369⟩⟩
theorem wd_2181 : yWd (.sameMethod "java/lang/AbstractStringBuilder" "java/lang/AbstractStringBuilder" "append" "(C)Ljava/lang/AbstractStringBuilder;") := ⟨lw_in9 _ (List.mem_of_getElem? (i := 188) rfl), rfl⟩
theorem wd_1312 : yWd (.superclass "java/lang/StringBuilder" "java/lang/AbstractStringBuilder") := ⟨lw_in6 _ (List.mem_of_getElem? (i := 39) rfl), rfl⟩
theorem csu_J4_50 : yCSU RJ4 50 1 yJ5_append_3fe6f cJ5_append_3fe6f 2 (some (.object "java/lang/AbstractStringBuilder")) 1 := ⟨_, _, _, cl_J4, wd_1332, wd_1330, wd_2181, wd_1312, wd_1331, wd_106, by decide +kernel, by decide, by decide⟩
theorem wd_2186 : yWd (.sameMethod "java/lang/AbstractStringBuilder" "java/lang/AbstractStringBuilder" "append" "(Ljava/lang/String;)Ljava/lang/AbstractStringBuilder;") := ⟨lw_in9 _ (List.mem_of_getElem? (i := 193) rfl), rfl⟩
theorem csu_J4_29 : yCSU RJ4 29 1 yJ5_append_cf1ce cJ5_append_cf1ce 3 (some (.object "java/lang/AbstractStringBuilder")) 1 := ⟨_, _, _, cl_J4, wd_1501, wd_1499, wd_2186, wd_1312, wd_1500, wd_106, by decide +kernel, by decide, by decide⟩
theorem wd_2185 : yWd (.sameMethod "java/lang/AbstractStringBuilder" "java/lang/AbstractStringBuilder" "append" "(I)Ljava/lang/AbstractStringBuilder;") := ⟨lw_in9 _ (List.mem_of_getElem? (i := 192) rfl), rfl⟩
theorem csu_J4_53 : yCSU RJ4 53 1 yJ5_append_c97b9 cJ5_append_c97b9 4 (some (.object "java/lang/AbstractStringBuilder")) 1 := ⟨_, _, _, cl_J4, wd_1466, wd_1464, wd_2185, wd_1312, wd_1465, wd_106, by decide +kernel, by decide, by decide⟩
theorem wd_1445 : yWd (.methodLink "java/lang/StringBuilder" 343 ⟨"java/lang/AbstractStringBuilder","length","()I"⟩) := ⟨lw_in6 _ (List.mem_of_getElem? (i := 172) rfl), rfl⟩
theorem csu_J4_343 : yCSU RJ4 343 1 yJ5_length_8abf5 cJ5_length_8abf5 1 (some .int) 0 := ⟨_, _, _, cl_J4, wd_1446, wd_1445, wd_1441, wd_1312, wd_1440, wd_106, by decide +kernel, by decide, by decide⟩
theorem wd_1367 : yWd (.native ⟨"java/lang/System","arraycopy","(Ljava/lang/Object;ILjava/lang/Object;II)V"⟩) := ⟨lw_in6 _ (List.mem_of_getElem? (i := 94) rfl), rfl⟩
theorem wac_n : yWd (.native arraycopyName) := wd_1367
theorem wd_1366 : yWd (.static ⟨"java/lang/System","arraycopy","(Ljava/lang/Object;ILjava/lang/Object;II)V"⟩) := ⟨lw_in6 _ (List.mem_of_getElem? (i := 93) rfl), rfl⟩
theorem wac_s : yWd (.static arraycopyName) := wd_1366
theorem wd_101 : yWd (.initialized "java/lang/System") := ⟨lw_in1 _ (List.mem_of_getElem? (i := 28) rfl), rfl⟩
theorem wac_i : yWd (.initialized "java/lang/System") := wd_101
theorem wd_1365 : yWd (.methodLink "java/util/Arrays" 150 ⟨"java/lang/System","arraycopy","(Ljava/lang/Object;ILjava/lang/Object;II)V"⟩) := ⟨lw_in6 _ (List.mem_of_getElem? (i := 92) rfl), rfl⟩
theorem wac_J7 : yWd (.methodLink RJ7 150 arraycopyName) := wd_1365
theorem wd_1531 : yWd (.methodLink "java/lang/String" 212 ⟨"java/lang/System","arraycopy","(Ljava/lang/Object;ILjava/lang/Object;II)V"⟩) := ⟨lw_in7 _ (List.mem_of_getElem? (i := 18) rfl), rfl⟩
theorem wac_J0 : yWd (.methodLink RJ0 212 arraycopyName) := wd_1531
theorem wst_9 : yWd (.fieldLink RJ0 9 "java/lang/String" "value" "[B") := wd_1548
theorem wst_15 : yWd (.fieldLink RJ0 15 "java/lang/String" "coder" "B") := wd_1549
theorem yLit_300 {l : Launch} {S0 : State} {A0 : Array Value} {D : va_G} {aC : Nat → ClassId} (hS : yS l S0 A0 D aC) : ∃ q : Nat, vk_R RX12 300 "" q S0 ∧ ∀ (P : Nat → Prop) (G : AH), ySt P aC S0 G q 0 := by
  have fl : ∀ w ∈ flatC (Jvm.Cond.and given_1 narrow_1), w.before A0 S0 = true := flat_of_before _ hS.2.2.2
  exact yLitOf hS (bs := []) (hS.2.1 _ (lw_in9 _ (List.mem_of_getElem? (i := 158) (by decide +kernel)))) (by decide) (fl _ (by decide +kernel)) (fl _ (by decide +kernel)) (fl _ (by decide +kernel)) (fl _ (by decide +kernel)) (fun j hj => absurd hj (Nat.not_lt_zero j)) (fun j => rfl)
theorem yLit_316 {l : Launch} {S0 : State} {A0 : Array Value} {D : va_G} {aC : Nat → ClassId} (hS : yS l S0 A0 D aC) : ∃ q : Nat, vk_R RX12 316 "#" q S0 ∧ ∀ (P : Nat → Prop) (G : AH), ySt P aC S0 G q 1 := by
  have fl : ∀ w ∈ flatC (Jvm.Cond.and given_1 narrow_1), w.before A0 S0 = true := flat_of_before _ hS.2.2.2
  exact yLitOf hS (bs := [35]) (hS.2.1 _ (lw_in9 _ (List.mem_of_getElem? (i := 164) (by decide +kernel)))) (by decide) (fl _ (by decide +kernel)) (fl _ (by decide +kernel)) (fl _ (by decide +kernel)) (fl _ (by decide +kernel)) (fun j hj => by obtain rfl : j = 0 := (by omega); exact fl (.eq (.elem (.field (.string "NightwatchWallModel" 316) "java/lang/String" "value" "[B") (.int 0)) (.int 35)) (by decide +kernel)) (fun j => by match j with | 0 => rfl | k + 1 => rfl)
theorem yLit_318 {l : Launch} {S0 : State} {A0 : Array Value} {D : va_G} {aC : Nat → ClassId} (hS : yS l S0 A0 D aC) : ∃ q : Nat, vk_R RX12 318 "%" q S0 ∧ ∀ (P : Nat → Prop) (G : AH), ySt P aC S0 G q 1 := by
  have fl : ∀ w ∈ flatC (Jvm.Cond.and given_1 narrow_1), w.before A0 S0 = true := flat_of_before _ hS.2.2.2
  exact yLitOf hS (bs := [37]) (hS.2.1 _ (lw_in9 _ (List.mem_of_getElem? (i := 165) (by decide +kernel)))) (by decide) (fl _ (by decide +kernel)) (fl _ (by decide +kernel)) (fl _ (by decide +kernel)) (fl _ (by decide +kernel)) (fun j hj => by obtain rfl : j = 0 := (by omega); exact fl (.eq (.elem (.field (.string "NightwatchWallModel" 318) "java/lang/String" "value" "[B") (.int 0)) (.int 37)) (by decide +kernel)) (fun j => by match j with | 0 => rfl | k + 1 => rfl)
theorem yLit_320 {l : Launch} {S0 : State} {A0 : Array Value} {D : va_G} {aC : Nat → ClassId} (hS : yS l S0 A0 D aC) : ∃ q : Nat, vk_R RX12 320 "+" q S0 ∧ ∀ (P : Nat → Prop) (G : AH), ySt P aC S0 G q 1 := by
  have fl : ∀ w ∈ flatC (Jvm.Cond.and given_1 narrow_1), w.before A0 S0 = true := flat_of_before _ hS.2.2.2
  exact yLitOf hS (bs := [43]) (hS.2.1 _ (lw_in9 _ (List.mem_of_getElem? (i := 166) (by decide +kernel)))) (by decide) (fl _ (by decide +kernel)) (fl _ (by decide +kernel)) (fl _ (by decide +kernel)) (fl _ (by decide +kernel)) (fun j hj => by obtain rfl : j = 0 := (by omega); exact fl (.eq (.elem (.field (.string "NightwatchWallModel" 320) "java/lang/String" "value" "[B") (.int 0)) (.int 43)) (by decide +kernel)) (fun j => by match j with | 0 => rfl | k + 1 => rfl)
theorem yLit_322 {l : Launch} {S0 : State} {A0 : Array Value} {D : va_G} {aC : Nat → ClassId} (hS : yS l S0 A0 D aC) : ∃ q : Nat, vk_R RX12 322 ":" q S0 ∧ ∀ (P : Nat → Prop) (G : AH), ySt P aC S0 G q 1 := by
  have fl : ∀ w ∈ flatC (Jvm.Cond.and given_1 narrow_1), w.before A0 S0 = true := flat_of_before _ hS.2.2.2
  exact yLitOf hS (bs := [58]) (hS.2.1 _ (lw_in9 _ (List.mem_of_getElem? (i := 167) (by decide +kernel)))) (by decide) (fl _ (by decide +kernel)) (fl _ (by decide +kernel)) (fl _ (by decide +kernel)) (fl _ (by decide +kernel)) (fun j hj => by obtain rfl : j = 0 := (by omega); exact fl (.eq (.elem (.field (.string "NightwatchWallModel" 322) "java/lang/String" "value" "[B") (.int 0)) (.int 58)) (by decide +kernel)) (fun j => by match j with | 0 => rfl | k + 1 => rfl)
theorem yLit_324 {l : Launch} {S0 : State} {A0 : Array Value} {D : va_G} {aC : Nat → ClassId} (hS : yS l S0 A0 D aC) : ∃ q : Nat, vk_R RX12 324 "." q S0 ∧ ∀ (P : Nat → Prop) (G : AH), ySt P aC S0 G q 1 := by
  have fl : ∀ w ∈ flatC (Jvm.Cond.and given_1 narrow_1), w.before A0 S0 = true := flat_of_before _ hS.2.2.2
  exact yLitOf hS (bs := [46]) (hS.2.1 _ (lw_in9 _ (List.mem_of_getElem? (i := 168) (by decide +kernel)))) (by decide) (fl _ (by decide +kernel)) (fl _ (by decide +kernel)) (fl _ (by decide +kernel)) (fl _ (by decide +kernel)) (fun j hj => by obtain rfl : j = 0 := (by omega); exact fl (.eq (.elem (.field (.string "NightwatchWallModel" 324) "java/lang/String" "value" "[B") (.int 0)) (.int 46)) (by decide +kernel)) (fun j => by match j with | 0 => rfl | k + 1 => rfl)
theorem yCmp {l : Launch} {S0 : State} {A0 : Array Value} {D : va_G} {aC : Nat → ClassId} (hS : yS l S0 A0 D aC) : va_Z "java/lang/String" "COMPACT_STRINGS" "Z" (.int 1) (fun q => S0.heap.size ≤ q) S0 S0.heap := by
  have fl : ∀ w ∈ flatC (Jvm.Cond.and given_1 narrow_1), w.before A0 S0 = true := flat_of_before _ hS.2.2.2
  exact va_Zof (hS.2.1 _ (by decide +kernel)) (hS.2.1 _ (by decide +kernel)) (va_eqi (fl _ (by decide +kernel))) yOldA
def yDig : List Int32 := [48, 49, 50, 51, 52, 53, 54, 55, 56, 57, 48, 49, 50, 51, 52, 53, 54, 55, 56, 57, 48, 49, 50, 51, 52, 53, 54, 55, 56, 57, 48, 49, 50, 51, 52, 53, 54, 55, 56, 57, 48, 49, 50, 51, 52, 53, 54, 55, 56, 57, 48, 49, 50, 51, 52, 53, 54, 55, 56, 57, 48, 49, 50, 51, 52, 53, 54, 55, 56, 57, 48, 49, 50, 51, 52, 53, 54, 55, 56, 57, 48, 49, 50, 51, 52, 53, 54, 55, 56, 57, 48, 49, 50, 51, 52, 53, 54, 55, 56, 57]
theorem yDigO {l : Launch} {S0 : State} {A0 : Array Value} {D : va_G} {aC : Nat → ClassId} (hS : yS l S0 A0 D aC) : ∃ t : Nat, va_Z "java/lang/Integer" "DigitOnes" "[B" (.ref t) (fun q => S0.heap.size ≤ q) S0 S0.heap ∧ va_T .byte t 100 (fun j => .int (yDig.getD j 0)) (yOld S0) S0 S0.heap := by
  have fl : ∀ w ∈ flatC (Jvm.Cond.and given_1 narrow_1), w.before A0 S0 = true := flat_of_before _ hS.2.2.2
  have he : ∀ j : Nat, j < 100 → Cond.eq (.elem (.static "java/lang/Integer" "DigitOnes" "[B") (.int (Int32.ofNat j))) (.int (yDig.getD j 0)) ∈ flatC (Jvm.Cond.and given_1 narrow_1) := by decide +kernel
  obtain ⟨t, ht, hT⟩ := va_Tof (args := A0) (s := S0) (N := 100) (tm := .static "java/lang/Integer" "DigitOnes" "[B") (ty := .byte) (f := fun j => .int (yDig.getD j 0)) (A := yOld S0) (by decide) (fl _ (by decide +kernel)) (va_eqt (fl (.eq (.length (.static "java/lang/Integer" "DigitOnes" "[B")) (.int 100)) (by decide +kernel))) (fun j hj => va_eqt (fl _ (he j hj))) yOldA
  exact ⟨t, va_Zref (hS.2.1 _ (by decide +kernel)) (hS.2.1 _ (by decide +kernel)) ht yOldA, hT⟩
