/-! ===== the law's methods: what catches, and the law's own room ===== -/
def yMW (l : Launch) (S0 : State) (D : va_G) (y : MethodName) (cc : ByteArray) (nL : Nat) (ret : Option FieldType) (hh : List (Nat × Nat × Nat × Nat)) (d mc ms : Nat) (As : List Value) (G : AH) (Q : Option Value → AH → Prop) (X : String → AH → Prop) : Prop :=
  vx_Met l y [Cond.codeWith y cc nL ret hh] (yR d mc ms) (fun v U => v = As.toArray ∧ yH S0 D G U.heap ∧ S0.WarmedH U.vm) (yQ S0 D Q) (yX S0 D X) mc ms (fun q => S0.heap.size ≤ q)
set_option maxHeartbeats 4000000 in
theorem yMW.of {l : Launch} {S0 : State} {D : va_G} {y : MethodName} {cc : ByteArray} {nL : Nat} {ret : Option FieldType} {hh : List (Nat × Nat × Nat × Nat)} {d mc ms : Nat} {As : List Value} {G : AH} {Q : Option Value → AH → Prop} {X : String → AH → Prop}
    (K : yK) (hK : K = (y.cls, y.name, cc, nL, ret, tableOf hh)) (hy : plainName y.cls = true) (hn : (lg_sl As).length ≤ nL) (hY : Y l S0 D K d mc ms Q X 0 (lv_args 0 As) [] G mc ms) : yMW l S0 D y cc nL ret hh d mc ms As G Q X := by
  subst hK
  refine vx_ofWH (cc := cc) (maxL := nL) (ret := ret) (hh := hh) hy rfl ?_
  intro p e s m args below meth c s₁ B hml hv
  obtain ⟨rfl, hG, hW⟩ := hv
  have hl := lv_entry As (n := nL) hn
  rw [lg_entry_eq]
  have hown : s.vm.findClass y.cls = some m.cls := findClass_of_methodNamed B.named
  have het : c.exceptionTable.toList = tableOf hh := vx_table (x := y) B (atoms_spec (ws := [Cond.codeWith y cc nL ret hh]) B.pre _ List.mem_cons_self)
  refine hY p e s m _ below meth c s.heap [] 0 0 _ ⟨B.exec, B.bytes, hml, hown, B.returns, B.notSynchronized, (name_of_methodNamed B.named B.method).1, het, hW, hG.1, hG.2.1⟩ hl hG (Nat.le_refl _) (fun q h => nomatch h) (by omega) (by omega)
/-- a static method that has handlers, called by entry ix of own -/
def yCSW (own : String) (ix : Nat) (y : MethodName) (cc : ByteArray) (nL : Nat) (ret : Option FieldType) (hh : List (Nat × Nat × Nat × Nat)) (n : Nat) : Prop := yWd (.codeWith y cc nL ret hh) ∧ yWd (.methodLink own ix y) ∧ yWd (.static y) ∧ yWd (.initialized y.cls) ∧ (y.cls ≠ "java/lang/invoke/MethodHandle" ∧ y.cls ≠ "java/lang/invoke/VarHandle" ∧ (parseMethodDescriptor y.desc).map (fun d => d.parameters.length) = some n) ∧ nL ≤ 45
/-- the three kinds of refusal, and that they are apart -/
def yEx : List String := ["java/lang/IndexOutOfBoundsException", "java/lang/IllegalArgumentException", "java/lang/IllegalStateException"]
def yExI : List (Nat × String) := [(25, "java/lang/IndexOutOfBoundsException"), (19, "java/lang/IllegalArgumentException"), (27, "java/lang/IllegalStateException")]
section YLW
variable {l : Launch} {S0 : State} {A0 : Array Value} {D : va_G} {aC : Nat → ClassId} {K : yK} {d mc ms : Nat} {Q : Option Value → AH → Prop} {X : String → AH → Prop} {T : yT}
variable {pc kc ks : Nat} {L : yL} {rest : List Value} {G : AH}
theorem yExW : ∀ q ∈ yExI, yWd (.classLink "NightwatchWallLaw" q.1 q.2) := by
  intro q hq
  simp only [yExI, List.mem_cons, List.not_mem_nil, or_false] at hq
  rcases hq with rfl | rfl | rfl
  · exact ⟨lw_in4 _ (List.mem_of_getElem? (i := 132) (by decide +kernel)), by decide +kernel⟩
  · exact ⟨lw_in4 _ (List.mem_of_getElem? (i := 50) (by decide +kernel)), by decide +kernel⟩
  · exact ⟨lw_in4 _ (List.mem_of_getElem? (i := 133) (by decide +kernel)), by decide +kernel⟩
theorem yExC : ∀ E ∈ yEx, Cond.castable E E ∈ lw_tbl := by
  intro E hE
  simp only [yEx, List.mem_cons, List.not_mem_nil, or_false] at hE
  rcases hE with rfl | rfl | rfl
  · exact lw_in3 _ (List.mem_of_getElem? (i := 121) (by decide +kernel))
  · exact lw_in2 _ (List.mem_of_getElem? (i := 142) (by decide +kernel))
  · exact lw_in4 _ (List.mem_of_getElem? (i := 143) (by decide +kernel))
theorem yExN (hS : yS l S0 A0 D aC) {s : State} (hW : S0.WarmedH s.vm) : ∀ E ∈ yEx, ∀ F ∈ yEx, E ≠ F → va_Nc E F s := by
  have fl : ∀ w ∈ flatC (Jvm.Cond.and given_1 narrow_1), w.before A0 S0 = true := flat_of_before _ hS.2.2.2
  intro E hE F hF hne
  refine va_Nc.moved hW.alike (va_Nc.of (args := A0) ?_)
  simp only [yEx, List.mem_cons, List.not_mem_nil, or_false] at hE hF
  rcases hE with rfl | rfl | rfl <;> rcases hF with rfl | rfl | rfl
  · exact absurd rfl hne
  · exact fl _ (by decide +kernel)
  · exact fl _ (by decide +kernel)
  · exact fl _ (by decide +kernel)
  · exact absurd rfl hne
  · exact fl _ (by decide +kernel)
  · exact fl _ (by decide +kernel)
  · exact fl _ (by decide +kernel)
  · exact absurd rfl hne
/-- the handler of E in a table, by its place: all before it are of other kinds -/
def yHn (hh : List (Nat × Nat × Nat × Nat)) (pc : Nat) (E : String) (h : Nat) : Prop := ∃ (pre suf : List (Nat × Nat × Nat × Nat)) (x : Nat × Nat × Nat × Nat), hh = pre ++ x :: suf ∧ x.2.2.1 = h ∧ x.1 ≤ pc ∧ pc < x.2.1 ∧ (x.2.2.2, E) ∈ yExI ∧ ∀ z ∈ pre, ∃ F, (z.2.2.2, F) ∈ yExI ∧ F ≠ E
theorem yExI0 {q : Nat × String} (h : q ∈ yExI) : q.1 ≠ 0 ∧ q.2 ∈ yEx := by
  simp only [yExI, List.mem_cons, List.not_mem_nil, or_false] at h
  rcases h with rfl | rfl | rfl <;> exact ⟨by decide, by decide⟩
theorem y_runRC {p : Program} {e : Env} {s : State} {m : MethodId} {args a : Array Value} {below : List Frame} {meth : Method} {c : Code} {H : Heap} {locs : List Loc} {cells slots : Nat} {ls : Array Slot} {k n : Nat} {st0 : List Value} {Qc : Option Value → AH → Prop} {Xc : String → AH → Prop} {hh : List (Nat × Nat × Nat × Nat)}
    (hS : yS l S0 A0 D aC) (F : yF S0 K p s m meth c) (he : K.et = tableOf hh) (ho : K.own = "NightwatchWallLaw") (hl : lv_has ls K.nL L) (hL : ∀ q ∈ locs, S0.heap.size ≤ q.base) (hc : cells + (kc + k) ≤ mc) (hs : slots + (ks + n) ≤ ms)
    (hr : vx_Run p l e (yR d mc ms) s m args below meth c H locs cells slots k n (F0 m pc ls st0) rest (yQ S0 D Qc a) (yX S0 D Xc) (fun q => S0.heap.size ≤ q))
    (kr : ∀ (r : Option Value) (G1 : AH), Qc r G1 → Y l S0 D K d mc ms Q X (pc + 3) L (r.toList ++ rest) G1 kc ks) (kx : ∀ (E : String) (G1 : AH), Xc E G1 → ∃ h, yHn hh pc E h ∧ ∀ q : Nat, Y l S0 D K d mc ms Q X h L [.ref q] G1 kc ks) :
    W p l e (yR d mc ms) s m args below meth c H locs cells slots (vx_MQ below (yQ S0 D Q) (yX S0 D X) args s mc ms (fun q => S0.heap.size ≤ q)) (F0 m pc ls st0) := by
  intro T8 hT8 X9
  have hW0 := F.2.2.2.2.2.2.2.2.1
  rcases hr T8 hT8 X9 with ⟨v, st₀, t8, T', L', h0, X', hL', e1, e2, ⟨r, G', hv, hq, hyy⟩, st⟩ | ⟨q, st₀, t8, T', L', E, ce, h0, X', hL', e1, e2, ⟨G', hx, hyy⟩, hce, hcv, hcl8, st⟩
  · cases hv
    obtain ⟨t2, a1, b1⟩ := kr v G' hq p e s m args below meth c T'.heap (locs ++ L') (cells + k) (slots + n) ls F hl (by rw [e1]; exact hyy) X'.same.2.1 (fun q9 h9 => (List.mem_append.mp h9).elim (hL q9) (hL' q9)) (by omega) (by omega) T' rfl X'
    exact ⟨t2, st t2 a1, b1⟩
  · obtain ⟨h9, ⟨pre, suf, x, hsp, hxh, hx1, hx2, hxE, hpre⟩, kk⟩ := kx E G' hx
    have hown : s.vm.findClass "NightwatchWallLaw" = some m.cls := by
      have h8 := F.2.2.2.1
      rw [ho] at h8
      exact h8
    have hx0 := yExI0 hxE
    have hsplit : c.exceptionTable.toList = tableOf pre ++ (⟨x.1, x.2.1, x.2.2.1, x.2.2.2⟩ : ExceptionTableEntry) :: tableOf suf := by
      have h8 := F.2.2.2.2.2.2.2.1
      rw [h8, he, hsp]
      exact List.map_append
    obtain ⟨t2, a1, b1⟩ := (vx_catch (Q := vx_MQ below (yQ S0 D Q) (yX S0 D X) args s mc ms (fun q => S0.heap.size ≤ q)) (p := p) (l := l) (e := e) (R := yR d mc ms) (s := s) (m := m) (args := args) (below := below) (meth := meth) (c := c) (H := T'.heap) (locs := locs ++ L') (cells := cells + k) (slots := slots + n) (ls := ls) (rest := rest) (pc := pc) (q := q) (E := E) (name := E) hown (tableOf pre) ⟨x.1, x.2.1, x.2.2.1, x.2.2.2⟩ (tableOf suf)
      hsplit (fun z hz => by
        obtain ⟨z9, hz9, rfl⟩ := List.mem_map.mp hz
        obtain ⟨F9, hF9, hne⟩ := hpre z9 hz9
        exact Or.inr ⟨(yExI0 hF9).1, F9, (yExW _ hF9).use hS hW0, yExN hS hW0 E hx0.2 F9 (yExI0 hF9).2 (Ne.symm hne)⟩)
      (by show (decide (x.1 ≤ pc) && decide (pc < x.2.1)) = true; rw [decide_eq_true hx1, decide_eq_true hx2]; rfl) hx0.1 ((yExW _ hxE).use hS hW0) (va_Nw.use (w := .castable E E) rfl (yCast hS (args := args) hW0 (yExC E hx0.2))) (by rw [e1]; exact hce) hcv hcl8
      (by rw [show x.2.2.1 = h9 from hxh]; exact kk q p e s m args below meth c T'.heap (locs ++ L') (cells + k) (slots + n) ls F hl (by rw [e1]; exact hyy) X'.same.2.1 (fun q9 h9 => (List.mem_append.mp h9).elim (hL q9) (hL' q9)) (by omega) (by omega))) T' rfl X'
    exact ⟨t2, st.trans a1, b1⟩
/-- a call that may throw, where its refusals are caught -/
theorem y_callVC (hS : yS l S0 A0 D aC) (hT : yTok K.cc T) {hh : List (Nat × Nat × Nat × Nat)} (he : K.et = tableOf hh) (ho : K.own = "NightwatchWallLaw") {ix nL2 n d2 k2 n2 : Nat} {y : MethodName} {cc2 : ByteArray} {ret : Option FieldType} {ci a t : Nat} {fs : List Value} {As : List Value} {Qc : Option Value → AH → Prop} {Xc : String → AH → Prop} (ht : yat pc T = some (.invokevirtual ix, 3)) (hf : yCV K.own ix ci y cc2 nL2 ret n) (hg : G a = some (t, .inr (ci, fs))) (hM : yM l S0 D y cc2 nL2 ret d2 k2 n2 (.ref a :: As) G Qc Xc) (hn : As.length = n) (hd : d2 < d) (hr : (rest.map fun v => v.category).sum ≤ 8)
    (kr : ∀ (r : Option Value) (G1 : AH), Qc r G1 → Y l S0 D K d mc ms Q X (pc + 3) L (r.toList ++ rest) G1 kc ks) (kx : ∀ (E : String) (G1 : AH), Xc E G1 → ∃ h, yHn hh pc E h ∧ ∀ q : Nat, Y l S0 D K d mc ms Q X h L [.ref q] G1 kc ks) : Y l S0 D K d mc ms Q X pc L (As.reverse ++ .ref a :: rest) G (kc + k2) (ks + n2) := by
  intro p e s m args below meth c H locs cells slots ls F hl hG hz hL hc hs
  have hW0 := F.2.2.2.2.2.2.2.2.1
  obtain ⟨C, T9, N, hcl, hwc, hwl, hwn, hwv, hwi, hy, hnl⟩ := hf
  have hB : (yR d2 k2 n2).cells = k2 ∧ (yR d2 k2 n2).slots = n2 ∧ (yR d2 k2 n2).frames + 1 ≤ (yR d mc ms).frames ∧ 8 + (nL2 + 11) + (yR d2 k2 n2).locals ≤ (yR d mc ms).locals := ⟨rfl, rfl, hd, by show 8 + (nL2 + 11) + 64 * d2 ≤ 64 * d; omega⟩
  have hws : ∀ w ∈ [Cond.code y cc2 nL2 ret], ∀ (a' : Array Value) (U : State), s.WarmedH U.vm → w.before a' U = true := fun w9 h9 a' U hU => by rw [List.mem_singleton.mp h9]; exact hwc.use hS (State.WarmedH.trans hW0 hU)
  have hlen : ∀ sig, parseMethodDescriptor y.desc = some sig → n = sig.parameters.length := fun sig h => by have h2 := hy.2.2; rw [h] at h2; exact (Option.some.inj h2).symm
  exact y_runRC hS F he ho hl hL (by omega) (by omega) (vx_runV (As := As) (rest := rest) (n := n) (Ts := []) ⟨F.1, F.2.1, F.2.2.1, F.2.2.2.1, fun w9 h9 => nomatch h9⟩ hM ⟨⟨hB.1, hB.2.1, hB.2.2.1, hB.2.2.2, hws, List.mem_singleton.mpr rfl, hwc.use hS hW0, hwi.use hS hW0, ⟨hy.1, hy.2.1⟩, hlen, hwl.use hS hW0⟩, hwn.use hS hW0, hwv.use hS hW0⟩ ⟨fun a9 U g9 mk q9 => q9, va_recv (q0 := 0) (ws := [(a, .inr (ci, fs))]) (hS.K hW0) (hG.P1 hg) hcl.1 rfl, fun U hU hW => ⟨rfl, by rw [hU]; exact hG, State.WarmedH.trans hW0 hW⟩⟩ rfl hn hl.1 rfl (lv_room hr) (yat_ok hT ht) ⟨by show cells + k2 ≤ mc; omega, by show slots + n2 ≤ ms; omega⟩) kr kx
/-- the same where nothing is thrown, whatever the table -/
theorem y_runR0 {p : Program} {e : Env} {s : State} {m : MethodId} {args a : Array Value} {below : List Frame} {meth : Method} {c : Code} {H : Heap} {locs : List Loc} {cells slots : Nat} {ls : Array Slot} {k n : Nat} {st0 : List Value} {Qc : Option Value → AH → Prop}
    (F : yF S0 K p s m meth c) (hl : lv_has ls K.nL L) (hL : ∀ q ∈ locs, S0.heap.size ≤ q.base) (hc : cells + (kc + k) ≤ mc) (hs : slots + (ks + n) ≤ ms)
    (hr : vx_Run p l e (yR d mc ms) s m args below meth c H locs cells slots k n (F0 m pc ls st0) rest (yQ S0 D Qc a) (yX S0 D (fun _ _ => False)) (fun q => S0.heap.size ≤ q))
    (kr : ∀ (r : Option Value) (G1 : AH), Qc r G1 → Y l S0 D K d mc ms Q X (pc + 3) L (r.toList ++ rest) G1 kc ks) :
    W p l e (yR d mc ms) s m args below meth c H locs cells slots (vx_MQ below (yQ S0 D Q) (yX S0 D X) args s mc ms (fun q => S0.heap.size ≤ q)) (F0 m pc ls st0) := by
  intro T9 hT9 X9
  rcases hr T9 hT9 X9 with ⟨v, st₀, t, T', L', h0, X', hL', e1, e2, ⟨r, G', hv, hq, hy⟩, st⟩ | ⟨q, st₀, t, T', L', E, ce, h0, X', hL', e1, e2, ⟨G', hx, hy⟩, hce, hcv, hcl, st⟩
  · cases hv
    obtain ⟨t2, a1, b1⟩ := kr v G' hq p e s m args below meth c T'.heap (locs ++ L') (cells + k) (slots + n) ls F hl (by rw [e1]; exact hy) X'.same.2.1 (fun q9 h9 => (List.mem_append.mp h9).elim (hL q9) (hL' q9)) (by omega) (by omega) T' rfl X'
    exact ⟨t2, st t2 a1, b1⟩
  · exact hx.elim
theorem y_callVL (hS : yS l S0 A0 D aC) (hT : yTok K.cc T) {ix nL2 n d2 k2 n2 : Nat} {y : MethodName} {cc2 : ByteArray} {ret : Option FieldType} {ci a t : Nat} {fs : List Value} {As : List Value} {Qc : Option Value → AH → Prop} (ht : yat pc T = some (.invokevirtual ix, 3)) (hf : yCV K.own ix ci y cc2 nL2 ret n) (hg : G a = some (t, .inr (ci, fs))) (hM : yM l S0 D y cc2 nL2 ret d2 k2 n2 (.ref a :: As) G Qc (fun _ _ => False)) (hn : As.length = n) (hd : d2 < d) (hr : (rest.map fun v => v.category).sum ≤ 8)
    (kr : ∀ (r : Option Value) (G1 : AH), Qc r G1 → Y l S0 D K d mc ms Q X (pc + 3) L (r.toList ++ rest) G1 kc ks) : Y l S0 D K d mc ms Q X pc L (As.reverse ++ .ref a :: rest) G (kc + k2) (ks + n2) := by
  intro p e s m args below meth c H locs cells slots ls F hl hG hz hL hc hs
  have hW0 := F.2.2.2.2.2.2.2.2.1
  obtain ⟨C, T9, N, hcl, hwc, hwl, hwn, hwv, hwi, hy, hnl⟩ := hf
  have hB : (yR d2 k2 n2).cells = k2 ∧ (yR d2 k2 n2).slots = n2 ∧ (yR d2 k2 n2).frames + 1 ≤ (yR d mc ms).frames ∧ 8 + (nL2 + 11) + (yR d2 k2 n2).locals ≤ (yR d mc ms).locals := ⟨rfl, rfl, hd, by show 8 + (nL2 + 11) + 64 * d2 ≤ 64 * d; omega⟩
  have hws : ∀ w ∈ [Cond.code y cc2 nL2 ret], ∀ (a' : Array Value) (U : State), s.WarmedH U.vm → w.before a' U = true := fun w9 h9 a' U hU => by rw [List.mem_singleton.mp h9]; exact hwc.use hS (State.WarmedH.trans hW0 hU)
  have hlen : ∀ sig, parseMethodDescriptor y.desc = some sig → n = sig.parameters.length := fun sig h => by have h2 := hy.2.2; rw [h] at h2; exact (Option.some.inj h2).symm
  exact y_runR0 F hl hL (by omega) (by omega) (vx_runV (As := As) (rest := rest) (n := n) (Ts := []) ⟨F.1, F.2.1, F.2.2.1, F.2.2.2.1, fun w9 h9 => nomatch h9⟩ hM ⟨⟨hB.1, hB.2.1, hB.2.2.1, hB.2.2.2, hws, List.mem_singleton.mpr rfl, hwc.use hS hW0, hwi.use hS hW0, ⟨hy.1, hy.2.1⟩, hlen, hwl.use hS hW0⟩, hwn.use hS hW0, hwv.use hS hW0⟩ ⟨fun a9 U g9 mk q9 => q9, va_recv (q0 := 0) (ws := [(a, .inr (ci, fs))]) (hS.K hW0) (hG.P1 hg) hcl.1 rfl, fun U hU hW => ⟨rfl, by rw [hU]; exact hG, State.WarmedH.trans hW0 hW⟩⟩ rfl hn hl.1 rfl (lv_room hr) (yat_ok hT ht) ⟨by show cells + k2 ≤ mc; omega, by show slots + n2 ≤ ms; omega⟩) kr
theorem y_callSWL (hS : yS l S0 A0 D aC) (hT : yTok K.cc T) {hh : List (Nat × Nat × Nat × Nat)} {ix nL2 n d2 k2 n2 : Nat} {y : MethodName} {cc2 : ByteArray} {ret : Option FieldType} {As : List Value} {Qc : Option Value → AH → Prop} (ht : yat pc T = some (.invokestatic ix, 3)) (hf : yCSW K.own ix y cc2 nL2 ret hh n) (hM : yMW l S0 D y cc2 nL2 ret hh d2 k2 n2 As G Qc (fun _ _ => False)) (hn : As.length = n) (hd : d2 < d) (hr : (rest.map fun v => v.category).sum ≤ 8)
    (kr : ∀ (r : Option Value) (G1 : AH), Qc r G1 → Y l S0 D K d mc ms Q X (pc + 3) L (r.toList ++ rest) G1 kc ks) : Y l S0 D K d mc ms Q X pc L (As.reverse ++ rest) G (kc + k2) (ks + n2) := by
  intro p e s m args below meth c H locs cells slots ls F hl hG hz hL hc hs
  have hW0 := F.2.2.2.2.2.2.2.2.1
  obtain ⟨hwc, hwl, hwt, hwi, hy, hnl⟩ := hf
  have hB : (yR d2 k2 n2).cells = k2 ∧ (yR d2 k2 n2).slots = n2 ∧ (yR d2 k2 n2).frames + 1 ≤ (yR d mc ms).frames ∧ 8 + (nL2 + 11) + (yR d2 k2 n2).locals ≤ (yR d mc ms).locals := ⟨rfl, rfl, hd, by show 8 + (nL2 + 11) + 64 * d2 ≤ 64 * d; omega⟩
  have hws : ∀ w ∈ [Cond.codeWith y cc2 nL2 ret hh], ∀ (a' : Array Value) (U : State), s.WarmedH U.vm → w.before a' U = true := fun w9 h9 a' U hU => by rw [List.mem_singleton.mp h9]; exact hwc.use hS (State.WarmedH.trans hW0 hU)
  have hlen : ∀ sig, parseMethodDescriptor y.desc = some sig → n = sig.parameters.length := fun sig h => by have h2 := hy.2.2; rw [h] at h2; exact (Option.some.inj h2).symm
  exact y_runR0 F hl hL (by omega) (by omega) (vx_runSX (As := As) (rest := rest) (n := n) (Ts := []) ⟨F.1, F.2.1, F.2.2.1, F.2.2.2.1, fun w9 h9 => nomatch h9⟩ hM ⟨⟨hB.1, hB.2.1, hB.2.2.1, hB.2.2.2, hws, List.mem_singleton.mpr rfl⟩, hwc.use hS hW0, hwi.use hS hW0, ⟨hy.1, hy.2.1⟩, hlen, hwl.use hS hW0, hwt.use hS hW0⟩ ⟨fun a9 U g9 mk q9 => q9, fun U hU hW => ⟨rfl, by rw [hU]; exact hG, State.WarmedH.trans hW0 hW⟩⟩ rfl hn hl.1 rfl (lv_room hr) (yat_ok hT ht) ⟨by show cells + k2 ≤ mc; omega, by show slots + n2 ≤ ms; omega⟩) kr
theorem y_callIL (hS : yS l S0 A0 D aC) (hT : yTok K.cc T) {ix nL2 n d2 k2 n2 : Nat} {y : MethodName} {cc2 : ByteArray} {a : Nat} {As : List Value} {Qc : Option Value → AH → Prop} (ht : yat pc T = some (.invokespecial ix, 3)) (hf : yCI K.own ix y cc2 nL2 n) (hM : yM l S0 D y cc2 nL2 none d2 k2 n2 (.ref a :: As) G Qc (fun _ _ => False)) (hn : As.length = n) (hd : d2 < d) (hr : (rest.map fun v => v.category).sum ≤ 8)
    (kr : ∀ (r : Option Value) (G1 : AH), Qc r G1 → Y l S0 D K d mc ms Q X (pc + 3) L (r.toList ++ rest) G1 kc ks) : Y l S0 D K d mc ms Q X pc L (As.reverse ++ .ref a :: rest) G (kc + k2) (ks + n2) := by
  intro p e s m args below meth c H locs cells slots ls F hl hG hz hL hc hs
  have hW0 := F.2.2.2.2.2.2.2.2.1
  obtain ⟨hwc, hwl, hwn, hwi, hy, hyi, hnl⟩ := hf
  have hB : (yR d2 k2 n2).cells = k2 ∧ (yR d2 k2 n2).slots = n2 ∧ (yR d2 k2 n2).frames + 1 ≤ (yR d mc ms).frames ∧ 8 + (nL2 + 11) + (yR d2 k2 n2).locals ≤ (yR d mc ms).locals := ⟨rfl, rfl, hd, by show 8 + (nL2 + 11) + 64 * d2 ≤ 64 * d; omega⟩
  have hws : ∀ w ∈ [Cond.code y cc2 nL2 none], ∀ (a' : Array Value) (U : State), s.WarmedH U.vm → w.before a' U = true := fun w9 h9 a' U hU => by rw [List.mem_singleton.mp h9]; exact hwc.use hS (State.WarmedH.trans hW0 hU)
  have hlen : ∀ sig, parseMethodDescriptor y.desc = some sig → n = sig.parameters.length := fun sig h => by have h2 := hy.2.2; rw [h] at h2; exact (Option.some.inj h2).symm
  exact y_runR0 F hl hL (by omega) (by omega) (vx_runI (As := As) (rest := rest) (n := n) (Ts := []) ⟨F.1, F.2.1, F.2.2.1, F.2.2.2.1, fun w9 h9 => nomatch h9⟩ hM ⟨⟨hB.1, hB.2.1, hB.2.2.1, hB.2.2.2, hws, List.mem_singleton.mpr rfl, hwc.use hS hW0, hwi.use hS hW0, ⟨hy.1, hy.2.1⟩, hlen, hwl.use hS hW0⟩, hyi, hwn.use hS hW0⟩ ⟨fun a9 U g9 mk q9 => q9, fun U hU hW => ⟨rfl, by rw [hU]; exact hG, State.WarmedH.trans hW0 hW⟩⟩ rfl hn hl.1 rfl (lv_room hr) (yat_ok hT ht) ⟨by show cells + k2 ≤ mc; omega, by show slots + n2 ≤ ms; omega⟩) kr
theorem y_callINL (hS : yS l S0 A0 D aC) (hT : yTok K.cc T) {ix nL2 n d2 k2 n2 : Nat} {y : MethodName} {cc2 : ByteArray} {a : Nat} {host : String} {As : List Value} {Qc : Option Value → AH → Prop} (ht : yat pc T = some (.invokespecial ix, 3)) (hf : yCIN K.own ix y host cc2 nL2 n) (hM : yM l S0 D y cc2 nL2 none d2 k2 n2 (.ref a :: As) G Qc (fun _ _ => False)) (hn : As.length = n) (hd : d2 < d) (hr : (rest.map fun v => v.category).sum ≤ 8)
    (kr : ∀ (r : Option Value) (G1 : AH), Qc r G1 → Y l S0 D K d mc ms Q X (pc + 3) L (r.toList ++ rest) G1 kc ks) : Y l S0 D K d mc ms Q X pc L (As.reverse ++ .ref a :: rest) G (kc + k2) (ks + n2) := by
  intro p e s m args below meth c H locs cells slots ls F hl hG hz hL hc hs
  have hW0 := F.2.2.2.2.2.2.2.2.1
  obtain ⟨hwc, hwl, hwn, hwi, hy, hyi, hnl⟩ := hf
  have hB : (yR d2 k2 n2).cells = k2 ∧ (yR d2 k2 n2).slots = n2 ∧ (yR d2 k2 n2).frames + 1 ≤ (yR d mc ms).frames ∧ 8 + (nL2 + 11) + (yR d2 k2 n2).locals ≤ (yR d mc ms).locals := ⟨rfl, rfl, hd, by show 8 + (nL2 + 11) + 64 * d2 ≤ 64 * d; omega⟩
  have hws : ∀ w ∈ [Cond.code y cc2 nL2 none], ∀ (a' : Array Value) (U : State), s.WarmedH U.vm → w.before a' U = true := fun w9 h9 a' U hU => by rw [List.mem_singleton.mp h9]; exact hwc.use hS (State.WarmedH.trans hW0 hU)
  have hlen : ∀ sig, parseMethodDescriptor y.desc = some sig → n = sig.parameters.length := fun sig h => by have h2 := hy.2.2; rw [h] at h2; exact (Option.some.inj h2).symm
  exact y_runR0 F hl hL (by omega) (by omega) (vx_runIN (host := host) (As := As) (rest := rest) (n := n) (Ts := []) ⟨F.1, F.2.1, F.2.2.1, F.2.2.2.1, fun w9 h9 => nomatch h9⟩ hM ⟨⟨⟨hB.1, hB.2.1, hB.2.2.1, hB.2.2.2, hws, List.mem_singleton.mpr rfl⟩, hwc.use hS hW0, hwi.use hS hW0, ⟨hy.1, hy.2.1⟩, hlen, va_Nw.use rfl (va_Nw.warmM hW0 (va_Nw.of rfl (hS.2.1 _ hwl)))⟩, hyi, hwn.use hS hW0⟩ ⟨fun a9 U g9 mk q9 => q9, fun U hU hW => ⟨rfl, by rw [hU]; exact hG, State.WarmedH.trans hW0 hW⟩⟩ rfl hn hl.1 rfl (lv_room hr) (yat_ok hT ht) ⟨by show cells + k2 ≤ mc; omega, by show slots + n2 ≤ ms; omega⟩) kr
/-- the script -/
theorem y_slen (hT : yTok K.cc T) {b LL : Nat} {xs : Nat → Int32} (hX : va_X b LL xs S0 S0.heap) (hb : b < S0.heap.size) (hL9 : LL ≤ 2560) (ht : yat pc T = some (.arraylength, 1)) (kk : Y l S0 D K d mc ms Q X (pc + 1) L (.int (Int32.ofNat LL) :: rest) G kc ks) : Y l S0 D K d mc ms Q X pc L (.ref b :: rest) G kc ks := by
  intro p e s m args below meth c H locs cells slots ls F hl hG hz hL hc hs
  exact va_slen F.1 F.2.1 (H0 := S0.heap) (A := yOld S0) (hX.moved F.2.2.2.2.2.2.2.2.1.alike) hb (Nat.not_le.mpr hb) ⟨hG.1, fun q h1 _ => hG.2.1 q h1, hL⟩ (yat_ok hT ht) (kk p e s m args below meth c H locs cells slots ls F hl hG hz hL hc hs)
theorem y_sld (hT : yTok K.cc T) {b LL : Nat} {xs : Nat → Int32} (hX : va_X b LL xs S0 S0.heap) (hb : b < S0.heap.size) {i : Int32} (ht : yat pc T = some (.iaload, 1)) (hi : vp_in i LL) (kk : Y l S0 D K d mc ms Q X (pc + 1) L (.int (xs i.toNatClampNeg) :: rest) G kc ks) : Y l S0 D K d mc ms Q X pc L (.int i :: .ref b :: rest) G kc ks := by
  intro p e s m args below meth c H locs cells slots ls F hl hG hz hL hc hs
  exact va_sld F.1 F.2.1 (H0 := S0.heap) (A := yOld S0) (hX.moved F.2.2.2.2.2.2.2.2.1.alike) hb (Nat.not_le.mpr hb) ⟨hG.1, fun q h1 _ => hG.2.1 q h1, hL⟩ hi (yat_ok hT ht) (kk p e s m args below meth c H locs cells slots ls F hl hG hz hL hc hs)
end YLW
