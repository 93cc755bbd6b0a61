/-! ===== small Integers, the JDK's list ===== -/
abbrev yOld (S0 : State) : Nat → Prop := fun q => S0.heap.size ≤ q
/-- an Integer of the cache -/
def yInt (S0 : State) (a : Nat) (v : Int32) : Prop := va_O "java/lang/Integer" a (yOld S0) S0 S0.heap ∧ va_OF "java/lang/Integer" "value" "I" (.int v) a (yOld S0) S0 S0.heap
/-- the cache of Integers, the empty array of lists -/
def yIc (S0 : State) (ic : Int32 → Nat) (de : Nat) : Prop :=
  (∀ v : Int32, -128 ≤ v.toInt → v.toInt ≤ 127 → yInt S0 (ic v) v) ∧ va_T (.object "java/lang/Object") de 0 (fun _ => .null) (yOld S0) S0 S0.heap ∧ va_Z "java/util/ArrayList" "DEFAULTCAPACITY_EMPTY_ELEMENTDATA" "[Ljava/lang/Object;" (.ref de) (yOld S0) S0 S0.heap ∧
  va_Z "java/lang/Integer$IntegerCache" "high" "I" (.int 127) (yOld S0) S0 S0.heap ∧ ∃ ca : Nat, va_Z "java/lang/Integer$IntegerCache" "cache" "[Ljava/lang/Integer;" (.ref ca) (yOld S0) S0 S0.heap ∧ va_T (.object "java/lang/Integer") ca 256 (fun j => .ref (ic (Int32.ofNat j - 128))) (yOld S0) S0 S0.heap
theorem yOldA {S0 : State} : ∀ a : Nat, a < S0.heap.size → ¬ yOld S0 a := fun a h => Nat.not_le.mpr h
theorem yIc_of {l : Launch} {S0 : State} {A0 : Array Value} {D : va_G} {aC : Nat → ClassId} (hS : yS l S0 A0 D aC) : ∃ (ic : Int32 → Nat) (de : Nat), yIc S0 ic de := by
  have fl : ∀ w ∈ flatC (Jvm.Cond.and given_1 narrow_1), w.before A0 S0 = true := flat_of_before _ hS.2.2.2
  obtain ⟨ad, hC, hE⟩ := vb_Cof (args := A0) (s := S0) (A := yOld S0) (st := .static "java/lang/Integer$IntegerCache" "cache" "[Ljava/lang/Integer;") rfl
    (va_eqt (fl (.eq (.length (.static "java/lang/Integer$IntegerCache" "cache" "[Ljava/lang/Integer;")) (.int 256)) (by decide +kernel)))
    (fl _ (by decide +kernel)) yOldA
  obtain ⟨ca, hca, hT⟩ := va_Tof (args := A0) (s := S0) (N := 256) (tm := .static "java/lang/Integer$IntegerCache" "cache" "[Ljava/lang/Integer;") (ty := .object "java/lang/Integer") (f := fun j => .ref (ad j)) (A := yOld S0) (by decide) (fl _ (by decide +kernel))
    (va_eqt (fl (.eq (.length (.static "java/lang/Integer$IntegerCache" "cache" "[Ljava/lang/Integer;")) (.int 256)) (by decide +kernel))) hE yOldA
  obtain ⟨de, hde, hD⟩ := va_Tof (args := A0) (s := S0) (N := 0) (tm := .static "java/util/ArrayList" "DEFAULTCAPACITY_EMPTY_ELEMENTDATA" "[Ljava/lang/Object;") (ty := .object "java/lang/Object") (f := fun _ => .null) (A := yOld S0) (by decide) (fl _ (by decide +kernel))
    (va_eqt (fl (.eq (.length (.static "java/util/ArrayList" "DEFAULTCAPACITY_EMPTY_ELEMENTDATA" "[Ljava/lang/Object;")) (.int 0)) (by decide +kernel))) (fun j hj => absurd hj (Nat.not_lt_zero j)) yOldA
  have hv : ∀ j : Nat, j < 256 → (Int32.ofNat j - 128 + 128).toNatClampNeg = j := by decide +kernel
  refine ⟨fun v => ad ((v + 128).toNatClampNeg), de, fun v h1 h2 => ?_, hD, va_Zref (hS.2.1 _ (by decide +kernel)) (hS.2.1 _ (by decide +kernel)) hde yOldA, va_Zof (hS.2.1 _ (by decide +kernel)) (hS.2.1 _ (by decide +kernel)) (va_eqi (fl _ (by decide +kernel))) yOldA, ca, va_Zref (hS.2.1 _ (by decide +kernel)) (hS.2.1 _ (by decide +kernel)) hca yOldA, ?_⟩
  · have e1 : (v + 128).toInt = v.toInt + 128 := by
      rw [yadd (by rw [show (128 : Int32).toInt = 128 from rfl]; omega) (by rw [show (128 : Int32).toInt = 128 from rfl]; omega)]
      rfl
    have hk : (v + 128).toNatClampNeg < 256 := by
      show (v + 128).toInt.toNat < 256
      omega
    have e2 : vb_c ((v + 128).toNatClampNeg) = v := by
      apply Int32.toInt_inj.mp
      unfold vb_c
      have e3 : (Int32.ofNat ((v + 128).toNatClampNeg)).toInt = v.toInt + 128 := by
        rw [Int32.toInt_ofNat_of_lt (by omega)]
        show ((v + 128).toInt.toNat : Int) = _
        omega
      rw [ysub (by rw [e3, show (128 : Int32).toInt = 128 from rfl]; omega) (by rw [e3, show (128 : Int32).toInt = 128 from rfl]; omega), e3]
      show _ - (128 : Int) = _
      omega
    have h9 : va_OF "java/lang/Integer" "value" "I" (.int (vb_c ((v + 128).toNatClampNeg))) (ad ((v + 128).toNatClampNeg)) (yOld S0) S0 S0.heap := hC.2 _ hk
    rw [e2] at h9
    exact ⟨hC.1 _ hk, h9⟩
  · obtain ⟨cell, g1, g2, g3, g4, g5, g6, g7⟩ := hT
    refine ⟨cell, g1, g2, g3, g4, g5, fun j hj => ?_, g7⟩
    rw [g6 j hj]
    show some (Value.ref (ad j)) = some (.ref (ad ((Int32.ofNat j - 128 + 128).toNatClampNeg)))
    rw [hv j hj]
section YR3
variable {l : Launch} {S0 : State} {A0 : Array Value} {D : va_G} {aC : Nat → ClassId} {K : yK} {d mc ms : Nat} {Q : Option Value → AH → Prop} {X : String → AH → Prop} {T : yT}
variable {pc kc ks : Nat} {L : yL} {rest : List Value} {G : AH}
theorem yVS {s : State} {p : Program} {m : MethodId} {meth : Method} {c : Code} {H : Heap} {locs : List Loc} (F : yF S0 K p s m meth c) (hG : yH S0 D G H) (hz : s.heap.size ≤ H.size) (hL : ∀ q ∈ locs, S0.heap.size ≤ q.base) : va_S (yOld S0) s.heap H locs :=
  ⟨hz, fun q _ q2 => by
    have q3 : q < S0.heap.size := Nat.not_le.mp q2
    rw [hG.2.1 q q3]
    exact (F.2.2.2.2.2.2.2.2.2.2 q q3).symm, hL⟩
theorem yT_at {s : State} {p : Program} {m : MethodId} {meth : Method} {c : Code} {ty : FieldType} {t N : Nat} {f : Nat → Value} (F : yF S0 K p s m meth c) (h : va_T ty t N f (yOld S0) S0 S0.heap) : va_T ty t N f (yOld S0) s s.heap :=
  (h.moved F.2.2.2.2.2.2.2.2.1.alike).kept (fun a ha _ => F.2.2.2.2.2.2.2.2.2.2 a ha)
theorem yO_cell {s : State} {p : Program} {m : MethodId} {meth : Method} {c : Code} {H : Heap} {a : Nat} {E : String} (F : yF S0 K p s m meth c) (hG : yH S0 D G H) (h : va_O E a (yOld S0) S0 S0.heap) : ∃ cell : Cell, H[a]? = some cell ∧ cell.vm.isStatics = false ∧ s.vm.findClass E = some cell.cls := by
  obtain ⟨cell, h1, h2, h3, -⟩ := (h.moved F.2.2.2.2.2.2.2.2.1.alike).kept (H1 := H) (fun a ha _ => hG.2.1 a ha)
  exact ⟨cell, h1, h2, h3⟩
theorem y_alenT (hT : yTok K.cc T) {ty : FieldType} {t N : Nat} {f : Nat → Value} (ht : yat pc T = some (.arraylength, 1)) (hA : va_T ty t N f (yOld S0) S0 S0.heap) (kk : Y l S0 D K d mc ms Q X (pc + 1) L (.int (Int32.ofNat N) :: rest) G kc ks) : Y l S0 D K d mc ms Q X pc L (.ref t :: rest) G kc ks := by
  intro p e s m args below meth c H locs cells slots ls F hl hG hz hL hc hs
  exact va_tlen F.1 F.2.1 (yT_at F hA) (yVS F hG hz hL) rfl (yat_ok hT ht) (kk p e s m args below meth c H locs cells slots ls F hl hG hz hL hc hs)
theorem y_aaldT (hT : yTok K.cc T) {C : String} {t N : Nat} {f : Nat → Value} {i : Int32} {v : Value} (ht : yat pc T = some (.aaload, 1)) (hA : va_T (.object C) t N f (yOld S0) S0 S0.heap) (hi : vp_in i N) (hv : f i.toNatClampNeg = v) (kk : Y l S0 D K d mc ms Q X (pc + 1) L (v :: rest) G kc ks) : Y l S0 D K d mc ms Q X pc L (.int i :: .ref t :: rest) G kc ks := by
  intro p e s m args below meth c H locs cells slots ls F hl hG hz hL hc hs
  exact vb_tq F.1 F.2.1 (yT_at F hA) (yVS F hG hz hL) hi hv (yat_ok hT ht) (kk p e s m args below meth c H locs cells slots ls F hl hG hz hL hc hs)
theorem y_getO (hS : yS l S0 A0 D aC) (hT : yTok K.cc T) {o n d9 : String} {ix a : Nat} {v : Value} (ht : yat pc T = some (.getfield ix, 3)) (hw : yWd (.fieldLink K.own ix o n d9)) (hO : va_OF o n d9 v a (yOld S0) S0 S0.heap) (kk : Y l S0 D K d mc ms Q X (pc + 3) L (v :: rest) G kc ks) : Y l S0 D K d mc ms Q X pc L (.ref a :: rest) G kc ks := by
  intro p e s m args below meth c H locs cells slots ls F hl hG hz hL hc hs
  have hW0 := F.2.2.2.2.2.2.2.2.1
  exact vk_getf F.1 F.2.1 ((hO.moved hW0.alike).kept (fun a ha _ => F.2.2.2.2.2.2.2.2.2.2 a ha)) (yVS F hG hz hL) F.2.2.2.1 (hw.use hS hW0) (fun x h => h) (yat_ok hT ht) (kk p e s m args below meth c H locs cells slots ls F hl hG hz hL hc hs)
theorem y_castO (hS : yS l S0 A0 D aC) (hT : yTok K.cc T) {E : String} {ix a : Nat} (ht : yat pc T = some (.checkcast ix, 3)) (hw : yWd (.classLink K.own ix E)) (hO : va_O E a (yOld S0) S0 S0.heap) (kk : Y l S0 D K d mc ms Q X (pc + 3) L (.ref a :: rest) G kc ks) : Y l S0 D K d mc ms Q X pc L (.ref a :: rest) G kc ks := by
  intro p e s m args below meth c H locs cells slots ls F hl hG hz hL hc hs
  exact va_castE F.1 F.2.1 F.2.2.2.1 (hw.use hS F.2.2.2.2.2.2.2.2.1) (yO_cell F hG hO) (yat_ok hT ht) (kk p e s m args below meth c H locs cells slots ls F hl hG hz hL hc hs)
theorem y_callVO (hS : yS l S0 A0 D aC) (hT : yTok K.cc T) (he : K.et = []) {ix nL2 n d2 k2 n2 : Nat} {y : MethodName} {cc2 : ByteArray} {ret : Option FieldType} {ci a : Nat} {As : List Value} {Qc : Option Value → AH → Prop} {Xc : String → AH → Prop} (ht : yat pc T = some (.invokevirtual ix, 3)) (hf : yCV K.own ix ci y cc2 nL2 ret n) (hg : ∃ C T9 N, vwCl[ci]? = some (C, T9, N) ∧ va_O C a (yOld S0) S0 S0.heap) (hM : yM l S0 D y cc2 nL2 ret d2 k2 n2 (.ref a :: As) G Qc Xc) (hn : As.length = n) (hd : d2 < d) (hr : (rest.map fun v => v.category).sum ≤ 8)
    (kr : ∀ (r : Option Value) (G1 : AH), Qc r G1 → Y l S0 D K d mc ms Q X (pc + 3) L (r.toList ++ rest) G1 kc ks) (kx : ∀ (E : String) (G1 : AH), Xc E G1 → X E G1) : Y l S0 D K d mc ms Q X pc L (As.reverse ++ .ref a :: rest) G (kc + k2) (ks + n2) := by
  intro p e s m args below meth c H locs cells slots ls F hl hG hz hL hc hs
  have hW0 := F.2.2.2.2.2.2.2.2.1
  obtain ⟨C, T9, N, hcl, hwc, hwl, hwn, hwv, hwi, hy, hnl⟩ := hf
  obtain ⟨C8, T8, N8, hcl8, hO⟩ := hg
  cases hcl8.symm.trans hcl.1
  have hB : (yR d2 k2 n2).cells = k2 ∧ (yR d2 k2 n2).slots = n2 ∧ (yR d2 k2 n2).frames + 1 ≤ (yR d mc ms).frames ∧ 8 + (nL2 + 11) + (yR d2 k2 n2).locals ≤ (yR d mc ms).locals := ⟨rfl, rfl, hd, by show 8 + (nL2 + 11) + 64 * d2 ≤ 64 * d; omega⟩
  have hws : ∀ w ∈ [Cond.code y cc2 nL2 ret], ∀ (a' : Array Value) (U : State), s.WarmedH U.vm → w.before a' U = true := fun w9 h9 a' U hU => by rw [List.mem_singleton.mp h9]; exact hwc.use hS (State.WarmedH.trans hW0 hU)
  have hlen : ∀ sig, parseMethodDescriptor y.desc = some sig → n = sig.parameters.length := fun sig h => by have h2 := hy.2.2; rw [h] at h2; exact (Option.some.inj h2).symm
  exact y_runR F he hl hL (by omega) (by omega) (vx_runV (As := As) (rest := rest) (n := n) (Ts := []) ⟨F.1, F.2.1, F.2.2.1, F.2.2.2.1, fun w9 h9 => nomatch h9⟩ hM ⟨⟨hB.1, hB.2.1, hB.2.2.1, hB.2.2.2, hws, List.mem_singleton.mpr rfl, hwc.use hS hW0, hwi.use hS hW0, ⟨hy.1, hy.2.1⟩, hlen, hwl.use hS hW0⟩, hwn.use hS hW0, hwv.use hS hW0⟩ ⟨fun a9 U g9 mk q9 => q9, yO_cell F hG hO, fun U hU hW => ⟨rfl, by rw [hU]; exact hG, State.WarmedH.trans hW0 hW⟩⟩ rfl hn hl.1 rfl (lv_room hr) (yat_ok hT ht) ⟨by show cells + k2 ≤ mc; omega, by show slots + n2 ≤ ms; omega⟩) kr kx
/-- what may be put into an array of Objects, Integers of the cache too -/
def yOb2 (aC : Nat → ClassId) (S0 : State) (D : va_G) (G : AH) (v : Nat) : Prop := yOb aC S0 D G v ∨ va_O "java/lang/Integer" v (yOld S0) S0 S0.heap
theorem y_aast2 (hS : yS l S0 A0 D aC) (hT : yTok K.cc T) {a t n v : Nat} {f : Nat → Option Nat} {i : Int32} (ht : yat pc T = some (.aastore, 1)) (hg : G a = some (t, .inl (aC 4, n, .inr (.inr (.inr (.inr f)))))) (h0 : t ≠ 0) (hv : yOb2 aC S0 D G v) (hi : vp_in i n) (kk : Y l S0 D K d mc ms Q X (pc + 1) L rest (yup G a (t, .inl (aC 4, n, .inr (.inr (.inr (.inr (va_up f i.toNatClampNeg (some v)))))))) kc ks) : Y l S0 D K d mc ms Q X pc L (.ref v :: .int i :: .ref a :: rest) G kc ks := by
  rcases hv with hv | hv
  · exact y_aast hS hT ht hg h0 hv hi kk
  intro p e s m args below meth c H locs cells slots ls F hl hG hz hL hc hs
  have hW0 := F.2.2.2.2.2.2.2.2.1
  have hK := hS.K hW0
  have ha := (hG.2.2 a t _ hg).2 h0
  have h1 : H[a]? = some (vp_cell (aC 4) (n, .inr (.inr (.inr (.inr f))))) := (hG.2.2 a t _ hg).1
  have hlt : i.toNatClampNeg < n := Nat.not_le.mp fun q => hi (Or.inr q)
  have hi0 : ¬ i < 0 := fun q => hi (Or.inl q)
  obtain ⟨cellV, g1, g3, g4⟩ := yO_cell F hG hv
  obtain ⟨kC, hkC, -⟩ := Vm.findClass_spec g4
  obtain ⟨kA, comp, k1, k2, k3, -⟩ := (hK.2 4 _ rfl).2
  obtain ⟨kE, hkE, -⟩ := Vm.findClass_spec k3
  refine W.aast F.1 F.2.1 h1 (fun q h => by cases h) (fun h => by cases h) k1 k2 rfl hkE ⟨hi0, by show _ < (arrV _ _ _).slots.size; rw [arrV_size]; exact hlt⟩ g1 (fun q h => by rw [h] at g3; cases g3) hkC (vb_asgC (C := "java/lang/Integer") (yCast hS (args := A0) hW0 (by decide +kernel)) comp _ k3 g4) rfl rfl (yat_ok hT ht) fun H1 e1 z oq => ?_
  refine kk p e s m args below meth c H1 _ cells slots ls F hl (hG.put hg h0 ?_ z oq) (by omega) (fun q hq => ?_) hc hs
  · show H1[a]? = some (vp_cell _ _)
    rw [e1]
    rw [vp_cell_q, vp_cell_q, arrV_store]
    congr 2
    funext q
    by_cases hq : q = i.toNatClampNeg
    · subst hq
      simp [updV, va_up, va_rf]
    · simp [updV, va_up, hq]
  · rcases List.mem_append.mp hq with h | h
    · exact hL q h
    · rw [List.mem_singleton.mp h]; exact ha
theorem y_mmax (hS : yS l S0 A0 D aC) (hT : yTok K.cc T) {ix : Nat} {x y : Int32} (ht : yat pc T = some (.invokestatic ix, 3)) (hw : yWd (.methodLink K.own ix Lib.Math.max.name)) (hr : (rest.map fun v => v.category).sum ≤ 8) (hd : 1 ≤ d) (kk : Y l S0 D K d mc ms Q X (pc + 3) L (.int (if x < y then y else x) :: rest) G kc ks) : Y l S0 D K d mc ms Q X pc L (.int y :: .int x :: rest) G kc ks := by
  intro p e s m args below meth c H locs cells slots ls F hl hG hz hL hc hs
  have hW0 := F.2.2.2.2.2.2.2.2.1
  exact va_mmax F.1 F.2.1 (F.2.2.1.trans hl.1.symm) F.2.2.2.1 (hw.use hS hW0) (yWd.use (w := .static Lib.Math.max.name) ⟨by decide +kernel, by decide +kernel⟩ hS hW0) (yWd.use (w := .initialized "java/lang/Math") ⟨by decide +kernel, by decide +kernel⟩ hS hW0) (yWd.use (w := .code Lib.Math.max.name Lib.Math.max.code 2 (some .int)) ⟨by decide +kernel, by decide +kernel⟩ hS hW0) hd (by show _ ≤ 64 * d; omega) (by show cells ≤ mc; omega) (by show slots ≤ ms; omega) (yat_ok hT ht) (kk p e s m args below meth c H locs cells slots ls F hl hG hz hL hc hs)
theorem y_mabs (hS : yS l S0 A0 D aC) (hT : yTok K.cc T) {ix : Nat} {x : Int32} (ht : yat pc T = some (.invokestatic ix, 3)) (hw : yWd (.methodLink K.own ix Lib.Math.abs.name)) (hr : (rest.map fun v => v.category).sum ≤ 8) (hd : 1 ≤ d) (kk : Y l S0 D K d mc ms Q X (pc + 3) L (.int (if 0 ≤ x then x else 0 - x) :: rest) G kc ks) : Y l S0 D K d mc ms Q X pc L (.int x :: rest) G kc ks := by
  intro p e s m args below meth c H locs cells slots ls F hl hG hz hL hc hs
  have hW0 := F.2.2.2.2.2.2.2.2.1
  exact va_mabs F.1 F.2.1 (F.2.2.1.trans hl.1.symm) F.2.2.2.1 (hw.use hS hW0) (yWd.use (w := .static Lib.Math.abs.name) ⟨by decide +kernel, by decide +kernel⟩ hS hW0) (yWd.use (w := .initialized "java/lang/Math") ⟨by decide +kernel, by decide +kernel⟩ hS hW0) (yWd.use (w := .code Lib.Math.abs.name Lib.Math.abs.code 1 (some .int)) ⟨by decide +kernel, by decide +kernel⟩ hS hW0) hd (by show _ ≤ 64 * d; omega) (by show cells ≤ mc; omega) (by show slots ≤ ms; omega) (yat_ok hT ht) (kk p e s m args below meth c H locs cells slots ls F hl hG hz hL hc hs)
end YR3
/-- the first s elements of a list -/
def yel (el : Nat → Nat) (s : Nat) : Nat → Option Nat := fun i => if i < s then some (el i) else none
/-- a list at a, with its array at ea: its own (room for 10) or the shared empty one -/
def yLst (aC : Nat → ClassId) (de : Nat) (G : AH) (tl ta a ea : Nat) (own : Bool) (mc : Int32) (s : Nat) (el : Nat → Nat) : Prop :=
  G a = some (tl, .inr (3, [.int mc, .ref ea, .int (Int32.ofNat s)])) ∧ ((own = true ∧ s ≤ 10 ∧ G ea = some (ta, .inl (aC 4, 10, .inr (.inr (.inr (.inr (yel el s))))))) ∨ (own = false ∧ s = 0 ∧ ea = de))
/-- all but the places a and b stands -/
def yKp (a b : Nat) (G G1 : AH) : Prop := ∀ q x, G q = some x → q ≠ a → q ≠ b → G1 q = some x
section YLS
variable {l : Launch} {S0 : State} {A0 : Array Value} {D : va_G} {aC : Nat → ClassId} {ic : Int32 → Nat} {de : Nat} {G : AH}
variable {tl ta a ea s : Nat} {own : Bool} {mc : Int32} {el : Nat → Nat}
theorem m_J3 (hS : yS l S0 A0 D aC) {i n : Int32} (h0 : ¬ i < 0) (h1 : i < n) : yM l S0 D yJ3_checkIndex_8e157 cJ3_checkIndex_8e157 3 (some .int) 10 0 0 [.int i, .int n, .null] G (fun r G1 => r = some (.int i) ∧ G1 = G) (fun _ _ => False) := by
  refine yM.ofK K_J3_checkIndex_8e157 rfl (by decide) (Nat.le_of_ble_eq_true rfl) ?_
  refine y_blk 1 tq_J3_checkIndex_8e157 (z := (1, [(0, .int i), (1, .int n), (2, .null)], [.int i])) rfl ?_
  refine y_if_lt tq_J3_checkIndex_8e157 9 rfl rfl (fun c => absurd c h0) (fun _ => ?_)
  refine y_blk 2 tq_J3_checkIndex_8e157 (z := (6, [(0, .int i), (1, .int n), (2, .null)], [.int n, .int i])) rfl ?_
  refine y_icmp_lt tq_J3_checkIndex_8e157 16 rfl rfl (fun _ => ?_) (fun c => absurd h1 c)
  refine y_blk 1 tq_J3_checkIndex_8e157 (z := (17, [(0, .int i), (1, .int n), (2, .null)], [.int i])) rfl ?_
  exact y_iret tq_J3_checkIndex_8e157 rfl rfl ⟨rfl, rfl⟩
theorem m_J15 (hS : yS l S0 A0 D aC) {i n : Int32} (h0 : ¬ i < 0) (h1 : i < n) : yM l S0 D yJ15_checkIndex_7cf53 cJ15_checkIndex_7cf53 2 (some .int) 11 0 0 [.int i, .int n] G (fun r G1 => r = some (.int i) ∧ G1 = G) (fun _ _ => False) := by
  refine yM.ofK K_J15_checkIndex_7cf53 rfl (by decide) (Nat.le_of_ble_eq_true rfl) ?_
  refine y_blk 3 tq_J15_checkIndex_7cf53 (z := (3, [(0, .int i), (1, .int n)], [.null, .int n, .int i])) rfl ?_
  refine y_callS hS tq_J15_checkIndex_7cf53 rfl (As := [.int i, .int n, .null]) rfl cs_J15_105 (m_J3 hS h0 h1) rfl (by decide) (Nat.le_of_ble_eq_true rfl) (fun r G1 q => ?_) (fun _ _ h => h.elim)
  obtain ⟨rfl, e⟩ := q
  have e := e.symm
  subst e
  refine y_blk 0 tq_J15_checkIndex_7cf53 (z := (6, [(0, .int i), (1, .int n)], [.int i])) rfl ?_
  exact y_iret tq_J15_checkIndex_7cf53 rfl rfl ⟨rfl, rfl⟩
theorem m_Jsize (hS : yS l S0 A0 D aC) (h : yLst aC de G tl ta a ea own mc s el) : yM l S0 D yJx4a65c_size_8abf5 cJx4a65c_size_8abf5 1 (some .int) 10 0 0 [.ref a] G (fun r G1 => r = some (.int (Int32.ofNat s)) ∧ G1 = G) (fun _ _ => False) := by
  refine yM.ofK K_Jx4a65c_size_8abf5 rfl (by decide) (Nat.le_of_ble_eq_true rfl) ?_
  refine y_blk 1 tq_Jx4a65c_size_8abf5 (z := (1, [(0, .ref a)], [.ref a])) rfl ?_
  refine y_get hS tq_Jx4a65c_size_8abf5 (v := .int (Int32.ofNat s)) rfl fg_Jx4a65c_48_Jx4a65c h.1 rfl ?_
  exact y_iret tq_Jx4a65c_size_8abf5 rfl rfl ⟨rfl, rfl⟩
theorem yIx {s : Nat} {i : Int32} (h0 : 0 ≤ i.toInt) (h1 : i.toInt < s) : i.toNatClampNeg < s := by
  show i.toInt.toNat < s
  omega
theorem yIn {n : Nat} {i : Int32} (h0 : 0 ≤ i.toInt) (h1 : i.toInt < n) : vp_in i n := by
  intro q
  rcases q with q | q
  · have h2 : i.toInt < (0 : Int32).toInt := Int32.lt_iff_toInt_lt.mp q
    have h3 : (0 : Int32).toInt = 0 := rfl
    omega
  · have h4 := yIx h0 h1
    omega
theorem m_Jelem (hS : yS l S0 A0 D aC) (h : yLst aC de G tl ta a ea own mc s el) {i : Int32} (h0 : 0 ≤ i.toInt) (h1 : i.toInt < s) : yM l S0 D yJx4a65c_elementData_915e3 cJx4a65c_elementData_915e3 2 (some (.object "java/lang/Object")) 10 0 0 [.ref a, .int i] G (fun r G1 => r = some (.ref (el i.toNatClampNeg)) ∧ G1 = G) (fun _ _ => False) := by
  obtain ⟨hl, hb⟩ := h
  rcases hb with ⟨-, hs, hb⟩ | ⟨-, hs, -⟩
  · refine yM.ofK K_Jx4a65c_elementData_915e3 rfl (by decide) (Nat.le_of_ble_eq_true rfl) ?_
    refine y_blk 1 tq_Jx4a65c_elementData_915e3 (z := (1, [(0, .ref a), (1, .int i)], [.ref a])) rfl ?_
    refine y_get hS tq_Jx4a65c_elementData_915e3 (v := .ref ea) rfl fg_Jx4a65c_9_Jx4a65c hl rfl ?_
    refine y_blk 1 tq_Jx4a65c_elementData_915e3 (z := (5, [(0, .ref a), (1, .int i)], [.int i, .ref ea])) rfl ?_
    refine y_aald hS tq_Jx4a65c_elementData_915e3 rfl hb (yIn h0 (by omega)) ?_
    rw [show yel el s i.toNatClampNeg = some (el i.toNatClampNeg) from if_pos (yIx h0 h1)]
    exact y_aret tq_Jx4a65c_elementData_915e3 rfl rfl (Or.inl ⟨_, rfl⟩) (Or.inr ⟨_, rfl⟩) ⟨rfl, rfl⟩
  · subst hs
    exact absurd h1 (by omega)
theorem yofn {n : Nat} (h : n ≤ 1000) : (Int32.ofNat n).toInt = n := Int32.toInt_ofNat_of_lt (by omega)
theorem m_Jget (hS : yS l S0 A0 D aC) (h : yLst aC de G tl ta a ea own mc s el) {i : Int32} (h0 : 0 ≤ i.toInt) (h1 : i.toInt < s) : yM l S0 D yJx4a65c_get_915e3 cJx4a65c_get_915e3 2 (some (.object "java/lang/Object")) 12 0 0 [.ref a, .int i] G (fun r G1 => r = some (.ref (el i.toNatClampNeg)) ∧ G1 = G) (fun _ _ => False) := by
  have hs : s ≤ 10 := by
    rcases h.2 with ⟨-, hs, -⟩ | ⟨-, hs, -⟩ <;> omega
  refine yM.ofK K_Jx4a65c_get_915e3 rfl (by decide) (Nat.le_of_ble_eq_true rfl) ?_
  refine y_blk 2 tq_Jx4a65c_get_915e3 (z := (2, [(0, .ref a), (1, .int i)], [.ref a, .int i])) rfl ?_
  refine y_get hS tq_Jx4a65c_get_915e3 (v := .int (Int32.ofNat s)) rfl fg_Jx4a65c_48_Jx4a65c h.1 rfl ?_
  refine y_callS hS tq_Jx4a65c_get_915e3 rfl (As := [.int i, .int (Int32.ofNat s)]) rfl cs_Jx4a65c_118 (m_J15 hS (by rw [ylt, yl_0]; omega) (by rw [ylt, yofn (by omega)]; exact h1)) rfl (by decide) (Nat.le_of_ble_eq_true rfl) (fun r G1 q => ?_) (fun _ _ h => h.elim)
  obtain ⟨rfl, e⟩ := q
  have e := e.symm
  subst e
  refine y_blk 3 tq_Jx4a65c_get_915e3 (z := (11, [(0, .ref a), (1, .int i)], [.int i, .ref a])) rfl ?_
  refine y_callV hS tq_Jx4a65c_get_915e3 rfl (As := [.int i]) rfl cv_Jx4a65c_123 h.1 (m_Jelem hS h h0 h1) rfl (by decide) (Nat.le_of_ble_eq_true rfl) (fun r G1 q => ?_) (fun _ _ h => h.elim)
  obtain ⟨rfl, e⟩ := q
  have e := e.symm
  subst e
  exact y_aret tq_Jx4a65c_get_915e3 rfl rfl (Or.inl ⟨_, rfl⟩) (Or.inr ⟨_, rfl⟩) ⟨rfl, rfl⟩
theorem m_JintValue (hS : yS l S0 A0 D aC) {v : Int32} (h : yInt S0 a v) : yM l S0 D yJ6_intValue_8abf5 cJ6_intValue_8abf5 1 (some .int) 10 0 0 [.ref a] G (fun r G1 => r = some (.int v) ∧ G1 = G) (fun _ _ => False) := by
  refine yM.ofK K_J6_intValue_8abf5 rfl (by decide) (Nat.le_of_ble_eq_true rfl) ?_
  refine y_blk 1 tq_J6_intValue_8abf5 (z := (1, [(0, .ref a)], [.ref a])) rfl ?_
  refine y_getO hS tq_J6_intValue_8abf5 (v := .int v) rfl (o := "java/lang/Integer") (n := "value") (d9 := "I") ⟨by decide +kernel, by decide +kernel⟩ h.2 ?_
  exact y_iret tq_J6_intValue_8abf5 rfl rfl ⟨rfl, rfl⟩
theorem m_JvalueOf (hS : yS l S0 A0 D aC) (hI : yIc S0 ic de) {v : Int32} (h1 : -128 ≤ v.toInt) (h2 : v.toInt ≤ 127) : yM l S0 D yJ6_valueOf_2dffe cJ6_valueOf_2dffe 1 (some (.object "java/lang/Integer")) 10 0 0 [.int v] G (fun r G1 => r = some (.ref (ic v)) ∧ G1 = G) (fun _ _ => False) := by
  obtain ⟨hi, -, -, hh, ca, hc, hT⟩ := hI
  have l128 : (-128 : Int32).toInt = -128 := rfl
  have l128' : (128 : Int32).toInt = 128 := rfl
  have l127 : (127 : Int32).toInt = 127 := rfl
  have e1 : (v + 128).toInt = v.toInt + 128 := by rw [yadd (by rw [l128']; omega) (by rw [l128']; omega), l128']
  refine yM.ofK K_J6_valueOf_2dffe rfl (by decide) (Nat.le_of_ble_eq_true rfl) ?_
  refine y_blk 2 tq_J6_valueOf_2dffe (z := (3, [(0, .int v)], [.int (-128), .int v])) rfl ?_
  refine y_icmp_lt tq_J6_valueOf_2dffe 23 rfl rfl (fun c => absurd c (by rw [ylt, l128]; omega)) (fun _ => ?_)
  refine y_blk 1 tq_J6_valueOf_2dffe (z := (7, [(0, .int v)], [.int v])) rfl ?_
  refine y_gets hS tq_J6_valueOf_2dffe rfl gs_J6_191 hh ?_
  refine y_icmp_gt tq_J6_valueOf_2dffe 23 rfl rfl (fun c => absurd c (by rw [ylt, l127]; omega)) (fun _ => ?_)
  refine y_gets hS tq_J6_valueOf_2dffe rfl gs_J6_195 hc ?_
  refine y_blk 3 tq_J6_valueOf_2dffe (z := (21, [(0, .int v)], [.int (v + 128), .ref ca])) rfl ?_
  refine y_aaldT tq_J6_valueOf_2dffe (v := .ref (ic v)) rfl hT (yIn (by omega) (by omega)) ?_ ?_
  · have e2 : Int32.ofNat (v + 128).toNatClampNeg - 128 = v := by
      apply Int32.toInt_inj.mp
      have e3 : (Int32.ofNat ((v + 128).toNatClampNeg)).toInt = v.toInt + 128 := by
        have e4 : (v + 128).toNatClampNeg = (v + 128).toInt.toNat := rfl
        rw [Int32.toInt_ofNat_of_lt (by omega), e4]
        omega
      rw [ysub (by rw [e3, l128']; omega) (by rw [e3, l128']; omega), e3, l128']
      omega
    show Value.ref (ic (Int32.ofNat (v + 128).toNatClampNeg - 128)) = _
    rw [e2]
  exact y_aret tq_J6_valueOf_2dffe rfl rfl (Or.inl ⟨_, rfl⟩) (Or.inr ⟨_, rfl⟩) ⟨rfl, rfl⟩
theorem yKp.rfl' {b : Nat} : yKp a b G G := fun _ _ h _ _ => h
theorem yel_add {v : Nat} : va_up (yel el s) s (some v) = yel (fun i => if i = s then v else el i) (s + 1) := by
  funext i
  unfold va_up yel
  by_cases h : i = s
  · rw [if_pos h, if_pos (by omega)]
    show some v = some (if i = s then v else el i)
    rw [if_pos h]
  · rw [if_neg h]
    by_cases h2 : i < s
    · rw [if_pos h2, if_pos (by omega)]
      show some (el i) = some (if i = s then v else el i)
      rw [if_neg h]
    · rw [if_neg h2, if_neg (by omega)]
theorem yel_rem : va_up (yel el (s + 1)) s none = yel el s := by
  funext i
  unfold va_up yel
  by_cases h : i = s
  · rw [if_pos h, if_neg (by omega)]
  · rw [if_neg h]
    by_cases h2 : i < s
    · rw [if_pos (by omega), if_pos h2]
    · rw [if_neg (by omega), if_neg h2]
theorem yofs {n : Nat} (h : n ≤ 1000) : Int32.ofNat n + 1 = Int32.ofNat (n + 1) := by
  apply Int32.toInt_inj.mp
  rw [yadd (by rw [yofn h, yl_1]; omega) (by rw [yofn h, yl_1]; omega), yofn h, Int32.toInt_ofNat_of_lt (by omega), yl_1]
  omega
theorem yofp {n : Nat} (h : n ≤ 1000) : Int32.ofNat (n + 1) - 1 = Int32.ofNat n := by
  apply Int32.toInt_inj.mp
  have h1 : (Int32.ofNat (n + 1)).toInt = n + 1 := Int32.toInt_ofNat_of_lt (by omega)
  rw [ysub (by rw [h1, yl_1]; omega) (by rw [h1, yl_1]; omega), yofn h, h1, yl_1]
  omega
theorem yofc {n : Nat} (h : n ≤ 1000) : (Int32.ofNat n).toNatClampNeg = n := Int32.toNatClampNeg_ofNat_of_lt (by omega)
/-- growing: the first time only -/
theorem m_Jgrow1 (hS : yS l S0 A0 D aC) (hI : yIc S0 ic de) (ta : Nat) (hta : ta ≠ 0) (htl : tl ≠ 0) (h : G a = some (tl, .inr (3, [.int mc, .ref de, .int (Int32.ofNat 0)]))) : yM l S0 D yJx4a65c_grow_92f84 cJx4a65c_grow_92f84 4 (some (.array (.object "java/lang/Object"))) 11 1 10 [.ref a, .int 1] G (fun r G1 => ∃ ea1, r = some (.ref ea1) ∧ G1 a = some (tl, .inr (3, [.int mc, .ref ea1, .int (Int32.ofNat 0)])) ∧ G1 ea1 = some (ta, .inl (aC 4, 10, .inr (.inr (.inr (.inr (fun _ => none)))))) ∧ G ea1 = none ∧ yKp a ea1 G G1) (fun _ _ => False) := by
  refine yM.ofK K_Jx4a65c_grow_92f84 rfl (by decide) (Nat.le_of_ble_eq_true rfl) ?_
  refine y_blk 1 tq_Jx4a65c_grow_92f84 (z := (1, [(0, .ref a), (1, .int 1)], [.ref a])) rfl ?_
  refine y_get hS tq_Jx4a65c_grow_92f84 (v := .ref de) rfl fg_Jx4a65c_9_Jx4a65c h rfl ?_
  refine y_alenT tq_Jx4a65c_grow_92f84 rfl hI.2.1 ?_
  refine y_blk 2 tq_Jx4a65c_grow_92f84 (z := (7, [(2, .int (Int32.ofNat 0)), (0, .ref a), (1, .int 1)], [.int (Int32.ofNat 0)])) rfl ?_
  refine y_if_gt tq_Jx4a65c_grow_92f84 20 rfl rfl (fun c => absurd c (by decide)) (fun _ => ?_)
  refine y_blk 1 tq_Jx4a65c_grow_92f84 (z := (11, [(2, .int (Int32.ofNat 0)), (0, .ref a), (1, .int 1)], [.ref a])) rfl ?_
  refine y_get hS tq_Jx4a65c_grow_92f84 (v := .ref de) rfl fg_Jx4a65c_9_Jx4a65c h rfl ?_
  refine y_gets hS tq_Jx4a65c_grow_92f84 rfl gs_Jx4a65c_39 hI.2.2.1 ?_
  refine y_acmp_eq (rx := some de) (ry := some de) tq_Jx4a65c_grow_92f84 45 rfl rfl (fun _ => ?_) (fun c => absurd rfl c)
  refine y_blk 3 tq_Jx4a65c_grow_92f84 (z := (49, [(2, .int (Int32.ofNat 0)), (0, .ref a), (1, .int 1)], [.int 1, .int 10, .ref a])) rfl ?_
  refine y_mmax hS tq_Jx4a65c_grow_92f84 rfl ⟨by decide +kernel, by decide +kernel⟩ (Nat.le_of_ble_eq_true rfl) (by decide) ?_
  rw [show (if (10 : Int32) < 1 then (1 : Int32) else 10) = 10 from by decide]
  refine y_anew ta hS tq_Jx4a65c_grow_92f84 rfl an_Jx4a65c_7 aov (by decide) (n := 10) (by decide) (by decide) (fun ea1 hne => ?_)
  refine y_blk 1 tq_Jx4a65c_grow_92f84 (z := (56, [(2, .int (Int32.ofNat 0)), (0, .ref a), (1, .int 1)], [.ref ea1, .ref a, .ref ea1])) rfl ?_
  have hnea : a ≠ ea1 := hne a _ h
  have h1 : yup G ea1 (ta, .inl (aC 4, 10, .inr (.inr (.inr (.inr (fun _ => none)))))) a = some (tl, .inr (3, [.int mc, .ref de, .int (Int32.ofNat 0)])) := by rw [yup_n _ hnea]; exact h
  refine y_put hS tq_Jx4a65c_grow_92f84 rfl fp_Jx4a65c_9_Jx4a65c h1 htl rfl rfl (Nat.le_of_ble_eq_true rfl) ?_
  refine y_aret tq_Jx4a65c_grow_92f84 rfl rfl (Or.inr ⟨_, rfl⟩) (Or.inr ⟨_, rfl⟩) ⟨ea1, rfl, yup_s _ _ _, ?_, ?_, ?_⟩
  · rw [yup_n _ hnea.symm, yup_s]
  · cases hq : G ea1 with
    | none => rfl
    | some x => exact absurd rfl (hne _ _ hq)
  · intro q x hx h1 h2
    rw [yup_n _ h1, yup_n _ h2]
    exact hx
theorem m_Jgrow (hS : yS l S0 A0 D aC) (hI : yIc S0 ic de) (ta : Nat) (hta : ta ≠ 0) (htl : tl ≠ 0) (h : G a = some (tl, .inr (3, [.int mc, .ref de, .int (Int32.ofNat 0)]))) : yM l S0 D yJx4a65c_grow_d5877 cJx4a65c_grow_d5877 1 (some (.array (.object "java/lang/Object"))) 12 1 10 [.ref a] G (fun r G1 => ∃ ea1, r = some (.ref ea1) ∧ G1 a = some (tl, .inr (3, [.int mc, .ref ea1, .int (Int32.ofNat 0)])) ∧ G1 ea1 = some (ta, .inl (aC 4, 10, .inr (.inr (.inr (.inr (fun _ => none)))))) ∧ G ea1 = none ∧ yKp a ea1 G G1) (fun _ _ => False) := by
  refine yM.ofK K_Jx4a65c_grow_d5877 rfl (by decide) (Nat.le_of_ble_eq_true rfl) ?_
  refine y_blk 2 tq_Jx4a65c_grow_d5877 (z := (2, [(0, .ref a)], [.ref a, .ref a])) rfl ?_
  refine y_get hS tq_Jx4a65c_grow_d5877 (v := .int (Int32.ofNat 0)) rfl fg_Jx4a65c_48_Jx4a65c h rfl ?_
  refine y_blk 2 tq_Jx4a65c_grow_d5877 (z := (7, [(0, .ref a)], [.int (Int32.ofNat 0 + 1), .ref a])) rfl ?_
  rw [show Int32.ofNat 0 + 1 = 1 from by decide]
  refine y_callV hS tq_Jx4a65c_grow_d5877 rfl (As := [.int 1]) rfl cv_Jx4a65c_69 h (m_Jgrow1 hS hI ta hta htl h) rfl (by decide) (Nat.le_of_ble_eq_true rfl) (fun r G1 q => ?_) (fun _ _ h => h.elim)
  obtain ⟨ea1, rfl, q⟩ := q
  exact y_aret tq_Jx4a65c_grow_d5877 rfl rfl (Or.inr ⟨_, rfl⟩) (Or.inr ⟨_, rfl⟩) ⟨ea1, rfl, q⟩
theorem y04 (hS : yS l S0 A0 D aC) : aC 0 ≠ aC 4 := by
  intro e
  obtain ⟨-, k0, g0, comp0, g1⟩ := (hS.2.2.1.2 0 _ rfl).1 0 (fun _ => .null)
  obtain ⟨-, k4, q0, comp4, q1⟩ := (hS.2.2.1.2 4 _ rfl).1 0 (fun _ => .null)
  have e1 : S0.vm.classes[aC 0]? = some k0 := g0
  have e2 : S0.vm.classes[aC 4]? = some k4 := q0
  rw [← e, e1] at e2
  cases e2
  rw [g1] at q1
  cases q1
theorem yOb2.kp {G1 : AH} {v : Nat} {b : Nat} (h : yOb2 aC S0 D G v) (hk : yKp a b G G1) (ha : ∃ t fs, G a = some (t, .inr (3, fs)) ∧ ∃ fs1, G1 a = some (t, .inr (3, fs1))) (hb : (∃ t x, G b = some (t, .inl (aC 4, x))) ∨ G b = none) (h04 : aC 0 ≠ aC 4) : yOb2 aC S0 D G1 v := by
  rcases h with (⟨ci, C, T, N, fs, h1, h2, h3⟩ | ⟨x, h3⟩) | h
  · rcases h3 with ⟨t, h3⟩ | h3
    · by_cases hva : v = a
      · subst hva
        obtain ⟨t9, fs9, h9, fs1, h91⟩ := ha
        rw [h9] at h3
        cases h3
        exact Or.inl (Or.inl ⟨3, C, T, N, fs1, h1, h2, Or.inl ⟨_, h91⟩⟩)
      · have hvb : v ≠ b := by
          intro e
          subst e
          rcases hb with ⟨t9, x9, h9⟩ | h9
          · rw [h9] at h3; cases h3
          · rw [h9] at h3; cases h3
        exact Or.inl (Or.inl ⟨ci, C, T, N, fs, h1, h2, Or.inl ⟨t, hk _ _ h3 hva hvb⟩⟩)
    · exact Or.inl (Or.inl ⟨ci, C, T, N, fs, h1, h2, Or.inr h3⟩)
  · rcases h3 with ⟨t, h3⟩ | h3
    · have hva : v ≠ a := by
        intro e
        subst e
        obtain ⟨t9, fs9, h9, -⟩ := ha
        rw [h9] at h3
        cases h3
      have hvb : v ≠ b := by
        intro e
        subst e
        rcases hb with ⟨t9, x9, h9⟩ | h9
        · exact h04 (congrArg Prod.fst (Sum.inl.inj (congrArg Prod.snd (Option.some.inj (h9.symm.trans h3))))).symm
        · rw [h9] at h3; cases h3
      exact Or.inl (Or.inr ⟨x, Or.inl ⟨t, hk _ _ h3 hva hvb⟩⟩)
    · exact Or.inl (Or.inr ⟨x, Or.inr h3⟩)
  · exact Or.inr h
theorem yOb2.up {v t : Nat} {fs fs1 : List Value} (h : yOb2 aC S0 D G v) (hl : G a = some (t, .inr (3, fs))) : yOb2 aC S0 D (yup G a (t, .inr (3, fs1))) v := by
  rcases h with (⟨ci, C, T, N, fs2, h1, h2, h3⟩ | ⟨x, h3⟩) | h
  · rcases h3 with ⟨t2, h3⟩ | h3
    · by_cases hva : v = a
      · subst hva
        rw [hl] at h3
        cases h3
        exact Or.inl (Or.inl ⟨3, C, T, N, fs1, h1, h2, Or.inl ⟨_, yup_s _ _ _⟩⟩)
      · exact Or.inl (Or.inl ⟨ci, C, T, N, fs2, h1, h2, Or.inl ⟨t2, by rw [yup_n _ hva]; exact h3⟩⟩)
    · exact Or.inl (Or.inl ⟨ci, C, T, N, fs2, h1, h2, Or.inr h3⟩)
  · rcases h3 with ⟨t2, h3⟩ | h3
    · have hva : v ≠ a := by
        intro e
        subst e
        rw [hl] at h3
        cases h3
      exact Or.inl (Or.inr ⟨x, Or.inl ⟨t2, by rw [yup_n _ hva]; exact h3⟩⟩)
    · exact Or.inl (Or.inr ⟨x, Or.inr h3⟩)
  · exact Or.inr h
/-- adding v behind the last one -/
theorem m_Jadd3 (hS : yS l S0 A0 D aC) (hI : yIc S0 ic de) {v : Nat} (h : yLst aC de G tl ta a ea own mc s el) (hv : yOb2 aC S0 D G v) (hs : s ≤ 9) (htl : tl ≠ 0) (hta : ta ≠ 0) : yM l S0 D yJx4a65c_add_72be8 cJx4a65c_add_72be8 4 none 13 1 10 [.ref a, .ref v, .ref ea, .int (Int32.ofNat s)] G (fun r G1 => r = none ∧ ∃ ea1, yLst aC de G1 tl ta a ea1 true mc (s + 1) (fun i => if i = s then v else el i) ∧ (own = true → ea1 = ea) ∧ (own = false → G ea1 = none) ∧ yKp a ea1 G G1) (fun _ _ => False) := by
  refine yM.ofK K_Jx4a65c_add_72be8 rfl (by decide) (Nat.le_of_ble_eq_true rfl) ?_
  have J : ∀ (ea1 : Nat) (G2 : AH) (el2 : Nat → Nat) (kc ks : Nat), yLst aC de G2 tl ta a ea1 true mc s el2 → yel el2 s = yel el s → yOb2 aC S0 D G2 v → (own = true → ea1 = ea) → (own = false → G ea1 = none) → yKp a ea1 G G2 → Y l S0 D K_Jx4a65c_add_72be8 13 1 10 (fun r G1 => r = none ∧ ∃ ea1, yLst aC de G1 tl ta a ea1 true mc (s + 1) (fun i => if i = s then v else el i) ∧ (own = true → ea1 = ea) ∧ (own = false → G ea1 = none) ∧ yKp a ea1 G G1) (fun _ _ => False) 11 [(2, .ref ea1), (0, .ref a), (1, .ref v), (3, .int (Int32.ofNat s))] [] G2 kc ks := by
    intro ea1 G2 el2 kc ks h2 hel hv2 e1 e2 hk
    refine y_blk 3 tq_Jx4a65c_add_72be8 (z := (14, [(2, .ref ea1), (0, .ref a), (1, .ref v), (3, .int (Int32.ofNat s))], [.ref v, .int (Int32.ofNat s), .ref ea1])) rfl ?_
    obtain ⟨hl, hb⟩ := h2
    rcases hb with ⟨-, -, hb⟩ | ⟨q, -⟩
    · rw [hel] at hb
      have hne : a ≠ ea1 := by
        intro q
        rw [← q, hl] at hb
        cases hb
      refine y_aast2 hS tq_Jx4a65c_add_72be8 rfl hb hta hv2 (yIn (by rw [yofn (by omega)]; omega) (by rw [yofn (by omega)]; omega)) ?_
      rw [yofc (by omega), yel_add]
      refine y_blk 4 tq_Jx4a65c_add_72be8 (z := (19, [(2, .ref ea1), (0, .ref a), (1, .ref v), (3, .int (Int32.ofNat s))], [.int (Int32.ofNat s + 1), .ref a])) rfl ?_
      refine y_put hS tq_Jx4a65c_add_72be8 rfl fp_Jx4a65c_48_Jx4a65c (by rw [yup_n _ hne]; exact hl) htl rfl rfl (Nat.le_of_ble_eq_true rfl) ?_
      refine y_vret tq_Jx4a65c_add_72be8 rfl rfl ⟨rfl, ea1, ⟨?_, Or.inl ⟨rfl, by omega, ?_⟩⟩, e1, e2, ?_⟩
      · rw [yup_s, yofs (by omega)]
        rfl
      · rw [yup_n _ hne.symm, yup_s]
      · intro q x hx q1 q2
        rw [yup_n _ q1, yup_n _ q2]
        exact hk q x hx q1 q2
    · cases q
  refine y_blk 2 tq_Jx4a65c_add_72be8 (z := (2, [(0, .ref a), (1, .ref v), (2, .ref ea), (3, .int (Int32.ofNat s))], [.ref ea, .int (Int32.ofNat s)])) rfl ?_
  obtain ⟨hl, hb⟩ := h
  rcases hb with ⟨ho, h10, hb⟩ | ⟨ho, h0, he⟩
  · refine y_alen hS tq_Jx4a65c_add_72be8 4 rfl rfl hb ?_
    refine y_icmp_ne tq_Jx4a65c_add_72be8 11 rfl rfl (fun _ => ?_) (fun c => ?_)
    · refine y_pick (L2 := [(2, .ref ea), (0, .ref a), (1, .ref v), (3, .int (Int32.ofNat s))]) [2, 0, 1, 3] rfl ?_
      exact J ea G el 1 10 ⟨hl, Or.inl ⟨rfl, h10, hb⟩⟩ rfl hv (fun _ => rfl) (fun q => by rw [ho] at q; cases q) yKp.rfl'
    · have c2 := congrArg Int32.toInt c
      rw [yofn (by omega)] at c2
      have c3 : (Int32.ofNat 10).toInt = 10 := rfl
      have c4 : (s : Int) = 10 := c2.trans c3
      omega
  · subst h0
    subst he
    refine y_alenT tq_Jx4a65c_add_72be8 rfl hI.2.1 ?_
    refine y_icmp_ne tq_Jx4a65c_add_72be8 11 rfl rfl (fun c => absurd rfl c) (fun c => ?_)
    refine y_blk 1 tq_Jx4a65c_add_72be8 (z := (7, [(0, .ref a), (1, .ref v), (2, .ref ea), (3, .int (Int32.ofNat 0))], [.ref a])) rfl ?_
    refine y_callV hS tq_Jx4a65c_add_72be8 rfl (As := []) (kc := 0) (ks := 0) rfl cv_Jx4a65c_129 hl (m_Jgrow hS hI ta hta htl hl) rfl (by decide) (Nat.le_of_ble_eq_true rfl) (fun r G1 q => ?_) (fun _ _ h => h.elim)
    obtain ⟨ea1, rfl, q1, q2, q3, q4⟩ := q
    refine y_blk 1 tq_Jx4a65c_add_72be8 (z := (11, [(2, .ref ea1), (0, .ref a), (1, .ref v), (3, .int (Int32.ofNat 0))], [])) rfl ?_
    exact J ea1 G1 el 0 0 ⟨q1, Or.inl ⟨rfl, by omega, by rw [show yel el 0 = fun _ => none from funext fun i => if_neg (by omega)]; exact q2⟩⟩ rfl (hv.kp q4 ⟨_, _, hl, _, q1⟩ (Or.inr q3) (y04 hS)) (fun q => by rw [ho] at q; cases q) (fun _ => q3) q4
theorem m_Jadd (hS : yS l S0 A0 D aC) (hI : yIc S0 ic de) {v : Nat} (h : yLst aC de G tl ta a ea own mc s el) (hv : yOb2 aC S0 D G v) (hs : s ≤ 9) (htl : tl ≠ 0) (hta : ta ≠ 0) : yM l S0 D yJx4a65c_add_9ea2d cJx4a65c_add_9ea2d 2 (some .boolean) 14 1 10 [.ref a, .ref v] G (fun r G1 => r = some (.int 1) ∧ ∃ ea1, yLst aC de G1 tl ta a ea1 true (mc + 1) (s + 1) (fun i => if i = s then v else el i) ∧ (own = true → ea1 = ea) ∧ (own = false → G ea1 = none) ∧ yKp a ea1 G G1) (fun _ _ => False) := by
  refine yM.ofK K_Jx4a65c_add_9ea2d rfl (by decide) (Nat.le_of_ble_eq_true rfl) ?_
  refine y_blk 2 tq_Jx4a65c_add_9ea2d (z := (2, [(0, .ref a), (1, .ref v)], [.ref a, .ref a])) rfl ?_
  refine y_getS hS tq_Jx4a65c_add_9ea2d (v := .int mc) rfl fgs_Jx4a65c_63_Jx4a65c h.1 rfl ?_
  refine y_blk 2 tq_Jx4a65c_add_9ea2d (z := (7, [(0, .ref a), (1, .ref v)], [.int (mc + 1), .ref a])) rfl ?_
  refine y_putS hS tq_Jx4a65c_add_9ea2d rfl fps_Jx4a65c_63_Jx4a65c h.1 htl rfl rfl (Nat.le_of_ble_eq_true rfl) ?_
  have h2 : yLst aC de (yup G a (tl, .inr (3, [.int (mc + 1), .ref ea, .int (Int32.ofNat s)]))) tl ta a ea own (mc + 1) s el := by
    refine ⟨yup_s _ _ _, ?_⟩
    rcases h.2 with ⟨q1, q2, q3⟩ | q
    · refine Or.inl ⟨q1, q2, ?_⟩
      rw [yup_n _ (fun e => by rw [e, h.1] at q3; cases q3)]
      exact q3
    · exact Or.inr q
  have hv2 : yOb2 aC S0 D (yup G a (tl, .inr (3, [.int (mc + 1), .ref ea, .int (Int32.ofNat s)]))) v := hv.up h.1
  have hkp2 : ∀ q x, G q = some x → q ≠ a → (yup G a (tl, .inr (3, [.int (mc + 1), .ref ea, .int (Int32.ofNat s)]))) q = some x := fun q x hx q1 => by rw [yup_n _ q1]; exact hx
  show Y l S0 D K_Jx4a65c_add_9ea2d 14 1 10 _ _ 10 [(0, .ref a), (1, .ref v)] [] (yup G a (tl, .inr (3, [.int (mc + 1), .ref ea, .int (Int32.ofNat s)]))) 1 10
  have hne2 : ∀ b : Nat, (yup G a (tl, .inr (3, [.int (mc + 1), .ref ea, .int (Int32.ofNat s)]))) b = none → G b = none := fun b hb => by
    by_cases e : b = a
    · rw [e, yup_s] at hb; cases hb
    · rw [yup_n _ e] at hb; exact hb
  generalize yup G a (tl, .inr (3, [.int (mc + 1), .ref ea, .int (Int32.ofNat s)])) = G2 at h2 hv2 hkp2 hne2 ⊢
  refine y_blk 3 tq_Jx4a65c_add_9ea2d (z := (13, [(0, .ref a), (1, .ref v)], [.ref a, .ref v, .ref a])) rfl ?_
  refine y_get hS tq_Jx4a65c_add_9ea2d (v := .ref ea) rfl fg_Jx4a65c_9_Jx4a65c h2.1 rfl ?_
  refine y_blk 1 tq_Jx4a65c_add_9ea2d (z := (17, [(0, .ref a), (1, .ref v)], [.ref a, .ref ea, .ref v, .ref a])) rfl ?_
  refine y_get hS tq_Jx4a65c_add_9ea2d (v := .int (Int32.ofNat s)) rfl fg_Jx4a65c_48_Jx4a65c h2.1 rfl ?_
  refine y_callV hS tq_Jx4a65c_add_9ea2d rfl (As := [.ref v, .ref ea, .int (Int32.ofNat s)]) (kc := 0) (ks := 0) rfl cv_Jx4a65c_131 h2.1 (m_Jadd3 hS hI h2 hv2 hs htl hta) rfl (by decide) (Nat.le_of_ble_eq_true rfl) (fun r G1 q => ?_) (fun _ _ h => h.elim)
  obtain ⟨rfl, ea1, q1, q2, q3, q4⟩ := q
  refine y_blk 1 tq_Jx4a65c_add_9ea2d (z := (24, [(0, .ref a), (1, .ref v)], [.int 1])) rfl ?_
  refine y_zret tq_Jx4a65c_add_9ea2d rfl rfl rfl ⟨rfl, ea1, q1, q2, fun e => hne2 _ (q3 e), fun q x hx e1 e2 => ?_⟩
  exact q4 q x (hkp2 q x hx e1) e1 e2
/-- taking the last one off -/
theorem m_JfastRemove (hS : yS l S0 A0 D aC) (h : yLst aC de G tl ta a ea true mc (s + 1) el) (htl : tl ≠ 0) (hta : ta ≠ 0) : yM l S0 D yJx4a65c_fastRemove_b59b0 cJx4a65c_fastRemove_b59b0 4 none 12 0 0 [.ref a, .ref ea, .int (Int32.ofNat s)] G (fun r G1 => r = none ∧ yLst aC de G1 tl ta a ea true (mc + 1) s el ∧ yKp a ea G G1) (fun _ _ => False) := by
  obtain ⟨hl, hb⟩ := h
  rcases hb with ⟨-, h10, hb⟩ | ⟨q, -⟩
  · have hne : a ≠ ea := by
      intro q
      rw [← q, hl] at hb
      cases hb
    refine yM.ofK K_Jx4a65c_fastRemove_b59b0 rfl (by decide) (Nat.le_of_ble_eq_true rfl) ?_
    refine y_blk 2 tq_Jx4a65c_fastRemove_b59b0 (z := (2, [(0, .ref a), (1, .ref ea), (2, .int (Int32.ofNat s))], [.ref a, .ref a])) rfl ?_
    refine y_getS hS tq_Jx4a65c_fastRemove_b59b0 (v := .int mc) rfl fgs_Jx4a65c_63_Jx4a65c hl rfl ?_
    refine y_blk 2 tq_Jx4a65c_fastRemove_b59b0 (z := (7, [(0, .ref a), (1, .ref ea), (2, .int (Int32.ofNat s))], [.int (mc + 1), .ref a])) rfl ?_
    refine y_putS hS tq_Jx4a65c_fastRemove_b59b0 rfl fps_Jx4a65c_63_Jx4a65c hl htl rfl rfl (Nat.le_of_ble_eq_true rfl) ?_
    refine y_blk 1 tq_Jx4a65c_fastRemove_b59b0 (z := (11, [(0, .ref a), (1, .ref ea), (2, .int (Int32.ofNat s))], [.ref a])) rfl ?_
    refine y_get hS tq_Jx4a65c_fastRemove_b59b0 (v := .int (Int32.ofNat (s + 1))) rfl fg_Jx4a65c_48_Jx4a65c (yup_s _ _ _) rfl ?_
    refine y_blk 5 tq_Jx4a65c_fastRemove_b59b0 (z := (19, [(3, .int (Int32.ofNat (s + 1) - 1)), (0, .ref a), (1, .ref ea), (2, .int (Int32.ofNat s))], [.int (Int32.ofNat s), .int (Int32.ofNat (s + 1) - 1)])) rfl ?_
    rw [yofp (by omega)]
    refine y_icmp_le tq_Jx4a65c_fastRemove_b59b0 34 rfl rfl (fun _ => ?_) (fun c => absurd (Int32.le_refl _) c)
    refine y_blk 4 tq_Jx4a65c_fastRemove_b59b0 (z := (38, [(3, .int (Int32.ofNat s)), (0, .ref a), (1, .ref ea), (2, .int (Int32.ofNat s))], [.int (Int32.ofNat s), .ref a, .int (Int32.ofNat s), .ref ea])) rfl ?_
    refine y_put hS tq_Jx4a65c_fastRemove_b59b0 rfl fp_Jx4a65c_48_Jx4a65c (yup_s _ _ _) htl rfl rfl (Nat.le_of_ble_eq_true rfl) ?_
    refine y_blk 1 tq_Jx4a65c_fastRemove_b59b0 (z := (42, [(3, .int (Int32.ofNat s)), (0, .ref a), (1, .ref ea), (2, .int (Int32.ofNat s))], [.null, .int (Int32.ofNat s), .ref ea])) rfl ?_
    refine y_aastN hS tq_Jx4a65c_fastRemove_b59b0 rfl (by rw [yup_n _ hne.symm, yup_n _ hne.symm]; exact hb) hta (yIn (by rw [yofn (by omega)]; omega) (by rw [yofn (by omega)]; omega)) ?_
    refine y_vret tq_Jx4a65c_fastRemove_b59b0 rfl rfl ⟨rfl, ⟨?_, Or.inl ⟨rfl, by omega, ?_⟩⟩, ?_⟩
    · rw [yup_n _ hne, yup_s]
      rfl
    · rw [yup_s, yofc (by omega), yel_rem]
    · intro q x hx q1 q2
      rw [yup_n _ q2, yup_n _ q1, yup_n _ q1]
      exact hx
  · cases q
theorem m_Jremove (hS : yS l S0 A0 D aC) (h : yLst aC de G tl ta a ea true mc (s + 1) el) (htl : tl ≠ 0) (hta : ta ≠ 0) : yM l S0 D yJx4a65c_remove_915e3 cJx4a65c_remove_915e3 4 (some (.object "java/lang/Object")) 13 0 0 [.ref a, .int (Int32.ofNat s)] G (fun r G1 => r = some (.ref (el s)) ∧ yLst aC de G1 tl ta a ea true (mc + 1) s el ∧ yKp a ea G G1) (fun _ _ => False) := by
  have h' := h
  obtain ⟨hl, hb⟩ := h
  rcases hb with ⟨-, h10, hb⟩ | ⟨q, -⟩
  · refine yM.ofK K_Jx4a65c_remove_915e3 rfl (by decide) (Nat.le_of_ble_eq_true rfl) ?_
    refine y_blk 2 tq_Jx4a65c_remove_915e3 (z := (2, [(0, .ref a), (1, .int (Int32.ofNat s))], [.ref a, .int (Int32.ofNat s)])) rfl ?_
    refine y_get hS tq_Jx4a65c_remove_915e3 (v := .int (Int32.ofNat (s + 1))) rfl fg_Jx4a65c_48_Jx4a65c hl rfl ?_
    refine y_callS hS tq_Jx4a65c_remove_915e3 rfl (As := [.int (Int32.ofNat s), .int (Int32.ofNat (s + 1))]) rfl cs_Jx4a65c_118 (m_J15 hS (by rw [ylt, yl_0, yofn (by omega)]; omega) (by rw [ylt, yofn (by omega), yofn (by omega)]; omega)) rfl (by decide) (Nat.le_of_ble_eq_true rfl) (fun r G1 q => ?_) (fun _ _ h => h.elim)
    obtain ⟨rfl, e⟩ := q
    have e := e.symm
    subst e
    refine y_blk 2 tq_Jx4a65c_remove_915e3 (z := (10, [(0, .ref a), (1, .int (Int32.ofNat s))], [.ref a])) rfl ?_
    refine y_get hS tq_Jx4a65c_remove_915e3 (v := .ref ea) rfl fg_Jx4a65c_9_Jx4a65c hl rfl ?_
    refine y_blk 3 tq_Jx4a65c_remove_915e3 (z := (16, [(2, .ref ea), (0, .ref a), (1, .int (Int32.ofNat s))], [.int (Int32.ofNat s), .ref ea])) rfl ?_
    refine y_aald hS tq_Jx4a65c_remove_915e3 rfl hb (yIn (by rw [yofn (by omega)]; omega) (by rw [yofn (by omega)]; omega)) ?_
    rw [yofc (by omega), show yel el (s + 1) s = some (el s) from if_pos (by omega)]
    show Y l S0 D K_Jx4a65c_remove_915e3 13 0 0 _ _ 17 [(2, .ref ea), (0, .ref a), (1, .int (Int32.ofNat s))] [.ref (el s)] G 0 0
    refine y_blk 4 tq_Jx4a65c_remove_915e3 (z := (21, [(3, .ref (el s)), (2, .ref ea), (0, .ref a), (1, .int (Int32.ofNat s))], [.int (Int32.ofNat s), .ref ea, .ref a])) rfl ?_
    refine y_callV hS tq_Jx4a65c_remove_915e3 rfl (As := [.ref ea, .int (Int32.ofNat s)]) rfl cv_Jx4a65c_144 hl (m_JfastRemove hS h' htl hta) rfl (by decide) (Nat.le_of_ble_eq_true rfl) (fun r G1 q => ?_) (fun _ _ h => h.elim)
    obtain ⟨rfl, q1, q2⟩ := q
    refine y_blk 1 tq_Jx4a65c_remove_915e3 (z := (25, [(3, .ref (el s)), (2, .ref ea), (0, .ref a), (1, .int (Int32.ofNat s))], [.ref (el s)])) rfl ?_
    exact y_aret tq_Jx4a65c_remove_915e3 rfl rfl (Or.inl ⟨_, rfl⟩) (Or.inr ⟨_, rfl⟩) ⟨rfl, q1, q2⟩
  · cases q
/-- a new list -/
theorem m_Ainit (hS : yS l S0 A0 D aC) : yM l S0 D yJxa1e45_init_da8c8 cJxa1e45_init_da8c8 1 none 10 0 0 [.ref a] G (fun r G1 => r = none ∧ G1 = G) (fun _ _ => False) := by
  refine yM.ofK K_Jxa1e45_init_da8c8 rfl (by decide) (Nat.le_of_ble_eq_true rfl) ?_
  refine y_blk 1 tq_Jxa1e45_init_da8c8 (z := (1, [(0, .ref a)], [.ref a])) rfl ?_
  refine y_objInit hS tq_Jxa1e45_init_da8c8 rfl ⟨by decide +kernel, by decide +kernel⟩ (by decide) (by decide) ?_
  exact y_vret tq_Jxa1e45_init_da8c8 rfl rfl ⟨rfl, rfl⟩
theorem m_ALinit (hS : yS l S0 A0 D aC) {z : Value} (htl : tl ≠ 0) (h : G a = some (tl, .inr (3, [z, .null, .int 0]))) : yM l S0 D yJxc12de_init_da8c8 cJxc12de_init_da8c8 1 none 11 0 0 [.ref a] G (fun r G1 => r = none ∧ G1 = yup G a (tl, .inr (3, [.int 0, .null, .int 0]))) (fun _ _ => False) := by
  refine yM.ofK K_Jxc12de_init_da8c8 rfl (by decide) (Nat.le_of_ble_eq_true rfl) ?_
  refine y_blk 1 tq_Jxc12de_init_da8c8 (z := (1, [(0, .ref a)], [.ref a])) rfl ?_
  refine y_callI hS tq_Jxc12de_init_da8c8 rfl (As := []) rfl ci_Jxc12de_1 (m_Ainit hS) rfl (by decide) (Nat.le_of_ble_eq_true rfl) (fun r G1 q => ?_) (fun _ _ h => h.elim)
  obtain ⟨rfl, e⟩ := q
  have e := e.symm
  subst e
  refine y_blk 2 tq_Jxc12de_init_da8c8 (z := (6, [(0, .ref a)], [.int 0, .ref a])) rfl ?_
  refine y_put hS tq_Jxc12de_init_da8c8 rfl fp_Jxc12de_7_Jx4a65c h htl rfl rfl (Nat.le_of_ble_eq_true rfl) ?_
  exact y_vret tq_Jxc12de_init_da8c8 rfl rfl ⟨rfl, rfl⟩
theorem m_Jinit (hS : yS l S0 A0 D aC) (hI : yIc S0 ic de) (htl : tl ≠ 0) (h : G a = some (tl, .inr (3, [.int 0, .null, .int 0]))) : yM l S0 D yJx4a65c_init_da8c8 cJx4a65c_init_da8c8 1 none 12 0 0 [.ref a] G (fun r G1 => r = none ∧ G1 = yup G a (tl, .inr (3, [.int 0, .ref de, .int 0]))) (fun _ _ => False) := by
  refine yM.ofK K_Jx4a65c_init_da8c8 rfl (by decide) (Nat.le_of_ble_eq_true rfl) ?_
  refine y_blk 1 tq_Jx4a65c_init_da8c8 (z := (1, [(0, .ref a)], [.ref a])) rfl ?_
  refine y_callI hS tq_Jx4a65c_init_da8c8 rfl (As := []) rfl ci_Jx4a65c_1 (m_ALinit hS htl h) rfl (by decide) (Nat.le_of_ble_eq_true rfl) (fun r G1 q => ?_) (fun _ _ h => h.elim)
  obtain ⟨rfl, e⟩ := q
  subst e
  refine y_blk 1 tq_Jx4a65c_init_da8c8 (z := (5, [(0, .ref a)], [.ref a])) rfl ?_
  refine y_gets hS tq_Jx4a65c_init_da8c8 rfl gs_Jx4a65c_39 hI.2.2.1 ?_
  refine y_put hS tq_Jx4a65c_init_da8c8 rfl fp_Jx4a65c_9_Jx4a65c (yup_s _ _ _) htl rfl rfl (Nat.le_of_ble_eq_true rfl) ?_
  refine y_vret tq_Jx4a65c_init_da8c8 rfl rfl ⟨rfl, ?_⟩
  funext q
  unfold yup
  by_cases e : q = a
  · rw [if_pos e, if_pos e]; rfl
  · rw [if_neg e, if_neg e, if_neg e]
end YLS
