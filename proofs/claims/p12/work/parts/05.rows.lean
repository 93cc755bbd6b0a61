/-! ===== rows of the judgement ===== -/
def yWd (w : Cond) : Prop := w ∈ lw_tbl ∧ goodWord w = true
theorem yWd.use {l : Launch} {S0 s : State} {A0 args : Array Value} {D : va_G} {aC : Nat → ClassId} {w : Cond} (h : yWd w) (hS : yS l S0 A0 D aC) (hW : S0.WarmedH s.vm) : w.before args s = true := word_at hW (good_of_word h.2) (hS.2.1 w h.1)
/-- what is known of the classes' rows -/
def yCl (ci : Nat) (C : String) (T : u_T) (N : Nat) : Prop := vwCl[ci]? = some (C, T, N) ∧ (∀ w ∈ u_ws C T N, yWd w) ∧ (∃ ty : Nat → FieldType, ∀ k, k < N → parseFieldDescriptor (T k).2.2.1 = some (ty k)) ∧ (∀ a, a < N → ∀ b, b < N → a ≠ b → (T a).2.1 ≠ (T b).2.1)
/-- field k of class ci, by entry ix of own -/
def yFL (own : String) (ix ci k : Nat) : Prop := ∃ (C : String) (T : u_T) (N : Nat), yCl ci C T N ∧ k < N ∧ yWd (.fieldLink own ix (T k).1 (T k).2.1 (T k).2.2.1)
/-- .. to be written -/
def yFP (own : String) (ix ci k : Nat) (ty : FieldType) : Prop := ∃ (C : String) (T : u_T) (N : Nat), yCl ci C T N ∧ k < N ∧ (T k).2.2.2 = false ∧ parseFieldDescriptor (T k).2.2.1 = some ty ∧ yWd (.fieldLink own ix (T k).1 (T k).2.1 (T k).2.2.1)
/-- .. final, to be written by its own constructor -/
def yFF (own : String) (ix ci k : Nat) (ty : FieldType) : Prop := ∃ (C : String) (T : u_T) (N : Nat), yCl ci C T N ∧ k < N ∧ (T k).2.2.2 = true ∧ (T k).1 = own ∧ parseFieldDescriptor (T k).2.2.1 = some ty ∧ yWd (.fieldLink own ix (T k).1 (T k).2.1 (T k).2.2.1)
/-- 'new' by entry ix of own: class ci, its fields' first values fs -/
def yNW (own : String) (ix ci n : Nat) (fs : List Value) : Prop := ∃ (C : String) (T : u_T), yCl ci C T n ∧ (∀ (ty : Nat → FieldType), (∀ k, k < n → parseFieldDescriptor (T k).2.2.1 = some (ty k)) → ∀ j, j < n → defaultValue (ty j) = vp_V fs j) ∧ yWd (.classLink own ix C) ∧ yWd (.instantiable C n) ∧ yWd (.initialized C)
/-- a call by entry ix of own of the virtual method y of class ci -/
def yCV (own : String) (ix ci : Nat) (y : MethodName) (cc : ByteArray) (nL : Nat) (ret : Option FieldType) (n : Nat) : Prop := ∃ (C : String) (T : u_T) (N : Nat), yCl ci C T N ∧ yWd (.code y cc nL ret) ∧ yWd (.methodLink own ix y) ∧ yWd (.instanceMethod y) ∧ yWd (.selects C y y) ∧ yWd (.initialized y.cls) ∧ (y.cls ≠ "java/lang/invoke/MethodHandle" ∧ y.cls ≠ "java/lang/invoke/VarHandle" ∧ (parseMethodDescriptor y.desc).map (fun d => d.parameters.length) = some n) ∧ nL ≤ 45
/-- .. of a static one -/
def yCS (own : String) (ix : Nat) (y : MethodName) (cc : ByteArray) (nL : Nat) (ret : Option FieldType) (n : Nat) : Prop := yWd (.code y cc nL ret) ∧ yWd (.methodLink own ix y) ∧ yWd (.static y) ∧ yWd (.initialized y.cls) ∧ (y.cls ≠ "java/lang/invoke/MethodHandle" ∧ y.cls ≠ "java/lang/invoke/VarHandle" ∧ (parseMethodDescriptor y.desc).map (fun d => d.parameters.length) = some n) ∧ nL ≤ 45
/-- .. of a nest mate's private static one -/
def yCSN (own : String) (ix : Nat) (y : MethodName) (host : String) (cc : ByteArray) (nL : Nat) (ret : Option FieldType) (n : Nat) : Prop := yWd (.code y cc nL ret) ∧ Cond.methodLinkNest own ix y host ∈ lw_tbl ∧ yWd (.static y) ∧ yWd (.initialized y.cls) ∧ (y.cls ≠ "java/lang/invoke/MethodHandle" ∧ y.cls ≠ "java/lang/invoke/VarHandle" ∧ (parseMethodDescriptor y.desc).map (fun d => d.parameters.length) = some n) ∧ nL ≤ 45
/-- .. of a constructor -/
def yCI (own : String) (ix : Nat) (y : MethodName) (cc : ByteArray) (nL : Nat) (n : Nat) : Prop := yWd (.code y cc nL none) ∧ yWd (.methodLink own ix y) ∧ yWd (.instanceMethod y) ∧ yWd (.initialized y.cls) ∧ (y.cls ≠ "java/lang/invoke/MethodHandle" ∧ y.cls ≠ "java/lang/invoke/VarHandle" ∧ (parseMethodDescriptor y.desc).map (fun d => d.parameters.length) = some n) ∧ y.name = "<init>" ∧ nL ≤ 45
def yCIN (own : String) (ix : Nat) (y : MethodName) (host : String) (cc : ByteArray) (nL : Nat) (n : Nat) : Prop := yWd (.code y cc nL none) ∧ Cond.methodLinkNest own ix y host ∈ lw_tbl ∧ yWd (.instanceMethod y) ∧ yWd (.initialized y.cls) ∧ (y.cls ≠ "java/lang/invoke/MethodHandle" ∧ y.cls ≠ "java/lang/invoke/VarHandle" ∧ (parseMethodDescriptor y.desc).map (fun d => d.parameters.length) = some n) ∧ y.name = "<init>" ∧ nL ≤ 45
theorem yH.P1 {S0 : State} {D : va_G} {G : AH} {H : Heap} (h : yH S0 D G H) {a t : Nat} {e : va_E} (hG : G a = some (t, e)) : va_P D vwCl [(a, e)] H := by
  intro k q hk
  cases k with
  | zero => cases hk; exact (h.2.2 a t e hG).1
  | succ k => simp at hk
theorem yS.K {l : Launch} {S0 s : State} {A0 : Array Value} {D : va_G} {aC : Nat → ClassId} (hS : yS l S0 A0 D aC) (hW : S0.WarmedH s.vm) : va_K D vwCl (yty aC) s := va_K.moved hW.alike hS.2.2.1
section YR
variable {l : Launch} {S0 : State} {A0 : Array Value} {D : va_G} {aC : Nat → ClassId} {K : yK} {d mc ms : Nat} {Q : Option Value → AH → Prop} {X : String → AH → Prop} {T : yT}
variable {pc kc ks : Nat} {L : yL} {rest : List Value} {G : AH}
theorem y_icmp_eq (hT : yTok K.cc T) {x y : Int32} {off : Int} (tgt : Nat) (ht : yat pc T = some (.if_icmp .eq off, 3)) (hg : (pc : Int) + off = (tgt : Int)) (kt : x = y → Y l S0 D K d mc ms Q X tgt L rest G kc ks) (kf : ¬ x = y → Y l S0 D K d mc ms Q X (pc + 3) L rest G kc ks) : Y l S0 D K d mc ms Q X pc L (.int y :: .int x :: rest) G kc ks := by
  intro p e s m args below meth c H locs cells slots ls F hl hG hz hL hc hs
  exact lv_icmp_eq F.1 F.2.1 (yat_ok hT ht) hg (fun q => kt q p e s m args below meth c H locs cells slots ls F hl hG hz hL hc hs) (fun q => kf q p e s m args below meth c H locs cells slots ls F hl hG hz hL hc hs)
theorem y_if_eq (hT : yTok K.cc T) {x : Int32} {off : Int} (tgt : Nat) (ht : yat pc T = some (.ifCond .eq off, 3)) (hg : (pc : Int) + off = (tgt : Int)) (kt : x = 0 → Y l S0 D K d mc ms Q X tgt L rest G kc ks) (kf : ¬ x = 0 → Y l S0 D K d mc ms Q X (pc + 3) L rest G kc ks) : Y l S0 D K d mc ms Q X pc L (.int x :: rest) G kc ks := by
  intro p e s m args below meth c H locs cells slots ls F hl hG hz hL hc hs
  exact lv_if_eq F.1 F.2.1 (yat_ok hT ht) hg (fun q => kt q p e s m args below meth c H locs cells slots ls F hl hG hz hL hc hs) (fun q => kf q p e s m args below meth c H locs cells slots ls F hl hG hz hL hc hs)
theorem y_icmp_ne (hT : yTok K.cc T) {x y : Int32} {off : Int} (tgt : Nat) (ht : yat pc T = some (.if_icmp .ne off, 3)) (hg : (pc : Int) + off = (tgt : Int)) (kt : ¬ x = y → Y l S0 D K d mc ms Q X tgt L rest G kc ks) (kf : x = y → Y l S0 D K d mc ms Q X (pc + 3) L rest G kc ks) : Y l S0 D K d mc ms Q X pc L (.int y :: .int x :: rest) G kc ks := by
  intro p e s m args below meth c H locs cells slots ls F hl hG hz hL hc hs
  exact lv_icmp_ne F.1 F.2.1 (yat_ok hT ht) hg (fun q => kt q p e s m args below meth c H locs cells slots ls F hl hG hz hL hc hs) (fun q => kf q p e s m args below meth c H locs cells slots ls F hl hG hz hL hc hs)
theorem y_if_ne (hT : yTok K.cc T) {x : Int32} {off : Int} (tgt : Nat) (ht : yat pc T = some (.ifCond .ne off, 3)) (hg : (pc : Int) + off = (tgt : Int)) (kt : ¬ x = 0 → Y l S0 D K d mc ms Q X tgt L rest G kc ks) (kf : x = 0 → Y l S0 D K d mc ms Q X (pc + 3) L rest G kc ks) : Y l S0 D K d mc ms Q X pc L (.int x :: rest) G kc ks := by
  intro p e s m args below meth c H locs cells slots ls F hl hG hz hL hc hs
  exact lv_if_ne F.1 F.2.1 (yat_ok hT ht) hg (fun q => kt q p e s m args below meth c H locs cells slots ls F hl hG hz hL hc hs) (fun q => kf q p e s m args below meth c H locs cells slots ls F hl hG hz hL hc hs)
theorem y_icmp_lt (hT : yTok K.cc T) {x y : Int32} {off : Int} (tgt : Nat) (ht : yat pc T = some (.if_icmp .lt off, 3)) (hg : (pc : Int) + off = (tgt : Int)) (kt : x < y → Y l S0 D K d mc ms Q X tgt L rest G kc ks) (kf : ¬ x < y → Y l S0 D K d mc ms Q X (pc + 3) L rest G kc ks) : Y l S0 D K d mc ms Q X pc L (.int y :: .int x :: rest) G kc ks := by
  intro p e s m args below meth c H locs cells slots ls F hl hG hz hL hc hs
  exact lv_icmp_lt F.1 F.2.1 (yat_ok hT ht) hg (fun q => kt q p e s m args below meth c H locs cells slots ls F hl hG hz hL hc hs) (fun q => kf q p e s m args below meth c H locs cells slots ls F hl hG hz hL hc hs)
theorem y_if_lt (hT : yTok K.cc T) {x : Int32} {off : Int} (tgt : Nat) (ht : yat pc T = some (.ifCond .lt off, 3)) (hg : (pc : Int) + off = (tgt : Int)) (kt : x < 0 → Y l S0 D K d mc ms Q X tgt L rest G kc ks) (kf : ¬ x < 0 → Y l S0 D K d mc ms Q X (pc + 3) L rest G kc ks) : Y l S0 D K d mc ms Q X pc L (.int x :: rest) G kc ks := by
  intro p e s m args below meth c H locs cells slots ls F hl hG hz hL hc hs
  exact lv_if_lt F.1 F.2.1 (yat_ok hT ht) hg (fun q => kt q p e s m args below meth c H locs cells slots ls F hl hG hz hL hc hs) (fun q => kf q p e s m args below meth c H locs cells slots ls F hl hG hz hL hc hs)
theorem y_icmp_ge (hT : yTok K.cc T) {x y : Int32} {off : Int} (tgt : Nat) (ht : yat pc T = some (.if_icmp .ge off, 3)) (hg : (pc : Int) + off = (tgt : Int)) (kt : y ≤ x → Y l S0 D K d mc ms Q X tgt L rest G kc ks) (kf : ¬ y ≤ x → Y l S0 D K d mc ms Q X (pc + 3) L rest G kc ks) : Y l S0 D K d mc ms Q X pc L (.int y :: .int x :: rest) G kc ks := by
  intro p e s m args below meth c H locs cells slots ls F hl hG hz hL hc hs
  exact lv_icmp_ge F.1 F.2.1 (yat_ok hT ht) hg (fun q => kt q p e s m args below meth c H locs cells slots ls F hl hG hz hL hc hs) (fun q => kf q p e s m args below meth c H locs cells slots ls F hl hG hz hL hc hs)
theorem y_if_ge (hT : yTok K.cc T) {x : Int32} {off : Int} (tgt : Nat) (ht : yat pc T = some (.ifCond .ge off, 3)) (hg : (pc : Int) + off = (tgt : Int)) (kt : 0 ≤ x → Y l S0 D K d mc ms Q X tgt L rest G kc ks) (kf : ¬ 0 ≤ x → Y l S0 D K d mc ms Q X (pc + 3) L rest G kc ks) : Y l S0 D K d mc ms Q X pc L (.int x :: rest) G kc ks := by
  intro p e s m args below meth c H locs cells slots ls F hl hG hz hL hc hs
  exact lv_if_ge F.1 F.2.1 (yat_ok hT ht) hg (fun q => kt q p e s m args below meth c H locs cells slots ls F hl hG hz hL hc hs) (fun q => kf q p e s m args below meth c H locs cells slots ls F hl hG hz hL hc hs)
theorem y_icmp_gt (hT : yTok K.cc T) {x y : Int32} {off : Int} (tgt : Nat) (ht : yat pc T = some (.if_icmp .gt off, 3)) (hg : (pc : Int) + off = (tgt : Int)) (kt : y < x → Y l S0 D K d mc ms Q X tgt L rest G kc ks) (kf : ¬ y < x → Y l S0 D K d mc ms Q X (pc + 3) L rest G kc ks) : Y l S0 D K d mc ms Q X pc L (.int y :: .int x :: rest) G kc ks := by
  intro p e s m args below meth c H locs cells slots ls F hl hG hz hL hc hs
  exact lv_icmp_gt F.1 F.2.1 (yat_ok hT ht) hg (fun q => kt q p e s m args below meth c H locs cells slots ls F hl hG hz hL hc hs) (fun q => kf q p e s m args below meth c H locs cells slots ls F hl hG hz hL hc hs)
theorem y_if_gt (hT : yTok K.cc T) {x : Int32} {off : Int} (tgt : Nat) (ht : yat pc T = some (.ifCond .gt off, 3)) (hg : (pc : Int) + off = (tgt : Int)) (kt : 0 < x → Y l S0 D K d mc ms Q X tgt L rest G kc ks) (kf : ¬ 0 < x → Y l S0 D K d mc ms Q X (pc + 3) L rest G kc ks) : Y l S0 D K d mc ms Q X pc L (.int x :: rest) G kc ks := by
  intro p e s m args below meth c H locs cells slots ls F hl hG hz hL hc hs
  exact lv_if_gt F.1 F.2.1 (yat_ok hT ht) hg (fun q => kt q p e s m args below meth c H locs cells slots ls F hl hG hz hL hc hs) (fun q => kf q p e s m args below meth c H locs cells slots ls F hl hG hz hL hc hs)
theorem y_icmp_le (hT : yTok K.cc T) {x y : Int32} {off : Int} (tgt : Nat) (ht : yat pc T = some (.if_icmp .le off, 3)) (hg : (pc : Int) + off = (tgt : Int)) (kt : x ≤ y → Y l S0 D K d mc ms Q X tgt L rest G kc ks) (kf : ¬ x ≤ y → Y l S0 D K d mc ms Q X (pc + 3) L rest G kc ks) : Y l S0 D K d mc ms Q X pc L (.int y :: .int x :: rest) G kc ks := by
  intro p e s m args below meth c H locs cells slots ls F hl hG hz hL hc hs
  exact lv_icmp_le F.1 F.2.1 (yat_ok hT ht) hg (fun q => kt q p e s m args below meth c H locs cells slots ls F hl hG hz hL hc hs) (fun q => kf q p e s m args below meth c H locs cells slots ls F hl hG hz hL hc hs)
theorem y_if_le (hT : yTok K.cc T) {x : Int32} {off : Int} (tgt : Nat) (ht : yat pc T = some (.ifCond .le off, 3)) (hg : (pc : Int) + off = (tgt : Int)) (kt : x ≤ 0 → Y l S0 D K d mc ms Q X tgt L rest G kc ks) (kf : ¬ x ≤ 0 → Y l S0 D K d mc ms Q X (pc + 3) L rest G kc ks) : Y l S0 D K d mc ms Q X pc L (.int x :: rest) G kc ks := by
  intro p e s m args below meth c H locs cells slots ls F hl hG hz hL hc hs
  exact lv_if_le F.1 F.2.1 (yat_ok hT ht) hg (fun q => kt q p e s m args below meth c H locs cells slots ls F hl hG hz hL hc hs) (fun q => kf q p e s m args below meth c H locs cells slots ls F hl hG hz hL hc hs)
theorem y_ifnonnull (hT : yTok K.cc T) {x : Nat} {off : Int} (tgt : Nat) (ht : yat pc T = some (.ifnonnull off, 3)) (hg : (pc : Int) + off = (tgt : Int)) (k : Y l S0 D K d mc ms Q X tgt L rest G kc ks) : Y l S0 D K d mc ms Q X pc L (.ref x :: rest) G kc ks := by
  intro p e s m args below meth c H locs cells slots ls F hl hG hz hL hc hs
  exact lv_ifnonnull F.1 F.2.1 (yat_ok hT ht) hg (k p e s m args below meth c H locs cells slots ls F hl hG hz hL hc hs)
theorem y_ifnullN (hT : yTok K.cc T) {off : Int} (tgt : Nat) (ht : yat pc T = some (.ifnull off, 3)) (hg : (pc : Int) + off = (tgt : Int)) (k : Y l S0 D K d mc ms Q X tgt L rest G kc ks) : Y l S0 D K d mc ms Q X pc L (.null :: rest) G kc ks := by
  intro p e s m args below meth c H locs cells slots ls F hl hG hz hL hc hs
  exact lv_ifnullN F.1 F.2.1 (yat_ok hT ht) hg (k p e s m args below meth c H locs cells slots ls F hl hG hz hL hc hs)
theorem y_ifnull (hT : yTok K.cc T) {x : Nat} {off : Int} (ht : yat pc T = some (.ifnull off, 3)) (k : Y l S0 D K d mc ms Q X (pc + 3) L rest G kc ks) : Y l S0 D K d mc ms Q X pc L (.ref x :: rest) G kc ks := by
  intro p e s m args below meth c H locs cells slots ls F hl hG hz hL hc hs
  exact lv_ifnull F.1 F.2.1 (yat_ok hT ht) (k p e s m args below meth c H locs cells slots ls F hl hG hz hL hc hs)
theorem y_ifnonnullN (hT : yTok K.cc T) {off : Int} (ht : yat pc T = some (.ifnonnull off, 3)) (k : Y l S0 D K d mc ms Q X (pc + 3) L rest G kc ks) : Y l S0 D K d mc ms Q X pc L (.null :: rest) G kc ks := by
  intro p e s m args below meth c H locs cells slots ls F hl hG hz hL hc hs
  exact lv_ifnonnullN F.1 F.2.1 (yat_ok hT ht) (k p e s m args below meth c H locs cells slots ls F hl hG hz hL hc hs)
theorem y_swIn (hT : yTok K.cc T) {dflt lo hi : Int} {offs : Array Int} {len : Nat} {x : Int32} {off : Int} (tgt : Nat) (ht : yat pc T = some (.tableswitch dflt lo hi offs, len)) (h1 : ¬ x.toInt < lo) (h2 : ¬ hi < x.toInt) (ho : offs[(x.toInt - lo).toNat]? = some off) (hg : (pc : Int) + off = (tgt : Int)) (k : Y l S0 D K d mc ms Q X tgt L rest G kc ks) : Y l S0 D K d mc ms Q X pc L (.int x :: rest) G kc ks := by
  intro p e s m args below meth c H locs cells slots ls F hl hG hz hL hc hs
  exact lv_tableIn F.1 F.2.1 (yat_ok hT ht) h1 h2 ho hg (k p e s m args below meth c H locs cells slots ls F hl hG hz hL hc hs)
theorem y_swOut (hT : yTok K.cc T) {dflt lo hi : Int} {offs : Array Int} {len : Nat} {x : Int32} (tgt : Nat) (ht : yat pc T = some (.tableswitch dflt lo hi offs, len)) (h1 : x.toInt < lo ∨ hi < x.toInt) (hg : (pc : Int) + dflt = (tgt : Int)) (k : Y l S0 D K d mc ms Q X tgt L rest G kc ks) : Y l S0 D K d mc ms Q X pc L (.int x :: rest) G kc ks := by
  intro p e s m args below meth c H locs cells slots ls F hl hG hz hL hc hs
  exact lv_tableOut F.1 F.2.1 (yat_ok hT ht) h1 hg (k p e s m args below meth c H locs cells slots ls F hl hG hz hL hc hs)
theorem y_idiv (hT : yTok K.cc T) {x y : Int32} (ht : yat pc T = some (.idiv, 1)) (hne : ¬ y = 0) (k : Y l S0 D K d mc ms Q X (pc + 1) L (.int (x / y) :: rest) G kc ks) : Y l S0 D K d mc ms Q X pc L (.int y :: .int x :: rest) G kc ks := by
  intro p e s m args below meth c H locs cells slots ls F hl hG hz hL hc hs
  exact lv_idiv F.1 F.2.1 (yat_ok hT ht) hne (k p e s m args below meth c H locs cells slots ls F hl hG hz hL hc hs)
theorem y_irem (hT : yTok K.cc T) {x y : Int32} (ht : yat pc T = some (.irem, 1)) (hne : ¬ y = 0) (k : Y l S0 D K d mc ms Q X (pc + 1) L (.int (x - x / y * y) :: rest) G kc ks) : Y l S0 D K d mc ms Q X pc L (.int y :: .int x :: rest) G kc ks := by
  intro p e s m args below meth c H locs cells slots ls F hl hG hz hL hc hs
  exact lv_irem F.1 F.2.1 (yat_ok hT ht) hne (k p e s m args below meth c H locs cells slots ls F hl hG hz hL hc hs)
theorem y_ldc2 (hS : yS l S0 A0 D aC) (hT : yTok K.cc T) {ix : Nat} {v : Int64} (ht : yat pc T = some (.ldc2_w ix, 3)) (hw : yWd (.constantLong K.own ix v)) (k : Y l S0 D K d mc ms Q X (pc + 3) L (.long v :: rest) G kc ks) : Y l S0 D K d mc ms Q X pc L rest G kc ks := by
  intro p e s m args below meth c H locs cells slots ls F hl hG hz hL hc hs
  exact lv_ldc2 F.1 F.2.1 F.2.2.2.1 (hw.use hS F.2.2.2.2.2.2.2.2.1) (yat_ok hT ht) (k p e s m args below meth c H locs cells slots ls F hl hG hz hL hc hs)
theorem y_ldc (hS : yS l S0 A0 D aC) (hT : yTok K.cc T) {ix : Nat} {v : Int32} (ht : yat pc T = some (.ldc ix, 2)) (hw : yWd (.constant K.own ix v)) (k : Y l S0 D K d mc ms Q X (pc + 2) L (.int v :: rest) G kc ks) : Y l S0 D K d mc ms Q X pc L rest G kc ks := by
  intro p e s m args below meth c H locs cells slots ls F hl hG hz hL hc hs
  exact lv_ldc F.1 F.2.1 F.2.2.2.1 (hw.use hS F.2.2.2.2.2.2.2.2.1) (yat_ok hT ht) (k p e s m args below meth c H locs cells slots ls F hl hG hz hL hc hs)
theorem y_get (hS : yS l S0 A0 D aC) (hT : yTok K.cc T) {ix ci k a t : Nat} {fs : List Value} {v : Value} (ht : yat pc T = some (.getfield ix, 3)) (hf : yFL K.own ix ci k) (hg : G a = some (t, .inr (ci, fs))) (hv : fs[k]? = some v) (kk : Y l S0 D K d mc ms Q X (pc + 3) L (v :: rest) G kc ks) : Y l S0 D K d mc ms Q X pc L (.ref a :: rest) G kc ks := by
  intro p e s m args below meth c H locs cells slots ls F hl hG hz hL hc hs
  obtain ⟨C, T9, N, hcl, hk, hw⟩ := hf
  exact va_get (D := D) (cl := vwCl) (ws := [(a, .inr (ci, fs))]) F.1 F.2.1 (Ts := u_ws C T9 N) (fun w9 h9 => (hcl.2.1 w9 h9).use hS F.2.2.2.2.2.2.2.2.1) (fun w9 h9 => h9) F.2.2.2.1 (hS.K F.2.2.2.2.2.2.2.2.1) (hG.P1 hg) 0 rfl hcl.1 k hk (hw.use hS F.2.2.2.2.2.2.2.2.1) (fun x h => h) hv (yat_ok hT ht) (kk p e s m args below meth c H locs cells slots ls F hl hG hz hL hc hs)
theorem y_put (hS : yS l S0 A0 D aC) (hT : yTok K.cc T) {ix ci k a t : Nat} {fs : List Value} {v : Value} {ty : FieldType} (ht : yat pc T = some (.putfield ix, 3)) (hf : yFP K.own ix ci k ty) (hg : G a = some (t, .inr (ci, fs))) (h0 : t ≠ 0) (hn : narrow ty v = v) (hfit : fits ty v = true) (hkl : k < fs.length) (kk : Y l S0 D K d mc ms Q X (pc + 3) L rest (yup G a (t, .inr (ci, fs.set k v))) kc ks) : Y l S0 D K d mc ms Q X pc L (v :: .ref a :: rest) G kc ks := by
  intro p e s m args below meth c H locs cells slots ls F hl hG hz hL hc hs
  obtain ⟨C, T9, N, hcl, hk, hfin, hd, hw⟩ := hf
  have hcl1 := hcl.1
  obtain ⟨ty0, hty⟩ := hcl.2.2.1
  have hts : ∀ w ∈ u_ws C T9 N, w.before args s = true := fun w9 h9 => (hcl.2.1 w9 h9).use hS F.2.2.2.2.2.2.2.2.1
  have hK := hS.K F.2.2.2.2.2.2.2.2.1
  have hap := va_apart (own := K.own) hts (fun w9 h9 => h9) ty0 hty hcl.2.2.2 hK hcl.1
  obtain ⟨r, h1, cell, q1, q2, q3, q4⟩ := (hG.2.2 a t _ hg).1
  have hr : r = (C, T9, N) := Option.some.inj (h1.symm.trans hcl.1)
  subst hr
  obtain ⟨hSl, hfc, kC, hkC, hkind⟩ := hK.1 ci _ hcl.1
  obtain ⟨cf, kf, fi, f, hi, hsl⟩ := hSl k hk
  have hlay := hts _ (u_in_lay hk)
  unfold u_lay at hlay
  rw [if_neg (by rw [hfin]; decide)] at hlay
  have hst := (u_facts hfc hkC (u_lays hts (fun w9 h9 => h9) hk) hi).1
  have h6 := u_store hfc hkC hkind hlay hi hd hn hfit
  have ha := (hG.2.2 a t _ hg).2 h0
  refine W.putK F.1 F.2.1 (f := f) ⟨F.2.2.2.1, hw.use hS F.2.2.2.2.2.2.2.2.1, ⟨_, _, _, hi⟩, hst⟩ (by rw [q2]; exact h6) q1 q3 (by rw [hsl]; exact k2_hasslot (q4 k hk)) rfl rfl (yat_ok hT ht) fun H1 e1 e2 e3 => ?_
  rw [hsl] at e1 ⊢
  refine kk p e s m args below meth c H1 _ cells slots ls F hl (hG.put hg h0 ⟨_, hcl1, t_OB.to (V := updV (vp_V fs) k v) ⟨_, e1, q2, q3, t_set q4 hap hk v⟩ (fun j _ => vp_updV_set hkl v j)⟩ e2 e3) (by omega) (fun q hq => ?_) hc hs
  rcases List.mem_append.mp hq with h | h
  · exact hL q h
  · rw [List.mem_singleton.mp h]; exact ha
theorem y_putF (hS : yS l S0 A0 D aC) (hT : yTok K.cc T) {ix ci k a t : Nat} {fs : List Value} {v : Value} {ty : FieldType} (ht : yat pc T = some (.putfield ix, 3)) (hf : yFF K.own ix ci k ty) (hin : K.nm = "<init>") (hg : G a = some (t, .inr (ci, fs))) (h0 : t ≠ 0) (hn : narrow ty v = v) (hfit : fits ty v = true) (hkl : k < fs.length) (kk : Y l S0 D K d mc ms Q X (pc + 3) L rest (yup G a (t, .inr (ci, fs.set k v))) kc ks) : Y l S0 D K d mc ms Q X pc L (v :: .ref a :: rest) G kc ks := by
  intro p e s m args below meth c H locs cells slots ls F hl hG hz hL hc hs
  obtain ⟨C, T9, N, hcl, hk, hfin, hdecl, hd, hw⟩ := hf
  have hcl1 := hcl.1
  obtain ⟨ty0, hty⟩ := hcl.2.2.1
  have hts : ∀ w ∈ u_ws C T9 N, w.before args s = true := fun w9 h9 => (hcl.2.1 w9 h9).use hS F.2.2.2.2.2.2.2.2.1
  have hK := hS.K F.2.2.2.2.2.2.2.2.1
  have hap := va_apart (own := K.own) hts (fun w9 h9 => h9) ty0 hty hcl.2.2.2 hK hcl.1
  obtain ⟨r, h1, cell, q1, q2, q3, q4⟩ := (hG.2.2 a t _ hg).1
  have hr : r = (C, T9, N) := Option.some.inj (h1.symm.trans hcl.1)
  subst hr
  obtain ⟨hSl, hfc, kC, hkC, hkind⟩ := hK.1 ci _ hcl.1
  obtain ⟨cf, kf, fi, f, hi, hsl⟩ := hSl k hk
  have hlay := hts _ (u_in_lay hk)
  unfold u_lay at hlay
  rw [if_pos hfin] at hlay
  have hst := (u_facts hfc hkC (u_lays hts (fun w9 h9 => h9) hk) hi).1
  have hcf : m.cls = cf := by
    obtain ⟨_, _, c9, _, _, _, -, -, hf9, -, -, -, hown2, -⟩ := Cond.laysFinal_spec hlay
    have e1 : c9 = cf := by have := hi.symm.trans hf9; simp at this; exact this.1.symm
    rw [hdecl] at hown2
    rw [← e1]; exact Option.some.inj (F.2.2.2.1.symm.trans hown2)
  have h6 := u_fits hfc hkC hkind (Or.inr hlay) hi hd hn hfit
  have ha := (hG.2.2 a t _ hg).2 h0
  have hnm : meth.name = "<init>" := F.2.2.2.2.2.2.1.trans hin
  refine W.putFinK F.1 F.2.1 F.2.2.2.1 (hw.use hS F.2.2.2.2.2.2.2.2.1) hi hst hcf hnm (by rw [q2]; exact h6) q1 q3 (by rw [hsl]; exact k2_hasslot (q4 k hk)) rfl rfl (yat_ok hT ht) fun H1 e1 e2 e3 => ?_
  rw [hsl] at e1 ⊢
  refine kk p e s m args below meth c H1 _ cells slots ls F hl (hG.put hg h0 ⟨_, hcl1, t_OB.to (V := updV (vp_V fs) k v) ⟨_, e1, q2, q3, t_set q4 hap hk v⟩ (fun j _ => vp_updV_set hkl v j)⟩ e2 e3) (by omega) (fun q hq => ?_) hc hs
  rcases List.mem_append.mp hq with h | h
  · exact hL q h
  · rw [List.mem_singleton.mp h]; exact ha
theorem y_iald (hS : yS l S0 A0 D aC) (hT : yTok K.cc T) {a t n : Nat} {f : Nat → Int32} {i : Int32} (ht : yat pc T = some (.iaload, 1)) (hg : G a = some (t, .inl (aC 0, n, .inl f))) (hi : vp_in i n) (kk : Y l S0 D K d mc ms Q X (pc + 1) L (.int (f i.toNatClampNeg) :: rest) G kc ks) : Y l S0 D K d mc ms Q X pc L (.int i :: .ref a :: rest) G kc ks := by
  intro p e s m args below meth c H locs cells slots ls F hl hG hz hL hc hs
  exact va_iald (D := D) (cl := vwCl) (ws := [(a, .inl (aC 0, n, .inl f))]) F.1 F.2.1 (hS.K F.2.2.2.2.2.2.2.2.1) (hG.P1 hg) 0 0 rfl rfl hi (yat_ok hT ht) (kk p e s m args below meth c H locs cells slots ls F hl hG hz hL hc hs)
theorem y_lald (hS : yS l S0 A0 D aC) (hT : yTok K.cc T) {a t n : Nat} {f : Nat → Int64} {i : Int32} (ht : yat pc T = some (.laload, 1)) (hg : G a = some (t, .inl (aC 1, n, .inr (.inl f)))) (hi : vp_in i n) (kk : Y l S0 D K d mc ms Q X (pc + 1) L (.long (f i.toNatClampNeg) :: rest) G kc ks) : Y l S0 D K d mc ms Q X pc L (.int i :: .ref a :: rest) G kc ks := by
  intro p e s m args below meth c H locs cells slots ls F hl hG hz hL hc hs
  exact va_lald (D := D) (cl := vwCl) (ws := [(a, .inl (aC 1, n, .inr (.inl f)))]) F.1 F.2.1 (hS.K F.2.2.2.2.2.2.2.2.1) (hG.P1 hg) 0 1 rfl rfl hi (yat_ok hT ht) (kk p e s m args below meth c H locs cells slots ls F hl hG hz hL hc hs)
theorem y_zald (hS : yS l S0 A0 D aC) (hT : yTok K.cc T) {a t n : Nat} {f : Nat → Int32} {i : Int32} (ht : yat pc T = some (.baload, 1)) (hg : G a = some (t, .inl (aC 2, n, .inl f))) (hi : vp_in i n) (kk : Y l S0 D K d mc ms Q X (pc + 1) L (.int (f i.toNatClampNeg) :: rest) G kc ks) : Y l S0 D K d mc ms Q X pc L (.int i :: .ref a :: rest) G kc ks := by
  intro p e s m args below meth c H locs cells slots ls F hl hG hz hL hc hs
  exact va_zald (D := D) (cl := vwCl) (ws := [(a, .inl (aC 2, n, .inl f))]) F.1 F.2.1 (hS.K F.2.2.2.2.2.2.2.2.1) (hG.P1 hg) 0 2 rfl rfl hi (yat_ok hT ht) (kk p e s m args below meth c H locs cells slots ls F hl hG hz hL hc hs)
theorem y_bald (hS : yS l S0 A0 D aC) (hT : yTok K.cc T) {a t n : Nat} {f : Nat → Int32} {i : Int32} (ht : yat pc T = some (.baload, 1)) (hg : G a = some (t, .inl (aC 3, n, .inl f))) (hi : vp_in i n) (kk : Y l S0 D K d mc ms Q X (pc + 1) L (.int (f i.toNatClampNeg) :: rest) G kc ks) : Y l S0 D K d mc ms Q X pc L (.int i :: .ref a :: rest) G kc ks := by
  intro p e s m args below meth c H locs cells slots ls F hl hG hz hL hc hs
  exact va_bald (D := D) (cl := vwCl) (ws := [(a, .inl (aC 3, n, .inl f))]) F.1 F.2.1 (hS.K F.2.2.2.2.2.2.2.2.1) (hG.P1 hg) 0 3 rfl rfl hi (yat_ok hT ht) (kk p e s m args below meth c H locs cells slots ls F hl hG hz hL hc hs)
theorem y_aald (hS : yS l S0 A0 D aC) (hT : yTok K.cc T) {a t n : Nat} {f : Nat → Option Nat} {i : Int32} (ht : yat pc T = some (.aaload, 1)) (hg : G a = some (t, .inl (aC 4, n, .inr (.inr (.inr (.inr f)))))) (hi : vp_in i n) (kk : Y l S0 D K d mc ms Q X (pc + 1) L (va_rf (f i.toNatClampNeg) :: rest) G kc ks) : Y l S0 D K d mc ms Q X pc L (.int i :: .ref a :: rest) G kc ks := by
  intro p e s m args below meth c H locs cells slots ls F hl hG hz hL hc hs
  exact va_aldq (D := D) (cl := vwCl) (ws := [(a, .inl (aC 4, n, .inr (.inr (.inr (.inr f)))))]) F.1 F.2.1 (hS.K F.2.2.2.2.2.2.2.2.1) (hG.P1 hg) 0 4 rfl rfl hi (yat_ok hT ht) (kk p e s m args below meth c H locs cells slots ls F hl hG hz hL hc hs)
theorem y_alen (hS : yS l S0 A0 D aC) (hT : yTok K.cc T) {a t : Nat} {x : vp_A} (j : Nat) {ty : FieldType} (hj : (yty aC)[j]? = some (aC j, ty)) (ht : yat pc T = some (.arraylength, 1)) (hg : G a = some (t, .inl (aC j, x))) (kk : Y l S0 D K d mc ms Q X (pc + 1) L (.int (Int32.ofNat x.1) :: rest) G kc ks) : Y l S0 D K d mc ms Q X pc L (.ref a :: rest) G kc ks := by
  intro p e s m args below meth c H locs cells slots ls F hl hG hz hL hc hs
  exact va_alen (D := D) (cl := vwCl) (ws := [(a, .inl (aC j, x))]) F.1 F.2.1 (hS.K F.2.2.2.2.2.2.2.2.1) (hG.P1 hg) 0 j rfl hj rfl (yat_ok hT ht) (kk p e s m args below meth c H locs cells slots ls F hl hG hz hL hc hs)
theorem y_iast (hS : yS l S0 A0 D aC) (hT : yTok K.cc T) {a t n : Nat} {f : Nat → Int32} {i : Int32} {x : Int32} (ht : yat pc T = some (.iastore, 1)) (hg : G a = some (t, .inl (aC 0, n, .inl (f)))) (h0 : t ≠ 0) (hi : vp_in i n) (kk : Y l S0 D K d mc ms Q X (pc + 1) L rest (yup G a (t, .inl (aC 0, n, .inl (upd f i.toNatClampNeg x)))) kc ks) : Y l S0 D K d mc ms Q X pc L (.int x :: .int i :: .ref a :: rest) G kc ks := by
  intro p e s m args below meth c H locs cells slots ls F hl hG hz hL hc hs
  have hK := hS.K F.2.2.2.2.2.2.2.2.1
  have ha := (hG.2.2 a t _ hg).2 h0
  have h1 : H[a]? = some (vp_cell (aC 0) (n, .inl (f))) := (hG.2.2 a t _ hg).1
  refine W.iast F.1 F.2.1 h1 ((hK.2 0 _ rfl).1 n (fun j => .int (f j))) (fun q => by cases q) (by show ¬ (i < 0 ∨ (arrV _ _ _).slots.size ≤ _); rw [arrV_size]; exact hi) rfl rfl (yat_ok hT ht) fun H1 e1 z oq => ?_
  refine kk p e s m args below meth c H1 _ cells slots ls F hl (hG.put hg h0 ?_ z oq) (by omega) (fun q hq => ?_) hc hs
  · show H1[a]? = some (vp_cell _ _)
    rw [e1]
    rw [vp_cell_i, vp_cell_i, arrV_store]
    congr 2
    funext q
    by_cases hq : q = i.toNatClampNeg
    · subst hq
      simp [updV, upd]
      try rfl
    · simp [updV, upd, hq]
  · rcases List.mem_append.mp hq with h | h
    · exact hL q h
    · rw [List.mem_singleton.mp h]; exact ha
theorem y_last (hS : yS l S0 A0 D aC) (hT : yTok K.cc T) {a t n : Nat} {f : Nat → Int64} {i : Int32} {x : Int64} (ht : yat pc T = some (.lastore, 1)) (hg : G a = some (t, .inl (aC 1, n, .inr (.inl (f))))) (h0 : t ≠ 0) (hi : vp_in i n) (kk : Y l S0 D K d mc ms Q X (pc + 1) L rest (yup G a (t, .inl (aC 1, n, .inr (.inl (vp_updL f i.toNatClampNeg x))))) kc ks) : Y l S0 D K d mc ms Q X pc L (.long x :: .int i :: .ref a :: rest) G kc ks := by
  intro p e s m args below meth c H locs cells slots ls F hl hG hz hL hc hs
  have hK := hS.K F.2.2.2.2.2.2.2.2.1
  have ha := (hG.2.2 a t _ hg).2 h0
  have h1 : H[a]? = some (vp_cell (aC 1) (n, .inr (.inl (f)))) := (hG.2.2 a t _ hg).1
  refine W.last F.1 F.2.1 h1 ((hK.2 1 _ rfl).1 n (fun j => .long (f j))) (fun q => by cases q) (by show ¬ (i < 0 ∨ (arrV _ _ _).slots.size ≤ _); rw [arrV_size]; exact hi) rfl rfl (yat_ok hT ht) fun H1 e1 z oq => ?_
  refine kk p e s m args below meth c H1 _ cells slots ls F hl (hG.put hg h0 ?_ z oq) (by omega) (fun q hq => ?_) hc hs
  · show H1[a]? = some (vp_cell _ _)
    rw [e1]
    rw [vp_cell_l, vp_cell_l, arrV_store]
    congr 2
    funext q
    by_cases hq : q = i.toNatClampNeg
    · subst hq
      simp [updV, vp_updL]
      try rfl
    · simp [updV, vp_updL, hq]
  · rcases List.mem_append.mp hq with h | h
    · exact hL q h
    · rw [List.mem_singleton.mp h]; exact ha
theorem y_zast (hS : yS l S0 A0 D aC) (hT : yTok K.cc T) {a t n : Nat} {f : Nat → Int32} {i : Int32} {x : Int32} (ht : yat pc T = some (.bastore, 1)) (hg : G a = some (t, .inl (aC 2, n, .inl (f)))) (h0 : t ≠ 0) (hi : vp_in i n) (kk : Y l S0 D K d mc ms Q X (pc + 1) L rest (yup G a (t, .inl (aC 2, n, .inl (upd f i.toNatClampNeg (vp_nar .boolean x))))) kc ks) : Y l S0 D K d mc ms Q X pc L (.int x :: .int i :: .ref a :: rest) G kc ks := by
  intro p e s m args below meth c H locs cells slots ls F hl hG hz hL hc hs
  have hK := hS.K F.2.2.2.2.2.2.2.2.1
  have ha := (hG.2.2 a t _ hg).2 h0
  have h1 : H[a]? = some (vp_cell (aC 2) (n, .inl (f))) := (hG.2.2 a t _ hg).1
  refine W.zast F.1 F.2.1 h1 ((hK.2 2 _ rfl).1 n (fun j => .int (f j))) (fun q => by cases q) (by show ¬ (i < 0 ∨ (arrV _ _ _).slots.size ≤ _); rw [arrV_size]; exact hi) rfl rfl (yat_ok hT ht) fun H1 e1 z oq => ?_
  refine kk p e s m args below meth c H1 _ cells slots ls F hl (hG.put hg h0 ?_ z oq) (by omega) (fun q hq => ?_) hc hs
  · show H1[a]? = some (vp_cell _ _)
    rw [e1]
    rw [vp_cell_i, vp_cell_i, arrV_store]
    congr 2
    funext q
    by_cases hq : q = i.toNatClampNeg
    · subst hq
      simp [updV, upd, vp_nar]
      try rfl
    · simp [updV, upd, vp_nar, hq]
  · rcases List.mem_append.mp hq with h | h
    · exact hL q h
    · rw [List.mem_singleton.mp h]; exact ha
theorem y_bast (hS : yS l S0 A0 D aC) (hT : yTok K.cc T) {a t n : Nat} {f : Nat → Int32} {i : Int32} {x : Int32} (ht : yat pc T = some (.bastore, 1)) (hg : G a = some (t, .inl (aC 3, n, .inl (f)))) (h0 : t ≠ 0) (hi : vp_in i n) (kk : Y l S0 D K d mc ms Q X (pc + 1) L rest (yup G a (t, .inl (aC 3, n, .inl (upd f i.toNatClampNeg (vp_nar .byte x))))) kc ks) : Y l S0 D K d mc ms Q X pc L (.int x :: .int i :: .ref a :: rest) G kc ks := by
  intro p e s m args below meth c H locs cells slots ls F hl hG hz hL hc hs
  have hK := hS.K F.2.2.2.2.2.2.2.2.1
  have ha := (hG.2.2 a t _ hg).2 h0
  have h1 : H[a]? = some (vp_cell (aC 3) (n, .inl (f))) := (hG.2.2 a t _ hg).1
  refine W.bast F.1 F.2.1 h1 ((hK.2 3 _ rfl).1 n (fun j => .int (f j))) (fun q => by cases q) (by show ¬ (i < 0 ∨ (arrV _ _ _).slots.size ≤ _); rw [arrV_size]; exact hi) rfl rfl (yat_ok hT ht) fun H1 e1 z oq => ?_
  refine kk p e s m args below meth c H1 _ cells slots ls F hl (hG.put hg h0 ?_ z oq) (by omega) (fun q hq => ?_) hc hs
  · show H1[a]? = some (vp_cell _ _)
    rw [e1]
    rw [vp_cell_i, vp_cell_i, arrV_store]
    congr 2
    funext q
    by_cases hq : q = i.toNatClampNeg
    · subst hq
      simp [updV, upd, vp_nar]
      try rfl
    · simp [updV, upd, vp_nar, hq]
  · rcases List.mem_append.mp hq with h | h
    · exact hL q h
    · rw [List.mem_singleton.mp h]; exact ha
theorem y_new (t : Nat) (hS : yS l S0 A0 D aC) (hT : yTok K.cc T) {ix ci n : Nat} {fs : List Value} (ht : yat pc T = some (.new ix, 3)) (hf : yNW K.own ix ci n fs) (kk : ∀ a : Nat, (∀ (b : Nat) (x : Nat × va_E), G b = some x → b ≠ a) → Y l S0 D K d mc ms Q X (pc + 3) L (.ref a :: rest) (yup G a (t, .inr (ci, fs))) kc ks) : Y l S0 D K d mc ms Q X pc L rest G (kc + 1) (ks + n) := by
  intro p e s m args below meth c H locs cells slots ls F hl hG hz hL hc hs
  obtain ⟨C, T9, hcl, hfs, hw1, hw2, hw3⟩ := hf
  have hcl1 := hcl.1
  obtain ⟨ty0, hty⟩ := hcl.2.2.1
  have hts : ∀ w ∈ u_ws C T9 n, w.before args s = true := fun w9 h9 => (hcl.2.1 w9 h9).use hS F.2.2.2.2.2.2.2.2.1
  have hKn := (hS.K (s := s) F.2.2.2.2.2.2.2.2.1).1 ci _ hcl.1
  refine W.newcK F.1 F.2.1 F.2.2.2.1 (hw1.use hS F.2.2.2.2.2.2.2.2.1) (hw2.use hS F.2.2.2.2.2.2.2.2.1) (hw3.use hS F.2.2.2.2.2.2.2.2.1) rfl (yat_ok hT ht) (by show cells + 1 ≤ mc; omega) (by show slots + n ≤ ms; omega) hKn.2.1 rfl fun H1 kC hkC e1 z1 o1 => ?_
  exact kk H.size (fun b x hb => Nat.ne_of_lt (hG.lt hb)) p e s m args below meth c H1 locs (cells + 1) (slots + n) ls F hl (hG.push t ⟨_, hcl1, (u_born ty0 hts (fun w9 h9 => h9) hKn hkC e1 hty).to (hfs ty0 hty)⟩ z1 o1) (by omega) hL (by omega) (by omega)
theorem yArr {s : State} {ty : FieldType} {cA cB : ClassId} (h1 : va_RA s cA ty) (h2 : s.vm.findClass ("[" ++ ty.toString) = some cB) : cB = cA := by
  cases ty with
  | object C => obtain ⟨_, _, _, _, _, h⟩ := h1; exact Option.some.inj (h2.symm.trans h)
  | _ => exact Option.some.inj (h2.symm.trans h1)
theorem y_newa_int (t : Nat) (hS : yS l S0 A0 D aC) (hT : yTok K.cc T) {i : Int32} {n : Nat} (ht : yat pc T = some (.newarray .int, 2)) (hw : yWd (.arrayClass .int)) (hi : ¬ i < 0) (hn : i.toNatClampNeg = n) (hb : n ≤ 10000) (kk : ∀ a : Nat, (∀ (b : Nat) (x : Nat × va_E), G b = some x → b ≠ a) → Y l S0 D K d mc ms Q X (pc + 2) L (.ref a :: rest) (yup G a (t, .inl (aC 0, n, .inl (fun _ => 0)))) kc ks) : Y l S0 D K d mc ms Q X pc L (.int i :: rest) G (kc + 1) (ks + n) := by
  intro p e s m args below meth c H locs cells slots ls F hl hG hz hL hc hs
  refine va_newaK (atype := .int) F.1 F.2.1 (hw.use hS F.2.2.2.2.2.2.2.2.1) rfl (yat_ok hT ht) rfl hi hn (by show n * 4 ≤ _; omega) (by show cells + 1 ≤ mc; omega) (by show slots + n ≤ ms; omega) rfl fun H1 cA e1 z1 o1 hAr hNm => ?_
  have hcA : cA = aC 0 := yArr ((hS.K (s := s) F.2.2.2.2.2.2.2.2.1).2 0 _ rfl).2 hNm
  subst hcA
  exact kk H.size (fun b x hb => Nat.ne_of_lt (hG.lt hb)) p e s m args below meth c H1 locs (cells + 1) (slots + n) ls F hl (hG.push t (e := .inl (aC 0, n, .inl (fun _ => 0))) e1 z1 o1) (by omega) hL (by omega) (by omega)
theorem y_newa_long (t : Nat) (hS : yS l S0 A0 D aC) (hT : yTok K.cc T) {i : Int32} {n : Nat} (ht : yat pc T = some (.newarray .long, 2)) (hw : yWd (.arrayClass .long)) (hi : ¬ i < 0) (hn : i.toNatClampNeg = n) (hb : n ≤ 10000) (kk : ∀ a : Nat, (∀ (b : Nat) (x : Nat × va_E), G b = some x → b ≠ a) → Y l S0 D K d mc ms Q X (pc + 2) L (.ref a :: rest) (yup G a (t, .inl (aC 1, n, .inr (.inl (fun _ => 0))))) kc ks) : Y l S0 D K d mc ms Q X pc L (.int i :: rest) G (kc + 1) (ks + n) := by
  intro p e s m args below meth c H locs cells slots ls F hl hG hz hL hc hs
  refine va_newaK (atype := .long) F.1 F.2.1 (hw.use hS F.2.2.2.2.2.2.2.2.1) rfl (yat_ok hT ht) rfl hi hn (by show n * 8 ≤ _; omega) (by show cells + 1 ≤ mc; omega) (by show slots + n ≤ ms; omega) rfl fun H1 cA e1 z1 o1 hAr hNm => ?_
  have hcA : cA = aC 1 := yArr ((hS.K (s := s) F.2.2.2.2.2.2.2.2.1).2 1 _ rfl).2 hNm
  subst hcA
  exact kk H.size (fun b x hb => Nat.ne_of_lt (hG.lt hb)) p e s m args below meth c H1 locs (cells + 1) (slots + n) ls F hl (hG.push t (e := .inl (aC 1, n, .inr (.inl (fun _ => 0)))) e1 z1 o1) (by omega) hL (by omega) (by omega)
theorem y_newa_bool (t : Nat) (hS : yS l S0 A0 D aC) (hT : yTok K.cc T) {i : Int32} {n : Nat} (ht : yat pc T = some (.newarray .boolean, 2)) (hw : yWd (.arrayClass .boolean)) (hi : ¬ i < 0) (hn : i.toNatClampNeg = n) (hb : n ≤ 10000) (kk : ∀ a : Nat, (∀ (b : Nat) (x : Nat × va_E), G b = some x → b ≠ a) → Y l S0 D K d mc ms Q X (pc + 2) L (.ref a :: rest) (yup G a (t, .inl (aC 2, n, .inl (fun _ => 0)))) kc ks) : Y l S0 D K d mc ms Q X pc L (.int i :: rest) G (kc + 1) (ks + n) := by
  intro p e s m args below meth c H locs cells slots ls F hl hG hz hL hc hs
  refine va_newaK (atype := .boolean) F.1 F.2.1 (hw.use hS F.2.2.2.2.2.2.2.2.1) rfl (yat_ok hT ht) rfl hi hn (by show n * 1 ≤ _; omega) (by show cells + 1 ≤ mc; omega) (by show slots + n ≤ ms; omega) rfl fun H1 cA e1 z1 o1 hAr hNm => ?_
  have hcA : cA = aC 2 := yArr ((hS.K (s := s) F.2.2.2.2.2.2.2.2.1).2 2 _ rfl).2 hNm
  subst hcA
  exact kk H.size (fun b x hb => Nat.ne_of_lt (hG.lt hb)) p e s m args below meth c H1 locs (cells + 1) (slots + n) ls F hl (hG.push t (e := .inl (aC 2, n, .inl (fun _ => 0))) e1 z1 o1) (by omega) hL (by omega) (by omega)
theorem y_newa_byte (t : Nat) (hS : yS l S0 A0 D aC) (hT : yTok K.cc T) {i : Int32} {n : Nat} (ht : yat pc T = some (.newarray .byte, 2)) (hw : yWd (.arrayClass .byte)) (hi : ¬ i < 0) (hn : i.toNatClampNeg = n) (hb : n ≤ 10000) (kk : ∀ a : Nat, (∀ (b : Nat) (x : Nat × va_E), G b = some x → b ≠ a) → Y l S0 D K d mc ms Q X (pc + 2) L (.ref a :: rest) (yup G a (t, .inl (aC 3, n, .inl (fun _ => 0)))) kc ks) : Y l S0 D K d mc ms Q X pc L (.int i :: rest) G (kc + 1) (ks + n) := by
  intro p e s m args below meth c H locs cells slots ls F hl hG hz hL hc hs
  refine va_newaK (atype := .byte) F.1 F.2.1 (hw.use hS F.2.2.2.2.2.2.2.2.1) rfl (yat_ok hT ht) rfl hi hn (by show n * 1 ≤ _; omega) (by show cells + 1 ≤ mc; omega) (by show slots + n ≤ ms; omega) rfl fun H1 cA e1 z1 o1 hAr hNm => ?_
  have hcA : cA = aC 3 := yArr ((hS.K (s := s) F.2.2.2.2.2.2.2.2.1).2 3 _ rfl).2 hNm
  subst hcA
  exact kk H.size (fun b x hb => Nat.ne_of_lt (hG.lt hb)) p e s m args below meth c H1 locs (cells + 1) (slots + n) ls F hl (hG.push t (e := .inl (aC 3, n, .inl (fun _ => 0))) e1 z1 o1) (by omega) hL (by omega) (by omega)
theorem y_runR {p : Program} {e : Env} {s : State} {m : MethodId} {args a : Array Value} {below : List Frame} {meth : Method} {c : Code} {H : Heap} {locs : List Loc} {cells slots : Nat} {ls : Array Slot} {k n : Nat} {st0 : List Value} {Qc : Option Value → AH → Prop} {Xc : String → AH → Prop}
    (F : yF S0 K p s m meth c) (he : K.et = []) (hl : lv_has ls K.nL L) (hL : ∀ q ∈ locs, S0.heap.size ≤ q.base) (hc : cells + (kc + k) ≤ mc) (hs : slots + (ks + n) ≤ ms)
    (hr : vx_Run p l e (yR d mc ms) s m args below meth c H locs cells slots k n (F0 m pc ls st0) rest (yQ S0 D Qc a) (yX S0 D Xc) (fun q => S0.heap.size ≤ q))
    (kr : ∀ (r : Option Value) (G1 : AH), Qc r G1 → Y l S0 D K d mc ms Q X (pc + 3) L (r.toList ++ rest) G1 kc ks) (kx : ∀ (E : String) (G1 : AH), Xc E G1 → X E G1) :
    W p l e (yR d mc ms) s m args below meth c H locs cells slots (vx_MQ below (yQ S0 D Q) (yX S0 D X) args s mc ms (fun q => S0.heap.size ≤ q)) (F0 m pc ls st0) := by
  intro T9 hT9 X9
  rcases hr T9 hT9 X9 with ⟨v, st₀, t, T', L', h0, X', hL', e1, e2, ⟨r, G', hv, hq, hy⟩, st⟩ | ⟨q, st₀, t, T', L', E, ce, h0, X', hL', e1, e2, ⟨G', hx, hy⟩, hce, hcv, hcl, st⟩
  · cases hv
    obtain ⟨t2, a1, b1⟩ := kr v G' hq p e s m args below meth c T'.heap (locs ++ L') (cells + k) (slots + n) ls F hl (by rw [e1]; exact hy) X'.same.2.1 (fun q9 h9 => (List.mem_append.mp h9).elim (hL q9) (hL' q9)) (by omega) (by omega) T' rfl X'
    exact ⟨t2, st t2 a1, b1⟩
  · obtain ⟨t2, a1, b1⟩ := (vx_out (Qc := yQ S0 D Q) (XC := yX S0 D X) (p := p) (l := l) (e := e) (R := yR d mc ms) (s := s) (m := m) (args := args) (below := below) (meth := meth) (c := c) (H := T'.heap) (locs := locs ++ L') (cells := cells + k) (slots := slots + n) (ls := ls) (rest := rest) (free := fun q => S0.heap.size ≤ q) (pc := pc) (q := q) (mc := mc) (ms := ms)
      (fun x hx9 => by have h9 := F.2.2.2.2.2.2.2.1; rw [h9, he] at hx9; cases hx9) F.2.2.2.2.2.1 (by rw [e1]; exact hce) hcv hcl (fun t9 h9 _ => ⟨G', kx E G' hx, by rw [h9, e1]; exact hy⟩) (fun q9 h9 => (List.mem_append.mp h9).elim (hL q9) (hL' q9)) (by omega) (by omega)) T' rfl X'
    exact ⟨t2, st.trans a1, b1⟩
theorem y_callV (hS : yS l S0 A0 D aC) (hT : yTok K.cc T) (he : K.et = []) {ix nL2 n d2 k2 n2 : Nat} {y : MethodName} {cc2 : ByteArray} {ret : Option FieldType} {ci a t : Nat} {fs : List Value} {As : List Value} {Qc : Option Value → AH → Prop} {Xc : String → AH → Prop} (ht : yat pc T = some (.invokevirtual ix, 3)) (hf : yCV K.own ix ci y cc2 nL2 ret n) (hg : G a = some (t, .inr (ci, fs))) (hM : yM l S0 D y cc2 nL2 ret d2 k2 n2 (.ref a :: As) G Qc Xc) (hn : As.length = n) (hd : d2 < d) (hr : (rest.map fun v => v.category).sum ≤ 8)
    (kr : ∀ (r : Option Value) (G1 : AH), Qc r G1 → Y l S0 D K d mc ms Q X (pc + 3) L (r.toList ++ rest) G1 kc ks) (kx : ∀ (E : String) (G1 : AH), Xc E G1 → X E G1) : Y l S0 D K d mc ms Q X pc L (As.reverse ++ .ref a :: rest) G (kc + k2) (ks + n2) := by
  intro p e s m args below meth c H locs cells slots ls F hl hG hz hL hc hs
  have hW0 := F.2.2.2.2.2.2.2.2.1
  obtain ⟨C, T9, N, hcl, hwc, hwl, hwn, hwv, hwi, hy, hnl⟩ := hf
  have hB : (yR d2 k2 n2).cells = k2 ∧ (yR d2 k2 n2).slots = n2 ∧ (yR d2 k2 n2).frames + 1 ≤ (yR d mc ms).frames ∧ 8 + (nL2 + 11) + (yR d2 k2 n2).locals ≤ (yR d mc ms).locals := ⟨rfl, rfl, hd, by show 8 + (nL2 + 11) + 64 * d2 ≤ 64 * d; omega⟩
  have hws : ∀ w ∈ [Cond.code y cc2 nL2 ret], ∀ (a' : Array Value) (U : State), s.WarmedH U.vm → w.before a' U = true := fun w9 h9 a' U hU => by rw [List.mem_singleton.mp h9]; exact hwc.use hS (State.WarmedH.trans hW0 hU)
  have hlen : ∀ sig, parseMethodDescriptor y.desc = some sig → n = sig.parameters.length := fun sig h => by have h2 := hy.2.2; rw [h] at h2; exact (Option.some.inj h2).symm
  exact y_runR F he hl hL (by omega) (by omega) (vx_runV (As := As) (rest := rest) (n := n) (Ts := []) ⟨F.1, F.2.1, F.2.2.1, F.2.2.2.1, fun w9 h9 => nomatch h9⟩ hM ⟨⟨hB.1, hB.2.1, hB.2.2.1, hB.2.2.2, hws, List.mem_singleton.mpr rfl, hwc.use hS hW0, hwi.use hS hW0, ⟨hy.1, hy.2.1⟩, hlen, hwl.use hS hW0⟩, hwn.use hS hW0, hwv.use hS hW0⟩ ⟨fun a9 U g9 mk q9 => q9, va_recv (q0 := 0) (ws := [(a, .inr (ci, fs))]) (hS.K hW0) (hG.P1 hg) hcl.1 rfl, fun U hU hW => ⟨rfl, by rw [hU]; exact hG, State.WarmedH.trans hW0 hW⟩⟩ rfl hn hl.1 rfl (lv_room hr) (yat_ok hT ht) ⟨by show cells + k2 ≤ mc; omega, by show slots + n2 ≤ ms; omega⟩) kr kx
theorem y_callS (hS : yS l S0 A0 D aC) (hT : yTok K.cc T) (he : K.et = []) {ix nL2 n d2 k2 n2 : Nat} {y : MethodName} {cc2 : ByteArray} {ret : Option FieldType} {As : List Value} {Qc : Option Value → AH → Prop} {Xc : String → AH → Prop} (ht : yat pc T = some (.invokestatic ix, 3)) (hf : yCS K.own ix y cc2 nL2 ret n) (hM : yM l S0 D y cc2 nL2 ret d2 k2 n2 As G Qc Xc) (hn : As.length = n) (hd : d2 < d) (hr : (rest.map fun v => v.category).sum ≤ 8)
    (kr : ∀ (r : Option Value) (G1 : AH), Qc r G1 → Y l S0 D K d mc ms Q X (pc + 3) L (r.toList ++ rest) G1 kc ks) (kx : ∀ (E : String) (G1 : AH), Xc E G1 → X E G1) : Y l S0 D K d mc ms Q X pc L (As.reverse ++ rest) G (kc + k2) (ks + n2) := by
  intro p e s m args below meth c H locs cells slots ls F hl hG hz hL hc hs
  have hW0 := F.2.2.2.2.2.2.2.2.1
  obtain ⟨hwc, hwl, hwt, hwi, hy, hnl⟩ := hf
  have hB : (yR d2 k2 n2).cells = k2 ∧ (yR d2 k2 n2).slots = n2 ∧ (yR d2 k2 n2).frames + 1 ≤ (yR d mc ms).frames ∧ 8 + (nL2 + 11) + (yR d2 k2 n2).locals ≤ (yR d mc ms).locals := ⟨rfl, rfl, hd, by show 8 + (nL2 + 11) + 64 * d2 ≤ 64 * d; omega⟩
  have hws : ∀ w ∈ [Cond.code y cc2 nL2 ret], ∀ (a' : Array Value) (U : State), s.WarmedH U.vm → w.before a' U = true := fun w9 h9 a' U hU => by rw [List.mem_singleton.mp h9]; exact hwc.use hS (State.WarmedH.trans hW0 hU)
  have hlen : ∀ sig, parseMethodDescriptor y.desc = some sig → n = sig.parameters.length := fun sig h => by have h2 := hy.2.2; rw [h] at h2; exact (Option.some.inj h2).symm
  exact y_runR F he hl hL (by omega) (by omega) (vx_runS (As := As) (rest := rest) (n := n) (Ts := []) ⟨F.1, F.2.1, F.2.2.1, F.2.2.2.1, fun w9 h9 => nomatch h9⟩ hM ⟨⟨hB.1, hB.2.1, hB.2.2.1, hB.2.2.2, hws, List.mem_singleton.mpr rfl, hwc.use hS hW0, hwi.use hS hW0, ⟨hy.1, hy.2.1⟩, hlen, hwl.use hS hW0⟩, hwt.use hS hW0⟩ ⟨fun a9 U g9 mk q9 => q9, fun U hU hW => ⟨rfl, by rw [hU]; exact hG, State.WarmedH.trans hW0 hW⟩⟩ rfl hn hl.1 rfl (lv_room hr) (yat_ok hT ht) ⟨by show cells + k2 ≤ mc; omega, by show slots + n2 ≤ ms; omega⟩) kr kx
theorem y_callSN (hS : yS l S0 A0 D aC) (hT : yTok K.cc T) (he : K.et = []) {ix nL2 n d2 k2 n2 : Nat} {y : MethodName} {cc2 : ByteArray} {ret : Option FieldType} {host : String} {As : List Value} {Qc : Option Value → AH → Prop} {Xc : String → AH → Prop} (ht : yat pc T = some (.invokestatic ix, 3)) (hf : yCSN K.own ix y host cc2 nL2 ret n) (hM : yM l S0 D y cc2 nL2 ret d2 k2 n2 As G Qc Xc) (hn : As.length = n) (hd : d2 < d) (hr : (rest.map fun v => v.category).sum ≤ 8)
    (kr : ∀ (r : Option Value) (G1 : AH), Qc r G1 → Y l S0 D K d mc ms Q X (pc + 3) L (r.toList ++ rest) G1 kc ks) (kx : ∀ (E : String) (G1 : AH), Xc E G1 → X E G1) : Y l S0 D K d mc ms Q X pc L (As.reverse ++ rest) G (kc + k2) (ks + n2) := by
  intro p e s m args below meth c H locs cells slots ls F hl hG hz hL hc hs
  have hW0 := F.2.2.2.2.2.2.2.2.1
  obtain ⟨hwc, hwl, hwt, hwi, hy, hnl⟩ := hf
  have hB : (yR d2 k2 n2).cells = k2 ∧ (yR d2 k2 n2).slots = n2 ∧ (yR d2 k2 n2).frames + 1 ≤ (yR d mc ms).frames ∧ 8 + (nL2 + 11) + (yR d2 k2 n2).locals ≤ (yR d mc ms).locals := ⟨rfl, rfl, hd, by show 8 + (nL2 + 11) + 64 * d2 ≤ 64 * d; omega⟩
  have hws : ∀ w ∈ [Cond.code y cc2 nL2 ret], ∀ (a' : Array Value) (U : State), s.WarmedH U.vm → w.before a' U = true := fun w9 h9 a' U hU => by rw [List.mem_singleton.mp h9]; exact hwc.use hS (State.WarmedH.trans hW0 hU)
  have hlen : ∀ sig, parseMethodDescriptor y.desc = some sig → n = sig.parameters.length := fun sig h => by have h2 := hy.2.2; rw [h] at h2; exact (Option.some.inj h2).symm
  exact y_runR F he hl hL (by omega) (by omega) (vx_runSN (host := host) (As := As) (rest := rest) (n := n) (Ts := []) ⟨F.1, F.2.1, F.2.2.1, F.2.2.2.1, fun w9 h9 => nomatch h9⟩ hM ⟨⟨⟨hB.1, hB.2.1, hB.2.2.1, hB.2.2.2, hws, List.mem_singleton.mpr rfl⟩, hwc.use hS hW0, hwi.use hS hW0, ⟨hy.1, hy.2.1⟩, hlen, va_Nw.use rfl (va_Nw.warmM hW0 (va_Nw.of rfl (hS.2.1 _ hwl)))⟩, hwt.use hS hW0, trivial⟩ ⟨fun a9 U g9 mk q9 => q9, fun U hU hW => ⟨rfl, by rw [hU]; exact hG, State.WarmedH.trans hW0 hW⟩⟩ rfl hn hl.1 rfl (lv_room hr) (yat_ok hT ht) ⟨by show cells + k2 ≤ mc; omega, by show slots + n2 ≤ ms; omega⟩) kr kx
theorem y_callI (hS : yS l S0 A0 D aC) (hT : yTok K.cc T) (he : K.et = []) {ix nL2 n d2 k2 n2 : Nat} {y : MethodName} {cc2 : ByteArray} {a : Nat} {As : List Value} {Qc : Option Value → AH → Prop} {Xc : String → AH → Prop} (ht : yat pc T = some (.invokespecial ix, 3)) (hf : yCI K.own ix y cc2 nL2 n) (hM : yM l S0 D y cc2 nL2 none d2 k2 n2 (.ref a :: As) G Qc Xc) (hn : As.length = n) (hd : d2 < d) (hr : (rest.map fun v => v.category).sum ≤ 8)
    (kr : ∀ (r : Option Value) (G1 : AH), Qc r G1 → Y l S0 D K d mc ms Q X (pc + 3) L (r.toList ++ rest) G1 kc ks) (kx : ∀ (E : String) (G1 : AH), Xc E G1 → X E G1) : Y l S0 D K d mc ms Q X pc L (As.reverse ++ .ref a :: rest) G (kc + k2) (ks + n2) := by
  intro p e s m args below meth c H locs cells slots ls F hl hG hz hL hc hs
  have hW0 := F.2.2.2.2.2.2.2.2.1
  obtain ⟨hwc, hwl, hwn, hwi, hy, hyi, hnl⟩ := hf
  have hB : (yR d2 k2 n2).cells = k2 ∧ (yR d2 k2 n2).slots = n2 ∧ (yR d2 k2 n2).frames + 1 ≤ (yR d mc ms).frames ∧ 8 + (nL2 + 11) + (yR d2 k2 n2).locals ≤ (yR d mc ms).locals := ⟨rfl, rfl, hd, by show 8 + (nL2 + 11) + 64 * d2 ≤ 64 * d; omega⟩
  have hws : ∀ w ∈ [Cond.code y cc2 nL2 none], ∀ (a' : Array Value) (U : State), s.WarmedH U.vm → w.before a' U = true := fun w9 h9 a' U hU => by rw [List.mem_singleton.mp h9]; exact hwc.use hS (State.WarmedH.trans hW0 hU)
  have hlen : ∀ sig, parseMethodDescriptor y.desc = some sig → n = sig.parameters.length := fun sig h => by have h2 := hy.2.2; rw [h] at h2; exact (Option.some.inj h2).symm
  exact y_runR F he hl hL (by omega) (by omega) (vx_runI (As := As) (rest := rest) (n := n) (Ts := []) ⟨F.1, F.2.1, F.2.2.1, F.2.2.2.1, fun w9 h9 => nomatch h9⟩ hM ⟨⟨hB.1, hB.2.1, hB.2.2.1, hB.2.2.2, hws, List.mem_singleton.mpr rfl, hwc.use hS hW0, hwi.use hS hW0, ⟨hy.1, hy.2.1⟩, hlen, hwl.use hS hW0⟩, hyi, hwn.use hS hW0⟩ ⟨fun a9 U g9 mk q9 => q9, fun U hU hW => ⟨rfl, by rw [hU]; exact hG, State.WarmedH.trans hW0 hW⟩⟩ rfl hn hl.1 rfl (lv_room hr) (yat_ok hT ht) ⟨by show cells + k2 ≤ mc; omega, by show slots + n2 ≤ ms; omega⟩) kr kx
theorem y_callIN (hS : yS l S0 A0 D aC) (hT : yTok K.cc T) (he : K.et = []) {ix nL2 n d2 k2 n2 : Nat} {y : MethodName} {cc2 : ByteArray} {a : Nat} {host : String} {As : List Value} {Qc : Option Value → AH → Prop} {Xc : String → AH → Prop} (ht : yat pc T = some (.invokespecial ix, 3)) (hf : yCIN K.own ix y host cc2 nL2 n) (hM : yM l S0 D y cc2 nL2 none d2 k2 n2 (.ref a :: As) G Qc Xc) (hn : As.length = n) (hd : d2 < d) (hr : (rest.map fun v => v.category).sum ≤ 8)
    (kr : ∀ (r : Option Value) (G1 : AH), Qc r G1 → Y l S0 D K d mc ms Q X (pc + 3) L (r.toList ++ rest) G1 kc ks) (kx : ∀ (E : String) (G1 : AH), Xc E G1 → X E G1) : Y l S0 D K d mc ms Q X pc L (As.reverse ++ .ref a :: rest) G (kc + k2) (ks + n2) := by
  intro p e s m args below meth c H locs cells slots ls F hl hG hz hL hc hs
  have hW0 := F.2.2.2.2.2.2.2.2.1
  obtain ⟨hwc, hwl, hwn, hwi, hy, hyi, hnl⟩ := hf
  have hB : (yR d2 k2 n2).cells = k2 ∧ (yR d2 k2 n2).slots = n2 ∧ (yR d2 k2 n2).frames + 1 ≤ (yR d mc ms).frames ∧ 8 + (nL2 + 11) + (yR d2 k2 n2).locals ≤ (yR d mc ms).locals := ⟨rfl, rfl, hd, by show 8 + (nL2 + 11) + 64 * d2 ≤ 64 * d; omega⟩
  have hws : ∀ w ∈ [Cond.code y cc2 nL2 none], ∀ (a' : Array Value) (U : State), s.WarmedH U.vm → w.before a' U = true := fun w9 h9 a' U hU => by rw [List.mem_singleton.mp h9]; exact hwc.use hS (State.WarmedH.trans hW0 hU)
  have hlen : ∀ sig, parseMethodDescriptor y.desc = some sig → n = sig.parameters.length := fun sig h => by have h2 := hy.2.2; rw [h] at h2; exact (Option.some.inj h2).symm
  exact y_runR F he hl hL (by omega) (by omega) (vx_runIN (host := host) (As := As) (rest := rest) (n := n) (Ts := []) ⟨F.1, F.2.1, F.2.2.1, F.2.2.2.1, fun w9 h9 => nomatch h9⟩ hM ⟨⟨⟨hB.1, hB.2.1, hB.2.2.1, hB.2.2.2, hws, List.mem_singleton.mpr rfl⟩, hwc.use hS hW0, hwi.use hS hW0, ⟨hy.1, hy.2.1⟩, hlen, va_Nw.use rfl (va_Nw.warmM hW0 (va_Nw.of rfl (hS.2.1 _ hwl)))⟩, hyi, hwn.use hS hW0⟩ ⟨fun a9 U g9 mk q9 => q9, fun U hU hW => ⟨rfl, by rw [hU]; exact hG, State.WarmedH.trans hW0 hW⟩⟩ rfl hn hl.1 rfl (lv_room hr) (yat_ok hT ht) ⟨by show cells + k2 ≤ mc; omega, by show slots + n2 ≤ ms; omega⟩) kr kx
theorem y_iret (hT : yTok K.cc T) {v : Int32} (ht : yat pc T = some (.ireturn, 1)) (hr : K.ret = some .int) (hq : Q (some (.int v)) G) : Y l S0 D K d mc ms Q X pc L [.int v] G kc ks := by
  intro p e s m args below meth c H locs cells slots ls F hl hG hz hL hc hs
  have hlk := F.2.2.2.2.2.1
  exact vx_ret (W.widen (by omega) (by omega) (W.iret F.1 F.2.1 (F.2.2.2.2.1.trans hr) (fun t9 h9 _ => ⟨some (.int v), G, rfl, hq, by rw [h9]; exact hG⟩) hL (yat_ok hT ht) hlk))
theorem y_zret (hT : yTok K.cc T) {v : Int32} {ty : FieldType} (ht : yat pc T = some (.ireturn, 1)) (hr : K.ret = some ty) (hn : narrow ty (.int v) = .int v) (hq : Q (some (.int v)) G) : Y l S0 D K d mc ms Q X pc L [.int v] G kc ks := by
  intro p e s m args below meth c H locs cells slots ls F hl hG hz hL hc hs
  have hlk := F.2.2.2.2.2.1
  exact vx_ret (W.widen (by omega) (by omega) (W.zret F.1 F.2.1 (F.2.2.2.2.1.trans hr) hn (fun t9 h9 _ => ⟨some (.int v), G, rfl, hq, by rw [h9]; exact hG⟩) hL (yat_ok hT ht) hlk))
theorem y_lret (hT : yTok K.cc T) {v : Int64} (ht : yat pc T = some (.lreturn, 1)) (hr : K.ret = some .long) (hq : Q (some (.long v)) G) : Y l S0 D K d mc ms Q X pc L [.long v] G kc ks := by
  intro p e s m args below meth c H locs cells slots ls F hl hG hz hL hc hs
  have hlk := F.2.2.2.2.2.1
  exact vx_ret (W.widen (by omega) (by omega) (W.lret F.1 F.2.1 (F.2.2.2.2.1.trans hr) (fun t9 h9 _ => ⟨some (.long v), G, rfl, hq, by rw [h9]; exact hG⟩) hL (yat_ok hT ht) hlk))
theorem y_vret (hT : yTok K.cc T) (ht : yat pc T = some (.return_, 1)) (hr : K.ret = none) (hq : Q (none) G) : Y l S0 D K d mc ms Q X pc L [] G kc ks := by
  intro p e s m args below meth c H locs cells slots ls F hl hG hz hL hc hs
  have hlk := F.2.2.2.2.2.1
  exact vx_ret (W.widen (by omega) (by omega) (W.vret F.1 F.2.1 (F.2.2.2.2.1.trans hr) (fun t9 h9 _ => ⟨none, G, rfl, hq, by rw [h9]; exact hG⟩) hL (yat_ok hT ht) hlk))
theorem y_aret (hT : yTok K.cc T) {v : Value} {rt : FieldType} (ht : yat pc T = some (.areturn, 1)) (hr : K.ret = some rt) (hrt : (∃ n, rt = .object n) ∨ ∃ t, rt = .array t) (hv : v = .null ∨ ∃ a, v = .ref a) (hq : Q (some v) G) : Y l S0 D K d mc ms Q X pc L [v] G kc ks := by
  intro p e s m args below meth c H locs cells slots ls F hl hG hz hL hc hs
  have hlk := F.2.2.2.2.2.1
  exact vx_ret (W.widen (by omega) (by omega) (W.aret F.1 F.2.1 (F.2.2.2.2.1.trans hr) hrt hv (fun t9 h9 _ => ⟨some v, G, rfl, hq, by rw [h9]; exact hG⟩) hL (yat_ok hT ht) hlk))
end YR
/-- a contract says less, takes more room -/
theorem yM.mono {l : Launch} {S0 : State} {D : va_G} {y : MethodName} {cc : ByteArray} {nL : Nat} {ret : Option FieldType} {d mc ms : Nat} {As : List Value} {G : AH} {Q Q2 : Option Value → AH → Prop} {X X2 : String → AH → Prop}
    (h : yM l S0 D y cc nL ret d mc ms As G Q X) (hQ : ∀ r G1, Q r G1 → Q2 r G1) (hX : ∀ E G1, X E G1 → X2 E G1) : yM l S0 D y cc nL ret d mc ms As G Q2 X2 := by
  intro p e ha hc hk s m args below hf happ hP hKp
  obtain ⟨k, o, h1, h2, h3, h4⟩ := h p e ha hc hk s m args below hf happ hP hKp
  refine ⟨k, o, h1, h2, h3, ?_⟩
  rcases h4 with ⟨⟨r, G1, e1, e2, e3⟩, hL⟩ | ⟨q, hq, E, ce, L, ⟨G1, e1, e2⟩, h5⟩
  · exact Or.inl ⟨⟨r, G1, e1, hQ r G1 e2, e3⟩, hL⟩
  · exact Or.inr ⟨q, hq, E, ce, L, ⟨G1, hX E G1 e1, e2⟩, h5⟩
