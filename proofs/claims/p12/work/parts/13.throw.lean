/-! ===== a throw of the class's own ===== -/
/-- a word that stays as the tables get warmer -/
def yper : Cond → Bool
  | .castable _ _ => true
  | .declares _ => true
  | .methodLinkNest _ _ _ _ => true
  | .fieldLinkNest _ _ _ _ _ _ => true
  | w => goodWord w
theorem yper_ok {l : Launch} {S0 s : State} {A0 args : Array Value} {D : va_G} {aC : Nat → ClassId} {w : Cond} (hS : yS l S0 A0 D aC) (hW : S0.WarmedH s.vm) (hm : w ∈ lw_tbl) (h : yper w = true) : w.before args s = true := by
  have h0 := hS.2.1 w hm
  unfold yper at h
  split at h
  · exact va_Nw.use rfl (va_Nw.warmC hW (va_Nw.of rfl h0))
  · exact va_Nw.use rfl (va_Nw.warmD hW (va_Nw.of rfl h0))
  · exact va_Nw.use rfl (va_Nw.warmM hW (va_Nw.of rfl h0))
  · exact va_Nw.use rfl (va_Nw.warmF hW (va_Nw.of rfl h0))
  · exact word_at hW (good_of_word h) h0
theorem yStr {l : Launch} {S0 : State} {A0 : Array Value} {D : va_G} {aC : Nat → ClassId} (hS : yS l S0 A0 D aC) {own tx : String} {k : Nat} (h1 : Cond.stringRef own k tx ∈ lw_tbl) (h2 : Cond.exactly (.string own k) "java/lang/String" ∈ flatC (Jvm.Cond.and given_1 narrow_1)) : ∃ a : Nat, vk_R own k tx a S0 := by
  obtain ⟨a, c, cA, kA, q1, -⟩ := Cond.exactly_spec (args := A0) (first := S0) (o := none) (s := S0) (idx := []) (flat_of_before _ hS.2.2.2 _ h2)
  exact ⟨a, vk_R.of (hS.2.1 _ h1) q1⟩
/-- the statics that every throw reads -/
theorem yZt {l : Launch} {S0 : State} {A0 : Array Value} {D : va_G} {aC : Nat → ClassId} (hS : yS l S0 A0 D aC) (n d : String) (h1 : Cond.laysStatic "java/lang/Throwable" n d ∈ lw_tbl) (h2 : Cond.initialized "java/lang/Throwable" ∈ lw_tbl) (h3 : Cond.isRef (.static "java/lang/Throwable" n d) ∈ flatC (Jvm.Cond.and given_1 narrow_1)) : vx_Zq "java/lang/Throwable" n d (fun q => S0.heap.size ≤ q) S0 S0.heap :=
  vx_Zqof (hS.2.1 _ h1) (hS.2.1 _ h2) (flat_of_before _ hS.2.2.2 _ h3) (fun a h => Nat.not_le.mpr h)
theorem yZU {l : Launch} {S0 : State} {A0 : Array Value} {D : va_G} {aC : Nat → ClassId} (hS : yS l S0 A0 D aC) : vx_Zq Bundle.tN "UNASSIGNED_STACK" Bundle.steD (fun q => S0.heap.size ≤ q) S0 S0.heap :=
  yZt hS _ _ (by decide +kernel) (by decide +kernel) (by decide +kernel)
theorem yZN {l : Launch} {S0 : State} {A0 : Array Value} {D : va_G} {aC : Nat → ClassId} (hS : yS l S0 A0 D aC) : vx_Zq Bundle.tN "SUPPRESSED_SENTINEL" Bundle.listD (fun q => S0.heap.size ≤ q) S0 S0.heap :=
  yZt hS _ _ (by decide +kernel) (by decide +kernel) (by decide +kernel)
def yNames : List String := ["java/lang/RuntimeException", "java/lang/Exception"]
/-- what a throw by these entries wants of the tables -/
def yTh (own : String) (ik is ic : Nat) (cls text : String) : Prop := Bundle.fit cls = true ∧ (∀ w ∈ Cond.classLink own ik cls :: Cond.initialized cls :: vx_atS own ic cls yNames, w ∈ lw_tbl ∧ yper w = true ∧ vx_ot w = true) ∧ Cond.stringRef own is text ∈ lw_tbl ∧ Cond.exactly (.string own is) "java/lang/String" ∈ flatC (Jvm.Cond.and given_1 narrow_1)
theorem vx_Zq.at {S0 s : State} {n d : String} (h : vx_Zq "java/lang/Throwable" n d (fun q => S0.heap.size ≤ q) S0 S0.heap) (hW : S0.WarmedH s.vm) (hq : ∀ q : Nat, q < S0.heap.size → s.heap[q]? = S0.heap[q]?) : vx_Zq "java/lang/Throwable" n d (fun q => S0.heap.size ≤ q) s s.heap :=
  (h.moved hW.alike).kept (fun a ha _ => hq a ha)
section YTH
variable {l : Launch} {S0 : State} {A0 : Array Value} {D : va_G} {aC : Nat → ClassId} {K : yK} {d mc ms : Nat} {Q : Option Value → AH → Prop} {X : String → AH → Prop} {T : yT}
variable {pc kc ks : Nat} {L : yL} {rest : List Value} {G : AH}
set_option maxHeartbeats 4000000 in
theorem y_throwW (hS : yS l S0 A0 D aC) (hT : yTok K.cc T) (he : K.et = []) {ik is ic : Nat} {cls text : String} (d0 : yat pc T = some (.new ik, 3)) (d3 : yat (pc + 3) T = some (.dup, 1)) (d4 : yat (pc + 4) T = some (.ldc_w is, 3)) (d7 : yat (pc + 7) T = some (.invokespecial ic, 3)) (d10 : yat (pc + 10) T = some (.athrow, 1)) (hw : yTh K.own ik is ic cls text) (hd : 6 ≤ d) (hr : (rest.map fun v => v.category).sum ≤ 8) (hx : X cls G) (h1 : 1 ≤ kc) (h2 : 6 ≤ ks) : Y l S0 D K d mc ms Q X pc L rest G kc ks := by
  intro p e s m args below meth c H locs cells slots ls F hl hG hz hL hc hs
  obtain ⟨hfit, hat, hs1, hs2⟩ := hw
  have hW0 := F.2.2.2.2.2.2.2.2.1
  obtain ⟨sa, hsa⟩ := yStr hS hs1 hs2
  have hper : ∀ w ∈ Cond.classLink K.own ik cls :: Cond.initialized cls :: vx_atS K.own ic cls yNames, w.before args s = true := fun w h => yper_ok hS hW0 (hat w h).1 (hat w h).2.1
  refine vx_throwSW (cls := cls) (text := text) (names := yNames) (ik := ik) (is := is) (ic := ic) (sa := sa) (A := fun q => S0.heap.size ≤ q) F.1 F.2.1 hS.1 F.2.2.2.1 hfit (by decide) (hper _ List.mem_cons_self) (hper _ (List.mem_cons_of_mem _ List.mem_cons_self)) (hsa.warm hW0) (fun w h => hper w (List.mem_cons_of_mem _ (List.mem_cons_of_mem _ h))) (fun w h => (hat w h).2.2)
    ((yZU hS).at hW0 F.2.2.2.2.2.2.2.2.2.2) ((yZN hS).at hW0 F.2.2.2.2.2.2.2.2.2.2) ⟨hz, fun q q1 q2 => ?_, hL⟩ (hl.1.trans F.2.2.1.symm) (yat_ok hT d0) (yat_ok hT d3) (yat_ok hT d4) (yat_ok hT d7) (yat_ok hT d10) (fun x hx9 => by have h9 := F.2.2.2.2.2.2.2.1; rw [h9, he] at hx9; cases hx9)
    (by show 2 + 3 < d; omega) (by show _ + (13 * (2 + 1) + 43) ≤ 64 * d; omega) (by show cells + 1 ≤ mc; omega) (by show slots + 6 ≤ ms; omega) F.2.2.2.2.2.1 (fun t _ h8 h9 => ⟨G, hx, ?_⟩) hL (by omega) (by omega)
  · have q3 : q < S0.heap.size := Nat.not_le.mp q2
    rw [hG.2.1 q q3, F.2.2.2.2.2.2.2.2.2.2 q q3]
  · have g1 := hG.1
    refine ⟨by omega, fun q hq => (h9 q (by omega)).trans (hG.2.1 q hq), fun a t9 e9 ha => ?_⟩
    obtain ⟨g2, g3⟩ := hG.2.2 a t9 e9 ha
    exact ⟨g2.kept (h9 a (hG.lt ha)), g3⟩
set_option maxHeartbeats 4000000 in
theorem y_throwL (hS : yS l S0 A0 D aC) (hT : yTok K.cc T) (he : K.et = []) {ik is ic : Nat} {cls text : String} (d0 : yat pc T = some (.new ik, 3)) (d3 : yat (pc + 3) T = some (.dup, 1)) (d4 : yat (pc + 4) T = some (.ldc is, 2)) (d6 : yat (pc + 6) T = some (.invokespecial ic, 3)) (d9 : yat (pc + 9) T = some (.athrow, 1)) (hw : yTh K.own ik is ic cls text) (hd : 6 ≤ d) (hr : (rest.map fun v => v.category).sum ≤ 8) (hx : X cls G) (h1 : 1 ≤ kc) (h2 : 6 ≤ ks) : Y l S0 D K d mc ms Q X pc L rest G kc ks := by
  intro p e s m args below meth c H locs cells slots ls F hl hG hz hL hc hs
  obtain ⟨hfit, hat, hs1, hs2⟩ := hw
  have hW0 := F.2.2.2.2.2.2.2.2.1
  obtain ⟨sa, hsa⟩ := yStr hS hs1 hs2
  have hper : ∀ w ∈ Cond.classLink K.own ik cls :: Cond.initialized cls :: vx_atS K.own ic cls yNames, w.before args s = true := fun w h => yper_ok hS hW0 (hat w h).1 (hat w h).2.1
  refine vx_throwS (cls := cls) (text := text) (names := yNames) (ik := ik) (is := is) (ic := ic) (sa := sa) (A := fun q => S0.heap.size ≤ q) F.1 F.2.1 hS.1 F.2.2.2.1 hfit (by decide) (hper _ List.mem_cons_self) (hper _ (List.mem_cons_of_mem _ List.mem_cons_self)) (hsa.warm hW0) (fun w h => hper w (List.mem_cons_of_mem _ (List.mem_cons_of_mem _ h))) (fun w h => (hat w h).2.2)
    ((yZU hS).at hW0 F.2.2.2.2.2.2.2.2.2.2) ((yZN hS).at hW0 F.2.2.2.2.2.2.2.2.2.2) ⟨hz, fun q q1 q2 => ?_, hL⟩ (hl.1.trans F.2.2.1.symm) (yat_ok hT d0) (yat_ok hT d3) (yat_ok hT d4) (yat_ok hT d6) (yat_ok hT d9) (fun x hx9 => by have h9 := F.2.2.2.2.2.2.2.1; rw [h9, he] at hx9; cases hx9)
    (by show 2 + 3 < d; omega) (by show _ + (13 * (2 + 1) + 43) ≤ 64 * d; omega) (by show cells + 1 ≤ mc; omega) (by show slots + 6 ≤ ms; omega) F.2.2.2.2.2.1 (fun t _ h8 h9 => ⟨G, hx, ?_⟩) hL (by omega) (by omega)
  · have q3 : q < S0.heap.size := Nat.not_le.mp q2
    rw [hG.2.1 q q3, F.2.2.2.2.2.2.2.2.2.2 q q3]
  · have g1 := hG.1
    refine ⟨by omega, fun q hq => (h9 q (by omega)).trans (hG.2.1 q hq), fun a t9 e9 ha => ?_⟩
    obtain ⟨g2, g3⟩ := hG.2.2 a t9 e9 ha
    exact ⟨g2.kept (h9 a (hG.lt ha)), g3⟩
end YTH
theorem yth_435 : yTh RX8 435 437 439 "java/lang/IndexOutOfBoundsException" "there is none of that number" := ⟨by decide, by decide +kernel, by decide +kernel, by decide +kernel⟩
theorem yth_442 : yTh RX8 442 444 446 "java/lang/IllegalStateException" "as things stand this may not be" := ⟨by decide, by decide +kernel, by decide +kernel, by decide +kernel⟩
theorem yth_base : yTh RX8 80 82 84 "java/lang/IllegalArgumentException" "no such BASE" := ⟨by decide, by decide +kernel, by decide +kernel, by decide +kernel⟩
theorem yth_let : yTh RX8 80 440 84 "java/lang/IllegalArgumentException" "a number is not one of those that are let" := ⟨by decide, by decide +kernel, by decide +kernel, by decide +kernel⟩
