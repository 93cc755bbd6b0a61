/-! ===== bytes decoded in their order, opcode by opcode ===== -/
def yt0 : List (Nat × Instr) := [(42, .aload_n 0), (27, .iload_n 1), (28, .iload_n 2), (29, .iload_n 3), (4, .iconst 1), (3, .iconst 0), (26, .iload_n 0), (96, .iadd), (5, .iconst 2), (61, .istore_n 2), (62, .istore_n 3), (60, .istore_n 1), (46, .iaload), (172, .ireturn), (43, .aload_n 1), (44, .aload_n 2), (45, .aload_n 3), (2, .iconst (-1)), (6, .iconst 3), (7, .iconst 4), (8, .iconst 5), (100, .isub), (177, .return_), (104, .imul), (126, .iand), (0, .nop), (1, .aconst_null), (9, .lconst 0), (10, .lconst 1), (30, .lload_n 0), (31, .lload_n 1), (32, .lload_n 2), (33, .lload_n 3), (47, .laload), (50, .aaload), (51, .baload), (59, .istore_n 0), (63, .lstore_n 0), (64, .lstore_n 1), (65, .lstore_n 2), (66, .lstore_n 3), (75, .astore_n 0), (76, .astore_n 1), (77, .astore_n 2), (78, .astore_n 3), (79, .iastore), (80, .lastore), (83, .aastore), (84, .bastore), (87, .pop), (88, .pop2), (89, .dup), (90, .dup_x1), (97, .ladd), (101, .lsub), (105, .lmul), (108, .idiv), (112, .irem), (116, .ineg), (120, .ishl), (121, .lshl), (122, .ishr), (123, .lshr), (124, .iushr), (125, .lushr), (127, .land), (128, .ior), (129, .lor), (130, .ixor), (131, .lxor), (133, .i2l), (136, .l2i), (145, .i2b), (146, .i2c), (148, .lcmp), (173, .lreturn), (176, .areturn), (190, .arraylength), (191, .athrow)]
def yt1 : List (Nat × (Nat → Instr)) := [(18, fun a => .ldc a), (21, fun a => .iload a), (22, fun a => .lload a), (25, fun a => .aload a), (54, fun a => .istore a), (55, fun a => .lstore a), (58, fun a => .astore a)]
def yt2 : List (Nat × (Nat → Instr)) := [(182, fun a => .invokevirtual a), (180, fun a => .getfield a), (184, fun a => .invokestatic a), (181, fun a => .putfield a), (183, fun a => .invokespecial a), (178, fun a => .getstatic a), (187, fun a => .new a), (20, fun a => .ldc2_w a), (19, fun a => .ldc_w a), (179, fun a => .putstatic a), (189, fun a => .anewarray a), (192, fun a => .checkcast a), (193, fun a => .instanceof a)]
def yt3 : List (Nat × (Int → Instr)) := [(153, fun a => .ifCond .eq a), (167, fun a => .goto a), (154, fun a => .ifCond .ne a), (162, fun a => .if_icmp .ge a), (163, fun a => .if_icmp .gt a), (161, fun a => .if_icmp .lt a), (164, fun a => .if_icmp .le a), (160, fun a => .if_icmp .ne a), (159, fun a => .if_icmp .eq a), (17, fun a => .sipush a), (155, fun a => .ifCond .lt a), (156, fun a => .ifCond .ge a), (157, fun a => .ifCond .gt a), (158, fun a => .ifCond .le a), (165, fun a => .if_acmp .eq a), (166, fun a => .if_acmp .ne a), (198, fun a => .ifnull a), (199, fun a => .ifnonnull a)]
def yt4 : List (Nat × Instr) := [(10, .newarray .int), (4, .newarray .boolean), (8, .newarray .byte), (11, .newarray .long), (5, .newarray .char)]
def ylk {α : Type} (k : Nat) : List (Nat × α) → Option α
  | [] => none
  | e :: l => bif Nat.beq k e.1 then some e.2 else ylk k l
def yal {α : Type} (P : α → Prop) : List α → Prop
  | [] => True
  | e :: l => P e ∧ yal P l
theorem ylk_ok {α : Type} {P : Nat × α → Prop} {k : Nat} {x : α} : ∀ l : List (Nat × α), yal P l → ylk k l = some x → P (k, x)
  | [], _, h => by exact absurd h (by intro q; cases q)
  | e :: l, hp, h => by
    have h2 : (bif Nat.beq k e.1 then some e.2 else ylk k l) = some x := h
    cases q : Nat.beq k e.1 with
    | true =>
      rw [q] at h2
      have e1 : k = e.1 := Nat.eq_of_beq_eq_true q
      have e2 : e.2 = x := Option.some.inj h2
      rw [e1, ← e2]
      exact hp.1
    | false =>
      rw [q] at h2
      exact ylk_ok l hp.2 h2
def yB (cc : ByteArray) (pc : Nat) (l : List Nat) : Prop := (cc.data.toList.map UInt8.toNat).drop pc = l
def yP0 (R : Nat → Decoder Instr) : Nat × Instr → Prop := fun e => R e.1 = Pure.pure e.2
def yP1 (R : Nat → Decoder Instr) : Nat × (Nat → Instr) → Prop := fun e => R e.1 = (Reader.u1 >>= fun a => Pure.pure (e.2 a))
def yP2 (R : Nat → Decoder Instr) : Nat × (Nat → Instr) → Prop := fun e => R e.1 = (Reader.u2 >>= fun a => Pure.pure (e.2 a))
def yP3 (R : Nat → Decoder Instr) : Nat × (Int → Instr) → Prop := fun e => R e.1 = (Reader.s2 >>= fun a => Pure.pure (e.2 a))
section YFD
variable {cc : ByteArray} {pc a b k : Nat} {l : List Nat}
theorem yB.tl (h : yB cc pc (a :: l)) : yB cc (pc + 1) l := by
  unfold yB at h ⊢
  rw [← List.tail_drop, h]
  rfl
theorem yB.u1 (h : yB cc pc (a :: l)) : (Reader.u1 : Decoder Nat) cc pc = .ok (a, pc + 1) := by
  unfold yB at h
  have h0 := congrArg (fun z => z[0]?) h
  have h1 : (cc.data.toList.map UInt8.toNat)[pc]? = some a := by
    have e : ((cc.data.toList.map UInt8.toNat).drop pc)[0]? = some a := h0
    rw [List.getElem?_drop, Nat.add_zero] at e
    exact e
  obtain ⟨hl, h2⟩ := List.getElem?_eq_some_iff.mp h1
  have hlt : pc < cc.size := by
    rw [List.length_map] at hl
    exact hl
  have h3 : cc[pc].toNat = a := by
    rw [List.getElem_map] at h2
    exact h2
  show (if h : pc < cc.size then (do set (pc + 1); Pure.pure cc[pc].toNat : Decoder Nat) else throw (HasTruncated.truncated pc)) cc pc = _
  rw [dif_pos hlt, h3]
  rfl
theorem yrb {α β : Type} {x : Decoder α} {f : α → Decoder β} {q : Nat} {v : α} (h : x cc pc = .ok (v, q)) : (x >>= f) cc pc = f v cc q := by
  have e : (x >>= f) cc pc = Except.bind (x cc pc) (fun s => f s.1 cc s.2) := rfl
  rw [e, h]
  rfl
theorem yrm {α β : Type} {x : Decoder α} {f : α → β} {q : Nat} {v : α} (h : x cc pc = .ok (v, q)) : (f <$> x) cc pc = .ok (f v, q) := by
  have e : (f <$> x) cc pc = Except.bind (x cc pc) (fun s => .ok (f s.1, s.2)) := rfl
  rw [e, h]
  rfl
theorem yB.u2 (h : yB cc pc (a :: b :: l)) : (Reader.u2 : Decoder Nat) cc pc = .ok (a * 256 + b, pc + 2) := by
  show ((Reader.u1 : Decoder Nat) >>= fun hi => (Reader.u1 : Decoder Nat) >>= fun lo => Pure.pure (hi * 256 + lo)) cc pc = _
  rw [yrb h.u1, yrb h.tl.u1]
  rfl
theorem yB.s2 (h : yB cc pc (a :: b :: l)) : (Reader.s2 : Decoder Int) cc pc = .ok (Reader.signed 16 (a * 256 + b), pc + 2) := yrm h.u2
theorem yB.s1 (h : yB cc pc (a :: l)) : (Reader.s1 : Decoder Int) cc pc = .ok (Reader.signed 8 a, pc + 1) := yrm h.u1
theorem yB.ii {c d q : Nat} (h : yB cc pc (a :: b :: c :: d :: l)) (hc : (c != 0 && d == 0) = true) : (Decoder.invokeinterface q) cc pc = .ok (.invokeinterface (a * 256 + b) c, pc + 4) := by
  unfold Decoder.invokeinterface
  rw [yrb h.u2, yrb h.tl.tl.u1, yrb h.tl.tl.tl.u1, hc]
  rfl
theorem ydo {i : Instr} {n : Nat} (h : (Decoder.instr pc) cc pc = .ok (i, n)) : decode cc pc = .ok (i, n - pc) := by
  have h2 : (Decoder.instr pc).runAt cc pc = .ok (i, n) := h
  unfold decode
  rw [h2]
  rfl
end YFD
set_option maxHeartbeats 4000000 in
set_option maxRecDepth 100000 in
theorem yR_ex : ∃ (R : Nat → Nat → Decoder Instr) (N : Nat → Nat → Decoder Instr), (∀ pc, Decoder.instr pc = (Reader.u1 >>= R pc)) ∧ (∀ pc, yal (yP0 (R pc)) yt0) ∧ (∀ pc, yal (yP1 (R pc)) yt1) ∧ (∀ pc, yal (yP2 (R pc)) yt2) ∧ (∀ pc, yal (yP3 (R pc)) yt3) ∧ (∀ pc, R pc 16 = (Reader.s1 >>= fun a => Pure.pure (.bipush a))) ∧ (∀ pc, R pc 132 = (Reader.u1 >>= fun a => Reader.s1 >>= fun b => Pure.pure (.iinc a b))) ∧ (∀ pc, R pc 185 = Decoder.invokeinterface pc) ∧ (∀ pc, R pc 188 = (Reader.u1 >>= N pc)) ∧ (∀ pc, yal (yP0 (N pc)) yt4) := by
  exact ⟨_, _, fun _ => rfl, fun _ => (And.intro rfl (And.intro rfl (And.intro rfl (And.intro rfl (And.intro rfl (And.intro rfl (And.intro rfl (And.intro rfl (And.intro rfl (And.intro rfl (And.intro rfl (And.intro rfl (And.intro rfl (And.intro rfl (And.intro rfl (And.intro rfl (And.intro rfl (And.intro rfl (And.intro rfl (And.intro rfl (And.intro rfl (And.intro rfl (And.intro rfl (And.intro rfl (And.intro rfl (And.intro rfl (And.intro rfl (And.intro rfl (And.intro rfl (And.intro rfl (And.intro rfl (And.intro rfl (And.intro rfl (And.intro rfl (And.intro rfl (And.intro rfl (And.intro rfl (And.intro rfl (And.intro rfl (And.intro rfl (And.intro rfl (And.intro rfl (And.intro rfl (And.intro rfl (And.intro rfl (And.intro rfl (And.intro rfl (And.intro rfl (And.intro rfl (And.intro rfl (And.intro rfl (And.intro rfl (And.intro rfl (And.intro rfl (And.intro rfl (And.intro rfl (And.intro rfl (And.intro rfl (And.intro rfl (And.intro rfl (And.intro rfl (And.intro rfl (And.intro rfl (And.intro rfl (And.intro rfl (And.intro rfl (And.intro rfl (And.intro rfl (And.intro rfl (And.intro rfl (And.intro rfl (And.intro rfl (And.intro rfl (And.intro rfl (And.intro rfl (And.intro rfl (And.intro rfl (And.intro rfl (And.intro rfl trivial))))))))))))))))))))))))))))))))))))))))))))))))))))))))))))))))))))))))))))))), fun _ => (And.intro rfl (And.intro rfl (And.intro rfl (And.intro rfl (And.intro rfl (And.intro rfl (And.intro rfl trivial))))))), fun _ => (And.intro rfl (And.intro rfl (And.intro rfl (And.intro rfl (And.intro rfl (And.intro rfl (And.intro rfl (And.intro rfl (And.intro rfl (And.intro rfl (And.intro rfl (And.intro rfl (And.intro rfl trivial))))))))))))), fun _ => (And.intro rfl (And.intro rfl (And.intro rfl (And.intro rfl (And.intro rfl (And.intro rfl (And.intro rfl (And.intro rfl (And.intro rfl (And.intro rfl (And.intro rfl (And.intro rfl (And.intro rfl (And.intro rfl (And.intro rfl (And.intro rfl (And.intro rfl (And.intro rfl trivial)))))))))))))))))), fun _ => rfl, fun _ => rfl, fun _ => rfl, fun _ => rfl, fun _ => (And.intro rfl (And.intro rfl (And.intro rfl (And.intro rfl (And.intro rfl trivial)))))⟩
def yor {α β : Type} (o : Option α) (f : α → β) (g : β) : β := match o with
  | some a => f a
  | none => g
theorem yor_s {α β : Type} {o : Option α} {f : α → β} {g x : β} (h : yor o f g = x) : (∃ a, o = some a ∧ f a = x) ∨ (o = none ∧ g = x) := by
  cases o with
  | none => exact Or.inr ⟨rfl, h⟩
  | some a => exact Or.inl ⟨a, rfl, h⟩
def yfd5 (a b : Nat) : List Nat → Option (Instr × Nat × List Nat)
  | c :: d :: l => bif (c != 0 && d == 0) then some (.invokeinterface (a * 256 + b) c, 5, l) else none
  | _ => none
def yfd3 (k a : Nat) : List Nat → Option (Instr × Nat × List Nat)
  | [] => none
  | b :: l => yor (ylk k yt2) (fun f => some (f (a * 256 + b), 3, l)) (yor (ylk k yt3) (fun f => some (f (Reader.signed 16 (a * 256 + b)), 3, l)) (bif Nat.beq k 132 then some (.iinc a (Reader.signed 8 b), 3, l) else bif Nat.beq k 185 then yfd5 a b l else none))
def yfd1 (k : Nat) : List Nat → Option (Instr × Nat × List Nat)
  | [] => none
  | a :: l => yor (ylk k yt1) (fun f => some (f a, 2, l)) (bif Nat.beq k 16 then some (.bipush (Reader.signed 8 a), 2, l) else bif Nat.beq k 188 then yor (ylk a yt4) (fun i => some (i, 2, l)) none else yfd3 k a l)
def yfd : List Nat → Option (Instr × Nat × List Nat)
  | [] => none
  | k :: l => yor (ylk k yt0) (fun i => some (i, 1, l)) (yfd1 k l)
theorem ynn {α : Type} {x : α} {P : Prop} (h : (none : Option α) = some x) : P := by cases h
theorem yin3 {α β γ : Type} {a a2 : α} {b b2 : β} {c c2 : γ} (h : some (a, b, c) = some (a2, b2, c2)) : a = a2 ∧ b = b2 ∧ c = c2 := by
  cases h
  exact ⟨rfl, rfl, rfl⟩
theorem yfd_ok {cc : ByteArray} {p n : Nat} {l l2 : List Nat} {i : Instr} (hB : yB cc p l) (h : yfd l = some (i, n, l2)) : decode cc p = .ok (i, n) ∧ yB cc (p + n) l2 := by
  obtain ⟨R, N, r, r0, r1, r2, r3, r16, r132, r185, r188, n4⟩ := yR_ex
  have sub1 : p + 1 - p = 1 := by omega
  have sub2 : p + 1 + 1 - p = 2 := by omega
  have sub3 : p + 1 + 2 - p = 3 := by omega
  have sub4 : p + 1 + 1 + 1 - p = 3 := by omega
  have sub5 : p + 1 + 4 - p = 5 := by omega
  have key : ∀ {m : Nat} {j : Instr} {k : Nat} {l1 : List Nat}, yB cc p (k :: l1) → (R p k) cc (p + 1) = .ok (j, m) → decode cc p = .ok (j, m - p) := by
    intro m j k l1 hb h1
    refine ydo ?_
    rw [r p, yrb hb.u1]
    exact h1
  cases l with
  | nil => exact ynn h
  | cons k l =>
    rcases yor_s (show yor (ylk k yt0) (fun i => some (i, 1, l)) (yfd1 k l) = some (i, n, l2) from h) with ⟨j, e, q⟩ | ⟨-, h⟩
    · obtain ⟨q1, q2, q3⟩ := yin3 (show some (j, 1, l) = some (i, n, l2) from q)
      subst q1
      subst q2
      subst q3
      have t0 : R p k = Pure.pure j := ylk_ok (P := yP0 (R p)) yt0 (r0 p) e
      have t := key hB (m := p + 1) (j := j) (by rw [t0]; rfl)
      rw [sub1] at t
      exact ⟨t, hB.tl⟩
    · cases l with
      | nil => exact ynn h
      | cons a l =>
        rcases yor_s (show yor (ylk k yt1) (fun f => some (f a, 2, l)) (bif Nat.beq k 16 then some (.bipush (Reader.signed 8 a), 2, l) else bif Nat.beq k 188 then yor (ylk a yt4) (fun i => some (i, 2, l)) none else yfd3 k a l) = some (i, n, l2) from h) with ⟨f, e, q⟩ | ⟨-, h⟩
        · obtain ⟨q1, q2, q3⟩ := yin3 (show some (f a, 2, l) = some (i, n, l2) from q)
          subst q1
          subst q2
          subst q3
          have t0 : R p k = (Reader.u1 >>= fun a => Pure.pure (f a)) := ylk_ok (P := yP1 (R p)) yt1 (r1 p) e
          have t := key hB (m := p + 1 + 1) (j := f a) (by rw [t0, yrb hB.tl.u1]; rfl)
          rw [sub2] at t
          exact ⟨t, hB.tl.tl⟩
        · cases q16 : Nat.beq k 16 with
          | true =>
            rw [q16] at h
            have ek : k = 16 := Nat.eq_of_beq_eq_true q16
            subst ek
            obtain ⟨q1, q2, q3⟩ := yin3 (show some (Instr.bipush (Reader.signed 8 a), 2, l) = some (i, n, l2) from h)
            subst q1
            subst q2
            subst q3
            have t := key hB (m := p + 1 + 1) (j := .bipush (Reader.signed 8 a)) (by rw [r16 p, yrb hB.tl.s1]; rfl)
            rw [sub2] at t
            exact ⟨t, hB.tl.tl⟩
          | false =>
            rw [q16] at h
            cases q188 : Nat.beq k 188 with
            | true =>
              rw [q188] at h
              have ek : k = 188 := Nat.eq_of_beq_eq_true q188
              subst ek
              rcases yor_s (show yor (ylk a yt4) (fun i => some (i, 2, l)) none = some (i, n, l2) from h) with ⟨j, e, q⟩ | ⟨-, h⟩
              · obtain ⟨q1, q2, q3⟩ := yin3 (show some (j, 2, l) = some (i, n, l2) from q)
                subst q1
                subst q2
                subst q3
                have t0 : N p a = Pure.pure j := ylk_ok (P := yP0 (N p)) yt4 (n4 p) e
                have t := key hB (m := p + 1 + 1) (j := j) (by rw [r188 p, yrb hB.tl.u1, t0]; rfl)
                rw [sub2] at t
                exact ⟨t, hB.tl.tl⟩
              · exact ynn h
            | false =>
              rw [q188] at h
              cases l with
              | nil => exact ynn h
              | cons b l =>
                rcases yor_s (show yor (ylk k yt2) (fun f => some (f (a * 256 + b), 3, l)) (yor (ylk k yt3) (fun f => some (f (Reader.signed 16 (a * 256 + b)), 3, l)) (bif Nat.beq k 132 then some (.iinc a (Reader.signed 8 b), 3, l) else bif Nat.beq k 185 then yfd5 a b l else none)) = some (i, n, l2) from h) with ⟨f, e, q⟩ | ⟨-, h⟩
                · obtain ⟨q1, q2, q3⟩ := yin3 (show some (f (a * 256 + b), 3, l) = some (i, n, l2) from q)
                  subst q1
                  subst q2
                  subst q3
                  have t0 : R p k = (Reader.u2 >>= fun a => Pure.pure (f a)) := ylk_ok (P := yP2 (R p)) yt2 (r2 p) e
                  have t := key hB (m := p + 1 + 2) (j := f (a * 256 + b)) (by rw [t0, yrb hB.tl.u2]; rfl)
                  rw [sub3] at t
                  exact ⟨t, hB.tl.tl.tl⟩
                · rcases yor_s h with ⟨f, e, q⟩ | ⟨-, h⟩
                  · obtain ⟨q1, q2, q3⟩ := yin3 (show some (f (Reader.signed 16 (a * 256 + b)), 3, l) = some (i, n, l2) from q)
                    subst q1
                    subst q2
                    subst q3
                    have t0 : R p k = (Reader.s2 >>= fun a => Pure.pure (f a)) := ylk_ok (P := yP3 (R p)) yt3 (r3 p) e
                    have t := key hB (m := p + 1 + 2) (j := f (Reader.signed 16 (a * 256 + b))) (by rw [t0, yrb hB.tl.s2]; rfl)
                    rw [sub3] at t
                    exact ⟨t, hB.tl.tl.tl⟩
                  · cases q132 : Nat.beq k 132 with
                    | true =>
                      rw [q132] at h
                      have ek : k = 132 := Nat.eq_of_beq_eq_true q132
                      subst ek
                      obtain ⟨q1, q2, q3⟩ := yin3 (show some (Instr.iinc a (Reader.signed 8 b), 3, l) = some (i, n, l2) from h)
                      subst q1
                      subst q2
                      subst q3
                      have t := key hB (m := p + 1 + 1 + 1) (j := .iinc a (Reader.signed 8 b)) (by rw [r132 p, yrb hB.tl.u1, yrb hB.tl.tl.s1]; rfl)
                      rw [sub4] at t
                      exact ⟨t, hB.tl.tl.tl⟩
                    | false =>
                      rw [q132] at h
                      cases q185 : Nat.beq k 185 with
                      | false =>
                        rw [q185] at h
                        exact ynn h
                      | true =>
                        rw [q185] at h
                        have ek : k = 185 := Nat.eq_of_beq_eq_true q185
                        subst ek
                        cases l with
                        | nil => exact ynn h
                        | cons c l =>
                          cases l with
                          | nil => exact ynn h
                          | cons d l =>
                            cases qc : (c != 0 && d == 0) with
                            | false =>
                              have h : (bif (c != 0 && d == 0) then some (Instr.invokeinterface (a * 256 + b) c, 5, l) else none) = some (i, n, l2) := h
                              rw [qc] at h
                              exact ynn h
                            | true =>
                              have h : (bif (c != 0 && d == 0) then some (Instr.invokeinterface (a * 256 + b) c, 5, l) else none) = some (i, n, l2) := h
                              rw [qc] at h
                              obtain ⟨q1, q2, q3⟩ := yin3 (show some (Instr.invokeinterface (a * 256 + b) c, 5, l) = some (i, n, l2) from h)
                              subst q1
                              subst q2
                              subst q3
                              have t := key hB (m := p + 1 + 4) (j := .invokeinterface (a * 256 + b) c) (by rw [r185 p, hB.tl.ii qc])
                              rw [sub5] at t
                              exact ⟨t, hB.tl.tl.tl.tl.tl⟩
def ychk : List Nat → Nat → yT → Bool
  | _, _, [] => true
  | l, p, q :: T => Nat.beq p q.1 && yor (yfd l) (fun x => (decide (x.1 = q.2.1) && Nat.beq x.2.1 q.2.2) && ychk x.2.2 (p + x.2.1) T) false
theorem ychk_ok {cc : ByteArray} : ∀ (T : yT) (l : List Nat) (p : Nat), yB cc p l → ychk l p T = true → yTok cc T
  | [], _, _, _, _ => fun q hq => by cases hq
  | q :: T, l, p, hB, h => by
    have h2 : (Nat.beq p q.1 && yor (yfd l) (fun x => (decide (x.1 = q.2.1) && Nat.beq x.2.1 q.2.2) && ychk x.2.2 (p + x.2.1) T) false) = true := h
    rw [Bool.and_eq_true] at h2
    have e1 : p = q.1 := Nat.eq_of_beq_eq_true h2.1
    rcases yor_s h2.2 with ⟨⟨i, n, l2⟩, e, h3⟩ | ⟨-, h3⟩
    · have h4 : ((decide (i = q.2.1) && Nat.beq n q.2.2) && ychk l2 (p + n) T) = true := h3
      rw [Bool.and_eq_true, Bool.and_eq_true, decide_eq_true_eq] at h4
      obtain ⟨⟨h5, h6⟩, h7⟩ := h4
      have h6 := Nat.eq_of_beq_eq_true h6
      obtain ⟨d, hB2⟩ := yfd_ok hB e
      have ih := ychk_ok T l2 (p + n) hB2 h7
      intro z hz
      cases hz with
      | head =>
        rw [← e1, d, h5, h6]
      | tail _ hz => exact ih z hz
    · exact absurd h3 (by decide)
theorem yTok_cut {cc : ByteArray} {T : yT} (n : Nat) (h1 : yTok cc (T.take n)) (h2 : yTok cc (T.drop n)) : yTok cc T := by
  intro q hq
  rw [← List.take_append_drop n T] at hq
  rcases List.mem_append.mp hq with hq | hq
  · exact h1 q hq
  · exact h2 q hq
