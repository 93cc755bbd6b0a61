/-! ===== contracts: constructors ===== -/
theorem yNn {n : Nat} (h : n ≤ 60) : ¬ (Int32.ofNat n) < 0 := by
  rw [ylt, yl_0, yofn (by omega)]
  omega
def xst0 : XS := (fun _ => 0, fun _ _ => 0, fun j => if j = 2 then 1 else 0, fun _ => 0, fun _ => 0)
/-- the state of a new object, its words told -/
def xini (σ : XS) : Prop := xfr [11, 12, 13, 14, 15, 35, 37, 38, 39, 52, 53, 54] xst0 σ ∧ xnew 0 σ ∧ σ.2.2.1 4 = 0 ∧ ∀ i : Nat, i < 6 → σ.2.1 15 i = -1
/-- the state of a new object of the class, out of its parts -/
theorem yXmk {aC : Nat → ClassId} {G : AH} {a1 a2 a3 a4 a5 a6 a7 a8 a9 : Nat} {na ra : Nat → Nat}
    (hn : ∀ k, k < 24 → G (na k) = some (100 + 2 * k, .inr (9, [.ref (ra k), .int 0]))) (hr : ∀ k, k < 24 → G (ra k) = some (100 + 2 * k + 1, .inl (aC 0, xcap k, .inl (fun _ => 0))))
    (h1 : G a1 = some (1, .inr (12, [.ref a2, .ref a4, .ref a5, .ref a6, .ref (na 10), .ref a7, .ref (na 15), .ref a8, .ref a9, .int 0])))
    (h2 : G a2 = some (2, .inr (5, [.int 0, .int 0, .long 0, .long 0, .long 0, .long 0, .long 0, .int 1, .int 0, .ref a3])))
    (h3 : G a3 = some (3, .inl (aC 1, 512, .inr (.inl (fun _ => 0)))))
    (h4 : G a4 = some (4, .inr (8, [.ref (na 0), .ref (na 1), .ref (na 2)])))
    (h5 : G a5 = some (5, .inr (4, [.ref (na 3), .ref (na 4)])))
    (h6 : G a6 = some (6, .inr (6, [.ref (na 5), .ref (na 6), .ref (na 7), .ref (na 8), .ref (na 9)])))
    (h7 : G a7 = some (7, .inr (11, [.ref (na 11), .ref (na 12), .ref (na 13), .ref (na 14), .int 0, .int 0, .int 0])))
    (h8 : G a8 = some (8, .inr (7, [.ref (na 16), .ref (na 17), .ref (na 18), .ref (na 19), .ref (na 20), .ref (na 21)])))
    (h9 : G a9 = some (9, .inr (10, [.ref (na 22), .ref (na 23)]))) :
    ∃ (ad : Nat → Nat) (σ : XS), atX aC ad G σ ∧ ad 1 = a1 ∧ ad 7 = a7 ∧ ad 130 = na 15 ∧ σ = xst0 := by
  have hA : ∃ ad : Nat → Nat, (ad 1 = a1 ∧ ad 2 = a2 ∧ ad 3 = a3 ∧ ad 4 = a4 ∧ ad 5 = a5 ∧ ad 6 = a6 ∧ ad 7 = a7 ∧ ad 8 = a8 ∧ ad 9 = a9) ∧ (∀ k, ad (100 + 2 * k) = na k) ∧ (∀ k, ad (100 + 2 * k + 1) = ra k) := by
    refine ⟨fun t => if t = 1 then a1 else if t = 2 then a2 else if t = 3 then a3 else if t = 4 then a4 else if t = 5 then a5 else if t = 6 then a6 else if t = 7 then a7 else if t = 8 then a8 else if t = 9 then a9 else if t % 2 = 0 then na ((t - 100) / 2) else ra ((t - 100) / 2), ⟨rfl, rfl, rfl, rfl, rfl, rfl, rfl, rfl, rfl⟩, fun k => ?_, fun k => ?_⟩
    · show (if 100 + 2 * k = 1 then a1 else if 100 + 2 * k = 2 then a2 else if 100 + 2 * k = 3 then a3 else if 100 + 2 * k = 4 then a4 else if 100 + 2 * k = 5 then a5 else if 100 + 2 * k = 6 then a6 else if 100 + 2 * k = 7 then a7 else if 100 + 2 * k = 8 then a8 else if 100 + 2 * k = 9 then a9 else if (100 + 2 * k) % 2 = 0 then na ((100 + 2 * k - 100) / 2) else ra ((100 + 2 * k - 100) / 2)) = na k
      rw [if_neg (by omega), if_neg (by omega), if_neg (by omega), if_neg (by omega), if_neg (by omega), if_neg (by omega), if_neg (by omega), if_neg (by omega), if_neg (by omega), if_pos (by omega), show (100 + 2 * k - 100) / 2 = k by omega]
    · show (if 100 + 2 * k + 1 = 1 then a1 else if 100 + 2 * k + 1 = 2 then a2 else if 100 + 2 * k + 1 = 3 then a3 else if 100 + 2 * k + 1 = 4 then a4 else if 100 + 2 * k + 1 = 5 then a5 else if 100 + 2 * k + 1 = 6 then a6 else if 100 + 2 * k + 1 = 7 then a7 else if 100 + 2 * k + 1 = 8 then a8 else if 100 + 2 * k + 1 = 9 then a9 else if (100 + 2 * k + 1) % 2 = 0 then na ((100 + 2 * k + 1 - 100) / 2) else ra ((100 + 2 * k + 1 - 100) / 2)) = ra k
      rw [if_neg (by omega), if_neg (by omega), if_neg (by omega), if_neg (by omega), if_neg (by omega), if_neg (by omega), if_neg (by omega), if_neg (by omega), if_neg (by omega), if_neg (by omega), show (100 + 2 * k + 1 - 100) / 2 = k by omega]
  obtain ⟨ad, ⟨d1, d2, d3, d4, d5, d6, d7, d8, d9⟩, dn, dr⟩ := hA
  have dl : ∀ k t, t = 100 + 2 * k → ad t = na k := fun k t ht => by rw [ht]; exact dn k
  refine ⟨ad, (fun _ => 0, fun _ _ => 0, fun j => if j = 2 then 1 else 0, fun _ => 0, fun _ => 0), ⟨fun t e h => ?_, fun k => ⟨by show (0 : Int) ≤ (0 : Int32).toInt; decide, by show (0 : Int32).toInt ≤ _; rw [yl_0]; omega⟩, by decide, fun j => by show (0 : Int32).toInt ≤ 1000; decide⟩, d1, d7, dn 15, rfl⟩
  unfold xc at h
  by_cases c1 : t = 1
  · subst c1
    rw [if_pos rfl] at h
    cases h
    rw [d1, d2, d4, d5, d6, dl 10 120 rfl, d7, dl 15 130 rfl, d8, d9]
    exact h1
  rw [if_neg c1] at h
  by_cases c2 : t = 2
  · subst c2
    rw [if_pos rfl] at h
    cases h
    rw [d2, d3]
    exact h2
  rw [if_neg c2] at h
  by_cases c3 : t = 3
  · subst c3
    rw [if_pos rfl] at h
    cases h
    rw [d3]
    exact h3
  rw [if_neg c3] at h
  by_cases c4 : t = 4
  · subst c4
    rw [if_pos rfl] at h
    cases h
    rw [d4, dl 0 100 rfl, dl 1 102 rfl, dl 2 104 rfl]
    exact h4
  rw [if_neg c4] at h
  by_cases c5 : t = 5
  · subst c5
    rw [if_pos rfl] at h
    cases h
    rw [d5, dl 3 106 rfl, dl 4 108 rfl]
    exact h5
  rw [if_neg c5] at h
  by_cases c6 : t = 6
  · subst c6
    rw [if_pos rfl] at h
    cases h
    rw [d6, dl 5 110 rfl, dl 6 112 rfl, dl 7 114 rfl, dl 8 116 rfl, dl 9 118 rfl]
    exact h6
  rw [if_neg c6] at h
  by_cases c7 : t = 7
  · subst c7
    rw [if_pos rfl] at h
    cases h
    rw [d7, dl 11 122 rfl, dl 12 124 rfl, dl 13 126 rfl, dl 14 128 rfl]
    exact h7
  rw [if_neg c7] at h
  by_cases c8 : t = 8
  · subst c8
    rw [if_pos rfl] at h
    cases h
    rw [d8, dl 16 132 rfl, dl 17 134 rfl, dl 18 136 rfl, dl 19 138 rfl, dl 20 140 rfl, dl 21 142 rfl]
    exact h8
  rw [if_neg c8] at h
  by_cases c9 : t = 9
  · subst c9
    rw [if_pos rfl] at h
    cases h
    rw [d9, dl 22 144 rfl, dl 23 146 rfl]
    exact h9
  rw [if_neg c9] at h
  by_cases c : 100 ≤ t ∧ t < 148
  · rw [if_pos c] at h
    have e : t = 100 + 2 * ((t - 100) / 2) ∨ t = 100 + 2 * ((t - 100) / 2) + 1 := by omega
    generalize hk : (t - 100) / 2 = k at *
    have hk2 : k < 24 := by omega
    rcases e with e | e
    · have e2 : t % 2 = 0 := by omega
      rw [if_pos e2] at h
      cases h
      subst e
      rw [dn, dr]
      exact hn k hk2
    · have e2 : ¬ t % 2 = 0 := by omega
      rw [if_neg e2] at h
      cases h
      subst e
      rw [dr]
      exact hr k hk2
  · rw [if_neg c] at h
    cases h
abbrev xobj (ad : Nat → Nat) (σ : XS) : va_E := .inr (12, [.ref (ad 2), .ref (ad 4), .ref (ad 5), .ref (ad 6), .ref (ad 120), .ref (ad 7), .ref (ad 130), .ref (ad 8), .ref (ad 9), .int (σ.2.2.1 7)])
set_option maxHeartbeats 4000000 in
set_option maxRecDepth 100000 in
theorem m_X5_init {l : Launch} {S0 : State} {A0 : Array Value} {D : va_G} {aC : Nat → ClassId} {G : AH} (hS : yS l S0 A0 D aC) {tg n : Nat} {a : Nat} (h : G a = some (tg, .inr (9, [.null, .int 0]))) (h0 : tg ≠ 0) (hn : n ≤ 60) : yM l S0 D yX5_init cX5_init 2 none 16 1 60 [.ref a, .int (Int32.ofNat n)] G (fun r G1 => r = none ∧ ∃ r9 : Nat, G1 a = some (tg, .inr (9, [.ref r9, .int 0])) ∧ G1 r9 = some (tg + 1, .inl (aC 0, n, .inl (fun _ => 0))) ∧ yTg (fun t => t ≠ tg ∧ t ≠ tg + 1) G G1) (fun _ _ => False) := by
  refine yM.ofK K_X5_init rfl (by decide) (Nat.le_of_ble_eq_true rfl) ?_
  refine y_blk 1 tq_X5_init (z := (1, [(0, .ref a), (1, .int (Int32.ofNat n))], [.ref a])) rfl ?_
  refine y_objInit hS tq_X5_init rfl ⟨by decide +kernel, by decide +kernel⟩ (by decide) (by decide) ?_
  refine y_blk 2 tq_X5_init (z := (6, [(0, .ref a), (1, .int (Int32.ofNat n))], [.int (Int32.ofNat n), .ref a])) rfl ?_
  refine y_if_ge tq_X5_init 13 rfl rfl (fun c6 => ?_) (fun c6 => ?_)
  · skip
    refine y_blk 1 tq_X5_init (z := (14, [(0, .ref a), (1, .int (Int32.ofNat n))], [.int (Int32.ofNat n), .ref a])) rfl ?_
    refine y_less (k2 := 0 + 1) (n2 := 0 + n) (by omega) (by omega) ?_
    refine y_newa_int (tg + 1) hS tq_X5_init rfl wd_176 (yNn hn) (yofc (by omega)) (by omega) (fun a14 hne14 => ?_)
    have hle14 : yLe G (yup G a14 ((tg + 1), .inl (aC 0, n, .inl (fun _ => 0)))) := yLe.new hne14
    have hA14 : (yup G a14 ((tg + 1), .inl (aC 0, n, .inl (fun _ => 0)))) a14 = some ((tg + 1), .inl (aC 0, n, .inl (fun _ => 0))) := yup_s _ _ _
    have hB14_a : (yup G a14 ((tg + 1), .inl (aC 0, n, .inl (fun _ => 0)))) a = some (tg, .inr (9, [.null, .int 0])) := hle14 _ _ h
    have kt14 : yTg (fun t => t ≠ tg ∧ t ≠ tg + 1) G (yup G a14 ((tg + 1), .inl (aC 0, n, .inl (fun _ => 0)))) := ((yTg.rfl' (f := fun t => t ≠ tg ∧ t ≠ tg + 1) (G := G))).trans (yTg.le hle14)
    generalize yup G a14 ((tg + 1), .inl (aC 0, n, .inl (fun _ => 0))) = G14 at hle14 hA14 hB14_a kt14 ⊢
    refine y_blk 0 tq_X5_init (z := (16, [(0, .ref a), (1, .int (Int32.ofNat n))], [.ref a14, .ref a])) rfl ?_
    refine y_putF hS tq_X5_init rfl fp_X5_9_X5 rfl hB14_a (by omega) rfl rfl (Nat.le_of_ble_eq_true rfl) ?_
    have hA16 : (yup G14 a (tg, .inr (9, [.ref a14, .int 0]))) a = some (tg, .inr (9, [.ref a14, .int 0])) := yup_s _ _ _
    have hB16_a14 : (yup G14 a (tg, .inr (9, [.ref a14, .int 0]))) a14 = some ((tg + 1), .inl (aC 0, n, .inl (fun _ => 0))) := yup_o hA14 hB14_a (by omega)
    have kt16 : yTg (fun t => t ≠ tg ∧ t ≠ tg + 1) G (yup G14 a (tg, .inr (9, [.ref a14, .int 0]))) := (kt14).trans (yTg.up hB14_a (fun q => q.1 rfl))
    show Y l S0 D K_X5_init 16 1 60 (fun r G1 => r = none ∧ ∃ r9 : Nat, G1 a = some (tg, .inr (9, [.ref r9, .int 0])) ∧ G1 r9 = some (tg + 1, .inl (aC 0, n, .inl (fun _ => 0))) ∧ yTg (fun t => t ≠ tg ∧ t ≠ tg + 1) G G1) (fun _ _ => False) (16 + 3) [(0, .ref a), (1, .int (Int32.ofNat n))] [] (yup G14 a (tg, .inr (9, [.ref a14, .int 0]))) 0 0
    generalize yup G14 a (tg, .inr (9, [.ref a14, .int 0])) = G16 at hA16 hB16_a14 kt16 ⊢
    refine y_blk 0 tq_X5_init (z := (19, [(0, .ref a), (1, .int (Int32.ofNat n))], [])) rfl ?_
    exact y_vret tq_X5_init rfl rfl (⟨rfl, a14, hA16, hB16_a14, kt16⟩)
  · exact absurd c6 (by rw [yle, yl_0, yofn (by omega)]; omega)
set_option maxHeartbeats 4000000 in
set_option maxRecDepth 100000 in
theorem m_X4_init {l : Launch} {S0 : State} {A0 : Array Value} {D : va_G} {aC : Nat → ClassId} {G : AH} (hS : yS l S0 A0 D aC) {a : Nat} (h : G a = some (4, .inr (8, [.null, .null, .null]))) : yM l S0 D yX4_init cX4_init 1 none 17 6 186 [.ref a] G (fun r G1 => r = none ∧ ∃ c0 r0 c1 r1 c2 r2 : Nat, G1 a = some (4, .inr (8, [.ref c0, .ref c1, .ref c2])) ∧ G1 c0 = some (100, .inr (9, [.ref r0, .int 0])) ∧ G1 r0 = some (101, .inl (aC 0, 6, .inl (fun _ => 0))) ∧ G1 c1 = some (102, .inr (9, [.ref r1, .int 0])) ∧ G1 r1 = some (103, .inl (aC 0, 6, .inl (fun _ => 0))) ∧ G1 c2 = some (104, .inr (9, [.ref r2, .int 0])) ∧ G1 r2 = some (105, .inl (aC 0, 6, .inl (fun _ => 0))) ∧ yTg (fun t => t ≠ 4 ∧ (t < 100 ∨ 106 ≤ t)) G G1) (fun _ _ => False) := by
  refine yM.ofK K_X4_init rfl (by decide) (Nat.le_of_ble_eq_true rfl) ?_
  refine y_blk 1 tq_X4_init (z := (1, [(0, .ref a)], [.ref a])) rfl ?_
  refine y_objInit hS tq_X4_init rfl ⟨by decide +kernel, by decide +kernel⟩ (by decide) (by decide) ?_
  refine y_blk 1 tq_X4_init (z := (5, [(0, .ref a)], [.ref a])) rfl ?_
  refine y_new 100 hS tq_X4_init (kc := 5) (ks := 184) rfl nw_X4_7 (fun c0 hne5 => ?_)
  have hle5 : yLe G (yup G c0 (100, .inr (9, [.null, .int 0]))) := yLe.new hne5
  have hA5 : (yup G c0 (100, .inr (9, [.null, .int 0]))) c0 = some (100, .inr (9, [.null, .int 0])) := yup_s _ _ _
  have hB5_a : (yup G c0 (100, .inr (9, [.null, .int 0]))) a = some (4, .inr (8, [.null, .null, .null])) := hle5 _ _ h
  have kt5 : yTg (fun t => t ≠ 4 ∧ (t < 100 ∨ 106 ≤ t)) G (yup G c0 (100, .inr (9, [.null, .int 0]))) := ((yTg.rfl' (f := fun t => t ≠ 4 ∧ (t < 100 ∨ 106 ≤ t)) (G := G))).trans (yTg.le hle5)
  generalize yup G c0 (100, .inr (9, [.null, .int 0])) = G5 at hle5 hA5 hB5_a kt5 ⊢
  refine y_blk 2 tq_X4_init (z := (11, [(0, .ref a)], [.int 6, .ref c0, .ref c0, .ref a])) rfl ?_
  refine y_callI hS tq_X4_init rfl (As := [.int (Int32.ofNat 6)]) rfl ci_X4_11 (m_X5_init hS (n := 6) hA5 (by decide) (by decide)) rfl (by decide) (Nat.le_of_ble_eq_true rfl) (fun r11 Gc11 q11 => ?_) (fun _ _ h9 => h9.elim)
  obtain ⟨rfl, r11, hO11, hR11, kt11_⟩ := q11
  have hB11_a := kt11_ _ _ _ hB5_a ⟨by decide, by decide⟩
  have hRr11 : Gc11 r11 = some (101, .inl (aC 0, 6, .inl (fun _ => 0))) := hR11
  have kt11 := (kt5).trans (kt11_.narrow (f := fun t => t ≠ 100 ∧ t ≠ 100 + 1) (g := fun t => t ≠ 4 ∧ (t < 100 ∨ 106 ≤ t)) (fun t ht => ⟨fun e9 => by have := ht.2; omega, fun e9 => by have := ht.2; omega⟩))
  refine y_blk 0 tq_X4_init (z := (14, [(0, .ref a)], [.ref c0, .ref a])) rfl ?_
  refine y_putF hS tq_X4_init rfl fp_X4_14_X4 rfl hB11_a (by omega) rfl rfl (Nat.le_of_ble_eq_true rfl) ?_
  have hA14 : (yup Gc11 a (4, .inr (8, [.ref c0, .null, .null]))) a = some (4, .inr (8, [.ref c0, .null, .null])) := yup_s _ _ _
  have hB14_c0 : (yup Gc11 a (4, .inr (8, [.ref c0, .null, .null]))) c0 = some (100, .inr (9, [.ref r11, .int 0])) := yup_o hO11 hB11_a (by decide)
  have hB14_r11 : (yup Gc11 a (4, .inr (8, [.ref c0, .null, .null]))) r11 = some (101, .inl (aC 0, 6, .inl (fun _ => 0))) := yup_o hRr11 hB11_a (by decide)
  have kt14 : yTg (fun t => t ≠ 4 ∧ (t < 100 ∨ 106 ≤ t)) G (yup Gc11 a (4, .inr (8, [.ref c0, .null, .null]))) := (kt11).trans (yTg.up hB11_a (fun q => q.1 rfl))
  show Y l S0 D K_X4_init 17 6 186 (fun r G1 => r = none ∧ ∃ c0 r0 c1 r1 c2 r2 : Nat, G1 a = some (4, .inr (8, [.ref c0, .ref c1, .ref c2])) ∧ G1 c0 = some (100, .inr (9, [.ref r0, .int 0])) ∧ G1 r0 = some (101, .inl (aC 0, 6, .inl (fun _ => 0))) ∧ G1 c1 = some (102, .inr (9, [.ref r1, .int 0])) ∧ G1 r1 = some (103, .inl (aC 0, 6, .inl (fun _ => 0))) ∧ G1 c2 = some (104, .inr (9, [.ref r2, .int 0])) ∧ G1 r2 = some (105, .inl (aC 0, 6, .inl (fun _ => 0))) ∧ yTg (fun t => t ≠ 4 ∧ (t < 100 ∨ 106 ≤ t)) G G1) (fun _ _ => False) (14 + 3) [(0, .ref a)] [] (yup Gc11 a (4, .inr (8, [.ref c0, .null, .null]))) 4 124
  generalize yup Gc11 a (4, .inr (8, [.ref c0, .null, .null])) = G14 at hA14 hB14_c0 hB14_r11 kt14 ⊢
  refine y_blk 1 tq_X4_init (z := (18, [(0, .ref a)], [.ref a])) rfl ?_
  refine y_new 102 hS tq_X4_init (kc := 3) (ks := 122) rfl nw_X4_7 (fun c1 hne18 => ?_)
  have hle18 : yLe G14 (yup G14 c1 (102, .inr (9, [.null, .int 0]))) := yLe.new hne18
  have hA18 : (yup G14 c1 (102, .inr (9, [.null, .int 0]))) c1 = some (102, .inr (9, [.null, .int 0])) := yup_s _ _ _
  have hB18_c0 : (yup G14 c1 (102, .inr (9, [.null, .int 0]))) c0 = some (100, .inr (9, [.ref r11, .int 0])) := hle18 _ _ hB14_c0
  have hB18_r11 : (yup G14 c1 (102, .inr (9, [.null, .int 0]))) r11 = some (101, .inl (aC 0, 6, .inl (fun _ => 0))) := hle18 _ _ hB14_r11
  have hB18_a : (yup G14 c1 (102, .inr (9, [.null, .int 0]))) a = some (4, .inr (8, [.ref c0, .null, .null])) := hle18 _ _ hA14
  have kt18 : yTg (fun t => t ≠ 4 ∧ (t < 100 ∨ 106 ≤ t)) G (yup G14 c1 (102, .inr (9, [.null, .int 0]))) := (kt14).trans (yTg.le hle18)
  generalize yup G14 c1 (102, .inr (9, [.null, .int 0])) = G18 at hle18 hA18 hB18_c0 hB18_r11 hB18_a kt18 ⊢
  refine y_blk 2 tq_X4_init (z := (24, [(0, .ref a)], [.int 6, .ref c1, .ref c1, .ref a])) rfl ?_
  refine y_callI hS tq_X4_init rfl (As := [.int (Int32.ofNat 6)]) rfl ci_X4_11 (m_X5_init hS (n := 6) hA18 (by decide) (by decide)) rfl (by decide) (Nat.le_of_ble_eq_true rfl) (fun r24 Gc24 q24 => ?_) (fun _ _ h9 => h9.elim)
  obtain ⟨rfl, r24, hO24, hR24, kt24_⟩ := q24
  have hB24_c0 := kt24_ _ _ _ hB18_c0 ⟨by decide, by decide⟩
  have hB24_r11 := kt24_ _ _ _ hB18_r11 ⟨by decide, by decide⟩
  have hB24_a := kt24_ _ _ _ hB18_a ⟨by decide, by decide⟩
  have hRr24 : Gc24 r24 = some (103, .inl (aC 0, 6, .inl (fun _ => 0))) := hR24
  have kt24 := (kt18).trans (kt24_.narrow (f := fun t => t ≠ 102 ∧ t ≠ 102 + 1) (g := fun t => t ≠ 4 ∧ (t < 100 ∨ 106 ≤ t)) (fun t ht => ⟨fun e9 => by have := ht.2; omega, fun e9 => by have := ht.2; omega⟩))
  refine y_blk 0 tq_X4_init (z := (27, [(0, .ref a)], [.ref c1, .ref a])) rfl ?_
  refine y_putF hS tq_X4_init rfl fp_X4_18_X4 rfl hB24_a (by omega) rfl rfl (Nat.le_of_ble_eq_true rfl) ?_
  have hA27 : (yup Gc24 a (4, .inr (8, [.ref c0, .ref c1, .null]))) a = some (4, .inr (8, [.ref c0, .ref c1, .null])) := yup_s _ _ _
  have hB27_c0 : (yup Gc24 a (4, .inr (8, [.ref c0, .ref c1, .null]))) c0 = some (100, .inr (9, [.ref r11, .int 0])) := yup_o hB24_c0 hB24_a (by decide)
  have hB27_r11 : (yup Gc24 a (4, .inr (8, [.ref c0, .ref c1, .null]))) r11 = some (101, .inl (aC 0, 6, .inl (fun _ => 0))) := yup_o hB24_r11 hB24_a (by decide)
  have hB27_c1 : (yup Gc24 a (4, .inr (8, [.ref c0, .ref c1, .null]))) c1 = some (102, .inr (9, [.ref r24, .int 0])) := yup_o hO24 hB24_a (by decide)
  have hB27_r24 : (yup Gc24 a (4, .inr (8, [.ref c0, .ref c1, .null]))) r24 = some (103, .inl (aC 0, 6, .inl (fun _ => 0))) := yup_o hRr24 hB24_a (by decide)
  have kt27 : yTg (fun t => t ≠ 4 ∧ (t < 100 ∨ 106 ≤ t)) G (yup Gc24 a (4, .inr (8, [.ref c0, .ref c1, .null]))) := (kt24).trans (yTg.up hB24_a (fun q => q.1 rfl))
  show Y l S0 D K_X4_init 17 6 186 (fun r G1 => r = none ∧ ∃ c0 r0 c1 r1 c2 r2 : Nat, G1 a = some (4, .inr (8, [.ref c0, .ref c1, .ref c2])) ∧ G1 c0 = some (100, .inr (9, [.ref r0, .int 0])) ∧ G1 r0 = some (101, .inl (aC 0, 6, .inl (fun _ => 0))) ∧ G1 c1 = some (102, .inr (9, [.ref r1, .int 0])) ∧ G1 r1 = some (103, .inl (aC 0, 6, .inl (fun _ => 0))) ∧ G1 c2 = some (104, .inr (9, [.ref r2, .int 0])) ∧ G1 r2 = some (105, .inl (aC 0, 6, .inl (fun _ => 0))) ∧ yTg (fun t => t ≠ 4 ∧ (t < 100 ∨ 106 ≤ t)) G G1) (fun _ _ => False) (27 + 3) [(0, .ref a)] [] (yup Gc24 a (4, .inr (8, [.ref c0, .ref c1, .null]))) 2 62
  generalize yup Gc24 a (4, .inr (8, [.ref c0, .ref c1, .null])) = G27 at hA27 hB27_c0 hB27_r11 hB27_c1 hB27_r24 kt27 ⊢
  refine y_blk 1 tq_X4_init (z := (31, [(0, .ref a)], [.ref a])) rfl ?_
  refine y_new 104 hS tq_X4_init (kc := 1) (ks := 60) rfl nw_X4_7 (fun c2 hne31 => ?_)
  have hle31 : yLe G27 (yup G27 c2 (104, .inr (9, [.null, .int 0]))) := yLe.new hne31
  have hA31 : (yup G27 c2 (104, .inr (9, [.null, .int 0]))) c2 = some (104, .inr (9, [.null, .int 0])) := yup_s _ _ _
  have hB31_c0 : (yup G27 c2 (104, .inr (9, [.null, .int 0]))) c0 = some (100, .inr (9, [.ref r11, .int 0])) := hle31 _ _ hB27_c0
  have hB31_r11 : (yup G27 c2 (104, .inr (9, [.null, .int 0]))) r11 = some (101, .inl (aC 0, 6, .inl (fun _ => 0))) := hle31 _ _ hB27_r11
  have hB31_c1 : (yup G27 c2 (104, .inr (9, [.null, .int 0]))) c1 = some (102, .inr (9, [.ref r24, .int 0])) := hle31 _ _ hB27_c1
  have hB31_r24 : (yup G27 c2 (104, .inr (9, [.null, .int 0]))) r24 = some (103, .inl (aC 0, 6, .inl (fun _ => 0))) := hle31 _ _ hB27_r24
  have hB31_a : (yup G27 c2 (104, .inr (9, [.null, .int 0]))) a = some (4, .inr (8, [.ref c0, .ref c1, .null])) := hle31 _ _ hA27
  have kt31 : yTg (fun t => t ≠ 4 ∧ (t < 100 ∨ 106 ≤ t)) G (yup G27 c2 (104, .inr (9, [.null, .int 0]))) := (kt27).trans (yTg.le hle31)
  generalize yup G27 c2 (104, .inr (9, [.null, .int 0])) = G31 at hle31 hA31 hB31_c0 hB31_r11 hB31_c1 hB31_r24 hB31_a kt31 ⊢
  refine y_blk 2 tq_X4_init (z := (37, [(0, .ref a)], [.int 6, .ref c2, .ref c2, .ref a])) rfl ?_
  refine y_callI hS tq_X4_init rfl (As := [.int (Int32.ofNat 6)]) rfl ci_X4_11 (m_X5_init hS (n := 6) hA31 (by decide) (by decide)) rfl (by decide) (Nat.le_of_ble_eq_true rfl) (fun r37 Gc37 q37 => ?_) (fun _ _ h9 => h9.elim)
  obtain ⟨rfl, r37, hO37, hR37, kt37_⟩ := q37
  have hB37_c0 := kt37_ _ _ _ hB31_c0 ⟨by decide, by decide⟩
  have hB37_r11 := kt37_ _ _ _ hB31_r11 ⟨by decide, by decide⟩
  have hB37_c1 := kt37_ _ _ _ hB31_c1 ⟨by decide, by decide⟩
  have hB37_r24 := kt37_ _ _ _ hB31_r24 ⟨by decide, by decide⟩
  have hB37_a := kt37_ _ _ _ hB31_a ⟨by decide, by decide⟩
  have hRr37 : Gc37 r37 = some (105, .inl (aC 0, 6, .inl (fun _ => 0))) := hR37
  have kt37 := (kt31).trans (kt37_.narrow (f := fun t => t ≠ 104 ∧ t ≠ 104 + 1) (g := fun t => t ≠ 4 ∧ (t < 100 ∨ 106 ≤ t)) (fun t ht => ⟨fun e9 => by have := ht.2; omega, fun e9 => by have := ht.2; omega⟩))
  refine y_blk 0 tq_X4_init (z := (40, [(0, .ref a)], [.ref c2, .ref a])) rfl ?_
  refine y_putF hS tq_X4_init rfl fp_X4_21_X4 rfl hB37_a (by omega) rfl rfl (Nat.le_of_ble_eq_true rfl) ?_
  have hA40 : (yup Gc37 a (4, .inr (8, [.ref c0, .ref c1, .ref c2]))) a = some (4, .inr (8, [.ref c0, .ref c1, .ref c2])) := yup_s _ _ _
  have hB40_c0 : (yup Gc37 a (4, .inr (8, [.ref c0, .ref c1, .ref c2]))) c0 = some (100, .inr (9, [.ref r11, .int 0])) := yup_o hB37_c0 hB37_a (by decide)
  have hB40_r11 : (yup Gc37 a (4, .inr (8, [.ref c0, .ref c1, .ref c2]))) r11 = some (101, .inl (aC 0, 6, .inl (fun _ => 0))) := yup_o hB37_r11 hB37_a (by decide)
  have hB40_c1 : (yup Gc37 a (4, .inr (8, [.ref c0, .ref c1, .ref c2]))) c1 = some (102, .inr (9, [.ref r24, .int 0])) := yup_o hB37_c1 hB37_a (by decide)
  have hB40_r24 : (yup Gc37 a (4, .inr (8, [.ref c0, .ref c1, .ref c2]))) r24 = some (103, .inl (aC 0, 6, .inl (fun _ => 0))) := yup_o hB37_r24 hB37_a (by decide)
  have hB40_c2 : (yup Gc37 a (4, .inr (8, [.ref c0, .ref c1, .ref c2]))) c2 = some (104, .inr (9, [.ref r37, .int 0])) := yup_o hO37 hB37_a (by decide)
  have hB40_r37 : (yup Gc37 a (4, .inr (8, [.ref c0, .ref c1, .ref c2]))) r37 = some (105, .inl (aC 0, 6, .inl (fun _ => 0))) := yup_o hRr37 hB37_a (by decide)
  have kt40 : yTg (fun t => t ≠ 4 ∧ (t < 100 ∨ 106 ≤ t)) G (yup Gc37 a (4, .inr (8, [.ref c0, .ref c1, .ref c2]))) := (kt37).trans (yTg.up hB37_a (fun q => q.1 rfl))
  show Y l S0 D K_X4_init 17 6 186 (fun r G1 => r = none ∧ ∃ c0 r0 c1 r1 c2 r2 : Nat, G1 a = some (4, .inr (8, [.ref c0, .ref c1, .ref c2])) ∧ G1 c0 = some (100, .inr (9, [.ref r0, .int 0])) ∧ G1 r0 = some (101, .inl (aC 0, 6, .inl (fun _ => 0))) ∧ G1 c1 = some (102, .inr (9, [.ref r1, .int 0])) ∧ G1 r1 = some (103, .inl (aC 0, 6, .inl (fun _ => 0))) ∧ G1 c2 = some (104, .inr (9, [.ref r2, .int 0])) ∧ G1 r2 = some (105, .inl (aC 0, 6, .inl (fun _ => 0))) ∧ yTg (fun t => t ≠ 4 ∧ (t < 100 ∨ 106 ≤ t)) G G1) (fun _ _ => False) (40 + 3) [(0, .ref a)] [] (yup Gc37 a (4, .inr (8, [.ref c0, .ref c1, .ref c2]))) 0 0
  generalize yup Gc37 a (4, .inr (8, [.ref c0, .ref c1, .ref c2])) = G40 at hA40 hB40_c0 hB40_r11 hB40_c1 hB40_r24 hB40_c2 hB40_r37 kt40 ⊢
  refine y_blk 0 tq_X4_init (z := (43, [(0, .ref a)], [])) rfl ?_
  exact y_vret tq_X4_init rfl rfl (⟨rfl, c0, r11, c1, r24, c2, r37, hA40, hB40_c0, hB40_r11, hB40_c1, hB40_r24, hB40_c2, hB40_r37, kt40⟩)
set_option maxHeartbeats 4000000 in
set_option maxRecDepth 100000 in
theorem m_X0_init {l : Launch} {S0 : State} {A0 : Array Value} {D : va_G} {aC : Nat → ClassId} {G : AH} (hS : yS l S0 A0 D aC) {a : Nat} (h : G a = some (5, .inr (4, [.null, .null]))) : yM l S0 D yX0_init cX0_init 1 none 17 4 124 [.ref a] G (fun r G1 => r = none ∧ ∃ c0 r0 c1 r1 : Nat, G1 a = some (5, .inr (4, [.ref c0, .ref c1])) ∧ G1 c0 = some (106, .inr (9, [.ref r0, .int 0])) ∧ G1 r0 = some (107, .inl (aC 0, 8, .inl (fun _ => 0))) ∧ G1 c1 = some (108, .inr (9, [.ref r1, .int 0])) ∧ G1 r1 = some (109, .inl (aC 0, 8, .inl (fun _ => 0))) ∧ yTg (fun t => t ≠ 5 ∧ (t < 106 ∨ 110 ≤ t)) G G1) (fun _ _ => False) := by
  refine yM.ofK K_X0_init rfl (by decide) (Nat.le_of_ble_eq_true rfl) ?_
  refine y_blk 1 tq_X0_init (z := (1, [(0, .ref a)], [.ref a])) rfl ?_
  refine y_objInit hS tq_X0_init rfl ⟨by decide +kernel, by decide +kernel⟩ (by decide) (by decide) ?_
  refine y_blk 1 tq_X0_init (z := (5, [(0, .ref a)], [.ref a])) rfl ?_
  refine y_new 106 hS tq_X0_init (kc := 3) (ks := 122) rfl nw_X0_9 (fun c0 hne5 => ?_)
  have hle5 : yLe G (yup G c0 (106, .inr (9, [.null, .int 0]))) := yLe.new hne5
  have hA5 : (yup G c0 (106, .inr (9, [.null, .int 0]))) c0 = some (106, .inr (9, [.null, .int 0])) := yup_s _ _ _
  have hB5_a : (yup G c0 (106, .inr (9, [.null, .int 0]))) a = some (5, .inr (4, [.null, .null])) := hle5 _ _ h
  have kt5 : yTg (fun t => t ≠ 5 ∧ (t < 106 ∨ 110 ≤ t)) G (yup G c0 (106, .inr (9, [.null, .int 0]))) := ((yTg.rfl' (f := fun t => t ≠ 5 ∧ (t < 106 ∨ 110 ≤ t)) (G := G))).trans (yTg.le hle5)
  generalize yup G c0 (106, .inr (9, [.null, .int 0])) = G5 at hle5 hA5 hB5_a kt5 ⊢
  refine y_blk 2 tq_X0_init (z := (11, [(0, .ref a)], [.int 8, .ref c0, .ref c0, .ref a])) rfl ?_
  refine y_callI hS tq_X0_init rfl (As := [.int (Int32.ofNat 8)]) rfl ci_X0_13 (m_X5_init hS (n := 8) hA5 (by decide) (by decide)) rfl (by decide) (Nat.le_of_ble_eq_true rfl) (fun r11 Gc11 q11 => ?_) (fun _ _ h9 => h9.elim)
  obtain ⟨rfl, r11, hO11, hR11, kt11_⟩ := q11
  have hB11_a := kt11_ _ _ _ hB5_a ⟨by decide, by decide⟩
  have hRr11 : Gc11 r11 = some (107, .inl (aC 0, 8, .inl (fun _ => 0))) := hR11
  have kt11 := (kt5).trans (kt11_.narrow (f := fun t => t ≠ 106 ∧ t ≠ 106 + 1) (g := fun t => t ≠ 5 ∧ (t < 106 ∨ 110 ≤ t)) (fun t ht => ⟨fun e9 => by have := ht.2; omega, fun e9 => by have := ht.2; omega⟩))
  refine y_blk 0 tq_X0_init (z := (14, [(0, .ref a)], [.ref c0, .ref a])) rfl ?_
  refine y_putF hS tq_X0_init rfl fp_X0_16_X0 rfl hB11_a (by omega) rfl rfl (Nat.le_of_ble_eq_true rfl) ?_
  have hA14 : (yup Gc11 a (5, .inr (4, [.ref c0, .null]))) a = some (5, .inr (4, [.ref c0, .null])) := yup_s _ _ _
  have hB14_c0 : (yup Gc11 a (5, .inr (4, [.ref c0, .null]))) c0 = some (106, .inr (9, [.ref r11, .int 0])) := yup_o hO11 hB11_a (by decide)
  have hB14_r11 : (yup Gc11 a (5, .inr (4, [.ref c0, .null]))) r11 = some (107, .inl (aC 0, 8, .inl (fun _ => 0))) := yup_o hRr11 hB11_a (by decide)
  have kt14 : yTg (fun t => t ≠ 5 ∧ (t < 106 ∨ 110 ≤ t)) G (yup Gc11 a (5, .inr (4, [.ref c0, .null]))) := (kt11).trans (yTg.up hB11_a (fun q => q.1 rfl))
  show Y l S0 D K_X0_init 17 4 124 (fun r G1 => r = none ∧ ∃ c0 r0 c1 r1 : Nat, G1 a = some (5, .inr (4, [.ref c0, .ref c1])) ∧ G1 c0 = some (106, .inr (9, [.ref r0, .int 0])) ∧ G1 r0 = some (107, .inl (aC 0, 8, .inl (fun _ => 0))) ∧ G1 c1 = some (108, .inr (9, [.ref r1, .int 0])) ∧ G1 r1 = some (109, .inl (aC 0, 8, .inl (fun _ => 0))) ∧ yTg (fun t => t ≠ 5 ∧ (t < 106 ∨ 110 ≤ t)) G G1) (fun _ _ => False) (14 + 3) [(0, .ref a)] [] (yup Gc11 a (5, .inr (4, [.ref c0, .null]))) 2 62
  generalize yup Gc11 a (5, .inr (4, [.ref c0, .null])) = G14 at hA14 hB14_c0 hB14_r11 kt14 ⊢
  refine y_blk 1 tq_X0_init (z := (18, [(0, .ref a)], [.ref a])) rfl ?_
  refine y_new 108 hS tq_X0_init (kc := 1) (ks := 60) rfl nw_X0_9 (fun c1 hne18 => ?_)
  have hle18 : yLe G14 (yup G14 c1 (108, .inr (9, [.null, .int 0]))) := yLe.new hne18
  have hA18 : (yup G14 c1 (108, .inr (9, [.null, .int 0]))) c1 = some (108, .inr (9, [.null, .int 0])) := yup_s _ _ _
  have hB18_c0 : (yup G14 c1 (108, .inr (9, [.null, .int 0]))) c0 = some (106, .inr (9, [.ref r11, .int 0])) := hle18 _ _ hB14_c0
  have hB18_r11 : (yup G14 c1 (108, .inr (9, [.null, .int 0]))) r11 = some (107, .inl (aC 0, 8, .inl (fun _ => 0))) := hle18 _ _ hB14_r11
  have hB18_a : (yup G14 c1 (108, .inr (9, [.null, .int 0]))) a = some (5, .inr (4, [.ref c0, .null])) := hle18 _ _ hA14
  have kt18 : yTg (fun t => t ≠ 5 ∧ (t < 106 ∨ 110 ≤ t)) G (yup G14 c1 (108, .inr (9, [.null, .int 0]))) := (kt14).trans (yTg.le hle18)
  generalize yup G14 c1 (108, .inr (9, [.null, .int 0])) = G18 at hle18 hA18 hB18_c0 hB18_r11 hB18_a kt18 ⊢
  refine y_blk 2 tq_X0_init (z := (24, [(0, .ref a)], [.int 8, .ref c1, .ref c1, .ref a])) rfl ?_
  refine y_callI hS tq_X0_init rfl (As := [.int (Int32.ofNat 8)]) rfl ci_X0_13 (m_X5_init hS (n := 8) hA18 (by decide) (by decide)) rfl (by decide) (Nat.le_of_ble_eq_true rfl) (fun r24 Gc24 q24 => ?_) (fun _ _ h9 => h9.elim)
  obtain ⟨rfl, r24, hO24, hR24, kt24_⟩ := q24
  have hB24_c0 := kt24_ _ _ _ hB18_c0 ⟨by decide, by decide⟩
  have hB24_r11 := kt24_ _ _ _ hB18_r11 ⟨by decide, by decide⟩
  have hB24_a := kt24_ _ _ _ hB18_a ⟨by decide, by decide⟩
  have hRr24 : Gc24 r24 = some (109, .inl (aC 0, 8, .inl (fun _ => 0))) := hR24
  have kt24 := (kt18).trans (kt24_.narrow (f := fun t => t ≠ 108 ∧ t ≠ 108 + 1) (g := fun t => t ≠ 5 ∧ (t < 106 ∨ 110 ≤ t)) (fun t ht => ⟨fun e9 => by have := ht.2; omega, fun e9 => by have := ht.2; omega⟩))
  refine y_blk 0 tq_X0_init (z := (27, [(0, .ref a)], [.ref c1, .ref a])) rfl ?_
  refine y_putF hS tq_X0_init rfl fp_X0_20_X0 rfl hB24_a (by omega) rfl rfl (Nat.le_of_ble_eq_true rfl) ?_
  have hA27 : (yup Gc24 a (5, .inr (4, [.ref c0, .ref c1]))) a = some (5, .inr (4, [.ref c0, .ref c1])) := yup_s _ _ _
  have hB27_c0 : (yup Gc24 a (5, .inr (4, [.ref c0, .ref c1]))) c0 = some (106, .inr (9, [.ref r11, .int 0])) := yup_o hB24_c0 hB24_a (by decide)
  have hB27_r11 : (yup Gc24 a (5, .inr (4, [.ref c0, .ref c1]))) r11 = some (107, .inl (aC 0, 8, .inl (fun _ => 0))) := yup_o hB24_r11 hB24_a (by decide)
  have hB27_c1 : (yup Gc24 a (5, .inr (4, [.ref c0, .ref c1]))) c1 = some (108, .inr (9, [.ref r24, .int 0])) := yup_o hO24 hB24_a (by decide)
  have hB27_r24 : (yup Gc24 a (5, .inr (4, [.ref c0, .ref c1]))) r24 = some (109, .inl (aC 0, 8, .inl (fun _ => 0))) := yup_o hRr24 hB24_a (by decide)
  have kt27 : yTg (fun t => t ≠ 5 ∧ (t < 106 ∨ 110 ≤ t)) G (yup Gc24 a (5, .inr (4, [.ref c0, .ref c1]))) := (kt24).trans (yTg.up hB24_a (fun q => q.1 rfl))
  show Y l S0 D K_X0_init 17 4 124 (fun r G1 => r = none ∧ ∃ c0 r0 c1 r1 : Nat, G1 a = some (5, .inr (4, [.ref c0, .ref c1])) ∧ G1 c0 = some (106, .inr (9, [.ref r0, .int 0])) ∧ G1 r0 = some (107, .inl (aC 0, 8, .inl (fun _ => 0))) ∧ G1 c1 = some (108, .inr (9, [.ref r1, .int 0])) ∧ G1 r1 = some (109, .inl (aC 0, 8, .inl (fun _ => 0))) ∧ yTg (fun t => t ≠ 5 ∧ (t < 106 ∨ 110 ≤ t)) G G1) (fun _ _ => False) (27 + 3) [(0, .ref a)] [] (yup Gc24 a (5, .inr (4, [.ref c0, .ref c1]))) 0 0
  generalize yup Gc24 a (5, .inr (4, [.ref c0, .ref c1])) = G27 at hA27 hB27_c0 hB27_r11 hB27_c1 hB27_r24 kt27 ⊢
  refine y_blk 0 tq_X0_init (z := (30, [(0, .ref a)], [])) rfl ?_
  exact y_vret tq_X0_init rfl rfl (⟨rfl, c0, r11, c1, r24, hA27, hB27_c0, hB27_r11, hB27_c1, hB27_r24, kt27⟩)
set_option maxHeartbeats 4000000 in
set_option maxRecDepth 100000 in
theorem m_X2_init {l : Launch} {S0 : State} {A0 : Array Value} {D : va_G} {aC : Nat → ClassId} {G : AH} (hS : yS l S0 A0 D aC) {a : Nat} (h : G a = some (6, .inr (6, [.null, .null, .null, .null, .null]))) : yM l S0 D yX2_init cX2_init 1 none 17 10 310 [.ref a] G (fun r G1 => r = none ∧ ∃ c0 r0 c1 r1 c2 r2 c3 r3 c4 r4 : Nat, G1 a = some (6, .inr (6, [.ref c0, .ref c1, .ref c2, .ref c3, .ref c4])) ∧ G1 c0 = some (110, .inr (9, [.ref r0, .int 0])) ∧ G1 r0 = some (111, .inl (aC 0, 6, .inl (fun _ => 0))) ∧ G1 c1 = some (112, .inr (9, [.ref r1, .int 0])) ∧ G1 r1 = some (113, .inl (aC 0, 6, .inl (fun _ => 0))) ∧ G1 c2 = some (114, .inr (9, [.ref r2, .int 0])) ∧ G1 r2 = some (115, .inl (aC 0, 6, .inl (fun _ => 0))) ∧ G1 c3 = some (116, .inr (9, [.ref r3, .int 0])) ∧ G1 r3 = some (117, .inl (aC 0, 6, .inl (fun _ => 0))) ∧ G1 c4 = some (118, .inr (9, [.ref r4, .int 0])) ∧ G1 r4 = some (119, .inl (aC 0, 36, .inl (fun _ => 0))) ∧ yTg (fun t => t ≠ 6 ∧ (t < 110 ∨ 120 ≤ t)) G G1) (fun _ _ => False) := by
  refine yM.ofK K_X2_init rfl (by decide) (Nat.le_of_ble_eq_true rfl) ?_
  refine y_blk 1 tq_X2_init (z := (1, [(0, .ref a)], [.ref a])) rfl ?_
  refine y_objInit hS tq_X2_init rfl ⟨by decide +kernel, by decide +kernel⟩ (by decide) (by decide) ?_
  refine y_blk 1 tq_X2_init (z := (5, [(0, .ref a)], [.ref a])) rfl ?_
  refine y_new 110 hS tq_X2_init (kc := 9) (ks := 308) rfl nw_X2_9 (fun c0 hne5 => ?_)
  have hle5 : yLe G (yup G c0 (110, .inr (9, [.null, .int 0]))) := yLe.new hne5
  have hA5 : (yup G c0 (110, .inr (9, [.null, .int 0]))) c0 = some (110, .inr (9, [.null, .int 0])) := yup_s _ _ _
  have hB5_a : (yup G c0 (110, .inr (9, [.null, .int 0]))) a = some (6, .inr (6, [.null, .null, .null, .null, .null])) := hle5 _ _ h
  have kt5 : yTg (fun t => t ≠ 6 ∧ (t < 110 ∨ 120 ≤ t)) G (yup G c0 (110, .inr (9, [.null, .int 0]))) := ((yTg.rfl' (f := fun t => t ≠ 6 ∧ (t < 110 ∨ 120 ≤ t)) (G := G))).trans (yTg.le hle5)
  generalize yup G c0 (110, .inr (9, [.null, .int 0])) = G5 at hle5 hA5 hB5_a kt5 ⊢
  refine y_blk 2 tq_X2_init (z := (11, [(0, .ref a)], [.int 6, .ref c0, .ref c0, .ref a])) rfl ?_
  refine y_callI hS tq_X2_init rfl (As := [.int (Int32.ofNat 6)]) rfl ci_X2_11 (m_X5_init hS (n := 6) hA5 (by decide) (by decide)) rfl (by decide) (Nat.le_of_ble_eq_true rfl) (fun r11 Gc11 q11 => ?_) (fun _ _ h9 => h9.elim)
  obtain ⟨rfl, r11, hO11, hR11, kt11_⟩ := q11
  have hB11_a := kt11_ _ _ _ hB5_a ⟨by decide, by decide⟩
  have hRr11 : Gc11 r11 = some (111, .inl (aC 0, 6, .inl (fun _ => 0))) := hR11
  have kt11 := (kt5).trans (kt11_.narrow (f := fun t => t ≠ 110 ∧ t ≠ 110 + 1) (g := fun t => t ≠ 6 ∧ (t < 110 ∨ 120 ≤ t)) (fun t ht => ⟨fun e9 => by have := ht.2; omega, fun e9 => by have := ht.2; omega⟩))
  refine y_blk 0 tq_X2_init (z := (14, [(0, .ref a)], [.ref c0, .ref a])) rfl ?_
  refine y_putF hS tq_X2_init rfl fp_X2_14_X2 rfl hB11_a (by omega) rfl rfl (Nat.le_of_ble_eq_true rfl) ?_
  have hA14 : (yup Gc11 a (6, .inr (6, [.ref c0, .null, .null, .null, .null]))) a = some (6, .inr (6, [.ref c0, .null, .null, .null, .null])) := yup_s _ _ _
  have hB14_c0 : (yup Gc11 a (6, .inr (6, [.ref c0, .null, .null, .null, .null]))) c0 = some (110, .inr (9, [.ref r11, .int 0])) := yup_o hO11 hB11_a (by decide)
  have hB14_r11 : (yup Gc11 a (6, .inr (6, [.ref c0, .null, .null, .null, .null]))) r11 = some (111, .inl (aC 0, 6, .inl (fun _ => 0))) := yup_o hRr11 hB11_a (by decide)
  have kt14 : yTg (fun t => t ≠ 6 ∧ (t < 110 ∨ 120 ≤ t)) G (yup Gc11 a (6, .inr (6, [.ref c0, .null, .null, .null, .null]))) := (kt11).trans (yTg.up hB11_a (fun q => q.1 rfl))
  show Y l S0 D K_X2_init 17 10 310 (fun r G1 => r = none ∧ ∃ c0 r0 c1 r1 c2 r2 c3 r3 c4 r4 : Nat, G1 a = some (6, .inr (6, [.ref c0, .ref c1, .ref c2, .ref c3, .ref c4])) ∧ G1 c0 = some (110, .inr (9, [.ref r0, .int 0])) ∧ G1 r0 = some (111, .inl (aC 0, 6, .inl (fun _ => 0))) ∧ G1 c1 = some (112, .inr (9, [.ref r1, .int 0])) ∧ G1 r1 = some (113, .inl (aC 0, 6, .inl (fun _ => 0))) ∧ G1 c2 = some (114, .inr (9, [.ref r2, .int 0])) ∧ G1 r2 = some (115, .inl (aC 0, 6, .inl (fun _ => 0))) ∧ G1 c3 = some (116, .inr (9, [.ref r3, .int 0])) ∧ G1 r3 = some (117, .inl (aC 0, 6, .inl (fun _ => 0))) ∧ G1 c4 = some (118, .inr (9, [.ref r4, .int 0])) ∧ G1 r4 = some (119, .inl (aC 0, 36, .inl (fun _ => 0))) ∧ yTg (fun t => t ≠ 6 ∧ (t < 110 ∨ 120 ≤ t)) G G1) (fun _ _ => False) (14 + 3) [(0, .ref a)] [] (yup Gc11 a (6, .inr (6, [.ref c0, .null, .null, .null, .null]))) 8 248
  generalize yup Gc11 a (6, .inr (6, [.ref c0, .null, .null, .null, .null])) = G14 at hA14 hB14_c0 hB14_r11 kt14 ⊢
  refine y_blk 1 tq_X2_init (z := (18, [(0, .ref a)], [.ref a])) rfl ?_
  refine y_new 112 hS tq_X2_init (kc := 7) (ks := 246) rfl nw_X2_9 (fun c1 hne18 => ?_)
  have hle18 : yLe G14 (yup G14 c1 (112, .inr (9, [.null, .int 0]))) := yLe.new hne18
  have hA18 : (yup G14 c1 (112, .inr (9, [.null, .int 0]))) c1 = some (112, .inr (9, [.null, .int 0])) := yup_s _ _ _
  have hB18_c0 : (yup G14 c1 (112, .inr (9, [.null, .int 0]))) c0 = some (110, .inr (9, [.ref r11, .int 0])) := hle18 _ _ hB14_c0
  have hB18_r11 : (yup G14 c1 (112, .inr (9, [.null, .int 0]))) r11 = some (111, .inl (aC 0, 6, .inl (fun _ => 0))) := hle18 _ _ hB14_r11
  have hB18_a : (yup G14 c1 (112, .inr (9, [.null, .int 0]))) a = some (6, .inr (6, [.ref c0, .null, .null, .null, .null])) := hle18 _ _ hA14
  have kt18 : yTg (fun t => t ≠ 6 ∧ (t < 110 ∨ 120 ≤ t)) G (yup G14 c1 (112, .inr (9, [.null, .int 0]))) := (kt14).trans (yTg.le hle18)
  generalize yup G14 c1 (112, .inr (9, [.null, .int 0])) = G18 at hle18 hA18 hB18_c0 hB18_r11 hB18_a kt18 ⊢
  refine y_blk 2 tq_X2_init (z := (24, [(0, .ref a)], [.int 6, .ref c1, .ref c1, .ref a])) rfl ?_
  refine y_callI hS tq_X2_init rfl (As := [.int (Int32.ofNat 6)]) rfl ci_X2_11 (m_X5_init hS (n := 6) hA18 (by decide) (by decide)) rfl (by decide) (Nat.le_of_ble_eq_true rfl) (fun r24 Gc24 q24 => ?_) (fun _ _ h9 => h9.elim)
  obtain ⟨rfl, r24, hO24, hR24, kt24_⟩ := q24
  have hB24_c0 := kt24_ _ _ _ hB18_c0 ⟨by decide, by decide⟩
  have hB24_r11 := kt24_ _ _ _ hB18_r11 ⟨by decide, by decide⟩
  have hB24_a := kt24_ _ _ _ hB18_a ⟨by decide, by decide⟩
  have hRr24 : Gc24 r24 = some (113, .inl (aC 0, 6, .inl (fun _ => 0))) := hR24
  have kt24 := (kt18).trans (kt24_.narrow (f := fun t => t ≠ 112 ∧ t ≠ 112 + 1) (g := fun t => t ≠ 6 ∧ (t < 110 ∨ 120 ≤ t)) (fun t ht => ⟨fun e9 => by have := ht.2; omega, fun e9 => by have := ht.2; omega⟩))
  refine y_blk 0 tq_X2_init (z := (27, [(0, .ref a)], [.ref c1, .ref a])) rfl ?_
  refine y_putF hS tq_X2_init rfl fp_X2_20_X2 rfl hB24_a (by omega) rfl rfl (Nat.le_of_ble_eq_true rfl) ?_
  have hA27 : (yup Gc24 a (6, .inr (6, [.ref c0, .ref c1, .null, .null, .null]))) a = some (6, .inr (6, [.ref c0, .ref c1, .null, .null, .null])) := yup_s _ _ _
  have hB27_c0 : (yup Gc24 a (6, .inr (6, [.ref c0, .ref c1, .null, .null, .null]))) c0 = some (110, .inr (9, [.ref r11, .int 0])) := yup_o hB24_c0 hB24_a (by decide)
  have hB27_r11 : (yup Gc24 a (6, .inr (6, [.ref c0, .ref c1, .null, .null, .null]))) r11 = some (111, .inl (aC 0, 6, .inl (fun _ => 0))) := yup_o hB24_r11 hB24_a (by decide)
  have hB27_c1 : (yup Gc24 a (6, .inr (6, [.ref c0, .ref c1, .null, .null, .null]))) c1 = some (112, .inr (9, [.ref r24, .int 0])) := yup_o hO24 hB24_a (by decide)
  have hB27_r24 : (yup Gc24 a (6, .inr (6, [.ref c0, .ref c1, .null, .null, .null]))) r24 = some (113, .inl (aC 0, 6, .inl (fun _ => 0))) := yup_o hRr24 hB24_a (by decide)
  have kt27 : yTg (fun t => t ≠ 6 ∧ (t < 110 ∨ 120 ≤ t)) G (yup Gc24 a (6, .inr (6, [.ref c0, .ref c1, .null, .null, .null]))) := (kt24).trans (yTg.up hB24_a (fun q => q.1 rfl))
  show Y l S0 D K_X2_init 17 10 310 (fun r G1 => r = none ∧ ∃ c0 r0 c1 r1 c2 r2 c3 r3 c4 r4 : Nat, G1 a = some (6, .inr (6, [.ref c0, .ref c1, .ref c2, .ref c3, .ref c4])) ∧ G1 c0 = some (110, .inr (9, [.ref r0, .int 0])) ∧ G1 r0 = some (111, .inl (aC 0, 6, .inl (fun _ => 0))) ∧ G1 c1 = some (112, .inr (9, [.ref r1, .int 0])) ∧ G1 r1 = some (113, .inl (aC 0, 6, .inl (fun _ => 0))) ∧ G1 c2 = some (114, .inr (9, [.ref r2, .int 0])) ∧ G1 r2 = some (115, .inl (aC 0, 6, .inl (fun _ => 0))) ∧ G1 c3 = some (116, .inr (9, [.ref r3, .int 0])) ∧ G1 r3 = some (117, .inl (aC 0, 6, .inl (fun _ => 0))) ∧ G1 c4 = some (118, .inr (9, [.ref r4, .int 0])) ∧ G1 r4 = some (119, .inl (aC 0, 36, .inl (fun _ => 0))) ∧ yTg (fun t => t ≠ 6 ∧ (t < 110 ∨ 120 ≤ t)) G G1) (fun _ _ => False) (27 + 3) [(0, .ref a)] [] (yup Gc24 a (6, .inr (6, [.ref c0, .ref c1, .null, .null, .null]))) 6 186
  generalize yup Gc24 a (6, .inr (6, [.ref c0, .ref c1, .null, .null, .null])) = G27 at hA27 hB27_c0 hB27_r11 hB27_c1 hB27_r24 kt27 ⊢
  refine y_blk 1 tq_X2_init (z := (31, [(0, .ref a)], [.ref a])) rfl ?_
  refine y_new 114 hS tq_X2_init (kc := 5) (ks := 184) rfl nw_X2_9 (fun c2 hne31 => ?_)
  have hle31 : yLe G27 (yup G27 c2 (114, .inr (9, [.null, .int 0]))) := yLe.new hne31
  have hA31 : (yup G27 c2 (114, .inr (9, [.null, .int 0]))) c2 = some (114, .inr (9, [.null, .int 0])) := yup_s _ _ _
  have hB31_c0 : (yup G27 c2 (114, .inr (9, [.null, .int 0]))) c0 = some (110, .inr (9, [.ref r11, .int 0])) := hle31 _ _ hB27_c0
  have hB31_r11 : (yup G27 c2 (114, .inr (9, [.null, .int 0]))) r11 = some (111, .inl (aC 0, 6, .inl (fun _ => 0))) := hle31 _ _ hB27_r11
  have hB31_c1 : (yup G27 c2 (114, .inr (9, [.null, .int 0]))) c1 = some (112, .inr (9, [.ref r24, .int 0])) := hle31 _ _ hB27_c1
  have hB31_r24 : (yup G27 c2 (114, .inr (9, [.null, .int 0]))) r24 = some (113, .inl (aC 0, 6, .inl (fun _ => 0))) := hle31 _ _ hB27_r24
  have hB31_a : (yup G27 c2 (114, .inr (9, [.null, .int 0]))) a = some (6, .inr (6, [.ref c0, .ref c1, .null, .null, .null])) := hle31 _ _ hA27
  have kt31 : yTg (fun t => t ≠ 6 ∧ (t < 110 ∨ 120 ≤ t)) G (yup G27 c2 (114, .inr (9, [.null, .int 0]))) := (kt27).trans (yTg.le hle31)
  generalize yup G27 c2 (114, .inr (9, [.null, .int 0])) = G31 at hle31 hA31 hB31_c0 hB31_r11 hB31_c1 hB31_r24 hB31_a kt31 ⊢
  refine y_blk 2 tq_X2_init (z := (37, [(0, .ref a)], [.int 6, .ref c2, .ref c2, .ref a])) rfl ?_
  refine y_callI hS tq_X2_init rfl (As := [.int (Int32.ofNat 6)]) rfl ci_X2_11 (m_X5_init hS (n := 6) hA31 (by decide) (by decide)) rfl (by decide) (Nat.le_of_ble_eq_true rfl) (fun r37 Gc37 q37 => ?_) (fun _ _ h9 => h9.elim)
  obtain ⟨rfl, r37, hO37, hR37, kt37_⟩ := q37
  have hB37_c0 := kt37_ _ _ _ hB31_c0 ⟨by decide, by decide⟩
  have hB37_r11 := kt37_ _ _ _ hB31_r11 ⟨by decide, by decide⟩
  have hB37_c1 := kt37_ _ _ _ hB31_c1 ⟨by decide, by decide⟩
  have hB37_r24 := kt37_ _ _ _ hB31_r24 ⟨by decide, by decide⟩
  have hB37_a := kt37_ _ _ _ hB31_a ⟨by decide, by decide⟩
  have hRr37 : Gc37 r37 = some (115, .inl (aC 0, 6, .inl (fun _ => 0))) := hR37
  have kt37 := (kt31).trans (kt37_.narrow (f := fun t => t ≠ 114 ∧ t ≠ 114 + 1) (g := fun t => t ≠ 6 ∧ (t < 110 ∨ 120 ≤ t)) (fun t ht => ⟨fun e9 => by have := ht.2; omega, fun e9 => by have := ht.2; omega⟩))
  refine y_blk 0 tq_X2_init (z := (40, [(0, .ref a)], [.ref c2, .ref a])) rfl ?_
  refine y_putF hS tq_X2_init rfl fp_X2_23_X2 rfl hB37_a (by omega) rfl rfl (Nat.le_of_ble_eq_true rfl) ?_
  have hA40 : (yup Gc37 a (6, .inr (6, [.ref c0, .ref c1, .ref c2, .null, .null]))) a = some (6, .inr (6, [.ref c0, .ref c1, .ref c2, .null, .null])) := yup_s _ _ _
  have hB40_c0 : (yup Gc37 a (6, .inr (6, [.ref c0, .ref c1, .ref c2, .null, .null]))) c0 = some (110, .inr (9, [.ref r11, .int 0])) := yup_o hB37_c0 hB37_a (by decide)
  have hB40_r11 : (yup Gc37 a (6, .inr (6, [.ref c0, .ref c1, .ref c2, .null, .null]))) r11 = some (111, .inl (aC 0, 6, .inl (fun _ => 0))) := yup_o hB37_r11 hB37_a (by decide)
  have hB40_c1 : (yup Gc37 a (6, .inr (6, [.ref c0, .ref c1, .ref c2, .null, .null]))) c1 = some (112, .inr (9, [.ref r24, .int 0])) := yup_o hB37_c1 hB37_a (by decide)
  have hB40_r24 : (yup Gc37 a (6, .inr (6, [.ref c0, .ref c1, .ref c2, .null, .null]))) r24 = some (113, .inl (aC 0, 6, .inl (fun _ => 0))) := yup_o hB37_r24 hB37_a (by decide)
  have hB40_c2 : (yup Gc37 a (6, .inr (6, [.ref c0, .ref c1, .ref c2, .null, .null]))) c2 = some (114, .inr (9, [.ref r37, .int 0])) := yup_o hO37 hB37_a (by decide)
  have hB40_r37 : (yup Gc37 a (6, .inr (6, [.ref c0, .ref c1, .ref c2, .null, .null]))) r37 = some (115, .inl (aC 0, 6, .inl (fun _ => 0))) := yup_o hRr37 hB37_a (by decide)
  have kt40 : yTg (fun t => t ≠ 6 ∧ (t < 110 ∨ 120 ≤ t)) G (yup Gc37 a (6, .inr (6, [.ref c0, .ref c1, .ref c2, .null, .null]))) := (kt37).trans (yTg.up hB37_a (fun q => q.1 rfl))
  show Y l S0 D K_X2_init 17 10 310 (fun r G1 => r = none ∧ ∃ c0 r0 c1 r1 c2 r2 c3 r3 c4 r4 : Nat, G1 a = some (6, .inr (6, [.ref c0, .ref c1, .ref c2, .ref c3, .ref c4])) ∧ G1 c0 = some (110, .inr (9, [.ref r0, .int 0])) ∧ G1 r0 = some (111, .inl (aC 0, 6, .inl (fun _ => 0))) ∧ G1 c1 = some (112, .inr (9, [.ref r1, .int 0])) ∧ G1 r1 = some (113, .inl (aC 0, 6, .inl (fun _ => 0))) ∧ G1 c2 = some (114, .inr (9, [.ref r2, .int 0])) ∧ G1 r2 = some (115, .inl (aC 0, 6, .inl (fun _ => 0))) ∧ G1 c3 = some (116, .inr (9, [.ref r3, .int 0])) ∧ G1 r3 = some (117, .inl (aC 0, 6, .inl (fun _ => 0))) ∧ G1 c4 = some (118, .inr (9, [.ref r4, .int 0])) ∧ G1 r4 = some (119, .inl (aC 0, 36, .inl (fun _ => 0))) ∧ yTg (fun t => t ≠ 6 ∧ (t < 110 ∨ 120 ≤ t)) G G1) (fun _ _ => False) (40 + 3) [(0, .ref a)] [] (yup Gc37 a (6, .inr (6, [.ref c0, .ref c1, .ref c2, .null, .null]))) 4 124
  generalize yup Gc37 a (6, .inr (6, [.ref c0, .ref c1, .ref c2, .null, .null])) = G40 at hA40 hB40_c0 hB40_r11 hB40_c1 hB40_r24 hB40_c2 hB40_r37 kt40 ⊢
  refine y_blk 1 tq_X2_init (z := (44, [(0, .ref a)], [.ref a])) rfl ?_
  refine y_new 116 hS tq_X2_init (kc := 3) (ks := 122) rfl nw_X2_9 (fun c3 hne44 => ?_)
  have hle44 : yLe G40 (yup G40 c3 (116, .inr (9, [.null, .int 0]))) := yLe.new hne44
  have hA44 : (yup G40 c3 (116, .inr (9, [.null, .int 0]))) c3 = some (116, .inr (9, [.null, .int 0])) := yup_s _ _ _
  have hB44_c0 : (yup G40 c3 (116, .inr (9, [.null, .int 0]))) c0 = some (110, .inr (9, [.ref r11, .int 0])) := hle44 _ _ hB40_c0
  have hB44_r11 : (yup G40 c3 (116, .inr (9, [.null, .int 0]))) r11 = some (111, .inl (aC 0, 6, .inl (fun _ => 0))) := hle44 _ _ hB40_r11
  have hB44_c1 : (yup G40 c3 (116, .inr (9, [.null, .int 0]))) c1 = some (112, .inr (9, [.ref r24, .int 0])) := hle44 _ _ hB40_c1
  have hB44_r24 : (yup G40 c3 (116, .inr (9, [.null, .int 0]))) r24 = some (113, .inl (aC 0, 6, .inl (fun _ => 0))) := hle44 _ _ hB40_r24
  have hB44_c2 : (yup G40 c3 (116, .inr (9, [.null, .int 0]))) c2 = some (114, .inr (9, [.ref r37, .int 0])) := hle44 _ _ hB40_c2
  have hB44_r37 : (yup G40 c3 (116, .inr (9, [.null, .int 0]))) r37 = some (115, .inl (aC 0, 6, .inl (fun _ => 0))) := hle44 _ _ hB40_r37
  have hB44_a : (yup G40 c3 (116, .inr (9, [.null, .int 0]))) a = some (6, .inr (6, [.ref c0, .ref c1, .ref c2, .null, .null])) := hle44 _ _ hA40
  have kt44 : yTg (fun t => t ≠ 6 ∧ (t < 110 ∨ 120 ≤ t)) G (yup G40 c3 (116, .inr (9, [.null, .int 0]))) := (kt40).trans (yTg.le hle44)
  generalize yup G40 c3 (116, .inr (9, [.null, .int 0])) = G44 at hle44 hA44 hB44_c0 hB44_r11 hB44_c1 hB44_r24 hB44_c2 hB44_r37 hB44_a kt44 ⊢
  refine y_blk 2 tq_X2_init (z := (50, [(0, .ref a)], [.int 6, .ref c3, .ref c3, .ref a])) rfl ?_
  refine y_callI hS tq_X2_init rfl (As := [.int (Int32.ofNat 6)]) rfl ci_X2_11 (m_X5_init hS (n := 6) hA44 (by decide) (by decide)) rfl (by decide) (Nat.le_of_ble_eq_true rfl) (fun r50 Gc50 q50 => ?_) (fun _ _ h9 => h9.elim)
  obtain ⟨rfl, r50, hO50, hR50, kt50_⟩ := q50
  have hB50_c0 := kt50_ _ _ _ hB44_c0 ⟨by decide, by decide⟩
  have hB50_r11 := kt50_ _ _ _ hB44_r11 ⟨by decide, by decide⟩
  have hB50_c1 := kt50_ _ _ _ hB44_c1 ⟨by decide, by decide⟩
  have hB50_r24 := kt50_ _ _ _ hB44_r24 ⟨by decide, by decide⟩
  have hB50_c2 := kt50_ _ _ _ hB44_c2 ⟨by decide, by decide⟩
  have hB50_r37 := kt50_ _ _ _ hB44_r37 ⟨by decide, by decide⟩
  have hB50_a := kt50_ _ _ _ hB44_a ⟨by decide, by decide⟩
  have hRr50 : Gc50 r50 = some (117, .inl (aC 0, 6, .inl (fun _ => 0))) := hR50
  have kt50 := (kt44).trans (kt50_.narrow (f := fun t => t ≠ 116 ∧ t ≠ 116 + 1) (g := fun t => t ≠ 6 ∧ (t < 110 ∨ 120 ≤ t)) (fun t ht => ⟨fun e9 => by have := ht.2; omega, fun e9 => by have := ht.2; omega⟩))
  refine y_blk 0 tq_X2_init (z := (53, [(0, .ref a)], [.ref c3, .ref a])) rfl ?_
  refine y_putF hS tq_X2_init rfl fp_X2_26_X2 rfl hB50_a (by omega) rfl rfl (Nat.le_of_ble_eq_true rfl) ?_
  have hA53 : (yup Gc50 a (6, .inr (6, [.ref c0, .ref c1, .ref c2, .ref c3, .null]))) a = some (6, .inr (6, [.ref c0, .ref c1, .ref c2, .ref c3, .null])) := yup_s _ _ _
  have hB53_c0 : (yup Gc50 a (6, .inr (6, [.ref c0, .ref c1, .ref c2, .ref c3, .null]))) c0 = some (110, .inr (9, [.ref r11, .int 0])) := yup_o hB50_c0 hB50_a (by decide)
  have hB53_r11 : (yup Gc50 a (6, .inr (6, [.ref c0, .ref c1, .ref c2, .ref c3, .null]))) r11 = some (111, .inl (aC 0, 6, .inl (fun _ => 0))) := yup_o hB50_r11 hB50_a (by decide)
  have hB53_c1 : (yup Gc50 a (6, .inr (6, [.ref c0, .ref c1, .ref c2, .ref c3, .null]))) c1 = some (112, .inr (9, [.ref r24, .int 0])) := yup_o hB50_c1 hB50_a (by decide)
  have hB53_r24 : (yup Gc50 a (6, .inr (6, [.ref c0, .ref c1, .ref c2, .ref c3, .null]))) r24 = some (113, .inl (aC 0, 6, .inl (fun _ => 0))) := yup_o hB50_r24 hB50_a (by decide)
  have hB53_c2 : (yup Gc50 a (6, .inr (6, [.ref c0, .ref c1, .ref c2, .ref c3, .null]))) c2 = some (114, .inr (9, [.ref r37, .int 0])) := yup_o hB50_c2 hB50_a (by decide)
  have hB53_r37 : (yup Gc50 a (6, .inr (6, [.ref c0, .ref c1, .ref c2, .ref c3, .null]))) r37 = some (115, .inl (aC 0, 6, .inl (fun _ => 0))) := yup_o hB50_r37 hB50_a (by decide)
  have hB53_c3 : (yup Gc50 a (6, .inr (6, [.ref c0, .ref c1, .ref c2, .ref c3, .null]))) c3 = some (116, .inr (9, [.ref r50, .int 0])) := yup_o hO50 hB50_a (by decide)
  have hB53_r50 : (yup Gc50 a (6, .inr (6, [.ref c0, .ref c1, .ref c2, .ref c3, .null]))) r50 = some (117, .inl (aC 0, 6, .inl (fun _ => 0))) := yup_o hRr50 hB50_a (by decide)
  have kt53 : yTg (fun t => t ≠ 6 ∧ (t < 110 ∨ 120 ≤ t)) G (yup Gc50 a (6, .inr (6, [.ref c0, .ref c1, .ref c2, .ref c3, .null]))) := (kt50).trans (yTg.up hB50_a (fun q => q.1 rfl))
  show Y l S0 D K_X2_init 17 10 310 (fun r G1 => r = none ∧ ∃ c0 r0 c1 r1 c2 r2 c3 r3 c4 r4 : Nat, G1 a = some (6, .inr (6, [.ref c0, .ref c1, .ref c2, .ref c3, .ref c4])) ∧ G1 c0 = some (110, .inr (9, [.ref r0, .int 0])) ∧ G1 r0 = some (111, .inl (aC 0, 6, .inl (fun _ => 0))) ∧ G1 c1 = some (112, .inr (9, [.ref r1, .int 0])) ∧ G1 r1 = some (113, .inl (aC 0, 6, .inl (fun _ => 0))) ∧ G1 c2 = some (114, .inr (9, [.ref r2, .int 0])) ∧ G1 r2 = some (115, .inl (aC 0, 6, .inl (fun _ => 0))) ∧ G1 c3 = some (116, .inr (9, [.ref r3, .int 0])) ∧ G1 r3 = some (117, .inl (aC 0, 6, .inl (fun _ => 0))) ∧ G1 c4 = some (118, .inr (9, [.ref r4, .int 0])) ∧ G1 r4 = some (119, .inl (aC 0, 36, .inl (fun _ => 0))) ∧ yTg (fun t => t ≠ 6 ∧ (t < 110 ∨ 120 ≤ t)) G G1) (fun _ _ => False) (53 + 3) [(0, .ref a)] [] (yup Gc50 a (6, .inr (6, [.ref c0, .ref c1, .ref c2, .ref c3, .null]))) 2 62
  generalize yup Gc50 a (6, .inr (6, [.ref c0, .ref c1, .ref c2, .ref c3, .null])) = G53 at hA53 hB53_c0 hB53_r11 hB53_c1 hB53_r24 hB53_c2 hB53_r37 hB53_c3 hB53_r50 kt53 ⊢
  refine y_blk 1 tq_X2_init (z := (57, [(0, .ref a)], [.ref a])) rfl ?_
  refine y_new 118 hS tq_X2_init (kc := 1) (ks := 60) rfl nw_X2_9 (fun c4 hne57 => ?_)
  have hle57 : yLe G53 (yup G53 c4 (118, .inr (9, [.null, .int 0]))) := yLe.new hne57
  have hA57 : (yup G53 c4 (118, .inr (9, [.null, .int 0]))) c4 = some (118, .inr (9, [.null, .int 0])) := yup_s _ _ _
  have hB57_c0 : (yup G53 c4 (118, .inr (9, [.null, .int 0]))) c0 = some (110, .inr (9, [.ref r11, .int 0])) := hle57 _ _ hB53_c0
  have hB57_r11 : (yup G53 c4 (118, .inr (9, [.null, .int 0]))) r11 = some (111, .inl (aC 0, 6, .inl (fun _ => 0))) := hle57 _ _ hB53_r11
  have hB57_c1 : (yup G53 c4 (118, .inr (9, [.null, .int 0]))) c1 = some (112, .inr (9, [.ref r24, .int 0])) := hle57 _ _ hB53_c1
  have hB57_r24 : (yup G53 c4 (118, .inr (9, [.null, .int 0]))) r24 = some (113, .inl (aC 0, 6, .inl (fun _ => 0))) := hle57 _ _ hB53_r24
  have hB57_c2 : (yup G53 c4 (118, .inr (9, [.null, .int 0]))) c2 = some (114, .inr (9, [.ref r37, .int 0])) := hle57 _ _ hB53_c2
  have hB57_r37 : (yup G53 c4 (118, .inr (9, [.null, .int 0]))) r37 = some (115, .inl (aC 0, 6, .inl (fun _ => 0))) := hle57 _ _ hB53_r37
  have hB57_c3 : (yup G53 c4 (118, .inr (9, [.null, .int 0]))) c3 = some (116, .inr (9, [.ref r50, .int 0])) := hle57 _ _ hB53_c3
  have hB57_r50 : (yup G53 c4 (118, .inr (9, [.null, .int 0]))) r50 = some (117, .inl (aC 0, 6, .inl (fun _ => 0))) := hle57 _ _ hB53_r50
  have hB57_a : (yup G53 c4 (118, .inr (9, [.null, .int 0]))) a = some (6, .inr (6, [.ref c0, .ref c1, .ref c2, .ref c3, .null])) := hle57 _ _ hA53
  have kt57 : yTg (fun t => t ≠ 6 ∧ (t < 110 ∨ 120 ≤ t)) G (yup G53 c4 (118, .inr (9, [.null, .int 0]))) := (kt53).trans (yTg.le hle57)
  generalize yup G53 c4 (118, .inr (9, [.null, .int 0])) = G57 at hle57 hA57 hB57_c0 hB57_r11 hB57_c1 hB57_r24 hB57_c2 hB57_r37 hB57_c3 hB57_r50 hB57_a kt57 ⊢
  refine y_blk 2 tq_X2_init (z := (63, [(0, .ref a)], [.int 36, .ref c4, .ref c4, .ref a])) rfl ?_
  refine y_callI hS tq_X2_init rfl (As := [.int (Int32.ofNat 36)]) rfl ci_X2_11 (m_X5_init hS (n := 36) hA57 (by decide) (by decide)) rfl (by decide) (Nat.le_of_ble_eq_true rfl) (fun r63 Gc63 q63 => ?_) (fun _ _ h9 => h9.elim)
  obtain ⟨rfl, r63, hO63, hR63, kt63_⟩ := q63
  have hB63_c0 := kt63_ _ _ _ hB57_c0 ⟨by decide, by decide⟩
  have hB63_r11 := kt63_ _ _ _ hB57_r11 ⟨by decide, by decide⟩
  have hB63_c1 := kt63_ _ _ _ hB57_c1 ⟨by decide, by decide⟩
  have hB63_r24 := kt63_ _ _ _ hB57_r24 ⟨by decide, by decide⟩
  have hB63_c2 := kt63_ _ _ _ hB57_c2 ⟨by decide, by decide⟩
  have hB63_r37 := kt63_ _ _ _ hB57_r37 ⟨by decide, by decide⟩
  have hB63_c3 := kt63_ _ _ _ hB57_c3 ⟨by decide, by decide⟩
  have hB63_r50 := kt63_ _ _ _ hB57_r50 ⟨by decide, by decide⟩
  have hB63_a := kt63_ _ _ _ hB57_a ⟨by decide, by decide⟩
  have hRr63 : Gc63 r63 = some (119, .inl (aC 0, 36, .inl (fun _ => 0))) := hR63
  have kt63 := (kt57).trans (kt63_.narrow (f := fun t => t ≠ 118 ∧ t ≠ 118 + 1) (g := fun t => t ≠ 6 ∧ (t < 110 ∨ 120 ≤ t)) (fun t ht => ⟨fun e9 => by have := ht.2; omega, fun e9 => by have := ht.2; omega⟩))
  refine y_blk 0 tq_X2_init (z := (66, [(0, .ref a)], [.ref c4, .ref a])) rfl ?_
  refine y_putF hS tq_X2_init rfl fp_X2_29_X2 rfl hB63_a (by omega) rfl rfl (Nat.le_of_ble_eq_true rfl) ?_
  have hA66 : (yup Gc63 a (6, .inr (6, [.ref c0, .ref c1, .ref c2, .ref c3, .ref c4]))) a = some (6, .inr (6, [.ref c0, .ref c1, .ref c2, .ref c3, .ref c4])) := yup_s _ _ _
  have hB66_c0 : (yup Gc63 a (6, .inr (6, [.ref c0, .ref c1, .ref c2, .ref c3, .ref c4]))) c0 = some (110, .inr (9, [.ref r11, .int 0])) := yup_o hB63_c0 hB63_a (by decide)
  have hB66_r11 : (yup Gc63 a (6, .inr (6, [.ref c0, .ref c1, .ref c2, .ref c3, .ref c4]))) r11 = some (111, .inl (aC 0, 6, .inl (fun _ => 0))) := yup_o hB63_r11 hB63_a (by decide)
  have hB66_c1 : (yup Gc63 a (6, .inr (6, [.ref c0, .ref c1, .ref c2, .ref c3, .ref c4]))) c1 = some (112, .inr (9, [.ref r24, .int 0])) := yup_o hB63_c1 hB63_a (by decide)
  have hB66_r24 : (yup Gc63 a (6, .inr (6, [.ref c0, .ref c1, .ref c2, .ref c3, .ref c4]))) r24 = some (113, .inl (aC 0, 6, .inl (fun _ => 0))) := yup_o hB63_r24 hB63_a (by decide)
  have hB66_c2 : (yup Gc63 a (6, .inr (6, [.ref c0, .ref c1, .ref c2, .ref c3, .ref c4]))) c2 = some (114, .inr (9, [.ref r37, .int 0])) := yup_o hB63_c2 hB63_a (by decide)
  have hB66_r37 : (yup Gc63 a (6, .inr (6, [.ref c0, .ref c1, .ref c2, .ref c3, .ref c4]))) r37 = some (115, .inl (aC 0, 6, .inl (fun _ => 0))) := yup_o hB63_r37 hB63_a (by decide)
  have hB66_c3 : (yup Gc63 a (6, .inr (6, [.ref c0, .ref c1, .ref c2, .ref c3, .ref c4]))) c3 = some (116, .inr (9, [.ref r50, .int 0])) := yup_o hB63_c3 hB63_a (by decide)
  have hB66_r50 : (yup Gc63 a (6, .inr (6, [.ref c0, .ref c1, .ref c2, .ref c3, .ref c4]))) r50 = some (117, .inl (aC 0, 6, .inl (fun _ => 0))) := yup_o hB63_r50 hB63_a (by decide)
  have hB66_c4 : (yup Gc63 a (6, .inr (6, [.ref c0, .ref c1, .ref c2, .ref c3, .ref c4]))) c4 = some (118, .inr (9, [.ref r63, .int 0])) := yup_o hO63 hB63_a (by decide)
  have hB66_r63 : (yup Gc63 a (6, .inr (6, [.ref c0, .ref c1, .ref c2, .ref c3, .ref c4]))) r63 = some (119, .inl (aC 0, 36, .inl (fun _ => 0))) := yup_o hRr63 hB63_a (by decide)
  have kt66 : yTg (fun t => t ≠ 6 ∧ (t < 110 ∨ 120 ≤ t)) G (yup Gc63 a (6, .inr (6, [.ref c0, .ref c1, .ref c2, .ref c3, .ref c4]))) := (kt63).trans (yTg.up hB63_a (fun q => q.1 rfl))
  show Y l S0 D K_X2_init 17 10 310 (fun r G1 => r = none ∧ ∃ c0 r0 c1 r1 c2 r2 c3 r3 c4 r4 : Nat, G1 a = some (6, .inr (6, [.ref c0, .ref c1, .ref c2, .ref c3, .ref c4])) ∧ G1 c0 = some (110, .inr (9, [.ref r0, .int 0])) ∧ G1 r0 = some (111, .inl (aC 0, 6, .inl (fun _ => 0))) ∧ G1 c1 = some (112, .inr (9, [.ref r1, .int 0])) ∧ G1 r1 = some (113, .inl (aC 0, 6, .inl (fun _ => 0))) ∧ G1 c2 = some (114, .inr (9, [.ref r2, .int 0])) ∧ G1 r2 = some (115, .inl (aC 0, 6, .inl (fun _ => 0))) ∧ G1 c3 = some (116, .inr (9, [.ref r3, .int 0])) ∧ G1 r3 = some (117, .inl (aC 0, 6, .inl (fun _ => 0))) ∧ G1 c4 = some (118, .inr (9, [.ref r4, .int 0])) ∧ G1 r4 = some (119, .inl (aC 0, 36, .inl (fun _ => 0))) ∧ yTg (fun t => t ≠ 6 ∧ (t < 110 ∨ 120 ≤ t)) G G1) (fun _ _ => False) (66 + 3) [(0, .ref a)] [] (yup Gc63 a (6, .inr (6, [.ref c0, .ref c1, .ref c2, .ref c3, .ref c4]))) 0 0
  generalize yup Gc63 a (6, .inr (6, [.ref c0, .ref c1, .ref c2, .ref c3, .ref c4])) = G66 at hA66 hB66_c0 hB66_r11 hB66_c1 hB66_r24 hB66_c2 hB66_r37 hB66_c3 hB66_r50 hB66_c4 hB66_r63 kt66 ⊢
  refine y_blk 0 tq_X2_init (z := (69, [(0, .ref a)], [])) rfl ?_
  exact y_vret tq_X2_init rfl rfl (⟨rfl, c0, r11, c1, r24, c2, r37, c3, r50, c4, r63, hA66, hB66_c0, hB66_r11, hB66_c1, hB66_r24, hB66_c2, hB66_r37, hB66_c3, hB66_r50, hB66_c4, hB66_r63, kt66⟩)
set_option maxHeartbeats 4000000 in
set_option maxRecDepth 100000 in
theorem m_X7_init {l : Launch} {S0 : State} {A0 : Array Value} {D : va_G} {aC : Nat → ClassId} {G : AH} (hS : yS l S0 A0 D aC) {a : Nat} (h : G a = some (7, .inr (11, [.null, .null, .null, .null, .int 0, .int 0, .int 0]))) : yM l S0 D yX7_init cX7_init 1 none 17 8 248 [.ref a] G (fun r G1 => r = none ∧ ∃ c0 r0 c1 r1 c2 r2 c3 r3 : Nat, G1 a = some (7, .inr (11, [.ref c0, .ref c1, .ref c2, .ref c3, .int 0, .int 0, .int 0])) ∧ G1 c0 = some (122, .inr (9, [.ref r0, .int 0])) ∧ G1 r0 = some (123, .inl (aC 0, 4, .inl (fun _ => 0))) ∧ G1 c1 = some (124, .inr (9, [.ref r1, .int 0])) ∧ G1 r1 = some (125, .inl (aC 0, 8, .inl (fun _ => 0))) ∧ G1 c2 = some (126, .inr (9, [.ref r2, .int 0])) ∧ G1 r2 = some (127, .inl (aC 0, 6, .inl (fun _ => 0))) ∧ G1 c3 = some (128, .inr (9, [.ref r3, .int 0])) ∧ G1 r3 = some (129, .inl (aC 0, 6, .inl (fun _ => 0))) ∧ yTg (fun t => t ≠ 7 ∧ (t < 122 ∨ 130 ≤ t)) G G1) (fun _ _ => False) := by
  refine yM.ofK K_X7_init rfl (by decide) (Nat.le_of_ble_eq_true rfl) ?_
  refine y_blk 1 tq_X7_init (z := (1, [(0, .ref a)], [.ref a])) rfl ?_
  refine y_objInit hS tq_X7_init rfl ⟨by decide +kernel, by decide +kernel⟩ (by decide) (by decide) ?_
  refine y_blk 1 tq_X7_init (z := (5, [(0, .ref a)], [.ref a])) rfl ?_
  refine y_new 122 hS tq_X7_init (kc := 7) (ks := 246) rfl nw_X7_9 (fun c0 hne5 => ?_)
  have hle5 : yLe G (yup G c0 (122, .inr (9, [.null, .int 0]))) := yLe.new hne5
  have hA5 : (yup G c0 (122, .inr (9, [.null, .int 0]))) c0 = some (122, .inr (9, [.null, .int 0])) := yup_s _ _ _
  have hB5_a : (yup G c0 (122, .inr (9, [.null, .int 0]))) a = some (7, .inr (11, [.null, .null, .null, .null, .int 0, .int 0, .int 0])) := hle5 _ _ h
  have kt5 : yTg (fun t => t ≠ 7 ∧ (t < 122 ∨ 130 ≤ t)) G (yup G c0 (122, .inr (9, [.null, .int 0]))) := ((yTg.rfl' (f := fun t => t ≠ 7 ∧ (t < 122 ∨ 130 ≤ t)) (G := G))).trans (yTg.le hle5)
  generalize yup G c0 (122, .inr (9, [.null, .int 0])) = G5 at hle5 hA5 hB5_a kt5 ⊢
  refine y_blk 2 tq_X7_init (z := (10, [(0, .ref a)], [.int 4, .ref c0, .ref c0, .ref a])) rfl ?_
  refine y_callI hS tq_X7_init rfl (As := [.int (Int32.ofNat 4)]) rfl ci_X7_11 (m_X5_init hS (n := 4) hA5 (by decide) (by decide)) rfl (by decide) (Nat.le_of_ble_eq_true rfl) (fun r10 Gc10 q10 => ?_) (fun _ _ h9 => h9.elim)
  obtain ⟨rfl, r10, hO10, hR10, kt10_⟩ := q10
  have hB10_a := kt10_ _ _ _ hB5_a ⟨by decide, by decide⟩
  have hRr10 : Gc10 r10 = some (123, .inl (aC 0, 4, .inl (fun _ => 0))) := hR10
  have kt10 := (kt5).trans (kt10_.narrow (f := fun t => t ≠ 122 ∧ t ≠ 122 + 1) (g := fun t => t ≠ 7 ∧ (t < 122 ∨ 130 ≤ t)) (fun t ht => ⟨fun e9 => by have := ht.2; omega, fun e9 => by have := ht.2; omega⟩))
  refine y_blk 0 tq_X7_init (z := (13, [(0, .ref a)], [.ref c0, .ref a])) rfl ?_
  refine y_putF hS tq_X7_init rfl fp_X7_14_X7 rfl hB10_a (by omega) rfl rfl (Nat.le_of_ble_eq_true rfl) ?_
  have hA13 : (yup Gc10 a (7, .inr (11, [.ref c0, .null, .null, .null, .int 0, .int 0, .int 0]))) a = some (7, .inr (11, [.ref c0, .null, .null, .null, .int 0, .int 0, .int 0])) := yup_s _ _ _
  have hB13_c0 : (yup Gc10 a (7, .inr (11, [.ref c0, .null, .null, .null, .int 0, .int 0, .int 0]))) c0 = some (122, .inr (9, [.ref r10, .int 0])) := yup_o hO10 hB10_a (by decide)
  have hB13_r10 : (yup Gc10 a (7, .inr (11, [.ref c0, .null, .null, .null, .int 0, .int 0, .int 0]))) r10 = some (123, .inl (aC 0, 4, .inl (fun _ => 0))) := yup_o hRr10 hB10_a (by decide)
  have kt13 : yTg (fun t => t ≠ 7 ∧ (t < 122 ∨ 130 ≤ t)) G (yup Gc10 a (7, .inr (11, [.ref c0, .null, .null, .null, .int 0, .int 0, .int 0]))) := (kt10).trans (yTg.up hB10_a (fun q => q.1 rfl))
  show Y l S0 D K_X7_init 17 8 248 (fun r G1 => r = none ∧ ∃ c0 r0 c1 r1 c2 r2 c3 r3 : Nat, G1 a = some (7, .inr (11, [.ref c0, .ref c1, .ref c2, .ref c3, .int 0, .int 0, .int 0])) ∧ G1 c0 = some (122, .inr (9, [.ref r0, .int 0])) ∧ G1 r0 = some (123, .inl (aC 0, 4, .inl (fun _ => 0))) ∧ G1 c1 = some (124, .inr (9, [.ref r1, .int 0])) ∧ G1 r1 = some (125, .inl (aC 0, 8, .inl (fun _ => 0))) ∧ G1 c2 = some (126, .inr (9, [.ref r2, .int 0])) ∧ G1 r2 = some (127, .inl (aC 0, 6, .inl (fun _ => 0))) ∧ G1 c3 = some (128, .inr (9, [.ref r3, .int 0])) ∧ G1 r3 = some (129, .inl (aC 0, 6, .inl (fun _ => 0))) ∧ yTg (fun t => t ≠ 7 ∧ (t < 122 ∨ 130 ≤ t)) G G1) (fun _ _ => False) (13 + 3) [(0, .ref a)] [] (yup Gc10 a (7, .inr (11, [.ref c0, .null, .null, .null, .int 0, .int 0, .int 0]))) 6 186
  generalize yup Gc10 a (7, .inr (11, [.ref c0, .null, .null, .null, .int 0, .int 0, .int 0])) = G13 at hA13 hB13_c0 hB13_r10 kt13 ⊢
  refine y_blk 1 tq_X7_init (z := (17, [(0, .ref a)], [.ref a])) rfl ?_
  refine y_new 124 hS tq_X7_init (kc := 5) (ks := 184) rfl nw_X7_9 (fun c1 hne17 => ?_)
  have hle17 : yLe G13 (yup G13 c1 (124, .inr (9, [.null, .int 0]))) := yLe.new hne17
  have hA17 : (yup G13 c1 (124, .inr (9, [.null, .int 0]))) c1 = some (124, .inr (9, [.null, .int 0])) := yup_s _ _ _
  have hB17_c0 : (yup G13 c1 (124, .inr (9, [.null, .int 0]))) c0 = some (122, .inr (9, [.ref r10, .int 0])) := hle17 _ _ hB13_c0
  have hB17_r10 : (yup G13 c1 (124, .inr (9, [.null, .int 0]))) r10 = some (123, .inl (aC 0, 4, .inl (fun _ => 0))) := hle17 _ _ hB13_r10
  have hB17_a : (yup G13 c1 (124, .inr (9, [.null, .int 0]))) a = some (7, .inr (11, [.ref c0, .null, .null, .null, .int 0, .int 0, .int 0])) := hle17 _ _ hA13
  have kt17 : yTg (fun t => t ≠ 7 ∧ (t < 122 ∨ 130 ≤ t)) G (yup G13 c1 (124, .inr (9, [.null, .int 0]))) := (kt13).trans (yTg.le hle17)
  generalize yup G13 c1 (124, .inr (9, [.null, .int 0])) = G17 at hle17 hA17 hB17_c0 hB17_r10 hB17_a kt17 ⊢
  refine y_blk 2 tq_X7_init (z := (23, [(0, .ref a)], [.int 8, .ref c1, .ref c1, .ref a])) rfl ?_
  refine y_callI hS tq_X7_init rfl (As := [.int (Int32.ofNat 8)]) rfl ci_X7_11 (m_X5_init hS (n := 8) hA17 (by decide) (by decide)) rfl (by decide) (Nat.le_of_ble_eq_true rfl) (fun r23 Gc23 q23 => ?_) (fun _ _ h9 => h9.elim)
  obtain ⟨rfl, r23, hO23, hR23, kt23_⟩ := q23
  have hB23_c0 := kt23_ _ _ _ hB17_c0 ⟨by decide, by decide⟩
  have hB23_r10 := kt23_ _ _ _ hB17_r10 ⟨by decide, by decide⟩
  have hB23_a := kt23_ _ _ _ hB17_a ⟨by decide, by decide⟩
  have hRr23 : Gc23 r23 = some (125, .inl (aC 0, 8, .inl (fun _ => 0))) := hR23
  have kt23 := (kt17).trans (kt23_.narrow (f := fun t => t ≠ 124 ∧ t ≠ 124 + 1) (g := fun t => t ≠ 7 ∧ (t < 122 ∨ 130 ≤ t)) (fun t ht => ⟨fun e9 => by have := ht.2; omega, fun e9 => by have := ht.2; omega⟩))
  refine y_blk 0 tq_X7_init (z := (26, [(0, .ref a)], [.ref c1, .ref a])) rfl ?_
  refine y_putF hS tq_X7_init rfl fp_X7_20_X7 rfl hB23_a (by omega) rfl rfl (Nat.le_of_ble_eq_true rfl) ?_
  have hA26 : (yup Gc23 a (7, .inr (11, [.ref c0, .ref c1, .null, .null, .int 0, .int 0, .int 0]))) a = some (7, .inr (11, [.ref c0, .ref c1, .null, .null, .int 0, .int 0, .int 0])) := yup_s _ _ _
  have hB26_c0 : (yup Gc23 a (7, .inr (11, [.ref c0, .ref c1, .null, .null, .int 0, .int 0, .int 0]))) c0 = some (122, .inr (9, [.ref r10, .int 0])) := yup_o hB23_c0 hB23_a (by decide)
  have hB26_r10 : (yup Gc23 a (7, .inr (11, [.ref c0, .ref c1, .null, .null, .int 0, .int 0, .int 0]))) r10 = some (123, .inl (aC 0, 4, .inl (fun _ => 0))) := yup_o hB23_r10 hB23_a (by decide)
  have hB26_c1 : (yup Gc23 a (7, .inr (11, [.ref c0, .ref c1, .null, .null, .int 0, .int 0, .int 0]))) c1 = some (124, .inr (9, [.ref r23, .int 0])) := yup_o hO23 hB23_a (by decide)
  have hB26_r23 : (yup Gc23 a (7, .inr (11, [.ref c0, .ref c1, .null, .null, .int 0, .int 0, .int 0]))) r23 = some (125, .inl (aC 0, 8, .inl (fun _ => 0))) := yup_o hRr23 hB23_a (by decide)
  have kt26 : yTg (fun t => t ≠ 7 ∧ (t < 122 ∨ 130 ≤ t)) G (yup Gc23 a (7, .inr (11, [.ref c0, .ref c1, .null, .null, .int 0, .int 0, .int 0]))) := (kt23).trans (yTg.up hB23_a (fun q => q.1 rfl))
  show Y l S0 D K_X7_init 17 8 248 (fun r G1 => r = none ∧ ∃ c0 r0 c1 r1 c2 r2 c3 r3 : Nat, G1 a = some (7, .inr (11, [.ref c0, .ref c1, .ref c2, .ref c3, .int 0, .int 0, .int 0])) ∧ G1 c0 = some (122, .inr (9, [.ref r0, .int 0])) ∧ G1 r0 = some (123, .inl (aC 0, 4, .inl (fun _ => 0))) ∧ G1 c1 = some (124, .inr (9, [.ref r1, .int 0])) ∧ G1 r1 = some (125, .inl (aC 0, 8, .inl (fun _ => 0))) ∧ G1 c2 = some (126, .inr (9, [.ref r2, .int 0])) ∧ G1 r2 = some (127, .inl (aC 0, 6, .inl (fun _ => 0))) ∧ G1 c3 = some (128, .inr (9, [.ref r3, .int 0])) ∧ G1 r3 = some (129, .inl (aC 0, 6, .inl (fun _ => 0))) ∧ yTg (fun t => t ≠ 7 ∧ (t < 122 ∨ 130 ≤ t)) G G1) (fun _ _ => False) (26 + 3) [(0, .ref a)] [] (yup Gc23 a (7, .inr (11, [.ref c0, .ref c1, .null, .null, .int 0, .int 0, .int 0]))) 4 124
  generalize yup Gc23 a (7, .inr (11, [.ref c0, .ref c1, .null, .null, .int 0, .int 0, .int 0])) = G26 at hA26 hB26_c0 hB26_r10 hB26_c1 hB26_r23 kt26 ⊢
  refine y_blk 1 tq_X7_init (z := (30, [(0, .ref a)], [.ref a])) rfl ?_
  refine y_new 126 hS tq_X7_init (kc := 3) (ks := 122) rfl nw_X7_9 (fun c2 hne30 => ?_)
  have hle30 : yLe G26 (yup G26 c2 (126, .inr (9, [.null, .int 0]))) := yLe.new hne30
  have hA30 : (yup G26 c2 (126, .inr (9, [.null, .int 0]))) c2 = some (126, .inr (9, [.null, .int 0])) := yup_s _ _ _
  have hB30_c0 : (yup G26 c2 (126, .inr (9, [.null, .int 0]))) c0 = some (122, .inr (9, [.ref r10, .int 0])) := hle30 _ _ hB26_c0
  have hB30_r10 : (yup G26 c2 (126, .inr (9, [.null, .int 0]))) r10 = some (123, .inl (aC 0, 4, .inl (fun _ => 0))) := hle30 _ _ hB26_r10
  have hB30_c1 : (yup G26 c2 (126, .inr (9, [.null, .int 0]))) c1 = some (124, .inr (9, [.ref r23, .int 0])) := hle30 _ _ hB26_c1
  have hB30_r23 : (yup G26 c2 (126, .inr (9, [.null, .int 0]))) r23 = some (125, .inl (aC 0, 8, .inl (fun _ => 0))) := hle30 _ _ hB26_r23
  have hB30_a : (yup G26 c2 (126, .inr (9, [.null, .int 0]))) a = some (7, .inr (11, [.ref c0, .ref c1, .null, .null, .int 0, .int 0, .int 0])) := hle30 _ _ hA26
  have kt30 : yTg (fun t => t ≠ 7 ∧ (t < 122 ∨ 130 ≤ t)) G (yup G26 c2 (126, .inr (9, [.null, .int 0]))) := (kt26).trans (yTg.le hle30)
  generalize yup G26 c2 (126, .inr (9, [.null, .int 0])) = G30 at hle30 hA30 hB30_c0 hB30_r10 hB30_c1 hB30_r23 hB30_a kt30 ⊢
  refine y_blk 2 tq_X7_init (z := (36, [(0, .ref a)], [.int 6, .ref c2, .ref c2, .ref a])) rfl ?_
  refine y_callI hS tq_X7_init rfl (As := [.int (Int32.ofNat 6)]) rfl ci_X7_11 (m_X5_init hS (n := 6) hA30 (by decide) (by decide)) rfl (by decide) (Nat.le_of_ble_eq_true rfl) (fun r36 Gc36 q36 => ?_) (fun _ _ h9 => h9.elim)
  obtain ⟨rfl, r36, hO36, hR36, kt36_⟩ := q36
  have hB36_c0 := kt36_ _ _ _ hB30_c0 ⟨by decide, by decide⟩
  have hB36_r10 := kt36_ _ _ _ hB30_r10 ⟨by decide, by decide⟩
  have hB36_c1 := kt36_ _ _ _ hB30_c1 ⟨by decide, by decide⟩
  have hB36_r23 := kt36_ _ _ _ hB30_r23 ⟨by decide, by decide⟩
  have hB36_a := kt36_ _ _ _ hB30_a ⟨by decide, by decide⟩
  have hRr36 : Gc36 r36 = some (127, .inl (aC 0, 6, .inl (fun _ => 0))) := hR36
  have kt36 := (kt30).trans (kt36_.narrow (f := fun t => t ≠ 126 ∧ t ≠ 126 + 1) (g := fun t => t ≠ 7 ∧ (t < 122 ∨ 130 ≤ t)) (fun t ht => ⟨fun e9 => by have := ht.2; omega, fun e9 => by have := ht.2; omega⟩))
  refine y_blk 0 tq_X7_init (z := (39, [(0, .ref a)], [.ref c2, .ref a])) rfl ?_
  refine y_putF hS tq_X7_init rfl fp_X7_23_X7 rfl hB36_a (by omega) rfl rfl (Nat.le_of_ble_eq_true rfl) ?_
  have hA39 : (yup Gc36 a (7, .inr (11, [.ref c0, .ref c1, .ref c2, .null, .int 0, .int 0, .int 0]))) a = some (7, .inr (11, [.ref c0, .ref c1, .ref c2, .null, .int 0, .int 0, .int 0])) := yup_s _ _ _
  have hB39_c0 : (yup Gc36 a (7, .inr (11, [.ref c0, .ref c1, .ref c2, .null, .int 0, .int 0, .int 0]))) c0 = some (122, .inr (9, [.ref r10, .int 0])) := yup_o hB36_c0 hB36_a (by decide)
  have hB39_r10 : (yup Gc36 a (7, .inr (11, [.ref c0, .ref c1, .ref c2, .null, .int 0, .int 0, .int 0]))) r10 = some (123, .inl (aC 0, 4, .inl (fun _ => 0))) := yup_o hB36_r10 hB36_a (by decide)
  have hB39_c1 : (yup Gc36 a (7, .inr (11, [.ref c0, .ref c1, .ref c2, .null, .int 0, .int 0, .int 0]))) c1 = some (124, .inr (9, [.ref r23, .int 0])) := yup_o hB36_c1 hB36_a (by decide)
  have hB39_r23 : (yup Gc36 a (7, .inr (11, [.ref c0, .ref c1, .ref c2, .null, .int 0, .int 0, .int 0]))) r23 = some (125, .inl (aC 0, 8, .inl (fun _ => 0))) := yup_o hB36_r23 hB36_a (by decide)
  have hB39_c2 : (yup Gc36 a (7, .inr (11, [.ref c0, .ref c1, .ref c2, .null, .int 0, .int 0, .int 0]))) c2 = some (126, .inr (9, [.ref r36, .int 0])) := yup_o hO36 hB36_a (by decide)
  have hB39_r36 : (yup Gc36 a (7, .inr (11, [.ref c0, .ref c1, .ref c2, .null, .int 0, .int 0, .int 0]))) r36 = some (127, .inl (aC 0, 6, .inl (fun _ => 0))) := yup_o hRr36 hB36_a (by decide)
  have kt39 : yTg (fun t => t ≠ 7 ∧ (t < 122 ∨ 130 ≤ t)) G (yup Gc36 a (7, .inr (11, [.ref c0, .ref c1, .ref c2, .null, .int 0, .int 0, .int 0]))) := (kt36).trans (yTg.up hB36_a (fun q => q.1 rfl))
  show Y l S0 D K_X7_init 17 8 248 (fun r G1 => r = none ∧ ∃ c0 r0 c1 r1 c2 r2 c3 r3 : Nat, G1 a = some (7, .inr (11, [.ref c0, .ref c1, .ref c2, .ref c3, .int 0, .int 0, .int 0])) ∧ G1 c0 = some (122, .inr (9, [.ref r0, .int 0])) ∧ G1 r0 = some (123, .inl (aC 0, 4, .inl (fun _ => 0))) ∧ G1 c1 = some (124, .inr (9, [.ref r1, .int 0])) ∧ G1 r1 = some (125, .inl (aC 0, 8, .inl (fun _ => 0))) ∧ G1 c2 = some (126, .inr (9, [.ref r2, .int 0])) ∧ G1 r2 = some (127, .inl (aC 0, 6, .inl (fun _ => 0))) ∧ G1 c3 = some (128, .inr (9, [.ref r3, .int 0])) ∧ G1 r3 = some (129, .inl (aC 0, 6, .inl (fun _ => 0))) ∧ yTg (fun t => t ≠ 7 ∧ (t < 122 ∨ 130 ≤ t)) G G1) (fun _ _ => False) (39 + 3) [(0, .ref a)] [] (yup Gc36 a (7, .inr (11, [.ref c0, .ref c1, .ref c2, .null, .int 0, .int 0, .int 0]))) 2 62
  generalize yup Gc36 a (7, .inr (11, [.ref c0, .ref c1, .ref c2, .null, .int 0, .int 0, .int 0])) = G39 at hA39 hB39_c0 hB39_r10 hB39_c1 hB39_r23 hB39_c2 hB39_r36 kt39 ⊢
  refine y_blk 1 tq_X7_init (z := (43, [(0, .ref a)], [.ref a])) rfl ?_
  refine y_new 128 hS tq_X7_init (kc := 1) (ks := 60) rfl nw_X7_9 (fun c3 hne43 => ?_)
  have hle43 : yLe G39 (yup G39 c3 (128, .inr (9, [.null, .int 0]))) := yLe.new hne43
  have hA43 : (yup G39 c3 (128, .inr (9, [.null, .int 0]))) c3 = some (128, .inr (9, [.null, .int 0])) := yup_s _ _ _
  have hB43_c0 : (yup G39 c3 (128, .inr (9, [.null, .int 0]))) c0 = some (122, .inr (9, [.ref r10, .int 0])) := hle43 _ _ hB39_c0
  have hB43_r10 : (yup G39 c3 (128, .inr (9, [.null, .int 0]))) r10 = some (123, .inl (aC 0, 4, .inl (fun _ => 0))) := hle43 _ _ hB39_r10
  have hB43_c1 : (yup G39 c3 (128, .inr (9, [.null, .int 0]))) c1 = some (124, .inr (9, [.ref r23, .int 0])) := hle43 _ _ hB39_c1
  have hB43_r23 : (yup G39 c3 (128, .inr (9, [.null, .int 0]))) r23 = some (125, .inl (aC 0, 8, .inl (fun _ => 0))) := hle43 _ _ hB39_r23
  have hB43_c2 : (yup G39 c3 (128, .inr (9, [.null, .int 0]))) c2 = some (126, .inr (9, [.ref r36, .int 0])) := hle43 _ _ hB39_c2
  have hB43_r36 : (yup G39 c3 (128, .inr (9, [.null, .int 0]))) r36 = some (127, .inl (aC 0, 6, .inl (fun _ => 0))) := hle43 _ _ hB39_r36
  have hB43_a : (yup G39 c3 (128, .inr (9, [.null, .int 0]))) a = some (7, .inr (11, [.ref c0, .ref c1, .ref c2, .null, .int 0, .int 0, .int 0])) := hle43 _ _ hA39
  have kt43 : yTg (fun t => t ≠ 7 ∧ (t < 122 ∨ 130 ≤ t)) G (yup G39 c3 (128, .inr (9, [.null, .int 0]))) := (kt39).trans (yTg.le hle43)
  generalize yup G39 c3 (128, .inr (9, [.null, .int 0])) = G43 at hle43 hA43 hB43_c0 hB43_r10 hB43_c1 hB43_r23 hB43_c2 hB43_r36 hB43_a kt43 ⊢
  refine y_blk 2 tq_X7_init (z := (49, [(0, .ref a)], [.int 6, .ref c3, .ref c3, .ref a])) rfl ?_
  refine y_callI hS tq_X7_init rfl (As := [.int (Int32.ofNat 6)]) rfl ci_X7_11 (m_X5_init hS (n := 6) hA43 (by decide) (by decide)) rfl (by decide) (Nat.le_of_ble_eq_true rfl) (fun r49 Gc49 q49 => ?_) (fun _ _ h9 => h9.elim)
  obtain ⟨rfl, r49, hO49, hR49, kt49_⟩ := q49
  have hB49_c0 := kt49_ _ _ _ hB43_c0 ⟨by decide, by decide⟩
  have hB49_r10 := kt49_ _ _ _ hB43_r10 ⟨by decide, by decide⟩
  have hB49_c1 := kt49_ _ _ _ hB43_c1 ⟨by decide, by decide⟩
  have hB49_r23 := kt49_ _ _ _ hB43_r23 ⟨by decide, by decide⟩
  have hB49_c2 := kt49_ _ _ _ hB43_c2 ⟨by decide, by decide⟩
  have hB49_r36 := kt49_ _ _ _ hB43_r36 ⟨by decide, by decide⟩
  have hB49_a := kt49_ _ _ _ hB43_a ⟨by decide, by decide⟩
  have hRr49 : Gc49 r49 = some (129, .inl (aC 0, 6, .inl (fun _ => 0))) := hR49
  have kt49 := (kt43).trans (kt49_.narrow (f := fun t => t ≠ 128 ∧ t ≠ 128 + 1) (g := fun t => t ≠ 7 ∧ (t < 122 ∨ 130 ≤ t)) (fun t ht => ⟨fun e9 => by have := ht.2; omega, fun e9 => by have := ht.2; omega⟩))
  refine y_blk 0 tq_X7_init (z := (52, [(0, .ref a)], [.ref c3, .ref a])) rfl ?_
  refine y_putF hS tq_X7_init rfl fp_X7_26_X7 rfl hB49_a (by omega) rfl rfl (Nat.le_of_ble_eq_true rfl) ?_
  have hA52 : (yup Gc49 a (7, .inr (11, [.ref c0, .ref c1, .ref c2, .ref c3, .int 0, .int 0, .int 0]))) a = some (7, .inr (11, [.ref c0, .ref c1, .ref c2, .ref c3, .int 0, .int 0, .int 0])) := yup_s _ _ _
  have hB52_c0 : (yup Gc49 a (7, .inr (11, [.ref c0, .ref c1, .ref c2, .ref c3, .int 0, .int 0, .int 0]))) c0 = some (122, .inr (9, [.ref r10, .int 0])) := yup_o hB49_c0 hB49_a (by decide)
  have hB52_r10 : (yup Gc49 a (7, .inr (11, [.ref c0, .ref c1, .ref c2, .ref c3, .int 0, .int 0, .int 0]))) r10 = some (123, .inl (aC 0, 4, .inl (fun _ => 0))) := yup_o hB49_r10 hB49_a (by decide)
  have hB52_c1 : (yup Gc49 a (7, .inr (11, [.ref c0, .ref c1, .ref c2, .ref c3, .int 0, .int 0, .int 0]))) c1 = some (124, .inr (9, [.ref r23, .int 0])) := yup_o hB49_c1 hB49_a (by decide)
  have hB52_r23 : (yup Gc49 a (7, .inr (11, [.ref c0, .ref c1, .ref c2, .ref c3, .int 0, .int 0, .int 0]))) r23 = some (125, .inl (aC 0, 8, .inl (fun _ => 0))) := yup_o hB49_r23 hB49_a (by decide)
  have hB52_c2 : (yup Gc49 a (7, .inr (11, [.ref c0, .ref c1, .ref c2, .ref c3, .int 0, .int 0, .int 0]))) c2 = some (126, .inr (9, [.ref r36, .int 0])) := yup_o hB49_c2 hB49_a (by decide)
  have hB52_r36 : (yup Gc49 a (7, .inr (11, [.ref c0, .ref c1, .ref c2, .ref c3, .int 0, .int 0, .int 0]))) r36 = some (127, .inl (aC 0, 6, .inl (fun _ => 0))) := yup_o hB49_r36 hB49_a (by decide)
  have hB52_c3 : (yup Gc49 a (7, .inr (11, [.ref c0, .ref c1, .ref c2, .ref c3, .int 0, .int 0, .int 0]))) c3 = some (128, .inr (9, [.ref r49, .int 0])) := yup_o hO49 hB49_a (by decide)
  have hB52_r49 : (yup Gc49 a (7, .inr (11, [.ref c0, .ref c1, .ref c2, .ref c3, .int 0, .int 0, .int 0]))) r49 = some (129, .inl (aC 0, 6, .inl (fun _ => 0))) := yup_o hRr49 hB49_a (by decide)
  have kt52 : yTg (fun t => t ≠ 7 ∧ (t < 122 ∨ 130 ≤ t)) G (yup Gc49 a (7, .inr (11, [.ref c0, .ref c1, .ref c2, .ref c3, .int 0, .int 0, .int 0]))) := (kt49).trans (yTg.up hB49_a (fun q => q.1 rfl))
  show Y l S0 D K_X7_init 17 8 248 (fun r G1 => r = none ∧ ∃ c0 r0 c1 r1 c2 r2 c3 r3 : Nat, G1 a = some (7, .inr (11, [.ref c0, .ref c1, .ref c2, .ref c3, .int 0, .int 0, .int 0])) ∧ G1 c0 = some (122, .inr (9, [.ref r0, .int 0])) ∧ G1 r0 = some (123, .inl (aC 0, 4, .inl (fun _ => 0))) ∧ G1 c1 = some (124, .inr (9, [.ref r1, .int 0])) ∧ G1 r1 = some (125, .inl (aC 0, 8, .inl (fun _ => 0))) ∧ G1 c2 = some (126, .inr (9, [.ref r2, .int 0])) ∧ G1 r2 = some (127, .inl (aC 0, 6, .inl (fun _ => 0))) ∧ G1 c3 = some (128, .inr (9, [.ref r3, .int 0])) ∧ G1 r3 = some (129, .inl (aC 0, 6, .inl (fun _ => 0))) ∧ yTg (fun t => t ≠ 7 ∧ (t < 122 ∨ 130 ≤ t)) G G1) (fun _ _ => False) (52 + 3) [(0, .ref a)] [] (yup Gc49 a (7, .inr (11, [.ref c0, .ref c1, .ref c2, .ref c3, .int 0, .int 0, .int 0]))) 0 0
  generalize yup Gc49 a (7, .inr (11, [.ref c0, .ref c1, .ref c2, .ref c3, .int 0, .int 0, .int 0])) = G52 at hA52 hB52_c0 hB52_r10 hB52_c1 hB52_r23 hB52_c2 hB52_r36 hB52_c3 hB52_r49 kt52 ⊢
  refine y_blk 0 tq_X7_init (z := (55, [(0, .ref a)], [])) rfl ?_
  exact y_vret tq_X7_init rfl rfl (⟨rfl, c0, r10, c1, r23, c2, r36, c3, r49, hA52, hB52_c0, hB52_r10, hB52_c1, hB52_r23, hB52_c2, hB52_r36, hB52_c3, hB52_r49, kt52⟩)
set_option maxHeartbeats 4000000 in
set_option maxRecDepth 100000 in
theorem m_X3_init {l : Launch} {S0 : State} {A0 : Array Value} {D : va_G} {aC : Nat → ClassId} {G : AH} (hS : yS l S0 A0 D aC) {a : Nat} (h : G a = some (8, .inr (7, [.null, .null, .null, .null, .null, .null]))) : yM l S0 D yX3_init cX3_init 1 none 17 12 372 [.ref a] G (fun r G1 => r = none ∧ ∃ c0 r0 c1 r1 c2 r2 c3 r3 c4 r4 c5 r5 : Nat, G1 a = some (8, .inr (7, [.ref c0, .ref c1, .ref c2, .ref c3, .ref c4, .ref c5])) ∧ G1 c0 = some (132, .inr (9, [.ref r0, .int 0])) ∧ G1 r0 = some (133, .inl (aC 0, 4, .inl (fun _ => 0))) ∧ G1 c1 = some (134, .inr (9, [.ref r1, .int 0])) ∧ G1 r1 = some (135, .inl (aC 0, 4, .inl (fun _ => 0))) ∧ G1 c2 = some (136, .inr (9, [.ref r2, .int 0])) ∧ G1 r2 = some (137, .inl (aC 0, 4, .inl (fun _ => 0))) ∧ G1 c3 = some (138, .inr (9, [.ref r3, .int 0])) ∧ G1 r3 = some (139, .inl (aC 0, 60, .inl (fun _ => 0))) ∧ G1 c4 = some (140, .inr (9, [.ref r4, .int 0])) ∧ G1 r4 = some (141, .inl (aC 0, 4, .inl (fun _ => 0))) ∧ G1 c5 = some (142, .inr (9, [.ref r5, .int 0])) ∧ G1 r5 = some (143, .inl (aC 0, 4, .inl (fun _ => 0))) ∧ yTg (fun t => t ≠ 8 ∧ (t < 132 ∨ 144 ≤ t)) G G1) (fun _ _ => False) := by
  refine yM.ofK K_X3_init rfl (by decide) (Nat.le_of_ble_eq_true rfl) ?_
  refine y_blk 1 tq_X3_init (z := (1, [(0, .ref a)], [.ref a])) rfl ?_
  refine y_objInit hS tq_X3_init rfl ⟨by decide +kernel, by decide +kernel⟩ (by decide) (by decide) ?_
  refine y_blk 1 tq_X3_init (z := (5, [(0, .ref a)], [.ref a])) rfl ?_
  refine y_new 132 hS tq_X3_init (kc := 11) (ks := 370) rfl nw_X3_9 (fun c0 hne5 => ?_)
  have hle5 : yLe G (yup G c0 (132, .inr (9, [.null, .int 0]))) := yLe.new hne5
  have hA5 : (yup G c0 (132, .inr (9, [.null, .int 0]))) c0 = some (132, .inr (9, [.null, .int 0])) := yup_s _ _ _
  have hB5_a : (yup G c0 (132, .inr (9, [.null, .int 0]))) a = some (8, .inr (7, [.null, .null, .null, .null, .null, .null])) := hle5 _ _ h
  have kt5 : yTg (fun t => t ≠ 8 ∧ (t < 132 ∨ 144 ≤ t)) G (yup G c0 (132, .inr (9, [.null, .int 0]))) := ((yTg.rfl' (f := fun t => t ≠ 8 ∧ (t < 132 ∨ 144 ≤ t)) (G := G))).trans (yTg.le hle5)
  generalize yup G c0 (132, .inr (9, [.null, .int 0])) = G5 at hle5 hA5 hB5_a kt5 ⊢
  refine y_blk 2 tq_X3_init (z := (10, [(0, .ref a)], [.int 4, .ref c0, .ref c0, .ref a])) rfl ?_
  refine y_callI hS tq_X3_init rfl (As := [.int (Int32.ofNat 4)]) rfl ci_X3_13 (m_X5_init hS (n := 4) hA5 (by decide) (by decide)) rfl (by decide) (Nat.le_of_ble_eq_true rfl) (fun r10 Gc10 q10 => ?_) (fun _ _ h9 => h9.elim)
  obtain ⟨rfl, r10, hO10, hR10, kt10_⟩ := q10
  have hB10_a := kt10_ _ _ _ hB5_a ⟨by decide, by decide⟩
  have hRr10 : Gc10 r10 = some (133, .inl (aC 0, 4, .inl (fun _ => 0))) := hR10
  have kt10 := (kt5).trans (kt10_.narrow (f := fun t => t ≠ 132 ∧ t ≠ 132 + 1) (g := fun t => t ≠ 8 ∧ (t < 132 ∨ 144 ≤ t)) (fun t ht => ⟨fun e9 => by have := ht.2; omega, fun e9 => by have := ht.2; omega⟩))
  refine y_blk 0 tq_X3_init (z := (13, [(0, .ref a)], [.ref c0, .ref a])) rfl ?_
  refine y_putF hS tq_X3_init rfl fp_X3_16_X3 rfl hB10_a (by omega) rfl rfl (Nat.le_of_ble_eq_true rfl) ?_
  have hA13 : (yup Gc10 a (8, .inr (7, [.ref c0, .null, .null, .null, .null, .null]))) a = some (8, .inr (7, [.ref c0, .null, .null, .null, .null, .null])) := yup_s _ _ _
  have hB13_c0 : (yup Gc10 a (8, .inr (7, [.ref c0, .null, .null, .null, .null, .null]))) c0 = some (132, .inr (9, [.ref r10, .int 0])) := yup_o hO10 hB10_a (by decide)
  have hB13_r10 : (yup Gc10 a (8, .inr (7, [.ref c0, .null, .null, .null, .null, .null]))) r10 = some (133, .inl (aC 0, 4, .inl (fun _ => 0))) := yup_o hRr10 hB10_a (by decide)
  have kt13 : yTg (fun t => t ≠ 8 ∧ (t < 132 ∨ 144 ≤ t)) G (yup Gc10 a (8, .inr (7, [.ref c0, .null, .null, .null, .null, .null]))) := (kt10).trans (yTg.up hB10_a (fun q => q.1 rfl))
  show Y l S0 D K_X3_init 17 12 372 (fun r G1 => r = none ∧ ∃ c0 r0 c1 r1 c2 r2 c3 r3 c4 r4 c5 r5 : Nat, G1 a = some (8, .inr (7, [.ref c0, .ref c1, .ref c2, .ref c3, .ref c4, .ref c5])) ∧ G1 c0 = some (132, .inr (9, [.ref r0, .int 0])) ∧ G1 r0 = some (133, .inl (aC 0, 4, .inl (fun _ => 0))) ∧ G1 c1 = some (134, .inr (9, [.ref r1, .int 0])) ∧ G1 r1 = some (135, .inl (aC 0, 4, .inl (fun _ => 0))) ∧ G1 c2 = some (136, .inr (9, [.ref r2, .int 0])) ∧ G1 r2 = some (137, .inl (aC 0, 4, .inl (fun _ => 0))) ∧ G1 c3 = some (138, .inr (9, [.ref r3, .int 0])) ∧ G1 r3 = some (139, .inl (aC 0, 60, .inl (fun _ => 0))) ∧ G1 c4 = some (140, .inr (9, [.ref r4, .int 0])) ∧ G1 r4 = some (141, .inl (aC 0, 4, .inl (fun _ => 0))) ∧ G1 c5 = some (142, .inr (9, [.ref r5, .int 0])) ∧ G1 r5 = some (143, .inl (aC 0, 4, .inl (fun _ => 0))) ∧ yTg (fun t => t ≠ 8 ∧ (t < 132 ∨ 144 ≤ t)) G G1) (fun _ _ => False) (13 + 3) [(0, .ref a)] [] (yup Gc10 a (8, .inr (7, [.ref c0, .null, .null, .null, .null, .null]))) 10 310
  generalize yup Gc10 a (8, .inr (7, [.ref c0, .null, .null, .null, .null, .null])) = G13 at hA13 hB13_c0 hB13_r10 kt13 ⊢
  refine y_blk 1 tq_X3_init (z := (17, [(0, .ref a)], [.ref a])) rfl ?_
  refine y_new 134 hS tq_X3_init (kc := 9) (ks := 308) rfl nw_X3_9 (fun c1 hne17 => ?_)
  have hle17 : yLe G13 (yup G13 c1 (134, .inr (9, [.null, .int 0]))) := yLe.new hne17
  have hA17 : (yup G13 c1 (134, .inr (9, [.null, .int 0]))) c1 = some (134, .inr (9, [.null, .int 0])) := yup_s _ _ _
  have hB17_c0 : (yup G13 c1 (134, .inr (9, [.null, .int 0]))) c0 = some (132, .inr (9, [.ref r10, .int 0])) := hle17 _ _ hB13_c0
  have hB17_r10 : (yup G13 c1 (134, .inr (9, [.null, .int 0]))) r10 = some (133, .inl (aC 0, 4, .inl (fun _ => 0))) := hle17 _ _ hB13_r10
  have hB17_a : (yup G13 c1 (134, .inr (9, [.null, .int 0]))) a = some (8, .inr (7, [.ref c0, .null, .null, .null, .null, .null])) := hle17 _ _ hA13
  have kt17 : yTg (fun t => t ≠ 8 ∧ (t < 132 ∨ 144 ≤ t)) G (yup G13 c1 (134, .inr (9, [.null, .int 0]))) := (kt13).trans (yTg.le hle17)
  generalize yup G13 c1 (134, .inr (9, [.null, .int 0])) = G17 at hle17 hA17 hB17_c0 hB17_r10 hB17_a kt17 ⊢
  refine y_blk 2 tq_X3_init (z := (22, [(0, .ref a)], [.int 4, .ref c1, .ref c1, .ref a])) rfl ?_
  refine y_callI hS tq_X3_init rfl (As := [.int (Int32.ofNat 4)]) rfl ci_X3_13 (m_X5_init hS (n := 4) hA17 (by decide) (by decide)) rfl (by decide) (Nat.le_of_ble_eq_true rfl) (fun r22 Gc22 q22 => ?_) (fun _ _ h9 => h9.elim)
  obtain ⟨rfl, r22, hO22, hR22, kt22_⟩ := q22
  have hB22_c0 := kt22_ _ _ _ hB17_c0 ⟨by decide, by decide⟩
  have hB22_r10 := kt22_ _ _ _ hB17_r10 ⟨by decide, by decide⟩
  have hB22_a := kt22_ _ _ _ hB17_a ⟨by decide, by decide⟩
  have hRr22 : Gc22 r22 = some (135, .inl (aC 0, 4, .inl (fun _ => 0))) := hR22
  have kt22 := (kt17).trans (kt22_.narrow (f := fun t => t ≠ 134 ∧ t ≠ 134 + 1) (g := fun t => t ≠ 8 ∧ (t < 132 ∨ 144 ≤ t)) (fun t ht => ⟨fun e9 => by have := ht.2; omega, fun e9 => by have := ht.2; omega⟩))
  refine y_blk 0 tq_X3_init (z := (25, [(0, .ref a)], [.ref c1, .ref a])) rfl ?_
  refine y_putF hS tq_X3_init rfl fp_X3_20_X3 rfl hB22_a (by omega) rfl rfl (Nat.le_of_ble_eq_true rfl) ?_
  have hA25 : (yup Gc22 a (8, .inr (7, [.ref c0, .ref c1, .null, .null, .null, .null]))) a = some (8, .inr (7, [.ref c0, .ref c1, .null, .null, .null, .null])) := yup_s _ _ _
  have hB25_c0 : (yup Gc22 a (8, .inr (7, [.ref c0, .ref c1, .null, .null, .null, .null]))) c0 = some (132, .inr (9, [.ref r10, .int 0])) := yup_o hB22_c0 hB22_a (by decide)
  have hB25_r10 : (yup Gc22 a (8, .inr (7, [.ref c0, .ref c1, .null, .null, .null, .null]))) r10 = some (133, .inl (aC 0, 4, .inl (fun _ => 0))) := yup_o hB22_r10 hB22_a (by decide)
  have hB25_c1 : (yup Gc22 a (8, .inr (7, [.ref c0, .ref c1, .null, .null, .null, .null]))) c1 = some (134, .inr (9, [.ref r22, .int 0])) := yup_o hO22 hB22_a (by decide)
  have hB25_r22 : (yup Gc22 a (8, .inr (7, [.ref c0, .ref c1, .null, .null, .null, .null]))) r22 = some (135, .inl (aC 0, 4, .inl (fun _ => 0))) := yup_o hRr22 hB22_a (by decide)
  have kt25 : yTg (fun t => t ≠ 8 ∧ (t < 132 ∨ 144 ≤ t)) G (yup Gc22 a (8, .inr (7, [.ref c0, .ref c1, .null, .null, .null, .null]))) := (kt22).trans (yTg.up hB22_a (fun q => q.1 rfl))
  show Y l S0 D K_X3_init 17 12 372 (fun r G1 => r = none ∧ ∃ c0 r0 c1 r1 c2 r2 c3 r3 c4 r4 c5 r5 : Nat, G1 a = some (8, .inr (7, [.ref c0, .ref c1, .ref c2, .ref c3, .ref c4, .ref c5])) ∧ G1 c0 = some (132, .inr (9, [.ref r0, .int 0])) ∧ G1 r0 = some (133, .inl (aC 0, 4, .inl (fun _ => 0))) ∧ G1 c1 = some (134, .inr (9, [.ref r1, .int 0])) ∧ G1 r1 = some (135, .inl (aC 0, 4, .inl (fun _ => 0))) ∧ G1 c2 = some (136, .inr (9, [.ref r2, .int 0])) ∧ G1 r2 = some (137, .inl (aC 0, 4, .inl (fun _ => 0))) ∧ G1 c3 = some (138, .inr (9, [.ref r3, .int 0])) ∧ G1 r3 = some (139, .inl (aC 0, 60, .inl (fun _ => 0))) ∧ G1 c4 = some (140, .inr (9, [.ref r4, .int 0])) ∧ G1 r4 = some (141, .inl (aC 0, 4, .inl (fun _ => 0))) ∧ G1 c5 = some (142, .inr (9, [.ref r5, .int 0])) ∧ G1 r5 = some (143, .inl (aC 0, 4, .inl (fun _ => 0))) ∧ yTg (fun t => t ≠ 8 ∧ (t < 132 ∨ 144 ≤ t)) G G1) (fun _ _ => False) (25 + 3) [(0, .ref a)] [] (yup Gc22 a (8, .inr (7, [.ref c0, .ref c1, .null, .null, .null, .null]))) 8 248
  generalize yup Gc22 a (8, .inr (7, [.ref c0, .ref c1, .null, .null, .null, .null])) = G25 at hA25 hB25_c0 hB25_r10 hB25_c1 hB25_r22 kt25 ⊢
  refine y_blk 1 tq_X3_init (z := (29, [(0, .ref a)], [.ref a])) rfl ?_
  refine y_new 136 hS tq_X3_init (kc := 7) (ks := 246) rfl nw_X3_9 (fun c2 hne29 => ?_)
  have hle29 : yLe G25 (yup G25 c2 (136, .inr (9, [.null, .int 0]))) := yLe.new hne29
  have hA29 : (yup G25 c2 (136, .inr (9, [.null, .int 0]))) c2 = some (136, .inr (9, [.null, .int 0])) := yup_s _ _ _
  have hB29_c0 : (yup G25 c2 (136, .inr (9, [.null, .int 0]))) c0 = some (132, .inr (9, [.ref r10, .int 0])) := hle29 _ _ hB25_c0
  have hB29_r10 : (yup G25 c2 (136, .inr (9, [.null, .int 0]))) r10 = some (133, .inl (aC 0, 4, .inl (fun _ => 0))) := hle29 _ _ hB25_r10
  have hB29_c1 : (yup G25 c2 (136, .inr (9, [.null, .int 0]))) c1 = some (134, .inr (9, [.ref r22, .int 0])) := hle29 _ _ hB25_c1
  have hB29_r22 : (yup G25 c2 (136, .inr (9, [.null, .int 0]))) r22 = some (135, .inl (aC 0, 4, .inl (fun _ => 0))) := hle29 _ _ hB25_r22
  have hB29_a : (yup G25 c2 (136, .inr (9, [.null, .int 0]))) a = some (8, .inr (7, [.ref c0, .ref c1, .null, .null, .null, .null])) := hle29 _ _ hA25
  have kt29 : yTg (fun t => t ≠ 8 ∧ (t < 132 ∨ 144 ≤ t)) G (yup G25 c2 (136, .inr (9, [.null, .int 0]))) := (kt25).trans (yTg.le hle29)
  generalize yup G25 c2 (136, .inr (9, [.null, .int 0])) = G29 at hle29 hA29 hB29_c0 hB29_r10 hB29_c1 hB29_r22 hB29_a kt29 ⊢
  refine y_blk 2 tq_X3_init (z := (34, [(0, .ref a)], [.int 4, .ref c2, .ref c2, .ref a])) rfl ?_
  refine y_callI hS tq_X3_init rfl (As := [.int (Int32.ofNat 4)]) rfl ci_X3_13 (m_X5_init hS (n := 4) hA29 (by decide) (by decide)) rfl (by decide) (Nat.le_of_ble_eq_true rfl) (fun r34 Gc34 q34 => ?_) (fun _ _ h9 => h9.elim)
  obtain ⟨rfl, r34, hO34, hR34, kt34_⟩ := q34
  have hB34_c0 := kt34_ _ _ _ hB29_c0 ⟨by decide, by decide⟩
  have hB34_r10 := kt34_ _ _ _ hB29_r10 ⟨by decide, by decide⟩
  have hB34_c1 := kt34_ _ _ _ hB29_c1 ⟨by decide, by decide⟩
  have hB34_r22 := kt34_ _ _ _ hB29_r22 ⟨by decide, by decide⟩
  have hB34_a := kt34_ _ _ _ hB29_a ⟨by decide, by decide⟩
  have hRr34 : Gc34 r34 = some (137, .inl (aC 0, 4, .inl (fun _ => 0))) := hR34
  have kt34 := (kt29).trans (kt34_.narrow (f := fun t => t ≠ 136 ∧ t ≠ 136 + 1) (g := fun t => t ≠ 8 ∧ (t < 132 ∨ 144 ≤ t)) (fun t ht => ⟨fun e9 => by have := ht.2; omega, fun e9 => by have := ht.2; omega⟩))
  refine y_blk 0 tq_X3_init (z := (37, [(0, .ref a)], [.ref c2, .ref a])) rfl ?_
  refine y_putF hS tq_X3_init rfl fp_X3_23_X3 rfl hB34_a (by omega) rfl rfl (Nat.le_of_ble_eq_true rfl) ?_
  have hA37 : (yup Gc34 a (8, .inr (7, [.ref c0, .ref c1, .ref c2, .null, .null, .null]))) a = some (8, .inr (7, [.ref c0, .ref c1, .ref c2, .null, .null, .null])) := yup_s _ _ _
  have hB37_c0 : (yup Gc34 a (8, .inr (7, [.ref c0, .ref c1, .ref c2, .null, .null, .null]))) c0 = some (132, .inr (9, [.ref r10, .int 0])) := yup_o hB34_c0 hB34_a (by decide)
  have hB37_r10 : (yup Gc34 a (8, .inr (7, [.ref c0, .ref c1, .ref c2, .null, .null, .null]))) r10 = some (133, .inl (aC 0, 4, .inl (fun _ => 0))) := yup_o hB34_r10 hB34_a (by decide)
  have hB37_c1 : (yup Gc34 a (8, .inr (7, [.ref c0, .ref c1, .ref c2, .null, .null, .null]))) c1 = some (134, .inr (9, [.ref r22, .int 0])) := yup_o hB34_c1 hB34_a (by decide)
  have hB37_r22 : (yup Gc34 a (8, .inr (7, [.ref c0, .ref c1, .ref c2, .null, .null, .null]))) r22 = some (135, .inl (aC 0, 4, .inl (fun _ => 0))) := yup_o hB34_r22 hB34_a (by decide)
  have hB37_c2 : (yup Gc34 a (8, .inr (7, [.ref c0, .ref c1, .ref c2, .null, .null, .null]))) c2 = some (136, .inr (9, [.ref r34, .int 0])) := yup_o hO34 hB34_a (by decide)
  have hB37_r34 : (yup Gc34 a (8, .inr (7, [.ref c0, .ref c1, .ref c2, .null, .null, .null]))) r34 = some (137, .inl (aC 0, 4, .inl (fun _ => 0))) := yup_o hRr34 hB34_a (by decide)
  have kt37 : yTg (fun t => t ≠ 8 ∧ (t < 132 ∨ 144 ≤ t)) G (yup Gc34 a (8, .inr (7, [.ref c0, .ref c1, .ref c2, .null, .null, .null]))) := (kt34).trans (yTg.up hB34_a (fun q => q.1 rfl))
  show Y l S0 D K_X3_init 17 12 372 (fun r G1 => r = none ∧ ∃ c0 r0 c1 r1 c2 r2 c3 r3 c4 r4 c5 r5 : Nat, G1 a = some (8, .inr (7, [.ref c0, .ref c1, .ref c2, .ref c3, .ref c4, .ref c5])) ∧ G1 c0 = some (132, .inr (9, [.ref r0, .int 0])) ∧ G1 r0 = some (133, .inl (aC 0, 4, .inl (fun _ => 0))) ∧ G1 c1 = some (134, .inr (9, [.ref r1, .int 0])) ∧ G1 r1 = some (135, .inl (aC 0, 4, .inl (fun _ => 0))) ∧ G1 c2 = some (136, .inr (9, [.ref r2, .int 0])) ∧ G1 r2 = some (137, .inl (aC 0, 4, .inl (fun _ => 0))) ∧ G1 c3 = some (138, .inr (9, [.ref r3, .int 0])) ∧ G1 r3 = some (139, .inl (aC 0, 60, .inl (fun _ => 0))) ∧ G1 c4 = some (140, .inr (9, [.ref r4, .int 0])) ∧ G1 r4 = some (141, .inl (aC 0, 4, .inl (fun _ => 0))) ∧ G1 c5 = some (142, .inr (9, [.ref r5, .int 0])) ∧ G1 r5 = some (143, .inl (aC 0, 4, .inl (fun _ => 0))) ∧ yTg (fun t => t ≠ 8 ∧ (t < 132 ∨ 144 ≤ t)) G G1) (fun _ _ => False) (37 + 3) [(0, .ref a)] [] (yup Gc34 a (8, .inr (7, [.ref c0, .ref c1, .ref c2, .null, .null, .null]))) 6 186
  generalize yup Gc34 a (8, .inr (7, [.ref c0, .ref c1, .ref c2, .null, .null, .null])) = G37 at hA37 hB37_c0 hB37_r10 hB37_c1 hB37_r22 hB37_c2 hB37_r34 kt37 ⊢
  refine y_blk 1 tq_X3_init (z := (41, [(0, .ref a)], [.ref a])) rfl ?_
  refine y_new 138 hS tq_X3_init (kc := 5) (ks := 184) rfl nw_X3_9 (fun c3 hne41 => ?_)
  have hle41 : yLe G37 (yup G37 c3 (138, .inr (9, [.null, .int 0]))) := yLe.new hne41
  have hA41 : (yup G37 c3 (138, .inr (9, [.null, .int 0]))) c3 = some (138, .inr (9, [.null, .int 0])) := yup_s _ _ _
  have hB41_c0 : (yup G37 c3 (138, .inr (9, [.null, .int 0]))) c0 = some (132, .inr (9, [.ref r10, .int 0])) := hle41 _ _ hB37_c0
  have hB41_r10 : (yup G37 c3 (138, .inr (9, [.null, .int 0]))) r10 = some (133, .inl (aC 0, 4, .inl (fun _ => 0))) := hle41 _ _ hB37_r10
  have hB41_c1 : (yup G37 c3 (138, .inr (9, [.null, .int 0]))) c1 = some (134, .inr (9, [.ref r22, .int 0])) := hle41 _ _ hB37_c1
  have hB41_r22 : (yup G37 c3 (138, .inr (9, [.null, .int 0]))) r22 = some (135, .inl (aC 0, 4, .inl (fun _ => 0))) := hle41 _ _ hB37_r22
  have hB41_c2 : (yup G37 c3 (138, .inr (9, [.null, .int 0]))) c2 = some (136, .inr (9, [.ref r34, .int 0])) := hle41 _ _ hB37_c2
  have hB41_r34 : (yup G37 c3 (138, .inr (9, [.null, .int 0]))) r34 = some (137, .inl (aC 0, 4, .inl (fun _ => 0))) := hle41 _ _ hB37_r34
  have hB41_a : (yup G37 c3 (138, .inr (9, [.null, .int 0]))) a = some (8, .inr (7, [.ref c0, .ref c1, .ref c2, .null, .null, .null])) := hle41 _ _ hA37
  have kt41 : yTg (fun t => t ≠ 8 ∧ (t < 132 ∨ 144 ≤ t)) G (yup G37 c3 (138, .inr (9, [.null, .int 0]))) := (kt37).trans (yTg.le hle41)
  generalize yup G37 c3 (138, .inr (9, [.null, .int 0])) = G41 at hle41 hA41 hB41_c0 hB41_r10 hB41_c1 hB41_r22 hB41_c2 hB41_r34 hB41_a kt41 ⊢
  refine y_blk 2 tq_X3_init (z := (47, [(0, .ref a)], [.int 60, .ref c3, .ref c3, .ref a])) rfl ?_
  refine y_callI hS tq_X3_init rfl (As := [.int (Int32.ofNat 60)]) rfl ci_X3_13 (m_X5_init hS (n := 60) hA41 (by decide) (by decide)) rfl (by decide) (Nat.le_of_ble_eq_true rfl) (fun r47 Gc47 q47 => ?_) (fun _ _ h9 => h9.elim)
  obtain ⟨rfl, r47, hO47, hR47, kt47_⟩ := q47
  have hB47_c0 := kt47_ _ _ _ hB41_c0 ⟨by decide, by decide⟩
  have hB47_r10 := kt47_ _ _ _ hB41_r10 ⟨by decide, by decide⟩
  have hB47_c1 := kt47_ _ _ _ hB41_c1 ⟨by decide, by decide⟩
  have hB47_r22 := kt47_ _ _ _ hB41_r22 ⟨by decide, by decide⟩
  have hB47_c2 := kt47_ _ _ _ hB41_c2 ⟨by decide, by decide⟩
  have hB47_r34 := kt47_ _ _ _ hB41_r34 ⟨by decide, by decide⟩
  have hB47_a := kt47_ _ _ _ hB41_a ⟨by decide, by decide⟩
  have hRr47 : Gc47 r47 = some (139, .inl (aC 0, 60, .inl (fun _ => 0))) := hR47
  have kt47 := (kt41).trans (kt47_.narrow (f := fun t => t ≠ 138 ∧ t ≠ 138 + 1) (g := fun t => t ≠ 8 ∧ (t < 132 ∨ 144 ≤ t)) (fun t ht => ⟨fun e9 => by have := ht.2; omega, fun e9 => by have := ht.2; omega⟩))
  refine y_blk 0 tq_X3_init (z := (50, [(0, .ref a)], [.ref c3, .ref a])) rfl ?_
  refine y_putF hS tq_X3_init rfl fp_X3_26_X3 rfl hB47_a (by omega) rfl rfl (Nat.le_of_ble_eq_true rfl) ?_
  have hA50 : (yup Gc47 a (8, .inr (7, [.ref c0, .ref c1, .ref c2, .ref c3, .null, .null]))) a = some (8, .inr (7, [.ref c0, .ref c1, .ref c2, .ref c3, .null, .null])) := yup_s _ _ _
  have hB50_c0 : (yup Gc47 a (8, .inr (7, [.ref c0, .ref c1, .ref c2, .ref c3, .null, .null]))) c0 = some (132, .inr (9, [.ref r10, .int 0])) := yup_o hB47_c0 hB47_a (by decide)
  have hB50_r10 : (yup Gc47 a (8, .inr (7, [.ref c0, .ref c1, .ref c2, .ref c3, .null, .null]))) r10 = some (133, .inl (aC 0, 4, .inl (fun _ => 0))) := yup_o hB47_r10 hB47_a (by decide)
  have hB50_c1 : (yup Gc47 a (8, .inr (7, [.ref c0, .ref c1, .ref c2, .ref c3, .null, .null]))) c1 = some (134, .inr (9, [.ref r22, .int 0])) := yup_o hB47_c1 hB47_a (by decide)
  have hB50_r22 : (yup Gc47 a (8, .inr (7, [.ref c0, .ref c1, .ref c2, .ref c3, .null, .null]))) r22 = some (135, .inl (aC 0, 4, .inl (fun _ => 0))) := yup_o hB47_r22 hB47_a (by decide)
  have hB50_c2 : (yup Gc47 a (8, .inr (7, [.ref c0, .ref c1, .ref c2, .ref c3, .null, .null]))) c2 = some (136, .inr (9, [.ref r34, .int 0])) := yup_o hB47_c2 hB47_a (by decide)
  have hB50_r34 : (yup Gc47 a (8, .inr (7, [.ref c0, .ref c1, .ref c2, .ref c3, .null, .null]))) r34 = some (137, .inl (aC 0, 4, .inl (fun _ => 0))) := yup_o hB47_r34 hB47_a (by decide)
  have hB50_c3 : (yup Gc47 a (8, .inr (7, [.ref c0, .ref c1, .ref c2, .ref c3, .null, .null]))) c3 = some (138, .inr (9, [.ref r47, .int 0])) := yup_o hO47 hB47_a (by decide)
  have hB50_r47 : (yup Gc47 a (8, .inr (7, [.ref c0, .ref c1, .ref c2, .ref c3, .null, .null]))) r47 = some (139, .inl (aC 0, 60, .inl (fun _ => 0))) := yup_o hRr47 hB47_a (by decide)
  have kt50 : yTg (fun t => t ≠ 8 ∧ (t < 132 ∨ 144 ≤ t)) G (yup Gc47 a (8, .inr (7, [.ref c0, .ref c1, .ref c2, .ref c3, .null, .null]))) := (kt47).trans (yTg.up hB47_a (fun q => q.1 rfl))
  show Y l S0 D K_X3_init 17 12 372 (fun r G1 => r = none ∧ ∃ c0 r0 c1 r1 c2 r2 c3 r3 c4 r4 c5 r5 : Nat, G1 a = some (8, .inr (7, [.ref c0, .ref c1, .ref c2, .ref c3, .ref c4, .ref c5])) ∧ G1 c0 = some (132, .inr (9, [.ref r0, .int 0])) ∧ G1 r0 = some (133, .inl (aC 0, 4, .inl (fun _ => 0))) ∧ G1 c1 = some (134, .inr (9, [.ref r1, .int 0])) ∧ G1 r1 = some (135, .inl (aC 0, 4, .inl (fun _ => 0))) ∧ G1 c2 = some (136, .inr (9, [.ref r2, .int 0])) ∧ G1 r2 = some (137, .inl (aC 0, 4, .inl (fun _ => 0))) ∧ G1 c3 = some (138, .inr (9, [.ref r3, .int 0])) ∧ G1 r3 = some (139, .inl (aC 0, 60, .inl (fun _ => 0))) ∧ G1 c4 = some (140, .inr (9, [.ref r4, .int 0])) ∧ G1 r4 = some (141, .inl (aC 0, 4, .inl (fun _ => 0))) ∧ G1 c5 = some (142, .inr (9, [.ref r5, .int 0])) ∧ G1 r5 = some (143, .inl (aC 0, 4, .inl (fun _ => 0))) ∧ yTg (fun t => t ≠ 8 ∧ (t < 132 ∨ 144 ≤ t)) G G1) (fun _ _ => False) (50 + 3) [(0, .ref a)] [] (yup Gc47 a (8, .inr (7, [.ref c0, .ref c1, .ref c2, .ref c3, .null, .null]))) 4 124
  generalize yup Gc47 a (8, .inr (7, [.ref c0, .ref c1, .ref c2, .ref c3, .null, .null])) = G50 at hA50 hB50_c0 hB50_r10 hB50_c1 hB50_r22 hB50_c2 hB50_r34 hB50_c3 hB50_r47 kt50 ⊢
  refine y_blk 1 tq_X3_init (z := (54, [(0, .ref a)], [.ref a])) rfl ?_
  refine y_new 140 hS tq_X3_init (kc := 3) (ks := 122) rfl nw_X3_9 (fun c4 hne54 => ?_)
  have hle54 : yLe G50 (yup G50 c4 (140, .inr (9, [.null, .int 0]))) := yLe.new hne54
  have hA54 : (yup G50 c4 (140, .inr (9, [.null, .int 0]))) c4 = some (140, .inr (9, [.null, .int 0])) := yup_s _ _ _
  have hB54_c0 : (yup G50 c4 (140, .inr (9, [.null, .int 0]))) c0 = some (132, .inr (9, [.ref r10, .int 0])) := hle54 _ _ hB50_c0
  have hB54_r10 : (yup G50 c4 (140, .inr (9, [.null, .int 0]))) r10 = some (133, .inl (aC 0, 4, .inl (fun _ => 0))) := hle54 _ _ hB50_r10
  have hB54_c1 : (yup G50 c4 (140, .inr (9, [.null, .int 0]))) c1 = some (134, .inr (9, [.ref r22, .int 0])) := hle54 _ _ hB50_c1
  have hB54_r22 : (yup G50 c4 (140, .inr (9, [.null, .int 0]))) r22 = some (135, .inl (aC 0, 4, .inl (fun _ => 0))) := hle54 _ _ hB50_r22
  have hB54_c2 : (yup G50 c4 (140, .inr (9, [.null, .int 0]))) c2 = some (136, .inr (9, [.ref r34, .int 0])) := hle54 _ _ hB50_c2
  have hB54_r34 : (yup G50 c4 (140, .inr (9, [.null, .int 0]))) r34 = some (137, .inl (aC 0, 4, .inl (fun _ => 0))) := hle54 _ _ hB50_r34
  have hB54_c3 : (yup G50 c4 (140, .inr (9, [.null, .int 0]))) c3 = some (138, .inr (9, [.ref r47, .int 0])) := hle54 _ _ hB50_c3
  have hB54_r47 : (yup G50 c4 (140, .inr (9, [.null, .int 0]))) r47 = some (139, .inl (aC 0, 60, .inl (fun _ => 0))) := hle54 _ _ hB50_r47
  have hB54_a : (yup G50 c4 (140, .inr (9, [.null, .int 0]))) a = some (8, .inr (7, [.ref c0, .ref c1, .ref c2, .ref c3, .null, .null])) := hle54 _ _ hA50
  have kt54 : yTg (fun t => t ≠ 8 ∧ (t < 132 ∨ 144 ≤ t)) G (yup G50 c4 (140, .inr (9, [.null, .int 0]))) := (kt50).trans (yTg.le hle54)
  generalize yup G50 c4 (140, .inr (9, [.null, .int 0])) = G54 at hle54 hA54 hB54_c0 hB54_r10 hB54_c1 hB54_r22 hB54_c2 hB54_r34 hB54_c3 hB54_r47 hB54_a kt54 ⊢
  refine y_blk 2 tq_X3_init (z := (59, [(0, .ref a)], [.int 4, .ref c4, .ref c4, .ref a])) rfl ?_
  refine y_callI hS tq_X3_init rfl (As := [.int (Int32.ofNat 4)]) rfl ci_X3_13 (m_X5_init hS (n := 4) hA54 (by decide) (by decide)) rfl (by decide) (Nat.le_of_ble_eq_true rfl) (fun r59 Gc59 q59 => ?_) (fun _ _ h9 => h9.elim)
  obtain ⟨rfl, r59, hO59, hR59, kt59_⟩ := q59
  have hB59_c0 := kt59_ _ _ _ hB54_c0 ⟨by decide, by decide⟩
  have hB59_r10 := kt59_ _ _ _ hB54_r10 ⟨by decide, by decide⟩
  have hB59_c1 := kt59_ _ _ _ hB54_c1 ⟨by decide, by decide⟩
  have hB59_r22 := kt59_ _ _ _ hB54_r22 ⟨by decide, by decide⟩
  have hB59_c2 := kt59_ _ _ _ hB54_c2 ⟨by decide, by decide⟩
  have hB59_r34 := kt59_ _ _ _ hB54_r34 ⟨by decide, by decide⟩
  have hB59_c3 := kt59_ _ _ _ hB54_c3 ⟨by decide, by decide⟩
  have hB59_r47 := kt59_ _ _ _ hB54_r47 ⟨by decide, by decide⟩
  have hB59_a := kt59_ _ _ _ hB54_a ⟨by decide, by decide⟩
  have hRr59 : Gc59 r59 = some (141, .inl (aC 0, 4, .inl (fun _ => 0))) := hR59
  have kt59 := (kt54).trans (kt59_.narrow (f := fun t => t ≠ 140 ∧ t ≠ 140 + 1) (g := fun t => t ≠ 8 ∧ (t < 132 ∨ 144 ≤ t)) (fun t ht => ⟨fun e9 => by have := ht.2; omega, fun e9 => by have := ht.2; omega⟩))
  refine y_blk 0 tq_X3_init (z := (62, [(0, .ref a)], [.ref c4, .ref a])) rfl ?_
  refine y_putF hS tq_X3_init rfl fp_X3_29_X3 rfl hB59_a (by omega) rfl rfl (Nat.le_of_ble_eq_true rfl) ?_
  have hA62 : (yup Gc59 a (8, .inr (7, [.ref c0, .ref c1, .ref c2, .ref c3, .ref c4, .null]))) a = some (8, .inr (7, [.ref c0, .ref c1, .ref c2, .ref c3, .ref c4, .null])) := yup_s _ _ _
  have hB62_c0 : (yup Gc59 a (8, .inr (7, [.ref c0, .ref c1, .ref c2, .ref c3, .ref c4, .null]))) c0 = some (132, .inr (9, [.ref r10, .int 0])) := yup_o hB59_c0 hB59_a (by decide)
  have hB62_r10 : (yup Gc59 a (8, .inr (7, [.ref c0, .ref c1, .ref c2, .ref c3, .ref c4, .null]))) r10 = some (133, .inl (aC 0, 4, .inl (fun _ => 0))) := yup_o hB59_r10 hB59_a (by decide)
  have hB62_c1 : (yup Gc59 a (8, .inr (7, [.ref c0, .ref c1, .ref c2, .ref c3, .ref c4, .null]))) c1 = some (134, .inr (9, [.ref r22, .int 0])) := yup_o hB59_c1 hB59_a (by decide)
  have hB62_r22 : (yup Gc59 a (8, .inr (7, [.ref c0, .ref c1, .ref c2, .ref c3, .ref c4, .null]))) r22 = some (135, .inl (aC 0, 4, .inl (fun _ => 0))) := yup_o hB59_r22 hB59_a (by decide)
  have hB62_c2 : (yup Gc59 a (8, .inr (7, [.ref c0, .ref c1, .ref c2, .ref c3, .ref c4, .null]))) c2 = some (136, .inr (9, [.ref r34, .int 0])) := yup_o hB59_c2 hB59_a (by decide)
  have hB62_r34 : (yup Gc59 a (8, .inr (7, [.ref c0, .ref c1, .ref c2, .ref c3, .ref c4, .null]))) r34 = some (137, .inl (aC 0, 4, .inl (fun _ => 0))) := yup_o hB59_r34 hB59_a (by decide)
  have hB62_c3 : (yup Gc59 a (8, .inr (7, [.ref c0, .ref c1, .ref c2, .ref c3, .ref c4, .null]))) c3 = some (138, .inr (9, [.ref r47, .int 0])) := yup_o hB59_c3 hB59_a (by decide)
  have hB62_r47 : (yup Gc59 a (8, .inr (7, [.ref c0, .ref c1, .ref c2, .ref c3, .ref c4, .null]))) r47 = some (139, .inl (aC 0, 60, .inl (fun _ => 0))) := yup_o hB59_r47 hB59_a (by decide)
  have hB62_c4 : (yup Gc59 a (8, .inr (7, [.ref c0, .ref c1, .ref c2, .ref c3, .ref c4, .null]))) c4 = some (140, .inr (9, [.ref r59, .int 0])) := yup_o hO59 hB59_a (by decide)
  have hB62_r59 : (yup Gc59 a (8, .inr (7, [.ref c0, .ref c1, .ref c2, .ref c3, .ref c4, .null]))) r59 = some (141, .inl (aC 0, 4, .inl (fun _ => 0))) := yup_o hRr59 hB59_a (by decide)
  have kt62 : yTg (fun t => t ≠ 8 ∧ (t < 132 ∨ 144 ≤ t)) G (yup Gc59 a (8, .inr (7, [.ref c0, .ref c1, .ref c2, .ref c3, .ref c4, .null]))) := (kt59).trans (yTg.up hB59_a (fun q => q.1 rfl))
  show Y l S0 D K_X3_init 17 12 372 (fun r G1 => r = none ∧ ∃ c0 r0 c1 r1 c2 r2 c3 r3 c4 r4 c5 r5 : Nat, G1 a = some (8, .inr (7, [.ref c0, .ref c1, .ref c2, .ref c3, .ref c4, .ref c5])) ∧ G1 c0 = some (132, .inr (9, [.ref r0, .int 0])) ∧ G1 r0 = some (133, .inl (aC 0, 4, .inl (fun _ => 0))) ∧ G1 c1 = some (134, .inr (9, [.ref r1, .int 0])) ∧ G1 r1 = some (135, .inl (aC 0, 4, .inl (fun _ => 0))) ∧ G1 c2 = some (136, .inr (9, [.ref r2, .int 0])) ∧ G1 r2 = some (137, .inl (aC 0, 4, .inl (fun _ => 0))) ∧ G1 c3 = some (138, .inr (9, [.ref r3, .int 0])) ∧ G1 r3 = some (139, .inl (aC 0, 60, .inl (fun _ => 0))) ∧ G1 c4 = some (140, .inr (9, [.ref r4, .int 0])) ∧ G1 r4 = some (141, .inl (aC 0, 4, .inl (fun _ => 0))) ∧ G1 c5 = some (142, .inr (9, [.ref r5, .int 0])) ∧ G1 r5 = some (143, .inl (aC 0, 4, .inl (fun _ => 0))) ∧ yTg (fun t => t ≠ 8 ∧ (t < 132 ∨ 144 ≤ t)) G G1) (fun _ _ => False) (62 + 3) [(0, .ref a)] [] (yup Gc59 a (8, .inr (7, [.ref c0, .ref c1, .ref c2, .ref c3, .ref c4, .null]))) 2 62
  generalize yup Gc59 a (8, .inr (7, [.ref c0, .ref c1, .ref c2, .ref c3, .ref c4, .null])) = G62 at hA62 hB62_c0 hB62_r10 hB62_c1 hB62_r22 hB62_c2 hB62_r34 hB62_c3 hB62_r47 hB62_c4 hB62_r59 kt62 ⊢
  refine y_blk 1 tq_X3_init (z := (66, [(0, .ref a)], [.ref a])) rfl ?_
  refine y_new 142 hS tq_X3_init (kc := 1) (ks := 60) rfl nw_X3_9 (fun c5 hne66 => ?_)
  have hle66 : yLe G62 (yup G62 c5 (142, .inr (9, [.null, .int 0]))) := yLe.new hne66
  have hA66 : (yup G62 c5 (142, .inr (9, [.null, .int 0]))) c5 = some (142, .inr (9, [.null, .int 0])) := yup_s _ _ _
  have hB66_c0 : (yup G62 c5 (142, .inr (9, [.null, .int 0]))) c0 = some (132, .inr (9, [.ref r10, .int 0])) := hle66 _ _ hB62_c0
  have hB66_r10 : (yup G62 c5 (142, .inr (9, [.null, .int 0]))) r10 = some (133, .inl (aC 0, 4, .inl (fun _ => 0))) := hle66 _ _ hB62_r10
  have hB66_c1 : (yup G62 c5 (142, .inr (9, [.null, .int 0]))) c1 = some (134, .inr (9, [.ref r22, .int 0])) := hle66 _ _ hB62_c1
  have hB66_r22 : (yup G62 c5 (142, .inr (9, [.null, .int 0]))) r22 = some (135, .inl (aC 0, 4, .inl (fun _ => 0))) := hle66 _ _ hB62_r22
  have hB66_c2 : (yup G62 c5 (142, .inr (9, [.null, .int 0]))) c2 = some (136, .inr (9, [.ref r34, .int 0])) := hle66 _ _ hB62_c2
  have hB66_r34 : (yup G62 c5 (142, .inr (9, [.null, .int 0]))) r34 = some (137, .inl (aC 0, 4, .inl (fun _ => 0))) := hle66 _ _ hB62_r34
  have hB66_c3 : (yup G62 c5 (142, .inr (9, [.null, .int 0]))) c3 = some (138, .inr (9, [.ref r47, .int 0])) := hle66 _ _ hB62_c3
  have hB66_r47 : (yup G62 c5 (142, .inr (9, [.null, .int 0]))) r47 = some (139, .inl (aC 0, 60, .inl (fun _ => 0))) := hle66 _ _ hB62_r47
  have hB66_c4 : (yup G62 c5 (142, .inr (9, [.null, .int 0]))) c4 = some (140, .inr (9, [.ref r59, .int 0])) := hle66 _ _ hB62_c4
  have hB66_r59 : (yup G62 c5 (142, .inr (9, [.null, .int 0]))) r59 = some (141, .inl (aC 0, 4, .inl (fun _ => 0))) := hle66 _ _ hB62_r59
  have hB66_a : (yup G62 c5 (142, .inr (9, [.null, .int 0]))) a = some (8, .inr (7, [.ref c0, .ref c1, .ref c2, .ref c3, .ref c4, .null])) := hle66 _ _ hA62
  have kt66 : yTg (fun t => t ≠ 8 ∧ (t < 132 ∨ 144 ≤ t)) G (yup G62 c5 (142, .inr (9, [.null, .int 0]))) := (kt62).trans (yTg.le hle66)
  generalize yup G62 c5 (142, .inr (9, [.null, .int 0])) = G66 at hle66 hA66 hB66_c0 hB66_r10 hB66_c1 hB66_r22 hB66_c2 hB66_r34 hB66_c3 hB66_r47 hB66_c4 hB66_r59 hB66_a kt66 ⊢
  refine y_blk 2 tq_X3_init (z := (71, [(0, .ref a)], [.int 4, .ref c5, .ref c5, .ref a])) rfl ?_
  refine y_callI hS tq_X3_init rfl (As := [.int (Int32.ofNat 4)]) rfl ci_X3_13 (m_X5_init hS (n := 4) hA66 (by decide) (by decide)) rfl (by decide) (Nat.le_of_ble_eq_true rfl) (fun r71 Gc71 q71 => ?_) (fun _ _ h9 => h9.elim)
  obtain ⟨rfl, r71, hO71, hR71, kt71_⟩ := q71
  have hB71_c0 := kt71_ _ _ _ hB66_c0 ⟨by decide, by decide⟩
  have hB71_r10 := kt71_ _ _ _ hB66_r10 ⟨by decide, by decide⟩
  have hB71_c1 := kt71_ _ _ _ hB66_c1 ⟨by decide, by decide⟩
  have hB71_r22 := kt71_ _ _ _ hB66_r22 ⟨by decide, by decide⟩
  have hB71_c2 := kt71_ _ _ _ hB66_c2 ⟨by decide, by decide⟩
  have hB71_r34 := kt71_ _ _ _ hB66_r34 ⟨by decide, by decide⟩
  have hB71_c3 := kt71_ _ _ _ hB66_c3 ⟨by decide, by decide⟩
  have hB71_r47 := kt71_ _ _ _ hB66_r47 ⟨by decide, by decide⟩
  have hB71_c4 := kt71_ _ _ _ hB66_c4 ⟨by decide, by decide⟩
  have hB71_r59 := kt71_ _ _ _ hB66_r59 ⟨by decide, by decide⟩
  have hB71_a := kt71_ _ _ _ hB66_a ⟨by decide, by decide⟩
  have hRr71 : Gc71 r71 = some (143, .inl (aC 0, 4, .inl (fun _ => 0))) := hR71
  have kt71 := (kt66).trans (kt71_.narrow (f := fun t => t ≠ 142 ∧ t ≠ 142 + 1) (g := fun t => t ≠ 8 ∧ (t < 132 ∨ 144 ≤ t)) (fun t ht => ⟨fun e9 => by have := ht.2; omega, fun e9 => by have := ht.2; omega⟩))
  refine y_blk 0 tq_X3_init (z := (74, [(0, .ref a)], [.ref c5, .ref a])) rfl ?_
  refine y_putF hS tq_X3_init rfl fp_X3_32_X3 rfl hB71_a (by omega) rfl rfl (Nat.le_of_ble_eq_true rfl) ?_
  have hA74 : (yup Gc71 a (8, .inr (7, [.ref c0, .ref c1, .ref c2, .ref c3, .ref c4, .ref c5]))) a = some (8, .inr (7, [.ref c0, .ref c1, .ref c2, .ref c3, .ref c4, .ref c5])) := yup_s _ _ _
  have hB74_c0 : (yup Gc71 a (8, .inr (7, [.ref c0, .ref c1, .ref c2, .ref c3, .ref c4, .ref c5]))) c0 = some (132, .inr (9, [.ref r10, .int 0])) := yup_o hB71_c0 hB71_a (by decide)
  have hB74_r10 : (yup Gc71 a (8, .inr (7, [.ref c0, .ref c1, .ref c2, .ref c3, .ref c4, .ref c5]))) r10 = some (133, .inl (aC 0, 4, .inl (fun _ => 0))) := yup_o hB71_r10 hB71_a (by decide)
  have hB74_c1 : (yup Gc71 a (8, .inr (7, [.ref c0, .ref c1, .ref c2, .ref c3, .ref c4, .ref c5]))) c1 = some (134, .inr (9, [.ref r22, .int 0])) := yup_o hB71_c1 hB71_a (by decide)
  have hB74_r22 : (yup Gc71 a (8, .inr (7, [.ref c0, .ref c1, .ref c2, .ref c3, .ref c4, .ref c5]))) r22 = some (135, .inl (aC 0, 4, .inl (fun _ => 0))) := yup_o hB71_r22 hB71_a (by decide)
  have hB74_c2 : (yup Gc71 a (8, .inr (7, [.ref c0, .ref c1, .ref c2, .ref c3, .ref c4, .ref c5]))) c2 = some (136, .inr (9, [.ref r34, .int 0])) := yup_o hB71_c2 hB71_a (by decide)
  have hB74_r34 : (yup Gc71 a (8, .inr (7, [.ref c0, .ref c1, .ref c2, .ref c3, .ref c4, .ref c5]))) r34 = some (137, .inl (aC 0, 4, .inl (fun _ => 0))) := yup_o hB71_r34 hB71_a (by decide)
  have hB74_c3 : (yup Gc71 a (8, .inr (7, [.ref c0, .ref c1, .ref c2, .ref c3, .ref c4, .ref c5]))) c3 = some (138, .inr (9, [.ref r47, .int 0])) := yup_o hB71_c3 hB71_a (by decide)
  have hB74_r47 : (yup Gc71 a (8, .inr (7, [.ref c0, .ref c1, .ref c2, .ref c3, .ref c4, .ref c5]))) r47 = some (139, .inl (aC 0, 60, .inl (fun _ => 0))) := yup_o hB71_r47 hB71_a (by decide)
  have hB74_c4 : (yup Gc71 a (8, .inr (7, [.ref c0, .ref c1, .ref c2, .ref c3, .ref c4, .ref c5]))) c4 = some (140, .inr (9, [.ref r59, .int 0])) := yup_o hB71_c4 hB71_a (by decide)
  have hB74_r59 : (yup Gc71 a (8, .inr (7, [.ref c0, .ref c1, .ref c2, .ref c3, .ref c4, .ref c5]))) r59 = some (141, .inl (aC 0, 4, .inl (fun _ => 0))) := yup_o hB71_r59 hB71_a (by decide)
  have hB74_c5 : (yup Gc71 a (8, .inr (7, [.ref c0, .ref c1, .ref c2, .ref c3, .ref c4, .ref c5]))) c5 = some (142, .inr (9, [.ref r71, .int 0])) := yup_o hO71 hB71_a (by decide)
  have hB74_r71 : (yup Gc71 a (8, .inr (7, [.ref c0, .ref c1, .ref c2, .ref c3, .ref c4, .ref c5]))) r71 = some (143, .inl (aC 0, 4, .inl (fun _ => 0))) := yup_o hRr71 hB71_a (by decide)
  have kt74 : yTg (fun t => t ≠ 8 ∧ (t < 132 ∨ 144 ≤ t)) G (yup Gc71 a (8, .inr (7, [.ref c0, .ref c1, .ref c2, .ref c3, .ref c4, .ref c5]))) := (kt71).trans (yTg.up hB71_a (fun q => q.1 rfl))
  show Y l S0 D K_X3_init 17 12 372 (fun r G1 => r = none ∧ ∃ c0 r0 c1 r1 c2 r2 c3 r3 c4 r4 c5 r5 : Nat, G1 a = some (8, .inr (7, [.ref c0, .ref c1, .ref c2, .ref c3, .ref c4, .ref c5])) ∧ G1 c0 = some (132, .inr (9, [.ref r0, .int 0])) ∧ G1 r0 = some (133, .inl (aC 0, 4, .inl (fun _ => 0))) ∧ G1 c1 = some (134, .inr (9, [.ref r1, .int 0])) ∧ G1 r1 = some (135, .inl (aC 0, 4, .inl (fun _ => 0))) ∧ G1 c2 = some (136, .inr (9, [.ref r2, .int 0])) ∧ G1 r2 = some (137, .inl (aC 0, 4, .inl (fun _ => 0))) ∧ G1 c3 = some (138, .inr (9, [.ref r3, .int 0])) ∧ G1 r3 = some (139, .inl (aC 0, 60, .inl (fun _ => 0))) ∧ G1 c4 = some (140, .inr (9, [.ref r4, .int 0])) ∧ G1 r4 = some (141, .inl (aC 0, 4, .inl (fun _ => 0))) ∧ G1 c5 = some (142, .inr (9, [.ref r5, .int 0])) ∧ G1 r5 = some (143, .inl (aC 0, 4, .inl (fun _ => 0))) ∧ yTg (fun t => t ≠ 8 ∧ (t < 132 ∨ 144 ≤ t)) G G1) (fun _ _ => False) (74 + 3) [(0, .ref a)] [] (yup Gc71 a (8, .inr (7, [.ref c0, .ref c1, .ref c2, .ref c3, .ref c4, .ref c5]))) 0 0
  generalize yup Gc71 a (8, .inr (7, [.ref c0, .ref c1, .ref c2, .ref c3, .ref c4, .ref c5])) = G74 at hA74 hB74_c0 hB74_r10 hB74_c1 hB74_r22 hB74_c2 hB74_r34 hB74_c3 hB74_r47 hB74_c4 hB74_r59 hB74_c5 hB74_r71 kt74 ⊢
  refine y_blk 0 tq_X3_init (z := (77, [(0, .ref a)], [])) rfl ?_
  exact y_vret tq_X3_init rfl rfl (⟨rfl, c0, r10, c1, r22, c2, r34, c3, r47, c4, r59, c5, r71, hA74, hB74_c0, hB74_r10, hB74_c1, hB74_r22, hB74_c2, hB74_r34, hB74_c3, hB74_r47, hB74_c4, hB74_r59, hB74_c5, hB74_r71, kt74⟩)
set_option maxHeartbeats 4000000 in
set_option maxRecDepth 100000 in
theorem m_X6_init {l : Launch} {S0 : State} {A0 : Array Value} {D : va_G} {aC : Nat → ClassId} {G : AH} (hS : yS l S0 A0 D aC) {a : Nat} (h : G a = some (9, .inr (10, [.null, .null]))) : yM l S0 D yX6_init cX6_init 1 none 17 4 124 [.ref a] G (fun r G1 => r = none ∧ ∃ c0 r0 c1 r1 : Nat, G1 a = some (9, .inr (10, [.ref c0, .ref c1])) ∧ G1 c0 = some (144, .inr (9, [.ref r0, .int 0])) ∧ G1 r0 = some (145, .inl (aC 0, 5, .inl (fun _ => 0))) ∧ G1 c1 = some (146, .inr (9, [.ref r1, .int 0])) ∧ G1 r1 = some (147, .inl (aC 0, 5, .inl (fun _ => 0))) ∧ yTg (fun t => t ≠ 9 ∧ (t < 144 ∨ 148 ≤ t)) G G1) (fun _ _ => False) := by
  refine yM.ofK K_X6_init rfl (by decide) (Nat.le_of_ble_eq_true rfl) ?_
  refine y_blk 1 tq_X6_init (z := (1, [(0, .ref a)], [.ref a])) rfl ?_
  refine y_objInit hS tq_X6_init rfl ⟨by decide +kernel, by decide +kernel⟩ (by decide) (by decide) ?_
  refine y_blk 1 tq_X6_init (z := (5, [(0, .ref a)], [.ref a])) rfl ?_
  refine y_new 144 hS tq_X6_init (kc := 3) (ks := 122) rfl nw_X6_7 (fun c0 hne5 => ?_)
  have hle5 : yLe G (yup G c0 (144, .inr (9, [.null, .int 0]))) := yLe.new hne5
  have hA5 : (yup G c0 (144, .inr (9, [.null, .int 0]))) c0 = some (144, .inr (9, [.null, .int 0])) := yup_s _ _ _
  have hB5_a : (yup G c0 (144, .inr (9, [.null, .int 0]))) a = some (9, .inr (10, [.null, .null])) := hle5 _ _ h
  have kt5 : yTg (fun t => t ≠ 9 ∧ (t < 144 ∨ 148 ≤ t)) G (yup G c0 (144, .inr (9, [.null, .int 0]))) := ((yTg.rfl' (f := fun t => t ≠ 9 ∧ (t < 144 ∨ 148 ≤ t)) (G := G))).trans (yTg.le hle5)
  generalize yup G c0 (144, .inr (9, [.null, .int 0])) = G5 at hle5 hA5 hB5_a kt5 ⊢
  refine y_blk 2 tq_X6_init (z := (10, [(0, .ref a)], [.int 5, .ref c0, .ref c0, .ref a])) rfl ?_
  refine y_callI hS tq_X6_init rfl (As := [.int (Int32.ofNat 5)]) rfl ci_X6_11 (m_X5_init hS (n := 5) hA5 (by decide) (by decide)) rfl (by decide) (Nat.le_of_ble_eq_true rfl) (fun r10 Gc10 q10 => ?_) (fun _ _ h9 => h9.elim)
  obtain ⟨rfl, r10, hO10, hR10, kt10_⟩ := q10
  have hB10_a := kt10_ _ _ _ hB5_a ⟨by decide, by decide⟩
  have hRr10 : Gc10 r10 = some (145, .inl (aC 0, 5, .inl (fun _ => 0))) := hR10
  have kt10 := (kt5).trans (kt10_.narrow (f := fun t => t ≠ 144 ∧ t ≠ 144 + 1) (g := fun t => t ≠ 9 ∧ (t < 144 ∨ 148 ≤ t)) (fun t ht => ⟨fun e9 => by have := ht.2; omega, fun e9 => by have := ht.2; omega⟩))
  refine y_blk 0 tq_X6_init (z := (13, [(0, .ref a)], [.ref c0, .ref a])) rfl ?_
  refine y_putF hS tq_X6_init rfl fp_X6_14_X6 rfl hB10_a (by omega) rfl rfl (Nat.le_of_ble_eq_true rfl) ?_
  have hA13 : (yup Gc10 a (9, .inr (10, [.ref c0, .null]))) a = some (9, .inr (10, [.ref c0, .null])) := yup_s _ _ _
  have hB13_c0 : (yup Gc10 a (9, .inr (10, [.ref c0, .null]))) c0 = some (144, .inr (9, [.ref r10, .int 0])) := yup_o hO10 hB10_a (by decide)
  have hB13_r10 : (yup Gc10 a (9, .inr (10, [.ref c0, .null]))) r10 = some (145, .inl (aC 0, 5, .inl (fun _ => 0))) := yup_o hRr10 hB10_a (by decide)
  have kt13 : yTg (fun t => t ≠ 9 ∧ (t < 144 ∨ 148 ≤ t)) G (yup Gc10 a (9, .inr (10, [.ref c0, .null]))) := (kt10).trans (yTg.up hB10_a (fun q => q.1 rfl))
  show Y l S0 D K_X6_init 17 4 124 (fun r G1 => r = none ∧ ∃ c0 r0 c1 r1 : Nat, G1 a = some (9, .inr (10, [.ref c0, .ref c1])) ∧ G1 c0 = some (144, .inr (9, [.ref r0, .int 0])) ∧ G1 r0 = some (145, .inl (aC 0, 5, .inl (fun _ => 0))) ∧ G1 c1 = some (146, .inr (9, [.ref r1, .int 0])) ∧ G1 r1 = some (147, .inl (aC 0, 5, .inl (fun _ => 0))) ∧ yTg (fun t => t ≠ 9 ∧ (t < 144 ∨ 148 ≤ t)) G G1) (fun _ _ => False) (13 + 3) [(0, .ref a)] [] (yup Gc10 a (9, .inr (10, [.ref c0, .null]))) 2 62
  generalize yup Gc10 a (9, .inr (10, [.ref c0, .null])) = G13 at hA13 hB13_c0 hB13_r10 kt13 ⊢
  refine y_blk 1 tq_X6_init (z := (17, [(0, .ref a)], [.ref a])) rfl ?_
  refine y_new 146 hS tq_X6_init (kc := 1) (ks := 60) rfl nw_X6_7 (fun c1 hne17 => ?_)
  have hle17 : yLe G13 (yup G13 c1 (146, .inr (9, [.null, .int 0]))) := yLe.new hne17
  have hA17 : (yup G13 c1 (146, .inr (9, [.null, .int 0]))) c1 = some (146, .inr (9, [.null, .int 0])) := yup_s _ _ _
  have hB17_c0 : (yup G13 c1 (146, .inr (9, [.null, .int 0]))) c0 = some (144, .inr (9, [.ref r10, .int 0])) := hle17 _ _ hB13_c0
  have hB17_r10 : (yup G13 c1 (146, .inr (9, [.null, .int 0]))) r10 = some (145, .inl (aC 0, 5, .inl (fun _ => 0))) := hle17 _ _ hB13_r10
  have hB17_a : (yup G13 c1 (146, .inr (9, [.null, .int 0]))) a = some (9, .inr (10, [.ref c0, .null])) := hle17 _ _ hA13
  have kt17 : yTg (fun t => t ≠ 9 ∧ (t < 144 ∨ 148 ≤ t)) G (yup G13 c1 (146, .inr (9, [.null, .int 0]))) := (kt13).trans (yTg.le hle17)
  generalize yup G13 c1 (146, .inr (9, [.null, .int 0])) = G17 at hle17 hA17 hB17_c0 hB17_r10 hB17_a kt17 ⊢
  refine y_blk 2 tq_X6_init (z := (22, [(0, .ref a)], [.int 5, .ref c1, .ref c1, .ref a])) rfl ?_
  refine y_callI hS tq_X6_init rfl (As := [.int (Int32.ofNat 5)]) rfl ci_X6_11 (m_X5_init hS (n := 5) hA17 (by decide) (by decide)) rfl (by decide) (Nat.le_of_ble_eq_true rfl) (fun r22 Gc22 q22 => ?_) (fun _ _ h9 => h9.elim)
  obtain ⟨rfl, r22, hO22, hR22, kt22_⟩ := q22
  have hB22_c0 := kt22_ _ _ _ hB17_c0 ⟨by decide, by decide⟩
  have hB22_r10 := kt22_ _ _ _ hB17_r10 ⟨by decide, by decide⟩
  have hB22_a := kt22_ _ _ _ hB17_a ⟨by decide, by decide⟩
  have hRr22 : Gc22 r22 = some (147, .inl (aC 0, 5, .inl (fun _ => 0))) := hR22
  have kt22 := (kt17).trans (kt22_.narrow (f := fun t => t ≠ 146 ∧ t ≠ 146 + 1) (g := fun t => t ≠ 9 ∧ (t < 144 ∨ 148 ≤ t)) (fun t ht => ⟨fun e9 => by have := ht.2; omega, fun e9 => by have := ht.2; omega⟩))
  refine y_blk 0 tq_X6_init (z := (25, [(0, .ref a)], [.ref c1, .ref a])) rfl ?_
  refine y_putF hS tq_X6_init rfl fp_X6_18_X6 rfl hB22_a (by omega) rfl rfl (Nat.le_of_ble_eq_true rfl) ?_
  have hA25 : (yup Gc22 a (9, .inr (10, [.ref c0, .ref c1]))) a = some (9, .inr (10, [.ref c0, .ref c1])) := yup_s _ _ _
  have hB25_c0 : (yup Gc22 a (9, .inr (10, [.ref c0, .ref c1]))) c0 = some (144, .inr (9, [.ref r10, .int 0])) := yup_o hB22_c0 hB22_a (by decide)
  have hB25_r10 : (yup Gc22 a (9, .inr (10, [.ref c0, .ref c1]))) r10 = some (145, .inl (aC 0, 5, .inl (fun _ => 0))) := yup_o hB22_r10 hB22_a (by decide)
  have hB25_c1 : (yup Gc22 a (9, .inr (10, [.ref c0, .ref c1]))) c1 = some (146, .inr (9, [.ref r22, .int 0])) := yup_o hO22 hB22_a (by decide)
  have hB25_r22 : (yup Gc22 a (9, .inr (10, [.ref c0, .ref c1]))) r22 = some (147, .inl (aC 0, 5, .inl (fun _ => 0))) := yup_o hRr22 hB22_a (by decide)
  have kt25 : yTg (fun t => t ≠ 9 ∧ (t < 144 ∨ 148 ≤ t)) G (yup Gc22 a (9, .inr (10, [.ref c0, .ref c1]))) := (kt22).trans (yTg.up hB22_a (fun q => q.1 rfl))
  show Y l S0 D K_X6_init 17 4 124 (fun r G1 => r = none ∧ ∃ c0 r0 c1 r1 : Nat, G1 a = some (9, .inr (10, [.ref c0, .ref c1])) ∧ G1 c0 = some (144, .inr (9, [.ref r0, .int 0])) ∧ G1 r0 = some (145, .inl (aC 0, 5, .inl (fun _ => 0))) ∧ G1 c1 = some (146, .inr (9, [.ref r1, .int 0])) ∧ G1 r1 = some (147, .inl (aC 0, 5, .inl (fun _ => 0))) ∧ yTg (fun t => t ≠ 9 ∧ (t < 144 ∨ 148 ≤ t)) G G1) (fun _ _ => False) (25 + 3) [(0, .ref a)] [] (yup Gc22 a (9, .inr (10, [.ref c0, .ref c1]))) 0 0
  generalize yup Gc22 a (9, .inr (10, [.ref c0, .ref c1])) = G25 at hA25 hB25_c0 hB25_r10 hB25_c1 hB25_r22 kt25 ⊢
  refine y_blk 0 tq_X6_init (z := (28, [(0, .ref a)], [])) rfl ?_
  exact y_vret tq_X6_init rfl rfl (⟨rfl, c0, r10, c1, r22, hA25, hB25_c0, hB25_r10, hB25_c1, hB25_r22, kt25⟩)
set_option maxHeartbeats 4000000 in
set_option maxRecDepth 100000 in
theorem m_X1_init {l : Launch} {S0 : State} {A0 : Array Value} {D : va_G} {aC : Nat → ClassId} {G : AH} (hS : yS l S0 A0 D aC) {a : Nat} (h : G a = some (2, .inr (5, [.int 0, .int 0, .long 0, .long 0, .long 0, .long 0, .long 0, .int 0, .int 0, .null]))) : yM l S0 D yX1_init cX1_init 1 none 16 1 512 [.ref a] G (fun r G1 => r = none ∧ ∃ v : Nat, G1 a = some (2, .inr (5, [.int 0, .int 0, .long 0, .long 0, .long 0, .long 0, .long 0, .int 1, .int 0, .ref v])) ∧ G1 v = some (3, .inl (aC 1, 512, .inr (.inl (fun _ => 0)))) ∧ yTg (fun t => t ≠ 2 ∧ t ≠ 3) G G1) (fun _ _ => False) := by
  refine yM.ofK K_X1_init rfl (by decide) (Nat.le_of_ble_eq_true rfl) ?_
  refine y_blk 1 tq_X1_init (z := (1, [(0, .ref a)], [.ref a])) rfl ?_
  refine y_objInit hS tq_X1_init rfl ⟨by decide +kernel, by decide +kernel⟩ (by decide) (by decide) ?_
  refine y_blk 2 tq_X1_init (z := (6, [(0, .ref a)], [.int 1, .ref a])) rfl ?_
  refine y_put hS tq_X1_init rfl fp_X1_9_X1 h (by omega) rfl rfl (Nat.le_of_ble_eq_true rfl) ?_
  have hA6 : (yup G a (2, .inr (5, [.int 0, .int 0, .long 0, .long 0, .long 0, .long 0, .long 0, .int 1, .int 0, .null]))) a = some (2, .inr (5, [.int 0, .int 0, .long 0, .long 0, .long 0, .long 0, .long 0, .int 1, .int 0, .null])) := yup_s _ _ _
  have kt6 : yTg (fun t => t ≠ 2 ∧ t ≠ 3) G (yup G a (2, .inr (5, [.int 0, .int 0, .long 0, .long 0, .long 0, .long 0, .long 0, .int 1, .int 0, .null]))) := ((yTg.rfl' (f := fun t => t ≠ 2 ∧ t ≠ 3) (G := G))).trans (yTg.up h (fun q => q.1 rfl))
  show Y l S0 D K_X1_init 16 1 512 (fun r G1 => r = none ∧ ∃ v : Nat, G1 a = some (2, .inr (5, [.int 0, .int 0, .long 0, .long 0, .long 0, .long 0, .long 0, .int 1, .int 0, .ref v])) ∧ G1 v = some (3, .inl (aC 1, 512, .inr (.inl (fun _ => 0)))) ∧ yTg (fun t => t ≠ 2 ∧ t ≠ 3) G G1) (fun _ _ => False) (6 + 3) [(0, .ref a)] [] (yup G a (2, .inr (5, [.int 0, .int 0, .long 0, .long 0, .long 0, .long 0, .long 0, .int 1, .int 0, .null]))) 1 512
  generalize yup G a (2, .inr (5, [.int 0, .int 0, .long 0, .long 0, .long 0, .long 0, .long 0, .int 1, .int 0, .null])) = G6 at hA6 kt6 ⊢
  refine y_blk 2 tq_X1_init (z := (13, [(0, .ref a)], [.int 512, .ref a])) rfl ?_
  refine y_newa_long 3 hS tq_X1_init (kc := 0) (ks := 0) (n := 512) rfl wd_156 (by decide) (by decide) (by decide) (fun a13 hne13 => ?_)
  have hle13 : yLe G6 (yup G6 a13 (3, .inl (aC 1, 512, .inr (.inl (fun _ => 0))))) := yLe.new hne13
  have hA13 : (yup G6 a13 (3, .inl (aC 1, 512, .inr (.inl (fun _ => 0))))) a13 = some (3, .inl (aC 1, 512, .inr (.inl (fun _ => 0)))) := yup_s _ _ _
  have hB13_a : (yup G6 a13 (3, .inl (aC 1, 512, .inr (.inl (fun _ => 0))))) a = some (2, .inr (5, [.int 0, .int 0, .long 0, .long 0, .long 0, .long 0, .long 0, .int 1, .int 0, .null])) := hle13 _ _ hA6
  have kt13 : yTg (fun t => t ≠ 2 ∧ t ≠ 3) G (yup G6 a13 (3, .inl (aC 1, 512, .inr (.inl (fun _ => 0))))) := (kt6).trans (yTg.le hle13)
  generalize yup G6 a13 (3, .inl (aC 1, 512, .inr (.inl (fun _ => 0)))) = G13 at hle13 hA13 hB13_a kt13 ⊢
  refine y_blk 0 tq_X1_init (z := (15, [(0, .ref a)], [.ref a13, .ref a])) rfl ?_
  refine y_putF hS tq_X1_init rfl fp_X1_15_X1 rfl hB13_a (by omega) rfl rfl (Nat.le_of_ble_eq_true rfl) ?_
  have hA15 : (yup G13 a (2, .inr (5, [.int 0, .int 0, .long 0, .long 0, .long 0, .long 0, .long 0, .int 1, .int 0, .ref a13]))) a = some (2, .inr (5, [.int 0, .int 0, .long 0, .long 0, .long 0, .long 0, .long 0, .int 1, .int 0, .ref a13])) := yup_s _ _ _
  have hB15_a13 : (yup G13 a (2, .inr (5, [.int 0, .int 0, .long 0, .long 0, .long 0, .long 0, .long 0, .int 1, .int 0, .ref a13]))) a13 = some (3, .inl (aC 1, 512, .inr (.inl (fun _ => 0)))) := yup_o hA13 hB13_a (by decide)
  have kt15 : yTg (fun t => t ≠ 2 ∧ t ≠ 3) G (yup G13 a (2, .inr (5, [.int 0, .int 0, .long 0, .long 0, .long 0, .long 0, .long 0, .int 1, .int 0, .ref a13]))) := (kt13).trans (yTg.up hB13_a (fun q => q.1 rfl))
  show Y l S0 D K_X1_init 16 1 512 (fun r G1 => r = none ∧ ∃ v : Nat, G1 a = some (2, .inr (5, [.int 0, .int 0, .long 0, .long 0, .long 0, .long 0, .long 0, .int 1, .int 0, .ref v])) ∧ G1 v = some (3, .inl (aC 1, 512, .inr (.inl (fun _ => 0)))) ∧ yTg (fun t => t ≠ 2 ∧ t ≠ 3) G G1) (fun _ _ => False) (15 + 3) [(0, .ref a)] [] (yup G13 a (2, .inr (5, [.int 0, .int 0, .long 0, .long 0, .long 0, .long 0, .long 0, .int 1, .int 0, .ref a13]))) 0 0
  generalize yup G13 a (2, .inr (5, [.int 0, .int 0, .long 0, .long 0, .long 0, .long 0, .long 0, .int 1, .int 0, .ref a13])) = G15 at hA15 hB15_a13 kt15 ⊢
  refine y_blk 0 tq_X1_init (z := (18, [(0, .ref a)], [])) rfl ?_
  exact y_vret tq_X1_init rfl rfl (⟨rfl, a13, hA15, hB15_a13, kt15⟩)
set_option maxHeartbeats 4000000 in
set_option maxRecDepth 100000 in
theorem m_X8_init {l : Launch} {S0 : State} {A0 : Array Value} {D : va_G} {aC : Nat → ClassId} {G : AH} (hS : yS l S0 A0 D aC) {a : Nat} (h : G a = some (1, .inr (12, [.null, .null, .null, .null, .null, .null, .null, .null, .null, .int 0]))) : yM l S0 D yX8_init cX8_init 1 none 20 60 2100 [.ref a] G (fun r G1 => r = none ∧ ∃ (ad : Nat → Nat) (σ : XS), atX aC ad G1 σ ∧ ad 1 = a ∧ xini σ ∧ keepX G G1) (fun _ _ => False) := by
  refine yM.ofK K_X8_init rfl (by decide) (Nat.le_of_ble_eq_true rfl) ?_
  refine y_blk 1 tq_X8_init (z := (1, [(0, .ref a)], [.ref a])) rfl ?_
  refine y_objInit hS tq_X8_init rfl ⟨by decide +kernel, by decide +kernel⟩ (by decide) (by decide) ?_
  refine y_blk 1 tq_X8_init (z := (5, [(0, .ref a)], [.ref a])) rfl ?_
  refine y_new 2 hS tq_X8_init (kc := 59) (ks := 2090) rfl nw_X8_7 (fun a5 hne5 => ?_)
  have hle5 : yLe G (yup G a5 (2, .inr (5, [.int 0, .int 0, .long 0, .long 0, .long 0, .long 0, .long 0, .int 0, .int 0, .null]))) := yLe.new hne5
  have hA5 : (yup G a5 (2, .inr (5, [.int 0, .int 0, .long 0, .long 0, .long 0, .long 0, .long 0, .int 0, .int 0, .null]))) a5 = some (2, .inr (5, [.int 0, .int 0, .long 0, .long 0, .long 0, .long 0, .long 0, .int 0, .int 0, .null])) := yup_s _ _ _
  have hB5_a : (yup G a5 (2, .inr (5, [.int 0, .int 0, .long 0, .long 0, .long 0, .long 0, .long 0, .int 0, .int 0, .null]))) a = some (1, .inr (12, [.null, .null, .null, .null, .null, .null, .null, .null, .null, .int 0])) := hle5 _ _ h
  have kt5 : yTg (fun t => t = 0 ∨ 200 ≤ t) G (yup G a5 (2, .inr (5, [.int 0, .int 0, .long 0, .long 0, .long 0, .long 0, .long 0, .int 0, .int 0, .null]))) := ((yTg.rfl' (f := fun t => t = 0 ∨ 200 ≤ t) (G := G))).trans (yTg.le hle5)
  generalize yup G a5 (2, .inr (5, [.int 0, .int 0, .long 0, .long 0, .long 0, .long 0, .long 0, .int 0, .int 0, .null])) = G5 at hle5 hA5 hB5_a kt5 ⊢
  refine y_blk 1 tq_X8_init (z := (9, [(0, .ref a)], [.ref a5, .ref a5, .ref a])) rfl ?_
  refine y_callIN hS tq_X8_init rfl (As := []) rfl ci_X8_9 (m_X1_init hS hA5) rfl (by decide) (Nat.le_of_ble_eq_true rfl) (fun r9 Gc9 q9 => ?_) (fun _ _ h9 => h9.elim)
  obtain ⟨rfl, vw, hO9, hV9, kt9_⟩ := q9
  have hB9_a := kt9_ _ _ _ hB5_a ⟨by decide, by decide⟩
  have kt9 := (kt5).trans (kt9_.narrow (g := fun t => t = 0 ∨ 200 ≤ t) (fun t ht => ⟨fun e9 => by rcases ht with ht | ht <;> omega, fun e9 => by rcases ht with ht | ht <;> omega⟩))
  refine y_blk 0 tq_X8_init (z := (12, [(0, .ref a)], [.ref a5, .ref a])) rfl ?_
  refine y_putF hS tq_X8_init rfl fp_X8_10_X8 rfl hB9_a (by omega) rfl rfl (Nat.le_of_ble_eq_true rfl) ?_
  have hA12 : (yup Gc9 a (1, .inr (12, [.ref a5, .null, .null, .null, .null, .null, .null, .null, .null, .int 0]))) a = some (1, .inr (12, [.ref a5, .null, .null, .null, .null, .null, .null, .null, .null, .int 0])) := yup_s _ _ _
  have hB12_a5 : (yup Gc9 a (1, .inr (12, [.ref a5, .null, .null, .null, .null, .null, .null, .null, .null, .int 0]))) a5 = some (2, .inr (5, [.int 0, .int 0, .long 0, .long 0, .long 0, .long 0, .long 0, .int 1, .int 0, .ref vw])) := yup_o hO9 hB9_a (by decide)
  have hB12_vw : (yup Gc9 a (1, .inr (12, [.ref a5, .null, .null, .null, .null, .null, .null, .null, .null, .int 0]))) vw = some (3, .inl (aC 1, 512, .inr (.inl (fun _ => 0)))) := yup_o hV9 hB9_a (by decide)
  have kt12 : yTg (fun t => t = 0 ∨ 200 ≤ t) G (yup Gc9 a (1, .inr (12, [.ref a5, .null, .null, .null, .null, .null, .null, .null, .null, .int 0]))) := (kt9).trans (yTg.up hB9_a (by decide))
  show Y l S0 D K_X8_init 20 60 2100 (fun r G1 => r = none ∧ ∃ (ad : Nat → Nat) (σ : XS), atX aC ad G1 σ ∧ ad 1 = a ∧ xini σ ∧ keepX G G1) (fun _ _ => False) (12 + 3) [(0, .ref a)] [] (yup Gc9 a (1, .inr (12, [.ref a5, .null, .null, .null, .null, .null, .null, .null, .null, .int 0]))) 58 1578
  generalize yup Gc9 a (1, .inr (12, [.ref a5, .null, .null, .null, .null, .null, .null, .null, .null, .int 0])) = G12 at hA12 hB12_a5 hB12_vw kt12 ⊢
  refine y_blk 1 tq_X8_init (z := (16, [(0, .ref a)], [.ref a])) rfl ?_
  refine y_new 4 hS tq_X8_init (kc := 57) (ks := 1575) rfl nw_X8_16 (fun a16 hne16 => ?_)
  have hle16 : yLe G12 (yup G12 a16 (4, .inr (8, [.null, .null, .null]))) := yLe.new hne16
  have hA16 : (yup G12 a16 (4, .inr (8, [.null, .null, .null]))) a16 = some (4, .inr (8, [.null, .null, .null])) := yup_s _ _ _
  have hB16_a5 : (yup G12 a16 (4, .inr (8, [.null, .null, .null]))) a5 = some (2, .inr (5, [.int 0, .int 0, .long 0, .long 0, .long 0, .long 0, .long 0, .int 1, .int 0, .ref vw])) := hle16 _ _ hB12_a5
  have hB16_vw : (yup G12 a16 (4, .inr (8, [.null, .null, .null]))) vw = some (3, .inl (aC 1, 512, .inr (.inl (fun _ => 0)))) := hle16 _ _ hB12_vw
  have hB16_a : (yup G12 a16 (4, .inr (8, [.null, .null, .null]))) a = some (1, .inr (12, [.ref a5, .null, .null, .null, .null, .null, .null, .null, .null, .int 0])) := hle16 _ _ hA12
  have kt16 : yTg (fun t => t = 0 ∨ 200 ≤ t) G (yup G12 a16 (4, .inr (8, [.null, .null, .null]))) := (kt12).trans (yTg.le hle16)
  generalize yup G12 a16 (4, .inr (8, [.null, .null, .null])) = G16 at hle16 hA16 hB16_a5 hB16_vw hB16_a kt16 ⊢
  refine y_blk 1 tq_X8_init (z := (20, [(0, .ref a)], [.ref a16, .ref a16, .ref a])) rfl ?_
  refine y_callIN hS tq_X8_init rfl (As := []) rfl ci_X8_18 (m_X4_init hS hA16) rfl (by decide) (Nat.le_of_ble_eq_true rfl) (fun r20 Gc20 q20 => ?_) (fun _ _ h9 => h9.elim)
  obtain ⟨rfl, n0, s0, n1, s1, n2, s2, hO20, hn0_20, hs0_20, hn1_20, hs1_20, hn2_20, hs2_20, kt20_⟩ := q20
  have hB20_a5 := kt20_ _ _ _ hB16_a5 ⟨by decide, by decide⟩
  have hB20_vw := kt20_ _ _ _ hB16_vw ⟨by decide, by decide⟩
  have hB20_a := kt20_ _ _ _ hB16_a ⟨by decide, by decide⟩
  have kt20 := (kt16).trans (kt20_.narrow (g := fun t => t = 0 ∨ 200 ≤ t) (fun t ht => ⟨fun e9 => by rcases ht with ht | ht <;> omega, by rcases ht with ht | ht <;> omega⟩))
  refine y_blk 0 tq_X8_init (z := (23, [(0, .ref a)], [.ref a16, .ref a])) rfl ?_
  refine y_putF hS tq_X8_init rfl fp_X8_19_X8 rfl hB20_a (by omega) rfl rfl (Nat.le_of_ble_eq_true rfl) ?_
  have hA23 : (yup Gc20 a (1, .inr (12, [.ref a5, .ref a16, .null, .null, .null, .null, .null, .null, .null, .int 0]))) a = some (1, .inr (12, [.ref a5, .ref a16, .null, .null, .null, .null, .null, .null, .null, .int 0])) := yup_s _ _ _
  have hB23_a5 : (yup Gc20 a (1, .inr (12, [.ref a5, .ref a16, .null, .null, .null, .null, .null, .null, .null, .int 0]))) a5 = some (2, .inr (5, [.int 0, .int 0, .long 0, .long 0, .long 0, .long 0, .long 0, .int 1, .int 0, .ref vw])) := yup_o hB20_a5 hB20_a (by decide)
  have hB23_vw : (yup Gc20 a (1, .inr (12, [.ref a5, .ref a16, .null, .null, .null, .null, .null, .null, .null, .int 0]))) vw = some (3, .inl (aC 1, 512, .inr (.inl (fun _ => 0)))) := yup_o hB20_vw hB20_a (by decide)
  have hB23_a16 : (yup Gc20 a (1, .inr (12, [.ref a5, .ref a16, .null, .null, .null, .null, .null, .null, .null, .int 0]))) a16 = some (4, .inr (8, [.ref n0, .ref n1, .ref n2])) := yup_o hO20 hB20_a (by decide)
  have hB23_n0 : (yup Gc20 a (1, .inr (12, [.ref a5, .ref a16, .null, .null, .null, .null, .null, .null, .null, .int 0]))) n0 = some (100, .inr (9, [.ref s0, .int 0])) := yup_o hn0_20 hB20_a (by decide)
  have hB23_s0 : (yup Gc20 a (1, .inr (12, [.ref a5, .ref a16, .null, .null, .null, .null, .null, .null, .null, .int 0]))) s0 = some (101, .inl (aC 0, 6, .inl (fun _ => 0))) := yup_o hs0_20 hB20_a (by decide)
  have hB23_n1 : (yup Gc20 a (1, .inr (12, [.ref a5, .ref a16, .null, .null, .null, .null, .null, .null, .null, .int 0]))) n1 = some (102, .inr (9, [.ref s1, .int 0])) := yup_o hn1_20 hB20_a (by decide)
  have hB23_s1 : (yup Gc20 a (1, .inr (12, [.ref a5, .ref a16, .null, .null, .null, .null, .null, .null, .null, .int 0]))) s1 = some (103, .inl (aC 0, 6, .inl (fun _ => 0))) := yup_o hs1_20 hB20_a (by decide)
  have hB23_n2 : (yup Gc20 a (1, .inr (12, [.ref a5, .ref a16, .null, .null, .null, .null, .null, .null, .null, .int 0]))) n2 = some (104, .inr (9, [.ref s2, .int 0])) := yup_o hn2_20 hB20_a (by decide)
  have hB23_s2 : (yup Gc20 a (1, .inr (12, [.ref a5, .ref a16, .null, .null, .null, .null, .null, .null, .null, .int 0]))) s2 = some (105, .inl (aC 0, 6, .inl (fun _ => 0))) := yup_o hs2_20 hB20_a (by decide)
  have kt23 : yTg (fun t => t = 0 ∨ 200 ≤ t) G (yup Gc20 a (1, .inr (12, [.ref a5, .ref a16, .null, .null, .null, .null, .null, .null, .null, .int 0]))) := (kt20).trans (yTg.up hB20_a (by decide))
  show Y l S0 D K_X8_init 20 60 2100 (fun r G1 => r = none ∧ ∃ (ad : Nat → Nat) (σ : XS), atX aC ad G1 σ ∧ ad 1 = a ∧ xini σ ∧ keepX G G1) (fun _ _ => False) (23 + 3) [(0, .ref a)] [] (yup Gc20 a (1, .inr (12, [.ref a5, .ref a16, .null, .null, .null, .null, .null, .null, .null, .int 0]))) 51 1389
  generalize yup Gc20 a (1, .inr (12, [.ref a5, .ref a16, .null, .null, .null, .null, .null, .null, .null, .int 0])) = G23 at hA23 hB23_a5 hB23_vw hB23_a16 hB23_n0 hB23_s0 hB23_n1 hB23_s1 hB23_n2 hB23_s2 kt23 ⊢
  refine y_blk 1 tq_X8_init (z := (27, [(0, .ref a)], [.ref a])) rfl ?_
  refine y_new 5 hS tq_X8_init (kc := 50) (ks := 1387) rfl nw_X8_23 (fun a27 hne27 => ?_)
  have hle27 : yLe G23 (yup G23 a27 (5, .inr (4, [.null, .null]))) := yLe.new hne27
  have hA27 : (yup G23 a27 (5, .inr (4, [.null, .null]))) a27 = some (5, .inr (4, [.null, .null])) := yup_s _ _ _
  have hB27_a5 : (yup G23 a27 (5, .inr (4, [.null, .null]))) a5 = some (2, .inr (5, [.int 0, .int 0, .long 0, .long 0, .long 0, .long 0, .long 0, .int 1, .int 0, .ref vw])) := hle27 _ _ hB23_a5
  have hB27_vw : (yup G23 a27 (5, .inr (4, [.null, .null]))) vw = some (3, .inl (aC 1, 512, .inr (.inl (fun _ => 0)))) := hle27 _ _ hB23_vw
  have hB27_a16 : (yup G23 a27 (5, .inr (4, [.null, .null]))) a16 = some (4, .inr (8, [.ref n0, .ref n1, .ref n2])) := hle27 _ _ hB23_a16
  have hB27_n0 : (yup G23 a27 (5, .inr (4, [.null, .null]))) n0 = some (100, .inr (9, [.ref s0, .int 0])) := hle27 _ _ hB23_n0
  have hB27_s0 : (yup G23 a27 (5, .inr (4, [.null, .null]))) s0 = some (101, .inl (aC 0, 6, .inl (fun _ => 0))) := hle27 _ _ hB23_s0
  have hB27_n1 : (yup G23 a27 (5, .inr (4, [.null, .null]))) n1 = some (102, .inr (9, [.ref s1, .int 0])) := hle27 _ _ hB23_n1
  have hB27_s1 : (yup G23 a27 (5, .inr (4, [.null, .null]))) s1 = some (103, .inl (aC 0, 6, .inl (fun _ => 0))) := hle27 _ _ hB23_s1
  have hB27_n2 : (yup G23 a27 (5, .inr (4, [.null, .null]))) n2 = some (104, .inr (9, [.ref s2, .int 0])) := hle27 _ _ hB23_n2
  have hB27_s2 : (yup G23 a27 (5, .inr (4, [.null, .null]))) s2 = some (105, .inl (aC 0, 6, .inl (fun _ => 0))) := hle27 _ _ hB23_s2
  have hB27_a : (yup G23 a27 (5, .inr (4, [.null, .null]))) a = some (1, .inr (12, [.ref a5, .ref a16, .null, .null, .null, .null, .null, .null, .null, .int 0])) := hle27 _ _ hA23
  have kt27 : yTg (fun t => t = 0 ∨ 200 ≤ t) G (yup G23 a27 (5, .inr (4, [.null, .null]))) := (kt23).trans (yTg.le hle27)
  generalize yup G23 a27 (5, .inr (4, [.null, .null])) = G27 at hle27 hA27 hB27_a5 hB27_vw hB27_a16 hB27_n0 hB27_s0 hB27_n1 hB27_s1 hB27_n2 hB27_s2 hB27_a kt27 ⊢
  refine y_blk 1 tq_X8_init (z := (31, [(0, .ref a)], [.ref a27, .ref a27, .ref a])) rfl ?_
  refine y_callIN hS tq_X8_init rfl (As := []) rfl ci_X8_25 (m_X0_init hS hA27) rfl (by decide) (Nat.le_of_ble_eq_true rfl) (fun r31 Gc31 q31 => ?_) (fun _ _ h9 => h9.elim)
  obtain ⟨rfl, n3, s3, n4, s4, hO31, hn3_31, hs3_31, hn4_31, hs4_31, kt31_⟩ := q31
  have hB31_a5 := kt31_ _ _ _ hB27_a5 ⟨by decide, by decide⟩
  have hB31_vw := kt31_ _ _ _ hB27_vw ⟨by decide, by decide⟩
  have hB31_a16 := kt31_ _ _ _ hB27_a16 ⟨by decide, by decide⟩
  have hB31_n0 := kt31_ _ _ _ hB27_n0 ⟨by decide, by decide⟩
  have hB31_s0 := kt31_ _ _ _ hB27_s0 ⟨by decide, by decide⟩
  have hB31_n1 := kt31_ _ _ _ hB27_n1 ⟨by decide, by decide⟩
  have hB31_s1 := kt31_ _ _ _ hB27_s1 ⟨by decide, by decide⟩
  have hB31_n2 := kt31_ _ _ _ hB27_n2 ⟨by decide, by decide⟩
  have hB31_s2 := kt31_ _ _ _ hB27_s2 ⟨by decide, by decide⟩
  have hB31_a := kt31_ _ _ _ hB27_a ⟨by decide, by decide⟩
  have kt31 := (kt27).trans (kt31_.narrow (g := fun t => t = 0 ∨ 200 ≤ t) (fun t ht => ⟨fun e9 => by rcases ht with ht | ht <;> omega, by rcases ht with ht | ht <;> omega⟩))
  refine y_blk 0 tq_X8_init (z := (34, [(0, .ref a)], [.ref a27, .ref a])) rfl ?_
  refine y_putF hS tq_X8_init rfl fp_X8_26_X8 rfl hB31_a (by omega) rfl rfl (Nat.le_of_ble_eq_true rfl) ?_
  have hA34 : (yup Gc31 a (1, .inr (12, [.ref a5, .ref a16, .ref a27, .null, .null, .null, .null, .null, .null, .int 0]))) a = some (1, .inr (12, [.ref a5, .ref a16, .ref a27, .null, .null, .null, .null, .null, .null, .int 0])) := yup_s _ _ _
  have hB34_a5 : (yup Gc31 a (1, .inr (12, [.ref a5, .ref a16, .ref a27, .null, .null, .null, .null, .null, .null, .int 0]))) a5 = some (2, .inr (5, [.int 0, .int 0, .long 0, .long 0, .long 0, .long 0, .long 0, .int 1, .int 0, .ref vw])) := yup_o hB31_a5 hB31_a (by decide)
  have hB34_vw : (yup Gc31 a (1, .inr (12, [.ref a5, .ref a16, .ref a27, .null, .null, .null, .null, .null, .null, .int 0]))) vw = some (3, .inl (aC 1, 512, .inr (.inl (fun _ => 0)))) := yup_o hB31_vw hB31_a (by decide)
  have hB34_a16 : (yup Gc31 a (1, .inr (12, [.ref a5, .ref a16, .ref a27, .null, .null, .null, .null, .null, .null, .int 0]))) a16 = some (4, .inr (8, [.ref n0, .ref n1, .ref n2])) := yup_o hB31_a16 hB31_a (by decide)
  have hB34_n0 : (yup Gc31 a (1, .inr (12, [.ref a5, .ref a16, .ref a27, .null, .null, .null, .null, .null, .null, .int 0]))) n0 = some (100, .inr (9, [.ref s0, .int 0])) := yup_o hB31_n0 hB31_a (by decide)
  have hB34_s0 : (yup Gc31 a (1, .inr (12, [.ref a5, .ref a16, .ref a27, .null, .null, .null, .null, .null, .null, .int 0]))) s0 = some (101, .inl (aC 0, 6, .inl (fun _ => 0))) := yup_o hB31_s0 hB31_a (by decide)
  have hB34_n1 : (yup Gc31 a (1, .inr (12, [.ref a5, .ref a16, .ref a27, .null, .null, .null, .null, .null, .null, .int 0]))) n1 = some (102, .inr (9, [.ref s1, .int 0])) := yup_o hB31_n1 hB31_a (by decide)
  have hB34_s1 : (yup Gc31 a (1, .inr (12, [.ref a5, .ref a16, .ref a27, .null, .null, .null, .null, .null, .null, .int 0]))) s1 = some (103, .inl (aC 0, 6, .inl (fun _ => 0))) := yup_o hB31_s1 hB31_a (by decide)
  have hB34_n2 : (yup Gc31 a (1, .inr (12, [.ref a5, .ref a16, .ref a27, .null, .null, .null, .null, .null, .null, .int 0]))) n2 = some (104, .inr (9, [.ref s2, .int 0])) := yup_o hB31_n2 hB31_a (by decide)
  have hB34_s2 : (yup Gc31 a (1, .inr (12, [.ref a5, .ref a16, .ref a27, .null, .null, .null, .null, .null, .null, .int 0]))) s2 = some (105, .inl (aC 0, 6, .inl (fun _ => 0))) := yup_o hB31_s2 hB31_a (by decide)
  have hB34_a27 : (yup Gc31 a (1, .inr (12, [.ref a5, .ref a16, .ref a27, .null, .null, .null, .null, .null, .null, .int 0]))) a27 = some (5, .inr (4, [.ref n3, .ref n4])) := yup_o hO31 hB31_a (by decide)
  have hB34_n3 : (yup Gc31 a (1, .inr (12, [.ref a5, .ref a16, .ref a27, .null, .null, .null, .null, .null, .null, .int 0]))) n3 = some (106, .inr (9, [.ref s3, .int 0])) := yup_o hn3_31 hB31_a (by decide)
  have hB34_s3 : (yup Gc31 a (1, .inr (12, [.ref a5, .ref a16, .ref a27, .null, .null, .null, .null, .null, .null, .int 0]))) s3 = some (107, .inl (aC 0, 8, .inl (fun _ => 0))) := yup_o hs3_31 hB31_a (by decide)
  have hB34_n4 : (yup Gc31 a (1, .inr (12, [.ref a5, .ref a16, .ref a27, .null, .null, .null, .null, .null, .null, .int 0]))) n4 = some (108, .inr (9, [.ref s4, .int 0])) := yup_o hn4_31 hB31_a (by decide)
  have hB34_s4 : (yup Gc31 a (1, .inr (12, [.ref a5, .ref a16, .ref a27, .null, .null, .null, .null, .null, .null, .int 0]))) s4 = some (109, .inl (aC 0, 8, .inl (fun _ => 0))) := yup_o hs4_31 hB31_a (by decide)
  have kt34 : yTg (fun t => t = 0 ∨ 200 ≤ t) G (yup Gc31 a (1, .inr (12, [.ref a5, .ref a16, .ref a27, .null, .null, .null, .null, .null, .null, .int 0]))) := (kt31).trans (yTg.up hB31_a (by decide))
  show Y l S0 D K_X8_init 20 60 2100 (fun r G1 => r = none ∧ ∃ (ad : Nat → Nat) (σ : XS), atX aC ad G1 σ ∧ ad 1 = a ∧ xini σ ∧ keepX G G1) (fun _ _ => False) (34 + 3) [(0, .ref a)] [] (yup Gc31 a (1, .inr (12, [.ref a5, .ref a16, .ref a27, .null, .null, .null, .null, .null, .null, .int 0]))) 46 1263
  generalize yup Gc31 a (1, .inr (12, [.ref a5, .ref a16, .ref a27, .null, .null, .null, .null, .null, .null, .int 0])) = G34 at hA34 hB34_a5 hB34_vw hB34_a16 hB34_n0 hB34_s0 hB34_n1 hB34_s1 hB34_n2 hB34_s2 hB34_a27 hB34_n3 hB34_s3 hB34_n4 hB34_s4 kt34 ⊢
  refine y_blk 1 tq_X8_init (z := (38, [(0, .ref a)], [.ref a])) rfl ?_
  refine y_new 6 hS tq_X8_init (kc := 45) (ks := 1258) rfl nw_X8_30 (fun a38 hne38 => ?_)
  have hle38 : yLe G34 (yup G34 a38 (6, .inr (6, [.null, .null, .null, .null, .null]))) := yLe.new hne38
  have hA38 : (yup G34 a38 (6, .inr (6, [.null, .null, .null, .null, .null]))) a38 = some (6, .inr (6, [.null, .null, .null, .null, .null])) := yup_s _ _ _
  have hB38_a5 : (yup G34 a38 (6, .inr (6, [.null, .null, .null, .null, .null]))) a5 = some (2, .inr (5, [.int 0, .int 0, .long 0, .long 0, .long 0, .long 0, .long 0, .int 1, .int 0, .ref vw])) := hle38 _ _ hB34_a5
  have hB38_vw : (yup G34 a38 (6, .inr (6, [.null, .null, .null, .null, .null]))) vw = some (3, .inl (aC 1, 512, .inr (.inl (fun _ => 0)))) := hle38 _ _ hB34_vw
  have hB38_a16 : (yup G34 a38 (6, .inr (6, [.null, .null, .null, .null, .null]))) a16 = some (4, .inr (8, [.ref n0, .ref n1, .ref n2])) := hle38 _ _ hB34_a16
  have hB38_n0 : (yup G34 a38 (6, .inr (6, [.null, .null, .null, .null, .null]))) n0 = some (100, .inr (9, [.ref s0, .int 0])) := hle38 _ _ hB34_n0
  have hB38_s0 : (yup G34 a38 (6, .inr (6, [.null, .null, .null, .null, .null]))) s0 = some (101, .inl (aC 0, 6, .inl (fun _ => 0))) := hle38 _ _ hB34_s0
  have hB38_n1 : (yup G34 a38 (6, .inr (6, [.null, .null, .null, .null, .null]))) n1 = some (102, .inr (9, [.ref s1, .int 0])) := hle38 _ _ hB34_n1
  have hB38_s1 : (yup G34 a38 (6, .inr (6, [.null, .null, .null, .null, .null]))) s1 = some (103, .inl (aC 0, 6, .inl (fun _ => 0))) := hle38 _ _ hB34_s1
  have hB38_n2 : (yup G34 a38 (6, .inr (6, [.null, .null, .null, .null, .null]))) n2 = some (104, .inr (9, [.ref s2, .int 0])) := hle38 _ _ hB34_n2
  have hB38_s2 : (yup G34 a38 (6, .inr (6, [.null, .null, .null, .null, .null]))) s2 = some (105, .inl (aC 0, 6, .inl (fun _ => 0))) := hle38 _ _ hB34_s2
  have hB38_a27 : (yup G34 a38 (6, .inr (6, [.null, .null, .null, .null, .null]))) a27 = some (5, .inr (4, [.ref n3, .ref n4])) := hle38 _ _ hB34_a27
  have hB38_n3 : (yup G34 a38 (6, .inr (6, [.null, .null, .null, .null, .null]))) n3 = some (106, .inr (9, [.ref s3, .int 0])) := hle38 _ _ hB34_n3
  have hB38_s3 : (yup G34 a38 (6, .inr (6, [.null, .null, .null, .null, .null]))) s3 = some (107, .inl (aC 0, 8, .inl (fun _ => 0))) := hle38 _ _ hB34_s3
  have hB38_n4 : (yup G34 a38 (6, .inr (6, [.null, .null, .null, .null, .null]))) n4 = some (108, .inr (9, [.ref s4, .int 0])) := hle38 _ _ hB34_n4
  have hB38_s4 : (yup G34 a38 (6, .inr (6, [.null, .null, .null, .null, .null]))) s4 = some (109, .inl (aC 0, 8, .inl (fun _ => 0))) := hle38 _ _ hB34_s4
  have hB38_a : (yup G34 a38 (6, .inr (6, [.null, .null, .null, .null, .null]))) a = some (1, .inr (12, [.ref a5, .ref a16, .ref a27, .null, .null, .null, .null, .null, .null, .int 0])) := hle38 _ _ hA34
  have kt38 : yTg (fun t => t = 0 ∨ 200 ≤ t) G (yup G34 a38 (6, .inr (6, [.null, .null, .null, .null, .null]))) := (kt34).trans (yTg.le hle38)
  generalize yup G34 a38 (6, .inr (6, [.null, .null, .null, .null, .null])) = G38 at hle38 hA38 hB38_a5 hB38_vw hB38_a16 hB38_n0 hB38_s0 hB38_n1 hB38_s1 hB38_n2 hB38_s2 hB38_a27 hB38_n3 hB38_s3 hB38_n4 hB38_s4 hB38_a kt38 ⊢
  refine y_blk 1 tq_X8_init (z := (42, [(0, .ref a)], [.ref a38, .ref a38, .ref a])) rfl ?_
  refine y_callIN hS tq_X8_init rfl (As := []) rfl ci_X8_32 (m_X2_init hS hA38) rfl (by decide) (Nat.le_of_ble_eq_true rfl) (fun r42 Gc42 q42 => ?_) (fun _ _ h9 => h9.elim)
  obtain ⟨rfl, n5, s5, n6, s6, n7, s7, n8, s8, n9, s9, hO42, hn5_42, hs5_42, hn6_42, hs6_42, hn7_42, hs7_42, hn8_42, hs8_42, hn9_42, hs9_42, kt42_⟩ := q42
  have hB42_a5 := kt42_ _ _ _ hB38_a5 ⟨by decide, by decide⟩
  have hB42_vw := kt42_ _ _ _ hB38_vw ⟨by decide, by decide⟩
  have hB42_a16 := kt42_ _ _ _ hB38_a16 ⟨by decide, by decide⟩
  have hB42_n0 := kt42_ _ _ _ hB38_n0 ⟨by decide, by decide⟩
  have hB42_s0 := kt42_ _ _ _ hB38_s0 ⟨by decide, by decide⟩
  have hB42_n1 := kt42_ _ _ _ hB38_n1 ⟨by decide, by decide⟩
  have hB42_s1 := kt42_ _ _ _ hB38_s1 ⟨by decide, by decide⟩
  have hB42_n2 := kt42_ _ _ _ hB38_n2 ⟨by decide, by decide⟩
  have hB42_s2 := kt42_ _ _ _ hB38_s2 ⟨by decide, by decide⟩
  have hB42_a27 := kt42_ _ _ _ hB38_a27 ⟨by decide, by decide⟩
  have hB42_n3 := kt42_ _ _ _ hB38_n3 ⟨by decide, by decide⟩
  have hB42_s3 := kt42_ _ _ _ hB38_s3 ⟨by decide, by decide⟩
  have hB42_n4 := kt42_ _ _ _ hB38_n4 ⟨by decide, by decide⟩
  have hB42_s4 := kt42_ _ _ _ hB38_s4 ⟨by decide, by decide⟩
  have hB42_a := kt42_ _ _ _ hB38_a ⟨by decide, by decide⟩
  have kt42 := (kt38).trans (kt42_.narrow (g := fun t => t = 0 ∨ 200 ≤ t) (fun t ht => ⟨fun e9 => by rcases ht with ht | ht <;> omega, by rcases ht with ht | ht <;> omega⟩))
  refine y_blk 0 tq_X8_init (z := (45, [(0, .ref a)], [.ref a38, .ref a])) rfl ?_
  refine y_putF hS tq_X8_init rfl fp_X8_33_X8 rfl hB42_a (by omega) rfl rfl (Nat.le_of_ble_eq_true rfl) ?_
  have hA45 : (yup Gc42 a (1, .inr (12, [.ref a5, .ref a16, .ref a27, .ref a38, .null, .null, .null, .null, .null, .int 0]))) a = some (1, .inr (12, [.ref a5, .ref a16, .ref a27, .ref a38, .null, .null, .null, .null, .null, .int 0])) := yup_s _ _ _
  have hB45_a5 : (yup Gc42 a (1, .inr (12, [.ref a5, .ref a16, .ref a27, .ref a38, .null, .null, .null, .null, .null, .int 0]))) a5 = some (2, .inr (5, [.int 0, .int 0, .long 0, .long 0, .long 0, .long 0, .long 0, .int 1, .int 0, .ref vw])) := yup_o hB42_a5 hB42_a (by decide)
  have hB45_vw : (yup Gc42 a (1, .inr (12, [.ref a5, .ref a16, .ref a27, .ref a38, .null, .null, .null, .null, .null, .int 0]))) vw = some (3, .inl (aC 1, 512, .inr (.inl (fun _ => 0)))) := yup_o hB42_vw hB42_a (by decide)
  have hB45_a16 : (yup Gc42 a (1, .inr (12, [.ref a5, .ref a16, .ref a27, .ref a38, .null, .null, .null, .null, .null, .int 0]))) a16 = some (4, .inr (8, [.ref n0, .ref n1, .ref n2])) := yup_o hB42_a16 hB42_a (by decide)
  have hB45_n0 : (yup Gc42 a (1, .inr (12, [.ref a5, .ref a16, .ref a27, .ref a38, .null, .null, .null, .null, .null, .int 0]))) n0 = some (100, .inr (9, [.ref s0, .int 0])) := yup_o hB42_n0 hB42_a (by decide)
  have hB45_s0 : (yup Gc42 a (1, .inr (12, [.ref a5, .ref a16, .ref a27, .ref a38, .null, .null, .null, .null, .null, .int 0]))) s0 = some (101, .inl (aC 0, 6, .inl (fun _ => 0))) := yup_o hB42_s0 hB42_a (by decide)
  have hB45_n1 : (yup Gc42 a (1, .inr (12, [.ref a5, .ref a16, .ref a27, .ref a38, .null, .null, .null, .null, .null, .int 0]))) n1 = some (102, .inr (9, [.ref s1, .int 0])) := yup_o hB42_n1 hB42_a (by decide)
  have hB45_s1 : (yup Gc42 a (1, .inr (12, [.ref a5, .ref a16, .ref a27, .ref a38, .null, .null, .null, .null, .null, .int 0]))) s1 = some (103, .inl (aC 0, 6, .inl (fun _ => 0))) := yup_o hB42_s1 hB42_a (by decide)
  have hB45_n2 : (yup Gc42 a (1, .inr (12, [.ref a5, .ref a16, .ref a27, .ref a38, .null, .null, .null, .null, .null, .int 0]))) n2 = some (104, .inr (9, [.ref s2, .int 0])) := yup_o hB42_n2 hB42_a (by decide)
  have hB45_s2 : (yup Gc42 a (1, .inr (12, [.ref a5, .ref a16, .ref a27, .ref a38, .null, .null, .null, .null, .null, .int 0]))) s2 = some (105, .inl (aC 0, 6, .inl (fun _ => 0))) := yup_o hB42_s2 hB42_a (by decide)
  have hB45_a27 : (yup Gc42 a (1, .inr (12, [.ref a5, .ref a16, .ref a27, .ref a38, .null, .null, .null, .null, .null, .int 0]))) a27 = some (5, .inr (4, [.ref n3, .ref n4])) := yup_o hB42_a27 hB42_a (by decide)
  have hB45_n3 : (yup Gc42 a (1, .inr (12, [.ref a5, .ref a16, .ref a27, .ref a38, .null, .null, .null, .null, .null, .int 0]))) n3 = some (106, .inr (9, [.ref s3, .int 0])) := yup_o hB42_n3 hB42_a (by decide)
  have hB45_s3 : (yup Gc42 a (1, .inr (12, [.ref a5, .ref a16, .ref a27, .ref a38, .null, .null, .null, .null, .null, .int 0]))) s3 = some (107, .inl (aC 0, 8, .inl (fun _ => 0))) := yup_o hB42_s3 hB42_a (by decide)
  have hB45_n4 : (yup Gc42 a (1, .inr (12, [.ref a5, .ref a16, .ref a27, .ref a38, .null, .null, .null, .null, .null, .int 0]))) n4 = some (108, .inr (9, [.ref s4, .int 0])) := yup_o hB42_n4 hB42_a (by decide)
  have hB45_s4 : (yup Gc42 a (1, .inr (12, [.ref a5, .ref a16, .ref a27, .ref a38, .null, .null, .null, .null, .null, .int 0]))) s4 = some (109, .inl (aC 0, 8, .inl (fun _ => 0))) := yup_o hB42_s4 hB42_a (by decide)
  have hB45_a38 : (yup Gc42 a (1, .inr (12, [.ref a5, .ref a16, .ref a27, .ref a38, .null, .null, .null, .null, .null, .int 0]))) a38 = some (6, .inr (6, [.ref n5, .ref n6, .ref n7, .ref n8, .ref n9])) := yup_o hO42 hB42_a (by decide)
  have hB45_n5 : (yup Gc42 a (1, .inr (12, [.ref a5, .ref a16, .ref a27, .ref a38, .null, .null, .null, .null, .null, .int 0]))) n5 = some (110, .inr (9, [.ref s5, .int 0])) := yup_o hn5_42 hB42_a (by decide)
  have hB45_s5 : (yup Gc42 a (1, .inr (12, [.ref a5, .ref a16, .ref a27, .ref a38, .null, .null, .null, .null, .null, .int 0]))) s5 = some (111, .inl (aC 0, 6, .inl (fun _ => 0))) := yup_o hs5_42 hB42_a (by decide)
  have hB45_n6 : (yup Gc42 a (1, .inr (12, [.ref a5, .ref a16, .ref a27, .ref a38, .null, .null, .null, .null, .null, .int 0]))) n6 = some (112, .inr (9, [.ref s6, .int 0])) := yup_o hn6_42 hB42_a (by decide)
  have hB45_s6 : (yup Gc42 a (1, .inr (12, [.ref a5, .ref a16, .ref a27, .ref a38, .null, .null, .null, .null, .null, .int 0]))) s6 = some (113, .inl (aC 0, 6, .inl (fun _ => 0))) := yup_o hs6_42 hB42_a (by decide)
  have hB45_n7 : (yup Gc42 a (1, .inr (12, [.ref a5, .ref a16, .ref a27, .ref a38, .null, .null, .null, .null, .null, .int 0]))) n7 = some (114, .inr (9, [.ref s7, .int 0])) := yup_o hn7_42 hB42_a (by decide)
  have hB45_s7 : (yup Gc42 a (1, .inr (12, [.ref a5, .ref a16, .ref a27, .ref a38, .null, .null, .null, .null, .null, .int 0]))) s7 = some (115, .inl (aC 0, 6, .inl (fun _ => 0))) := yup_o hs7_42 hB42_a (by decide)
  have hB45_n8 : (yup Gc42 a (1, .inr (12, [.ref a5, .ref a16, .ref a27, .ref a38, .null, .null, .null, .null, .null, .int 0]))) n8 = some (116, .inr (9, [.ref s8, .int 0])) := yup_o hn8_42 hB42_a (by decide)
  have hB45_s8 : (yup Gc42 a (1, .inr (12, [.ref a5, .ref a16, .ref a27, .ref a38, .null, .null, .null, .null, .null, .int 0]))) s8 = some (117, .inl (aC 0, 6, .inl (fun _ => 0))) := yup_o hs8_42 hB42_a (by decide)
  have hB45_n9 : (yup Gc42 a (1, .inr (12, [.ref a5, .ref a16, .ref a27, .ref a38, .null, .null, .null, .null, .null, .int 0]))) n9 = some (118, .inr (9, [.ref s9, .int 0])) := yup_o hn9_42 hB42_a (by decide)
  have hB45_s9 : (yup Gc42 a (1, .inr (12, [.ref a5, .ref a16, .ref a27, .ref a38, .null, .null, .null, .null, .null, .int 0]))) s9 = some (119, .inl (aC 0, 36, .inl (fun _ => 0))) := yup_o hs9_42 hB42_a (by decide)
  have kt45 : yTg (fun t => t = 0 ∨ 200 ≤ t) G (yup Gc42 a (1, .inr (12, [.ref a5, .ref a16, .ref a27, .ref a38, .null, .null, .null, .null, .null, .int 0]))) := (kt42).trans (yTg.up hB42_a (by decide))
  show Y l S0 D K_X8_init 20 60 2100 (fun r G1 => r = none ∧ ∃ (ad : Nat → Nat) (σ : XS), atX aC ad G1 σ ∧ ad 1 = a ∧ xini σ ∧ keepX G G1) (fun _ _ => False) (45 + 3) [(0, .ref a)] [] (yup Gc42 a (1, .inr (12, [.ref a5, .ref a16, .ref a27, .ref a38, .null, .null, .null, .null, .null, .int 0]))) 35 948
  generalize yup Gc42 a (1, .inr (12, [.ref a5, .ref a16, .ref a27, .ref a38, .null, .null, .null, .null, .null, .int 0])) = G45 at hA45 hB45_a5 hB45_vw hB45_a16 hB45_n0 hB45_s0 hB45_n1 hB45_s1 hB45_n2 hB45_s2 hB45_a27 hB45_n3 hB45_s3 hB45_n4 hB45_s4 hB45_a38 hB45_n5 hB45_s5 hB45_n6 hB45_s6 hB45_n7 hB45_s7 hB45_n8 hB45_s8 hB45_n9 hB45_s9 kt45 ⊢
  refine y_blk 1 tq_X8_init (z := (49, [(0, .ref a)], [.ref a])) rfl ?_
  refine y_new 120 hS tq_X8_init (kc := 34) (ks := 946) rfl nw_X8_37 (fun a49 hne49 => ?_)
  have hle49 : yLe G45 (yup G45 a49 (120, .inr (9, [.null, .int 0]))) := yLe.new hne49
  have hA49 : (yup G45 a49 (120, .inr (9, [.null, .int 0]))) a49 = some (120, .inr (9, [.null, .int 0])) := yup_s _ _ _
  have hB49_a5 : (yup G45 a49 (120, .inr (9, [.null, .int 0]))) a5 = some (2, .inr (5, [.int 0, .int 0, .long 0, .long 0, .long 0, .long 0, .long 0, .int 1, .int 0, .ref vw])) := hle49 _ _ hB45_a5
  have hB49_vw : (yup G45 a49 (120, .inr (9, [.null, .int 0]))) vw = some (3, .inl (aC 1, 512, .inr (.inl (fun _ => 0)))) := hle49 _ _ hB45_vw
  have hB49_a16 : (yup G45 a49 (120, .inr (9, [.null, .int 0]))) a16 = some (4, .inr (8, [.ref n0, .ref n1, .ref n2])) := hle49 _ _ hB45_a16
  have hB49_n0 : (yup G45 a49 (120, .inr (9, [.null, .int 0]))) n0 = some (100, .inr (9, [.ref s0, .int 0])) := hle49 _ _ hB45_n0
  have hB49_s0 : (yup G45 a49 (120, .inr (9, [.null, .int 0]))) s0 = some (101, .inl (aC 0, 6, .inl (fun _ => 0))) := hle49 _ _ hB45_s0
  have hB49_n1 : (yup G45 a49 (120, .inr (9, [.null, .int 0]))) n1 = some (102, .inr (9, [.ref s1, .int 0])) := hle49 _ _ hB45_n1
  have hB49_s1 : (yup G45 a49 (120, .inr (9, [.null, .int 0]))) s1 = some (103, .inl (aC 0, 6, .inl (fun _ => 0))) := hle49 _ _ hB45_s1
  have hB49_n2 : (yup G45 a49 (120, .inr (9, [.null, .int 0]))) n2 = some (104, .inr (9, [.ref s2, .int 0])) := hle49 _ _ hB45_n2
  have hB49_s2 : (yup G45 a49 (120, .inr (9, [.null, .int 0]))) s2 = some (105, .inl (aC 0, 6, .inl (fun _ => 0))) := hle49 _ _ hB45_s2
  have hB49_a27 : (yup G45 a49 (120, .inr (9, [.null, .int 0]))) a27 = some (5, .inr (4, [.ref n3, .ref n4])) := hle49 _ _ hB45_a27
  have hB49_n3 : (yup G45 a49 (120, .inr (9, [.null, .int 0]))) n3 = some (106, .inr (9, [.ref s3, .int 0])) := hle49 _ _ hB45_n3
  have hB49_s3 : (yup G45 a49 (120, .inr (9, [.null, .int 0]))) s3 = some (107, .inl (aC 0, 8, .inl (fun _ => 0))) := hle49 _ _ hB45_s3
  have hB49_n4 : (yup G45 a49 (120, .inr (9, [.null, .int 0]))) n4 = some (108, .inr (9, [.ref s4, .int 0])) := hle49 _ _ hB45_n4
  have hB49_s4 : (yup G45 a49 (120, .inr (9, [.null, .int 0]))) s4 = some (109, .inl (aC 0, 8, .inl (fun _ => 0))) := hle49 _ _ hB45_s4
  have hB49_a38 : (yup G45 a49 (120, .inr (9, [.null, .int 0]))) a38 = some (6, .inr (6, [.ref n5, .ref n6, .ref n7, .ref n8, .ref n9])) := hle49 _ _ hB45_a38
  have hB49_n5 : (yup G45 a49 (120, .inr (9, [.null, .int 0]))) n5 = some (110, .inr (9, [.ref s5, .int 0])) := hle49 _ _ hB45_n5
  have hB49_s5 : (yup G45 a49 (120, .inr (9, [.null, .int 0]))) s5 = some (111, .inl (aC 0, 6, .inl (fun _ => 0))) := hle49 _ _ hB45_s5
  have hB49_n6 : (yup G45 a49 (120, .inr (9, [.null, .int 0]))) n6 = some (112, .inr (9, [.ref s6, .int 0])) := hle49 _ _ hB45_n6
  have hB49_s6 : (yup G45 a49 (120, .inr (9, [.null, .int 0]))) s6 = some (113, .inl (aC 0, 6, .inl (fun _ => 0))) := hle49 _ _ hB45_s6
  have hB49_n7 : (yup G45 a49 (120, .inr (9, [.null, .int 0]))) n7 = some (114, .inr (9, [.ref s7, .int 0])) := hle49 _ _ hB45_n7
  have hB49_s7 : (yup G45 a49 (120, .inr (9, [.null, .int 0]))) s7 = some (115, .inl (aC 0, 6, .inl (fun _ => 0))) := hle49 _ _ hB45_s7
  have hB49_n8 : (yup G45 a49 (120, .inr (9, [.null, .int 0]))) n8 = some (116, .inr (9, [.ref s8, .int 0])) := hle49 _ _ hB45_n8
  have hB49_s8 : (yup G45 a49 (120, .inr (9, [.null, .int 0]))) s8 = some (117, .inl (aC 0, 6, .inl (fun _ => 0))) := hle49 _ _ hB45_s8
  have hB49_n9 : (yup G45 a49 (120, .inr (9, [.null, .int 0]))) n9 = some (118, .inr (9, [.ref s9, .int 0])) := hle49 _ _ hB45_n9
  have hB49_s9 : (yup G45 a49 (120, .inr (9, [.null, .int 0]))) s9 = some (119, .inl (aC 0, 36, .inl (fun _ => 0))) := hle49 _ _ hB45_s9
  have hB49_a : (yup G45 a49 (120, .inr (9, [.null, .int 0]))) a = some (1, .inr (12, [.ref a5, .ref a16, .ref a27, .ref a38, .null, .null, .null, .null, .null, .int 0])) := hle49 _ _ hA45
  have kt49 : yTg (fun t => t = 0 ∨ 200 ≤ t) G (yup G45 a49 (120, .inr (9, [.null, .int 0]))) := (kt45).trans (yTg.le hle49)
  generalize yup G45 a49 (120, .inr (9, [.null, .int 0])) = G49 at hle49 hA49 hB49_a5 hB49_vw hB49_a16 hB49_n0 hB49_s0 hB49_n1 hB49_s1 hB49_n2 hB49_s2 hB49_a27 hB49_n3 hB49_s3 hB49_n4 hB49_s4 hB49_a38 hB49_n5 hB49_s5 hB49_n6 hB49_s6 hB49_n7 hB49_s7 hB49_n8 hB49_s8 hB49_n9 hB49_s9 hB49_a kt49 ⊢
  refine y_blk 2 tq_X8_init (z := (54, [(0, .ref a)], [.int 4, .ref a49, .ref a49, .ref a])) rfl ?_
  refine y_callI hS tq_X8_init rfl (As := [.int (Int32.ofNat 4)]) rfl ci_X8_39 (m_X5_init hS (n := 4) hA49 (by decide) (by decide)) rfl (by decide) (Nat.le_of_ble_eq_true rfl) (fun r54 Gc54 q54 => ?_) (fun _ _ h9 => h9.elim)
  obtain ⟨rfl, r54, hO54, hR54, kt54_⟩ := q54
  have hB54_a5 := kt54_ _ _ _ hB49_a5 ⟨by decide, by decide⟩
  have hB54_vw := kt54_ _ _ _ hB49_vw ⟨by decide, by decide⟩
  have hB54_a16 := kt54_ _ _ _ hB49_a16 ⟨by decide, by decide⟩
  have hB54_n0 := kt54_ _ _ _ hB49_n0 ⟨by decide, by decide⟩
  have hB54_s0 := kt54_ _ _ _ hB49_s0 ⟨by decide, by decide⟩
  have hB54_n1 := kt54_ _ _ _ hB49_n1 ⟨by decide, by decide⟩
  have hB54_s1 := kt54_ _ _ _ hB49_s1 ⟨by decide, by decide⟩
  have hB54_n2 := kt54_ _ _ _ hB49_n2 ⟨by decide, by decide⟩
  have hB54_s2 := kt54_ _ _ _ hB49_s2 ⟨by decide, by decide⟩
  have hB54_a27 := kt54_ _ _ _ hB49_a27 ⟨by decide, by decide⟩
  have hB54_n3 := kt54_ _ _ _ hB49_n3 ⟨by decide, by decide⟩
  have hB54_s3 := kt54_ _ _ _ hB49_s3 ⟨by decide, by decide⟩
  have hB54_n4 := kt54_ _ _ _ hB49_n4 ⟨by decide, by decide⟩
  have hB54_s4 := kt54_ _ _ _ hB49_s4 ⟨by decide, by decide⟩
  have hB54_a38 := kt54_ _ _ _ hB49_a38 ⟨by decide, by decide⟩
  have hB54_n5 := kt54_ _ _ _ hB49_n5 ⟨by decide, by decide⟩
  have hB54_s5 := kt54_ _ _ _ hB49_s5 ⟨by decide, by decide⟩
  have hB54_n6 := kt54_ _ _ _ hB49_n6 ⟨by decide, by decide⟩
  have hB54_s6 := kt54_ _ _ _ hB49_s6 ⟨by decide, by decide⟩
  have hB54_n7 := kt54_ _ _ _ hB49_n7 ⟨by decide, by decide⟩
  have hB54_s7 := kt54_ _ _ _ hB49_s7 ⟨by decide, by decide⟩
  have hB54_n8 := kt54_ _ _ _ hB49_n8 ⟨by decide, by decide⟩
  have hB54_s8 := kt54_ _ _ _ hB49_s8 ⟨by decide, by decide⟩
  have hB54_n9 := kt54_ _ _ _ hB49_n9 ⟨by decide, by decide⟩
  have hB54_s9 := kt54_ _ _ _ hB49_s9 ⟨by decide, by decide⟩
  have hB54_a := kt54_ _ _ _ hB49_a ⟨by decide, by decide⟩
  have hRr54 : Gc54 r54 = some (121, .inl (aC 0, 4, .inl (fun _ => 0))) := hR54
  have kt54 := (kt49).trans (kt54_.narrow (f := fun t => t ≠ 120 ∧ t ≠ 120 + 1) (g := fun t => t = 0 ∨ 200 ≤ t) (fun t ht => ⟨fun e9 => by rcases ht with ht | ht <;> omega, fun e9 => by rcases ht with ht | ht <;> omega⟩))
  refine y_blk 0 tq_X8_init (z := (57, [(0, .ref a)], [.ref a49, .ref a])) rfl ?_
  refine y_putF hS tq_X8_init rfl fp_X8_42_X8 rfl hB54_a (by omega) rfl rfl (Nat.le_of_ble_eq_true rfl) ?_
  have hA57 : (yup Gc54 a (1, .inr (12, [.ref a5, .ref a16, .ref a27, .ref a38, .ref a49, .null, .null, .null, .null, .int 0]))) a = some (1, .inr (12, [.ref a5, .ref a16, .ref a27, .ref a38, .ref a49, .null, .null, .null, .null, .int 0])) := yup_s _ _ _
  have hB57_a5 : (yup Gc54 a (1, .inr (12, [.ref a5, .ref a16, .ref a27, .ref a38, .ref a49, .null, .null, .null, .null, .int 0]))) a5 = some (2, .inr (5, [.int 0, .int 0, .long 0, .long 0, .long 0, .long 0, .long 0, .int 1, .int 0, .ref vw])) := yup_o hB54_a5 hB54_a (by decide)
  have hB57_vw : (yup Gc54 a (1, .inr (12, [.ref a5, .ref a16, .ref a27, .ref a38, .ref a49, .null, .null, .null, .null, .int 0]))) vw = some (3, .inl (aC 1, 512, .inr (.inl (fun _ => 0)))) := yup_o hB54_vw hB54_a (by decide)
  have hB57_a16 : (yup Gc54 a (1, .inr (12, [.ref a5, .ref a16, .ref a27, .ref a38, .ref a49, .null, .null, .null, .null, .int 0]))) a16 = some (4, .inr (8, [.ref n0, .ref n1, .ref n2])) := yup_o hB54_a16 hB54_a (by decide)
  have hB57_n0 : (yup Gc54 a (1, .inr (12, [.ref a5, .ref a16, .ref a27, .ref a38, .ref a49, .null, .null, .null, .null, .int 0]))) n0 = some (100, .inr (9, [.ref s0, .int 0])) := yup_o hB54_n0 hB54_a (by decide)
  have hB57_s0 : (yup Gc54 a (1, .inr (12, [.ref a5, .ref a16, .ref a27, .ref a38, .ref a49, .null, .null, .null, .null, .int 0]))) s0 = some (101, .inl (aC 0, 6, .inl (fun _ => 0))) := yup_o hB54_s0 hB54_a (by decide)
  have hB57_n1 : (yup Gc54 a (1, .inr (12, [.ref a5, .ref a16, .ref a27, .ref a38, .ref a49, .null, .null, .null, .null, .int 0]))) n1 = some (102, .inr (9, [.ref s1, .int 0])) := yup_o hB54_n1 hB54_a (by decide)
  have hB57_s1 : (yup Gc54 a (1, .inr (12, [.ref a5, .ref a16, .ref a27, .ref a38, .ref a49, .null, .null, .null, .null, .int 0]))) s1 = some (103, .inl (aC 0, 6, .inl (fun _ => 0))) := yup_o hB54_s1 hB54_a (by decide)
  have hB57_n2 : (yup Gc54 a (1, .inr (12, [.ref a5, .ref a16, .ref a27, .ref a38, .ref a49, .null, .null, .null, .null, .int 0]))) n2 = some (104, .inr (9, [.ref s2, .int 0])) := yup_o hB54_n2 hB54_a (by decide)
  have hB57_s2 : (yup Gc54 a (1, .inr (12, [.ref a5, .ref a16, .ref a27, .ref a38, .ref a49, .null, .null, .null, .null, .int 0]))) s2 = some (105, .inl (aC 0, 6, .inl (fun _ => 0))) := yup_o hB54_s2 hB54_a (by decide)
  have hB57_a27 : (yup Gc54 a (1, .inr (12, [.ref a5, .ref a16, .ref a27, .ref a38, .ref a49, .null, .null, .null, .null, .int 0]))) a27 = some (5, .inr (4, [.ref n3, .ref n4])) := yup_o hB54_a27 hB54_a (by decide)
  have hB57_n3 : (yup Gc54 a (1, .inr (12, [.ref a5, .ref a16, .ref a27, .ref a38, .ref a49, .null, .null, .null, .null, .int 0]))) n3 = some (106, .inr (9, [.ref s3, .int 0])) := yup_o hB54_n3 hB54_a (by decide)
  have hB57_s3 : (yup Gc54 a (1, .inr (12, [.ref a5, .ref a16, .ref a27, .ref a38, .ref a49, .null, .null, .null, .null, .int 0]))) s3 = some (107, .inl (aC 0, 8, .inl (fun _ => 0))) := yup_o hB54_s3 hB54_a (by decide)
  have hB57_n4 : (yup Gc54 a (1, .inr (12, [.ref a5, .ref a16, .ref a27, .ref a38, .ref a49, .null, .null, .null, .null, .int 0]))) n4 = some (108, .inr (9, [.ref s4, .int 0])) := yup_o hB54_n4 hB54_a (by decide)
  have hB57_s4 : (yup Gc54 a (1, .inr (12, [.ref a5, .ref a16, .ref a27, .ref a38, .ref a49, .null, .null, .null, .null, .int 0]))) s4 = some (109, .inl (aC 0, 8, .inl (fun _ => 0))) := yup_o hB54_s4 hB54_a (by decide)
  have hB57_a38 : (yup Gc54 a (1, .inr (12, [.ref a5, .ref a16, .ref a27, .ref a38, .ref a49, .null, .null, .null, .null, .int 0]))) a38 = some (6, .inr (6, [.ref n5, .ref n6, .ref n7, .ref n8, .ref n9])) := yup_o hB54_a38 hB54_a (by decide)
  have hB57_n5 : (yup Gc54 a (1, .inr (12, [.ref a5, .ref a16, .ref a27, .ref a38, .ref a49, .null, .null, .null, .null, .int 0]))) n5 = some (110, .inr (9, [.ref s5, .int 0])) := yup_o hB54_n5 hB54_a (by decide)
  have hB57_s5 : (yup Gc54 a (1, .inr (12, [.ref a5, .ref a16, .ref a27, .ref a38, .ref a49, .null, .null, .null, .null, .int 0]))) s5 = some (111, .inl (aC 0, 6, .inl (fun _ => 0))) := yup_o hB54_s5 hB54_a (by decide)
  have hB57_n6 : (yup Gc54 a (1, .inr (12, [.ref a5, .ref a16, .ref a27, .ref a38, .ref a49, .null, .null, .null, .null, .int 0]))) n6 = some (112, .inr (9, [.ref s6, .int 0])) := yup_o hB54_n6 hB54_a (by decide)
  have hB57_s6 : (yup Gc54 a (1, .inr (12, [.ref a5, .ref a16, .ref a27, .ref a38, .ref a49, .null, .null, .null, .null, .int 0]))) s6 = some (113, .inl (aC 0, 6, .inl (fun _ => 0))) := yup_o hB54_s6 hB54_a (by decide)
  have hB57_n7 : (yup Gc54 a (1, .inr (12, [.ref a5, .ref a16, .ref a27, .ref a38, .ref a49, .null, .null, .null, .null, .int 0]))) n7 = some (114, .inr (9, [.ref s7, .int 0])) := yup_o hB54_n7 hB54_a (by decide)
  have hB57_s7 : (yup Gc54 a (1, .inr (12, [.ref a5, .ref a16, .ref a27, .ref a38, .ref a49, .null, .null, .null, .null, .int 0]))) s7 = some (115, .inl (aC 0, 6, .inl (fun _ => 0))) := yup_o hB54_s7 hB54_a (by decide)
  have hB57_n8 : (yup Gc54 a (1, .inr (12, [.ref a5, .ref a16, .ref a27, .ref a38, .ref a49, .null, .null, .null, .null, .int 0]))) n8 = some (116, .inr (9, [.ref s8, .int 0])) := yup_o hB54_n8 hB54_a (by decide)
  have hB57_s8 : (yup Gc54 a (1, .inr (12, [.ref a5, .ref a16, .ref a27, .ref a38, .ref a49, .null, .null, .null, .null, .int 0]))) s8 = some (117, .inl (aC 0, 6, .inl (fun _ => 0))) := yup_o hB54_s8 hB54_a (by decide)
  have hB57_n9 : (yup Gc54 a (1, .inr (12, [.ref a5, .ref a16, .ref a27, .ref a38, .ref a49, .null, .null, .null, .null, .int 0]))) n9 = some (118, .inr (9, [.ref s9, .int 0])) := yup_o hB54_n9 hB54_a (by decide)
  have hB57_s9 : (yup Gc54 a (1, .inr (12, [.ref a5, .ref a16, .ref a27, .ref a38, .ref a49, .null, .null, .null, .null, .int 0]))) s9 = some (119, .inl (aC 0, 36, .inl (fun _ => 0))) := yup_o hB54_s9 hB54_a (by decide)
  have hB57_a49 : (yup Gc54 a (1, .inr (12, [.ref a5, .ref a16, .ref a27, .ref a38, .ref a49, .null, .null, .null, .null, .int 0]))) a49 = some (120, .inr (9, [.ref r54, .int 0])) := yup_o hO54 hB54_a (by decide)
  have hB57_r54 : (yup Gc54 a (1, .inr (12, [.ref a5, .ref a16, .ref a27, .ref a38, .ref a49, .null, .null, .null, .null, .int 0]))) r54 = some (121, .inl (aC 0, 4, .inl (fun _ => 0))) := yup_o hRr54 hB54_a (by decide)
  have kt57 : yTg (fun t => t = 0 ∨ 200 ≤ t) G (yup Gc54 a (1, .inr (12, [.ref a5, .ref a16, .ref a27, .ref a38, .ref a49, .null, .null, .null, .null, .int 0]))) := (kt54).trans (yTg.up hB54_a (by decide))
  show Y l S0 D K_X8_init 20 60 2100 (fun r G1 => r = none ∧ ∃ (ad : Nat → Nat) (σ : XS), atX aC ad G1 σ ∧ ad 1 = a ∧ xini σ ∧ keepX G G1) (fun _ _ => False) (57 + 3) [(0, .ref a)] [] (yup Gc54 a (1, .inr (12, [.ref a5, .ref a16, .ref a27, .ref a38, .ref a49, .null, .null, .null, .null, .int 0]))) 33 886
  generalize yup Gc54 a (1, .inr (12, [.ref a5, .ref a16, .ref a27, .ref a38, .ref a49, .null, .null, .null, .null, .int 0])) = G57 at hA57 hB57_a5 hB57_vw hB57_a16 hB57_n0 hB57_s0 hB57_n1 hB57_s1 hB57_n2 hB57_s2 hB57_a27 hB57_n3 hB57_s3 hB57_n4 hB57_s4 hB57_a38 hB57_n5 hB57_s5 hB57_n6 hB57_s6 hB57_n7 hB57_s7 hB57_n8 hB57_s8 hB57_n9 hB57_s9 hB57_a49 hB57_r54 kt57 ⊢
  refine y_blk 1 tq_X8_init (z := (61, [(0, .ref a)], [.ref a])) rfl ?_
  refine y_new 7 hS tq_X8_init (kc := 32) (ks := 879) rfl nw_X8_46 (fun a61 hne61 => ?_)
  have hle61 : yLe G57 (yup G57 a61 (7, .inr (11, [.null, .null, .null, .null, .int 0, .int 0, .int 0]))) := yLe.new hne61
  have hA61 : (yup G57 a61 (7, .inr (11, [.null, .null, .null, .null, .int 0, .int 0, .int 0]))) a61 = some (7, .inr (11, [.null, .null, .null, .null, .int 0, .int 0, .int 0])) := yup_s _ _ _
  have hB61_a5 : (yup G57 a61 (7, .inr (11, [.null, .null, .null, .null, .int 0, .int 0, .int 0]))) a5 = some (2, .inr (5, [.int 0, .int 0, .long 0, .long 0, .long 0, .long 0, .long 0, .int 1, .int 0, .ref vw])) := hle61 _ _ hB57_a5
  have hB61_vw : (yup G57 a61 (7, .inr (11, [.null, .null, .null, .null, .int 0, .int 0, .int 0]))) vw = some (3, .inl (aC 1, 512, .inr (.inl (fun _ => 0)))) := hle61 _ _ hB57_vw
  have hB61_a16 : (yup G57 a61 (7, .inr (11, [.null, .null, .null, .null, .int 0, .int 0, .int 0]))) a16 = some (4, .inr (8, [.ref n0, .ref n1, .ref n2])) := hle61 _ _ hB57_a16
  have hB61_n0 : (yup G57 a61 (7, .inr (11, [.null, .null, .null, .null, .int 0, .int 0, .int 0]))) n0 = some (100, .inr (9, [.ref s0, .int 0])) := hle61 _ _ hB57_n0
  have hB61_s0 : (yup G57 a61 (7, .inr (11, [.null, .null, .null, .null, .int 0, .int 0, .int 0]))) s0 = some (101, .inl (aC 0, 6, .inl (fun _ => 0))) := hle61 _ _ hB57_s0
  have hB61_n1 : (yup G57 a61 (7, .inr (11, [.null, .null, .null, .null, .int 0, .int 0, .int 0]))) n1 = some (102, .inr (9, [.ref s1, .int 0])) := hle61 _ _ hB57_n1
  have hB61_s1 : (yup G57 a61 (7, .inr (11, [.null, .null, .null, .null, .int 0, .int 0, .int 0]))) s1 = some (103, .inl (aC 0, 6, .inl (fun _ => 0))) := hle61 _ _ hB57_s1
  have hB61_n2 : (yup G57 a61 (7, .inr (11, [.null, .null, .null, .null, .int 0, .int 0, .int 0]))) n2 = some (104, .inr (9, [.ref s2, .int 0])) := hle61 _ _ hB57_n2
  have hB61_s2 : (yup G57 a61 (7, .inr (11, [.null, .null, .null, .null, .int 0, .int 0, .int 0]))) s2 = some (105, .inl (aC 0, 6, .inl (fun _ => 0))) := hle61 _ _ hB57_s2
  have hB61_a27 : (yup G57 a61 (7, .inr (11, [.null, .null, .null, .null, .int 0, .int 0, .int 0]))) a27 = some (5, .inr (4, [.ref n3, .ref n4])) := hle61 _ _ hB57_a27
  have hB61_n3 : (yup G57 a61 (7, .inr (11, [.null, .null, .null, .null, .int 0, .int 0, .int 0]))) n3 = some (106, .inr (9, [.ref s3, .int 0])) := hle61 _ _ hB57_n3
  have hB61_s3 : (yup G57 a61 (7, .inr (11, [.null, .null, .null, .null, .int 0, .int 0, .int 0]))) s3 = some (107, .inl (aC 0, 8, .inl (fun _ => 0))) := hle61 _ _ hB57_s3
  have hB61_n4 : (yup G57 a61 (7, .inr (11, [.null, .null, .null, .null, .int 0, .int 0, .int 0]))) n4 = some (108, .inr (9, [.ref s4, .int 0])) := hle61 _ _ hB57_n4
  have hB61_s4 : (yup G57 a61 (7, .inr (11, [.null, .null, .null, .null, .int 0, .int 0, .int 0]))) s4 = some (109, .inl (aC 0, 8, .inl (fun _ => 0))) := hle61 _ _ hB57_s4
  have hB61_a38 : (yup G57 a61 (7, .inr (11, [.null, .null, .null, .null, .int 0, .int 0, .int 0]))) a38 = some (6, .inr (6, [.ref n5, .ref n6, .ref n7, .ref n8, .ref n9])) := hle61 _ _ hB57_a38
  have hB61_n5 : (yup G57 a61 (7, .inr (11, [.null, .null, .null, .null, .int 0, .int 0, .int 0]))) n5 = some (110, .inr (9, [.ref s5, .int 0])) := hle61 _ _ hB57_n5
  have hB61_s5 : (yup G57 a61 (7, .inr (11, [.null, .null, .null, .null, .int 0, .int 0, .int 0]))) s5 = some (111, .inl (aC 0, 6, .inl (fun _ => 0))) := hle61 _ _ hB57_s5
  have hB61_n6 : (yup G57 a61 (7, .inr (11, [.null, .null, .null, .null, .int 0, .int 0, .int 0]))) n6 = some (112, .inr (9, [.ref s6, .int 0])) := hle61 _ _ hB57_n6
  have hB61_s6 : (yup G57 a61 (7, .inr (11, [.null, .null, .null, .null, .int 0, .int 0, .int 0]))) s6 = some (113, .inl (aC 0, 6, .inl (fun _ => 0))) := hle61 _ _ hB57_s6
  have hB61_n7 : (yup G57 a61 (7, .inr (11, [.null, .null, .null, .null, .int 0, .int 0, .int 0]))) n7 = some (114, .inr (9, [.ref s7, .int 0])) := hle61 _ _ hB57_n7
  have hB61_s7 : (yup G57 a61 (7, .inr (11, [.null, .null, .null, .null, .int 0, .int 0, .int 0]))) s7 = some (115, .inl (aC 0, 6, .inl (fun _ => 0))) := hle61 _ _ hB57_s7
  have hB61_n8 : (yup G57 a61 (7, .inr (11, [.null, .null, .null, .null, .int 0, .int 0, .int 0]))) n8 = some (116, .inr (9, [.ref s8, .int 0])) := hle61 _ _ hB57_n8
  have hB61_s8 : (yup G57 a61 (7, .inr (11, [.null, .null, .null, .null, .int 0, .int 0, .int 0]))) s8 = some (117, .inl (aC 0, 6, .inl (fun _ => 0))) := hle61 _ _ hB57_s8
  have hB61_n9 : (yup G57 a61 (7, .inr (11, [.null, .null, .null, .null, .int 0, .int 0, .int 0]))) n9 = some (118, .inr (9, [.ref s9, .int 0])) := hle61 _ _ hB57_n9
  have hB61_s9 : (yup G57 a61 (7, .inr (11, [.null, .null, .null, .null, .int 0, .int 0, .int 0]))) s9 = some (119, .inl (aC 0, 36, .inl (fun _ => 0))) := hle61 _ _ hB57_s9
  have hB61_a49 : (yup G57 a61 (7, .inr (11, [.null, .null, .null, .null, .int 0, .int 0, .int 0]))) a49 = some (120, .inr (9, [.ref r54, .int 0])) := hle61 _ _ hB57_a49
  have hB61_r54 : (yup G57 a61 (7, .inr (11, [.null, .null, .null, .null, .int 0, .int 0, .int 0]))) r54 = some (121, .inl (aC 0, 4, .inl (fun _ => 0))) := hle61 _ _ hB57_r54
  have hB61_a : (yup G57 a61 (7, .inr (11, [.null, .null, .null, .null, .int 0, .int 0, .int 0]))) a = some (1, .inr (12, [.ref a5, .ref a16, .ref a27, .ref a38, .ref a49, .null, .null, .null, .null, .int 0])) := hle61 _ _ hA57
  have kt61 : yTg (fun t => t = 0 ∨ 200 ≤ t) G (yup G57 a61 (7, .inr (11, [.null, .null, .null, .null, .int 0, .int 0, .int 0]))) := (kt57).trans (yTg.le hle61)
  generalize yup G57 a61 (7, .inr (11, [.null, .null, .null, .null, .int 0, .int 0, .int 0])) = G61 at hle61 hA61 hB61_a5 hB61_vw hB61_a16 hB61_n0 hB61_s0 hB61_n1 hB61_s1 hB61_n2 hB61_s2 hB61_a27 hB61_n3 hB61_s3 hB61_n4 hB61_s4 hB61_a38 hB61_n5 hB61_s5 hB61_n6 hB61_s6 hB61_n7 hB61_s7 hB61_n8 hB61_s8 hB61_n9 hB61_s9 hB61_a49 hB61_r54 hB61_a kt61 ⊢
  refine y_blk 1 tq_X8_init (z := (65, [(0, .ref a)], [.ref a61, .ref a61, .ref a])) rfl ?_
  refine y_callIN hS tq_X8_init rfl (As := []) rfl ci_X8_48 (m_X7_init hS hA61) rfl (by decide) (Nat.le_of_ble_eq_true rfl) (fun r65 Gc65 q65 => ?_) (fun _ _ h9 => h9.elim)
  obtain ⟨rfl, n11, s11, n12, s12, n13, s13, n14, s14, hO65, hn11_65, hs11_65, hn12_65, hs12_65, hn13_65, hs13_65, hn14_65, hs14_65, kt65_⟩ := q65
  have hB65_a5 := kt65_ _ _ _ hB61_a5 ⟨by decide, by decide⟩
  have hB65_vw := kt65_ _ _ _ hB61_vw ⟨by decide, by decide⟩
  have hB65_a16 := kt65_ _ _ _ hB61_a16 ⟨by decide, by decide⟩
  have hB65_n0 := kt65_ _ _ _ hB61_n0 ⟨by decide, by decide⟩
  have hB65_s0 := kt65_ _ _ _ hB61_s0 ⟨by decide, by decide⟩
  have hB65_n1 := kt65_ _ _ _ hB61_n1 ⟨by decide, by decide⟩
  have hB65_s1 := kt65_ _ _ _ hB61_s1 ⟨by decide, by decide⟩
  have hB65_n2 := kt65_ _ _ _ hB61_n2 ⟨by decide, by decide⟩
  have hB65_s2 := kt65_ _ _ _ hB61_s2 ⟨by decide, by decide⟩
  have hB65_a27 := kt65_ _ _ _ hB61_a27 ⟨by decide, by decide⟩
  have hB65_n3 := kt65_ _ _ _ hB61_n3 ⟨by decide, by decide⟩
  have hB65_s3 := kt65_ _ _ _ hB61_s3 ⟨by decide, by decide⟩
  have hB65_n4 := kt65_ _ _ _ hB61_n4 ⟨by decide, by decide⟩
  have hB65_s4 := kt65_ _ _ _ hB61_s4 ⟨by decide, by decide⟩
  have hB65_a38 := kt65_ _ _ _ hB61_a38 ⟨by decide, by decide⟩
  have hB65_n5 := kt65_ _ _ _ hB61_n5 ⟨by decide, by decide⟩
  have hB65_s5 := kt65_ _ _ _ hB61_s5 ⟨by decide, by decide⟩
  have hB65_n6 := kt65_ _ _ _ hB61_n6 ⟨by decide, by decide⟩
  have hB65_s6 := kt65_ _ _ _ hB61_s6 ⟨by decide, by decide⟩
  have hB65_n7 := kt65_ _ _ _ hB61_n7 ⟨by decide, by decide⟩
  have hB65_s7 := kt65_ _ _ _ hB61_s7 ⟨by decide, by decide⟩
  have hB65_n8 := kt65_ _ _ _ hB61_n8 ⟨by decide, by decide⟩
  have hB65_s8 := kt65_ _ _ _ hB61_s8 ⟨by decide, by decide⟩
  have hB65_n9 := kt65_ _ _ _ hB61_n9 ⟨by decide, by decide⟩
  have hB65_s9 := kt65_ _ _ _ hB61_s9 ⟨by decide, by decide⟩
  have hB65_a49 := kt65_ _ _ _ hB61_a49 ⟨by decide, by decide⟩
  have hB65_r54 := kt65_ _ _ _ hB61_r54 ⟨by decide, by decide⟩
  have hB65_a := kt65_ _ _ _ hB61_a ⟨by decide, by decide⟩
  have kt65 := (kt61).trans (kt65_.narrow (g := fun t => t = 0 ∨ 200 ≤ t) (fun t ht => ⟨fun e9 => by rcases ht with ht | ht <;> omega, by rcases ht with ht | ht <;> omega⟩))
  refine y_blk 0 tq_X8_init (z := (68, [(0, .ref a)], [.ref a61, .ref a])) rfl ?_
  refine y_putF hS tq_X8_init rfl fp_X8_49_X8 rfl hB65_a (by omega) rfl rfl (Nat.le_of_ble_eq_true rfl) ?_
  have hA68 : (yup Gc65 a (1, .inr (12, [.ref a5, .ref a16, .ref a27, .ref a38, .ref a49, .ref a61, .null, .null, .null, .int 0]))) a = some (1, .inr (12, [.ref a5, .ref a16, .ref a27, .ref a38, .ref a49, .ref a61, .null, .null, .null, .int 0])) := yup_s _ _ _
  have hB68_a5 : (yup Gc65 a (1, .inr (12, [.ref a5, .ref a16, .ref a27, .ref a38, .ref a49, .ref a61, .null, .null, .null, .int 0]))) a5 = some (2, .inr (5, [.int 0, .int 0, .long 0, .long 0, .long 0, .long 0, .long 0, .int 1, .int 0, .ref vw])) := yup_o hB65_a5 hB65_a (by decide)
  have hB68_vw : (yup Gc65 a (1, .inr (12, [.ref a5, .ref a16, .ref a27, .ref a38, .ref a49, .ref a61, .null, .null, .null, .int 0]))) vw = some (3, .inl (aC 1, 512, .inr (.inl (fun _ => 0)))) := yup_o hB65_vw hB65_a (by decide)
  have hB68_a16 : (yup Gc65 a (1, .inr (12, [.ref a5, .ref a16, .ref a27, .ref a38, .ref a49, .ref a61, .null, .null, .null, .int 0]))) a16 = some (4, .inr (8, [.ref n0, .ref n1, .ref n2])) := yup_o hB65_a16 hB65_a (by decide)
  have hB68_n0 : (yup Gc65 a (1, .inr (12, [.ref a5, .ref a16, .ref a27, .ref a38, .ref a49, .ref a61, .null, .null, .null, .int 0]))) n0 = some (100, .inr (9, [.ref s0, .int 0])) := yup_o hB65_n0 hB65_a (by decide)
  have hB68_s0 : (yup Gc65 a (1, .inr (12, [.ref a5, .ref a16, .ref a27, .ref a38, .ref a49, .ref a61, .null, .null, .null, .int 0]))) s0 = some (101, .inl (aC 0, 6, .inl (fun _ => 0))) := yup_o hB65_s0 hB65_a (by decide)
  have hB68_n1 : (yup Gc65 a (1, .inr (12, [.ref a5, .ref a16, .ref a27, .ref a38, .ref a49, .ref a61, .null, .null, .null, .int 0]))) n1 = some (102, .inr (9, [.ref s1, .int 0])) := yup_o hB65_n1 hB65_a (by decide)
  have hB68_s1 : (yup Gc65 a (1, .inr (12, [.ref a5, .ref a16, .ref a27, .ref a38, .ref a49, .ref a61, .null, .null, .null, .int 0]))) s1 = some (103, .inl (aC 0, 6, .inl (fun _ => 0))) := yup_o hB65_s1 hB65_a (by decide)
  have hB68_n2 : (yup Gc65 a (1, .inr (12, [.ref a5, .ref a16, .ref a27, .ref a38, .ref a49, .ref a61, .null, .null, .null, .int 0]))) n2 = some (104, .inr (9, [.ref s2, .int 0])) := yup_o hB65_n2 hB65_a (by decide)
  have hB68_s2 : (yup Gc65 a (1, .inr (12, [.ref a5, .ref a16, .ref a27, .ref a38, .ref a49, .ref a61, .null, .null, .null, .int 0]))) s2 = some (105, .inl (aC 0, 6, .inl (fun _ => 0))) := yup_o hB65_s2 hB65_a (by decide)
  have hB68_a27 : (yup Gc65 a (1, .inr (12, [.ref a5, .ref a16, .ref a27, .ref a38, .ref a49, .ref a61, .null, .null, .null, .int 0]))) a27 = some (5, .inr (4, [.ref n3, .ref n4])) := yup_o hB65_a27 hB65_a (by decide)
  have hB68_n3 : (yup Gc65 a (1, .inr (12, [.ref a5, .ref a16, .ref a27, .ref a38, .ref a49, .ref a61, .null, .null, .null, .int 0]))) n3 = some (106, .inr (9, [.ref s3, .int 0])) := yup_o hB65_n3 hB65_a (by decide)
  have hB68_s3 : (yup Gc65 a (1, .inr (12, [.ref a5, .ref a16, .ref a27, .ref a38, .ref a49, .ref a61, .null, .null, .null, .int 0]))) s3 = some (107, .inl (aC 0, 8, .inl (fun _ => 0))) := yup_o hB65_s3 hB65_a (by decide)
  have hB68_n4 : (yup Gc65 a (1, .inr (12, [.ref a5, .ref a16, .ref a27, .ref a38, .ref a49, .ref a61, .null, .null, .null, .int 0]))) n4 = some (108, .inr (9, [.ref s4, .int 0])) := yup_o hB65_n4 hB65_a (by decide)
  have hB68_s4 : (yup Gc65 a (1, .inr (12, [.ref a5, .ref a16, .ref a27, .ref a38, .ref a49, .ref a61, .null, .null, .null, .int 0]))) s4 = some (109, .inl (aC 0, 8, .inl (fun _ => 0))) := yup_o hB65_s4 hB65_a (by decide)
  have hB68_a38 : (yup Gc65 a (1, .inr (12, [.ref a5, .ref a16, .ref a27, .ref a38, .ref a49, .ref a61, .null, .null, .null, .int 0]))) a38 = some (6, .inr (6, [.ref n5, .ref n6, .ref n7, .ref n8, .ref n9])) := yup_o hB65_a38 hB65_a (by decide)
  have hB68_n5 : (yup Gc65 a (1, .inr (12, [.ref a5, .ref a16, .ref a27, .ref a38, .ref a49, .ref a61, .null, .null, .null, .int 0]))) n5 = some (110, .inr (9, [.ref s5, .int 0])) := yup_o hB65_n5 hB65_a (by decide)
  have hB68_s5 : (yup Gc65 a (1, .inr (12, [.ref a5, .ref a16, .ref a27, .ref a38, .ref a49, .ref a61, .null, .null, .null, .int 0]))) s5 = some (111, .inl (aC 0, 6, .inl (fun _ => 0))) := yup_o hB65_s5 hB65_a (by decide)
  have hB68_n6 : (yup Gc65 a (1, .inr (12, [.ref a5, .ref a16, .ref a27, .ref a38, .ref a49, .ref a61, .null, .null, .null, .int 0]))) n6 = some (112, .inr (9, [.ref s6, .int 0])) := yup_o hB65_n6 hB65_a (by decide)
  have hB68_s6 : (yup Gc65 a (1, .inr (12, [.ref a5, .ref a16, .ref a27, .ref a38, .ref a49, .ref a61, .null, .null, .null, .int 0]))) s6 = some (113, .inl (aC 0, 6, .inl (fun _ => 0))) := yup_o hB65_s6 hB65_a (by decide)
  have hB68_n7 : (yup Gc65 a (1, .inr (12, [.ref a5, .ref a16, .ref a27, .ref a38, .ref a49, .ref a61, .null, .null, .null, .int 0]))) n7 = some (114, .inr (9, [.ref s7, .int 0])) := yup_o hB65_n7 hB65_a (by decide)
  have hB68_s7 : (yup Gc65 a (1, .inr (12, [.ref a5, .ref a16, .ref a27, .ref a38, .ref a49, .ref a61, .null, .null, .null, .int 0]))) s7 = some (115, .inl (aC 0, 6, .inl (fun _ => 0))) := yup_o hB65_s7 hB65_a (by decide)
  have hB68_n8 : (yup Gc65 a (1, .inr (12, [.ref a5, .ref a16, .ref a27, .ref a38, .ref a49, .ref a61, .null, .null, .null, .int 0]))) n8 = some (116, .inr (9, [.ref s8, .int 0])) := yup_o hB65_n8 hB65_a (by decide)
  have hB68_s8 : (yup Gc65 a (1, .inr (12, [.ref a5, .ref a16, .ref a27, .ref a38, .ref a49, .ref a61, .null, .null, .null, .int 0]))) s8 = some (117, .inl (aC 0, 6, .inl (fun _ => 0))) := yup_o hB65_s8 hB65_a (by decide)
  have hB68_n9 : (yup Gc65 a (1, .inr (12, [.ref a5, .ref a16, .ref a27, .ref a38, .ref a49, .ref a61, .null, .null, .null, .int 0]))) n9 = some (118, .inr (9, [.ref s9, .int 0])) := yup_o hB65_n9 hB65_a (by decide)
  have hB68_s9 : (yup Gc65 a (1, .inr (12, [.ref a5, .ref a16, .ref a27, .ref a38, .ref a49, .ref a61, .null, .null, .null, .int 0]))) s9 = some (119, .inl (aC 0, 36, .inl (fun _ => 0))) := yup_o hB65_s9 hB65_a (by decide)
  have hB68_a49 : (yup Gc65 a (1, .inr (12, [.ref a5, .ref a16, .ref a27, .ref a38, .ref a49, .ref a61, .null, .null, .null, .int 0]))) a49 = some (120, .inr (9, [.ref r54, .int 0])) := yup_o hB65_a49 hB65_a (by decide)
  have hB68_r54 : (yup Gc65 a (1, .inr (12, [.ref a5, .ref a16, .ref a27, .ref a38, .ref a49, .ref a61, .null, .null, .null, .int 0]))) r54 = some (121, .inl (aC 0, 4, .inl (fun _ => 0))) := yup_o hB65_r54 hB65_a (by decide)
  have hB68_a61 : (yup Gc65 a (1, .inr (12, [.ref a5, .ref a16, .ref a27, .ref a38, .ref a49, .ref a61, .null, .null, .null, .int 0]))) a61 = some (7, .inr (11, [.ref n11, .ref n12, .ref n13, .ref n14, .int 0, .int 0, .int 0])) := yup_o hO65 hB65_a (by decide)
  have hB68_n11 : (yup Gc65 a (1, .inr (12, [.ref a5, .ref a16, .ref a27, .ref a38, .ref a49, .ref a61, .null, .null, .null, .int 0]))) n11 = some (122, .inr (9, [.ref s11, .int 0])) := yup_o hn11_65 hB65_a (by decide)
  have hB68_s11 : (yup Gc65 a (1, .inr (12, [.ref a5, .ref a16, .ref a27, .ref a38, .ref a49, .ref a61, .null, .null, .null, .int 0]))) s11 = some (123, .inl (aC 0, 4, .inl (fun _ => 0))) := yup_o hs11_65 hB65_a (by decide)
  have hB68_n12 : (yup Gc65 a (1, .inr (12, [.ref a5, .ref a16, .ref a27, .ref a38, .ref a49, .ref a61, .null, .null, .null, .int 0]))) n12 = some (124, .inr (9, [.ref s12, .int 0])) := yup_o hn12_65 hB65_a (by decide)
  have hB68_s12 : (yup Gc65 a (1, .inr (12, [.ref a5, .ref a16, .ref a27, .ref a38, .ref a49, .ref a61, .null, .null, .null, .int 0]))) s12 = some (125, .inl (aC 0, 8, .inl (fun _ => 0))) := yup_o hs12_65 hB65_a (by decide)
  have hB68_n13 : (yup Gc65 a (1, .inr (12, [.ref a5, .ref a16, .ref a27, .ref a38, .ref a49, .ref a61, .null, .null, .null, .int 0]))) n13 = some (126, .inr (9, [.ref s13, .int 0])) := yup_o hn13_65 hB65_a (by decide)
  have hB68_s13 : (yup Gc65 a (1, .inr (12, [.ref a5, .ref a16, .ref a27, .ref a38, .ref a49, .ref a61, .null, .null, .null, .int 0]))) s13 = some (127, .inl (aC 0, 6, .inl (fun _ => 0))) := yup_o hs13_65 hB65_a (by decide)
  have hB68_n14 : (yup Gc65 a (1, .inr (12, [.ref a5, .ref a16, .ref a27, .ref a38, .ref a49, .ref a61, .null, .null, .null, .int 0]))) n14 = some (128, .inr (9, [.ref s14, .int 0])) := yup_o hn14_65 hB65_a (by decide)
  have hB68_s14 : (yup Gc65 a (1, .inr (12, [.ref a5, .ref a16, .ref a27, .ref a38, .ref a49, .ref a61, .null, .null, .null, .int 0]))) s14 = some (129, .inl (aC 0, 6, .inl (fun _ => 0))) := yup_o hs14_65 hB65_a (by decide)
  have kt68 : yTg (fun t => t = 0 ∨ 200 ≤ t) G (yup Gc65 a (1, .inr (12, [.ref a5, .ref a16, .ref a27, .ref a38, .ref a49, .ref a61, .null, .null, .null, .int 0]))) := (kt65).trans (yTg.up hB65_a (by decide))
  show Y l S0 D K_X8_init 20 60 2100 (fun r G1 => r = none ∧ ∃ (ad : Nat → Nat) (σ : XS), atX aC ad G1 σ ∧ ad 1 = a ∧ xini σ ∧ keepX G G1) (fun _ _ => False) (68 + 3) [(0, .ref a)] [] (yup Gc65 a (1, .inr (12, [.ref a5, .ref a16, .ref a27, .ref a38, .ref a49, .ref a61, .null, .null, .null, .int 0]))) 24 631
  generalize yup Gc65 a (1, .inr (12, [.ref a5, .ref a16, .ref a27, .ref a38, .ref a49, .ref a61, .null, .null, .null, .int 0])) = G68 at hA68 hB68_a5 hB68_vw hB68_a16 hB68_n0 hB68_s0 hB68_n1 hB68_s1 hB68_n2 hB68_s2 hB68_a27 hB68_n3 hB68_s3 hB68_n4 hB68_s4 hB68_a38 hB68_n5 hB68_s5 hB68_n6 hB68_s6 hB68_n7 hB68_s7 hB68_n8 hB68_s8 hB68_n9 hB68_s9 hB68_a49 hB68_r54 hB68_a61 hB68_n11 hB68_s11 hB68_n12 hB68_s12 hB68_n13 hB68_s13 hB68_n14 hB68_s14 kt68 ⊢
  refine y_blk 1 tq_X8_init (z := (72, [(0, .ref a)], [.ref a])) rfl ?_
  refine y_new 130 hS tq_X8_init (kc := 23) (ks := 629) rfl nw_X8_37 (fun a72 hne72 => ?_)
  have hle72 : yLe G68 (yup G68 a72 (130, .inr (9, [.null, .int 0]))) := yLe.new hne72
  have hA72 : (yup G68 a72 (130, .inr (9, [.null, .int 0]))) a72 = some (130, .inr (9, [.null, .int 0])) := yup_s _ _ _
  have hB72_a5 : (yup G68 a72 (130, .inr (9, [.null, .int 0]))) a5 = some (2, .inr (5, [.int 0, .int 0, .long 0, .long 0, .long 0, .long 0, .long 0, .int 1, .int 0, .ref vw])) := hle72 _ _ hB68_a5
  have hB72_vw : (yup G68 a72 (130, .inr (9, [.null, .int 0]))) vw = some (3, .inl (aC 1, 512, .inr (.inl (fun _ => 0)))) := hle72 _ _ hB68_vw
  have hB72_a16 : (yup G68 a72 (130, .inr (9, [.null, .int 0]))) a16 = some (4, .inr (8, [.ref n0, .ref n1, .ref n2])) := hle72 _ _ hB68_a16
  have hB72_n0 : (yup G68 a72 (130, .inr (9, [.null, .int 0]))) n0 = some (100, .inr (9, [.ref s0, .int 0])) := hle72 _ _ hB68_n0
  have hB72_s0 : (yup G68 a72 (130, .inr (9, [.null, .int 0]))) s0 = some (101, .inl (aC 0, 6, .inl (fun _ => 0))) := hle72 _ _ hB68_s0
  have hB72_n1 : (yup G68 a72 (130, .inr (9, [.null, .int 0]))) n1 = some (102, .inr (9, [.ref s1, .int 0])) := hle72 _ _ hB68_n1
  have hB72_s1 : (yup G68 a72 (130, .inr (9, [.null, .int 0]))) s1 = some (103, .inl (aC 0, 6, .inl (fun _ => 0))) := hle72 _ _ hB68_s1
  have hB72_n2 : (yup G68 a72 (130, .inr (9, [.null, .int 0]))) n2 = some (104, .inr (9, [.ref s2, .int 0])) := hle72 _ _ hB68_n2
  have hB72_s2 : (yup G68 a72 (130, .inr (9, [.null, .int 0]))) s2 = some (105, .inl (aC 0, 6, .inl (fun _ => 0))) := hle72 _ _ hB68_s2
  have hB72_a27 : (yup G68 a72 (130, .inr (9, [.null, .int 0]))) a27 = some (5, .inr (4, [.ref n3, .ref n4])) := hle72 _ _ hB68_a27
  have hB72_n3 : (yup G68 a72 (130, .inr (9, [.null, .int 0]))) n3 = some (106, .inr (9, [.ref s3, .int 0])) := hle72 _ _ hB68_n3
  have hB72_s3 : (yup G68 a72 (130, .inr (9, [.null, .int 0]))) s3 = some (107, .inl (aC 0, 8, .inl (fun _ => 0))) := hle72 _ _ hB68_s3
  have hB72_n4 : (yup G68 a72 (130, .inr (9, [.null, .int 0]))) n4 = some (108, .inr (9, [.ref s4, .int 0])) := hle72 _ _ hB68_n4
  have hB72_s4 : (yup G68 a72 (130, .inr (9, [.null, .int 0]))) s4 = some (109, .inl (aC 0, 8, .inl (fun _ => 0))) := hle72 _ _ hB68_s4
  have hB72_a38 : (yup G68 a72 (130, .inr (9, [.null, .int 0]))) a38 = some (6, .inr (6, [.ref n5, .ref n6, .ref n7, .ref n8, .ref n9])) := hle72 _ _ hB68_a38
  have hB72_n5 : (yup G68 a72 (130, .inr (9, [.null, .int 0]))) n5 = some (110, .inr (9, [.ref s5, .int 0])) := hle72 _ _ hB68_n5
  have hB72_s5 : (yup G68 a72 (130, .inr (9, [.null, .int 0]))) s5 = some (111, .inl (aC 0, 6, .inl (fun _ => 0))) := hle72 _ _ hB68_s5
  have hB72_n6 : (yup G68 a72 (130, .inr (9, [.null, .int 0]))) n6 = some (112, .inr (9, [.ref s6, .int 0])) := hle72 _ _ hB68_n6
  have hB72_s6 : (yup G68 a72 (130, .inr (9, [.null, .int 0]))) s6 = some (113, .inl (aC 0, 6, .inl (fun _ => 0))) := hle72 _ _ hB68_s6
  have hB72_n7 : (yup G68 a72 (130, .inr (9, [.null, .int 0]))) n7 = some (114, .inr (9, [.ref s7, .int 0])) := hle72 _ _ hB68_n7
  have hB72_s7 : (yup G68 a72 (130, .inr (9, [.null, .int 0]))) s7 = some (115, .inl (aC 0, 6, .inl (fun _ => 0))) := hle72 _ _ hB68_s7
  have hB72_n8 : (yup G68 a72 (130, .inr (9, [.null, .int 0]))) n8 = some (116, .inr (9, [.ref s8, .int 0])) := hle72 _ _ hB68_n8
  have hB72_s8 : (yup G68 a72 (130, .inr (9, [.null, .int 0]))) s8 = some (117, .inl (aC 0, 6, .inl (fun _ => 0))) := hle72 _ _ hB68_s8
  have hB72_n9 : (yup G68 a72 (130, .inr (9, [.null, .int 0]))) n9 = some (118, .inr (9, [.ref s9, .int 0])) := hle72 _ _ hB68_n9
  have hB72_s9 : (yup G68 a72 (130, .inr (9, [.null, .int 0]))) s9 = some (119, .inl (aC 0, 36, .inl (fun _ => 0))) := hle72 _ _ hB68_s9
  have hB72_a49 : (yup G68 a72 (130, .inr (9, [.null, .int 0]))) a49 = some (120, .inr (9, [.ref r54, .int 0])) := hle72 _ _ hB68_a49
  have hB72_r54 : (yup G68 a72 (130, .inr (9, [.null, .int 0]))) r54 = some (121, .inl (aC 0, 4, .inl (fun _ => 0))) := hle72 _ _ hB68_r54
  have hB72_a61 : (yup G68 a72 (130, .inr (9, [.null, .int 0]))) a61 = some (7, .inr (11, [.ref n11, .ref n12, .ref n13, .ref n14, .int 0, .int 0, .int 0])) := hle72 _ _ hB68_a61
  have hB72_n11 : (yup G68 a72 (130, .inr (9, [.null, .int 0]))) n11 = some (122, .inr (9, [.ref s11, .int 0])) := hle72 _ _ hB68_n11
  have hB72_s11 : (yup G68 a72 (130, .inr (9, [.null, .int 0]))) s11 = some (123, .inl (aC 0, 4, .inl (fun _ => 0))) := hle72 _ _ hB68_s11
  have hB72_n12 : (yup G68 a72 (130, .inr (9, [.null, .int 0]))) n12 = some (124, .inr (9, [.ref s12, .int 0])) := hle72 _ _ hB68_n12
  have hB72_s12 : (yup G68 a72 (130, .inr (9, [.null, .int 0]))) s12 = some (125, .inl (aC 0, 8, .inl (fun _ => 0))) := hle72 _ _ hB68_s12
  have hB72_n13 : (yup G68 a72 (130, .inr (9, [.null, .int 0]))) n13 = some (126, .inr (9, [.ref s13, .int 0])) := hle72 _ _ hB68_n13
  have hB72_s13 : (yup G68 a72 (130, .inr (9, [.null, .int 0]))) s13 = some (127, .inl (aC 0, 6, .inl (fun _ => 0))) := hle72 _ _ hB68_s13
  have hB72_n14 : (yup G68 a72 (130, .inr (9, [.null, .int 0]))) n14 = some (128, .inr (9, [.ref s14, .int 0])) := hle72 _ _ hB68_n14
  have hB72_s14 : (yup G68 a72 (130, .inr (9, [.null, .int 0]))) s14 = some (129, .inl (aC 0, 6, .inl (fun _ => 0))) := hle72 _ _ hB68_s14
  have hB72_a : (yup G68 a72 (130, .inr (9, [.null, .int 0]))) a = some (1, .inr (12, [.ref a5, .ref a16, .ref a27, .ref a38, .ref a49, .ref a61, .null, .null, .null, .int 0])) := hle72 _ _ hA68
  have kt72 : yTg (fun t => t = 0 ∨ 200 ≤ t) G (yup G68 a72 (130, .inr (9, [.null, .int 0]))) := (kt68).trans (yTg.le hle72)
  generalize yup G68 a72 (130, .inr (9, [.null, .int 0])) = G72 at hle72 hA72 hB72_a5 hB72_vw hB72_a16 hB72_n0 hB72_s0 hB72_n1 hB72_s1 hB72_n2 hB72_s2 hB72_a27 hB72_n3 hB72_s3 hB72_n4 hB72_s4 hB72_a38 hB72_n5 hB72_s5 hB72_n6 hB72_s6 hB72_n7 hB72_s7 hB72_n8 hB72_s8 hB72_n9 hB72_s9 hB72_a49 hB72_r54 hB72_a61 hB72_n11 hB72_s11 hB72_n12 hB72_s12 hB72_n13 hB72_s13 hB72_n14 hB72_s14 hB72_a kt72 ⊢
  refine y_blk 2 tq_X8_init (z := (78, [(0, .ref a)], [.int 6, .ref a72, .ref a72, .ref a])) rfl ?_
  refine y_callI hS tq_X8_init rfl (As := [.int (Int32.ofNat 6)]) rfl ci_X8_39 (m_X5_init hS (n := 6) hA72 (by decide) (by decide)) rfl (by decide) (Nat.le_of_ble_eq_true rfl) (fun r78 Gc78 q78 => ?_) (fun _ _ h9 => h9.elim)
  obtain ⟨rfl, r78, hO78, hR78, kt78_⟩ := q78
  have hB78_a5 := kt78_ _ _ _ hB72_a5 ⟨by decide, by decide⟩
  have hB78_vw := kt78_ _ _ _ hB72_vw ⟨by decide, by decide⟩
  have hB78_a16 := kt78_ _ _ _ hB72_a16 ⟨by decide, by decide⟩
  have hB78_n0 := kt78_ _ _ _ hB72_n0 ⟨by decide, by decide⟩
  have hB78_s0 := kt78_ _ _ _ hB72_s0 ⟨by decide, by decide⟩
  have hB78_n1 := kt78_ _ _ _ hB72_n1 ⟨by decide, by decide⟩
  have hB78_s1 := kt78_ _ _ _ hB72_s1 ⟨by decide, by decide⟩
  have hB78_n2 := kt78_ _ _ _ hB72_n2 ⟨by decide, by decide⟩
  have hB78_s2 := kt78_ _ _ _ hB72_s2 ⟨by decide, by decide⟩
  have hB78_a27 := kt78_ _ _ _ hB72_a27 ⟨by decide, by decide⟩
  have hB78_n3 := kt78_ _ _ _ hB72_n3 ⟨by decide, by decide⟩
  have hB78_s3 := kt78_ _ _ _ hB72_s3 ⟨by decide, by decide⟩
  have hB78_n4 := kt78_ _ _ _ hB72_n4 ⟨by decide, by decide⟩
  have hB78_s4 := kt78_ _ _ _ hB72_s4 ⟨by decide, by decide⟩
  have hB78_a38 := kt78_ _ _ _ hB72_a38 ⟨by decide, by decide⟩
  have hB78_n5 := kt78_ _ _ _ hB72_n5 ⟨by decide, by decide⟩
  have hB78_s5 := kt78_ _ _ _ hB72_s5 ⟨by decide, by decide⟩
  have hB78_n6 := kt78_ _ _ _ hB72_n6 ⟨by decide, by decide⟩
  have hB78_s6 := kt78_ _ _ _ hB72_s6 ⟨by decide, by decide⟩
  have hB78_n7 := kt78_ _ _ _ hB72_n7 ⟨by decide, by decide⟩
  have hB78_s7 := kt78_ _ _ _ hB72_s7 ⟨by decide, by decide⟩
  have hB78_n8 := kt78_ _ _ _ hB72_n8 ⟨by decide, by decide⟩
  have hB78_s8 := kt78_ _ _ _ hB72_s8 ⟨by decide, by decide⟩
  have hB78_n9 := kt78_ _ _ _ hB72_n9 ⟨by decide, by decide⟩
  have hB78_s9 := kt78_ _ _ _ hB72_s9 ⟨by decide, by decide⟩
  have hB78_a49 := kt78_ _ _ _ hB72_a49 ⟨by decide, by decide⟩
  have hB78_r54 := kt78_ _ _ _ hB72_r54 ⟨by decide, by decide⟩
  have hB78_a61 := kt78_ _ _ _ hB72_a61 ⟨by decide, by decide⟩
  have hB78_n11 := kt78_ _ _ _ hB72_n11 ⟨by decide, by decide⟩
  have hB78_s11 := kt78_ _ _ _ hB72_s11 ⟨by decide, by decide⟩
  have hB78_n12 := kt78_ _ _ _ hB72_n12 ⟨by decide, by decide⟩
  have hB78_s12 := kt78_ _ _ _ hB72_s12 ⟨by decide, by decide⟩
  have hB78_n13 := kt78_ _ _ _ hB72_n13 ⟨by decide, by decide⟩
  have hB78_s13 := kt78_ _ _ _ hB72_s13 ⟨by decide, by decide⟩
  have hB78_n14 := kt78_ _ _ _ hB72_n14 ⟨by decide, by decide⟩
  have hB78_s14 := kt78_ _ _ _ hB72_s14 ⟨by decide, by decide⟩
  have hB78_a := kt78_ _ _ _ hB72_a ⟨by decide, by decide⟩
  have hRr78 : Gc78 r78 = some (131, .inl (aC 0, 6, .inl (fun _ => 0))) := hR78
  have kt78 := (kt72).trans (kt78_.narrow (f := fun t => t ≠ 130 ∧ t ≠ 130 + 1) (g := fun t => t = 0 ∨ 200 ≤ t) (fun t ht => ⟨fun e9 => by rcases ht with ht | ht <;> omega, fun e9 => by rcases ht with ht | ht <;> omega⟩))
  refine y_blk 0 tq_X8_init (z := (81, [(0, .ref a)], [.ref a72, .ref a])) rfl ?_
  refine y_putF hS tq_X8_init rfl fp_X8_53_X8 rfl hB78_a (by omega) rfl rfl (Nat.le_of_ble_eq_true rfl) ?_
  have hA81 : (yup Gc78 a (1, .inr (12, [.ref a5, .ref a16, .ref a27, .ref a38, .ref a49, .ref a61, .ref a72, .null, .null, .int 0]))) a = some (1, .inr (12, [.ref a5, .ref a16, .ref a27, .ref a38, .ref a49, .ref a61, .ref a72, .null, .null, .int 0])) := yup_s _ _ _
  have hB81_a5 : (yup Gc78 a (1, .inr (12, [.ref a5, .ref a16, .ref a27, .ref a38, .ref a49, .ref a61, .ref a72, .null, .null, .int 0]))) a5 = some (2, .inr (5, [.int 0, .int 0, .long 0, .long 0, .long 0, .long 0, .long 0, .int 1, .int 0, .ref vw])) := yup_o hB78_a5 hB78_a (by decide)
  have hB81_vw : (yup Gc78 a (1, .inr (12, [.ref a5, .ref a16, .ref a27, .ref a38, .ref a49, .ref a61, .ref a72, .null, .null, .int 0]))) vw = some (3, .inl (aC 1, 512, .inr (.inl (fun _ => 0)))) := yup_o hB78_vw hB78_a (by decide)
  have hB81_a16 : (yup Gc78 a (1, .inr (12, [.ref a5, .ref a16, .ref a27, .ref a38, .ref a49, .ref a61, .ref a72, .null, .null, .int 0]))) a16 = some (4, .inr (8, [.ref n0, .ref n1, .ref n2])) := yup_o hB78_a16 hB78_a (by decide)
  have hB81_n0 : (yup Gc78 a (1, .inr (12, [.ref a5, .ref a16, .ref a27, .ref a38, .ref a49, .ref a61, .ref a72, .null, .null, .int 0]))) n0 = some (100, .inr (9, [.ref s0, .int 0])) := yup_o hB78_n0 hB78_a (by decide)
  have hB81_s0 : (yup Gc78 a (1, .inr (12, [.ref a5, .ref a16, .ref a27, .ref a38, .ref a49, .ref a61, .ref a72, .null, .null, .int 0]))) s0 = some (101, .inl (aC 0, 6, .inl (fun _ => 0))) := yup_o hB78_s0 hB78_a (by decide)
  have hB81_n1 : (yup Gc78 a (1, .inr (12, [.ref a5, .ref a16, .ref a27, .ref a38, .ref a49, .ref a61, .ref a72, .null, .null, .int 0]))) n1 = some (102, .inr (9, [.ref s1, .int 0])) := yup_o hB78_n1 hB78_a (by decide)
  have hB81_s1 : (yup Gc78 a (1, .inr (12, [.ref a5, .ref a16, .ref a27, .ref a38, .ref a49, .ref a61, .ref a72, .null, .null, .int 0]))) s1 = some (103, .inl (aC 0, 6, .inl (fun _ => 0))) := yup_o hB78_s1 hB78_a (by decide)
  have hB81_n2 : (yup Gc78 a (1, .inr (12, [.ref a5, .ref a16, .ref a27, .ref a38, .ref a49, .ref a61, .ref a72, .null, .null, .int 0]))) n2 = some (104, .inr (9, [.ref s2, .int 0])) := yup_o hB78_n2 hB78_a (by decide)
  have hB81_s2 : (yup Gc78 a (1, .inr (12, [.ref a5, .ref a16, .ref a27, .ref a38, .ref a49, .ref a61, .ref a72, .null, .null, .int 0]))) s2 = some (105, .inl (aC 0, 6, .inl (fun _ => 0))) := yup_o hB78_s2 hB78_a (by decide)
  have hB81_a27 : (yup Gc78 a (1, .inr (12, [.ref a5, .ref a16, .ref a27, .ref a38, .ref a49, .ref a61, .ref a72, .null, .null, .int 0]))) a27 = some (5, .inr (4, [.ref n3, .ref n4])) := yup_o hB78_a27 hB78_a (by decide)
  have hB81_n3 : (yup Gc78 a (1, .inr (12, [.ref a5, .ref a16, .ref a27, .ref a38, .ref a49, .ref a61, .ref a72, .null, .null, .int 0]))) n3 = some (106, .inr (9, [.ref s3, .int 0])) := yup_o hB78_n3 hB78_a (by decide)
  have hB81_s3 : (yup Gc78 a (1, .inr (12, [.ref a5, .ref a16, .ref a27, .ref a38, .ref a49, .ref a61, .ref a72, .null, .null, .int 0]))) s3 = some (107, .inl (aC 0, 8, .inl (fun _ => 0))) := yup_o hB78_s3 hB78_a (by decide)
  have hB81_n4 : (yup Gc78 a (1, .inr (12, [.ref a5, .ref a16, .ref a27, .ref a38, .ref a49, .ref a61, .ref a72, .null, .null, .int 0]))) n4 = some (108, .inr (9, [.ref s4, .int 0])) := yup_o hB78_n4 hB78_a (by decide)
  have hB81_s4 : (yup Gc78 a (1, .inr (12, [.ref a5, .ref a16, .ref a27, .ref a38, .ref a49, .ref a61, .ref a72, .null, .null, .int 0]))) s4 = some (109, .inl (aC 0, 8, .inl (fun _ => 0))) := yup_o hB78_s4 hB78_a (by decide)
  have hB81_a38 : (yup Gc78 a (1, .inr (12, [.ref a5, .ref a16, .ref a27, .ref a38, .ref a49, .ref a61, .ref a72, .null, .null, .int 0]))) a38 = some (6, .inr (6, [.ref n5, .ref n6, .ref n7, .ref n8, .ref n9])) := yup_o hB78_a38 hB78_a (by decide)
  have hB81_n5 : (yup Gc78 a (1, .inr (12, [.ref a5, .ref a16, .ref a27, .ref a38, .ref a49, .ref a61, .ref a72, .null, .null, .int 0]))) n5 = some (110, .inr (9, [.ref s5, .int 0])) := yup_o hB78_n5 hB78_a (by decide)
  have hB81_s5 : (yup Gc78 a (1, .inr (12, [.ref a5, .ref a16, .ref a27, .ref a38, .ref a49, .ref a61, .ref a72, .null, .null, .int 0]))) s5 = some (111, .inl (aC 0, 6, .inl (fun _ => 0))) := yup_o hB78_s5 hB78_a (by decide)
  have hB81_n6 : (yup Gc78 a (1, .inr (12, [.ref a5, .ref a16, .ref a27, .ref a38, .ref a49, .ref a61, .ref a72, .null, .null, .int 0]))) n6 = some (112, .inr (9, [.ref s6, .int 0])) := yup_o hB78_n6 hB78_a (by decide)
  have hB81_s6 : (yup Gc78 a (1, .inr (12, [.ref a5, .ref a16, .ref a27, .ref a38, .ref a49, .ref a61, .ref a72, .null, .null, .int 0]))) s6 = some (113, .inl (aC 0, 6, .inl (fun _ => 0))) := yup_o hB78_s6 hB78_a (by decide)
  have hB81_n7 : (yup Gc78 a (1, .inr (12, [.ref a5, .ref a16, .ref a27, .ref a38, .ref a49, .ref a61, .ref a72, .null, .null, .int 0]))) n7 = some (114, .inr (9, [.ref s7, .int 0])) := yup_o hB78_n7 hB78_a (by decide)
  have hB81_s7 : (yup Gc78 a (1, .inr (12, [.ref a5, .ref a16, .ref a27, .ref a38, .ref a49, .ref a61, .ref a72, .null, .null, .int 0]))) s7 = some (115, .inl (aC 0, 6, .inl (fun _ => 0))) := yup_o hB78_s7 hB78_a (by decide)
  have hB81_n8 : (yup Gc78 a (1, .inr (12, [.ref a5, .ref a16, .ref a27, .ref a38, .ref a49, .ref a61, .ref a72, .null, .null, .int 0]))) n8 = some (116, .inr (9, [.ref s8, .int 0])) := yup_o hB78_n8 hB78_a (by decide)
  have hB81_s8 : (yup Gc78 a (1, .inr (12, [.ref a5, .ref a16, .ref a27, .ref a38, .ref a49, .ref a61, .ref a72, .null, .null, .int 0]))) s8 = some (117, .inl (aC 0, 6, .inl (fun _ => 0))) := yup_o hB78_s8 hB78_a (by decide)
  have hB81_n9 : (yup Gc78 a (1, .inr (12, [.ref a5, .ref a16, .ref a27, .ref a38, .ref a49, .ref a61, .ref a72, .null, .null, .int 0]))) n9 = some (118, .inr (9, [.ref s9, .int 0])) := yup_o hB78_n9 hB78_a (by decide)
  have hB81_s9 : (yup Gc78 a (1, .inr (12, [.ref a5, .ref a16, .ref a27, .ref a38, .ref a49, .ref a61, .ref a72, .null, .null, .int 0]))) s9 = some (119, .inl (aC 0, 36, .inl (fun _ => 0))) := yup_o hB78_s9 hB78_a (by decide)
  have hB81_a49 : (yup Gc78 a (1, .inr (12, [.ref a5, .ref a16, .ref a27, .ref a38, .ref a49, .ref a61, .ref a72, .null, .null, .int 0]))) a49 = some (120, .inr (9, [.ref r54, .int 0])) := yup_o hB78_a49 hB78_a (by decide)
  have hB81_r54 : (yup Gc78 a (1, .inr (12, [.ref a5, .ref a16, .ref a27, .ref a38, .ref a49, .ref a61, .ref a72, .null, .null, .int 0]))) r54 = some (121, .inl (aC 0, 4, .inl (fun _ => 0))) := yup_o hB78_r54 hB78_a (by decide)
  have hB81_a61 : (yup Gc78 a (1, .inr (12, [.ref a5, .ref a16, .ref a27, .ref a38, .ref a49, .ref a61, .ref a72, .null, .null, .int 0]))) a61 = some (7, .inr (11, [.ref n11, .ref n12, .ref n13, .ref n14, .int 0, .int 0, .int 0])) := yup_o hB78_a61 hB78_a (by decide)
  have hB81_n11 : (yup Gc78 a (1, .inr (12, [.ref a5, .ref a16, .ref a27, .ref a38, .ref a49, .ref a61, .ref a72, .null, .null, .int 0]))) n11 = some (122, .inr (9, [.ref s11, .int 0])) := yup_o hB78_n11 hB78_a (by decide)
  have hB81_s11 : (yup Gc78 a (1, .inr (12, [.ref a5, .ref a16, .ref a27, .ref a38, .ref a49, .ref a61, .ref a72, .null, .null, .int 0]))) s11 = some (123, .inl (aC 0, 4, .inl (fun _ => 0))) := yup_o hB78_s11 hB78_a (by decide)
  have hB81_n12 : (yup Gc78 a (1, .inr (12, [.ref a5, .ref a16, .ref a27, .ref a38, .ref a49, .ref a61, .ref a72, .null, .null, .int 0]))) n12 = some (124, .inr (9, [.ref s12, .int 0])) := yup_o hB78_n12 hB78_a (by decide)
  have hB81_s12 : (yup Gc78 a (1, .inr (12, [.ref a5, .ref a16, .ref a27, .ref a38, .ref a49, .ref a61, .ref a72, .null, .null, .int 0]))) s12 = some (125, .inl (aC 0, 8, .inl (fun _ => 0))) := yup_o hB78_s12 hB78_a (by decide)
  have hB81_n13 : (yup Gc78 a (1, .inr (12, [.ref a5, .ref a16, .ref a27, .ref a38, .ref a49, .ref a61, .ref a72, .null, .null, .int 0]))) n13 = some (126, .inr (9, [.ref s13, .int 0])) := yup_o hB78_n13 hB78_a (by decide)
  have hB81_s13 : (yup Gc78 a (1, .inr (12, [.ref a5, .ref a16, .ref a27, .ref a38, .ref a49, .ref a61, .ref a72, .null, .null, .int 0]))) s13 = some (127, .inl (aC 0, 6, .inl (fun _ => 0))) := yup_o hB78_s13 hB78_a (by decide)
  have hB81_n14 : (yup Gc78 a (1, .inr (12, [.ref a5, .ref a16, .ref a27, .ref a38, .ref a49, .ref a61, .ref a72, .null, .null, .int 0]))) n14 = some (128, .inr (9, [.ref s14, .int 0])) := yup_o hB78_n14 hB78_a (by decide)
  have hB81_s14 : (yup Gc78 a (1, .inr (12, [.ref a5, .ref a16, .ref a27, .ref a38, .ref a49, .ref a61, .ref a72, .null, .null, .int 0]))) s14 = some (129, .inl (aC 0, 6, .inl (fun _ => 0))) := yup_o hB78_s14 hB78_a (by decide)
  have hB81_a72 : (yup Gc78 a (1, .inr (12, [.ref a5, .ref a16, .ref a27, .ref a38, .ref a49, .ref a61, .ref a72, .null, .null, .int 0]))) a72 = some (130, .inr (9, [.ref r78, .int 0])) := yup_o hO78 hB78_a (by decide)
  have hB81_r78 : (yup Gc78 a (1, .inr (12, [.ref a5, .ref a16, .ref a27, .ref a38, .ref a49, .ref a61, .ref a72, .null, .null, .int 0]))) r78 = some (131, .inl (aC 0, 6, .inl (fun _ => 0))) := yup_o hRr78 hB78_a (by decide)
  have kt81 : yTg (fun t => t = 0 ∨ 200 ≤ t) G (yup Gc78 a (1, .inr (12, [.ref a5, .ref a16, .ref a27, .ref a38, .ref a49, .ref a61, .ref a72, .null, .null, .int 0]))) := (kt78).trans (yTg.up hB78_a (by decide))
  show Y l S0 D K_X8_init 20 60 2100 (fun r G1 => r = none ∧ ∃ (ad : Nat → Nat) (σ : XS), atX aC ad G1 σ ∧ ad 1 = a ∧ xini σ ∧ keepX G G1) (fun _ _ => False) (81 + 3) [(0, .ref a)] [] (yup Gc78 a (1, .inr (12, [.ref a5, .ref a16, .ref a27, .ref a38, .ref a49, .ref a61, .ref a72, .null, .null, .int 0]))) 22 569
  generalize yup Gc78 a (1, .inr (12, [.ref a5, .ref a16, .ref a27, .ref a38, .ref a49, .ref a61, .ref a72, .null, .null, .int 0])) = G81 at hA81 hB81_a5 hB81_vw hB81_a16 hB81_n0 hB81_s0 hB81_n1 hB81_s1 hB81_n2 hB81_s2 hB81_a27 hB81_n3 hB81_s3 hB81_n4 hB81_s4 hB81_a38 hB81_n5 hB81_s5 hB81_n6 hB81_s6 hB81_n7 hB81_s7 hB81_n8 hB81_s8 hB81_n9 hB81_s9 hB81_a49 hB81_r54 hB81_a61 hB81_n11 hB81_s11 hB81_n12 hB81_s12 hB81_n13 hB81_s13 hB81_n14 hB81_s14 hB81_a72 hB81_r78 kt81 ⊢
  refine y_blk 1 tq_X8_init (z := (85, [(0, .ref a)], [.ref a])) rfl ?_
  refine y_new 8 hS tq_X8_init (kc := 21) (ks := 563) rfl nw_X8_56 (fun a85 hne85 => ?_)
  have hle85 : yLe G81 (yup G81 a85 (8, .inr (7, [.null, .null, .null, .null, .null, .null]))) := yLe.new hne85
  have hA85 : (yup G81 a85 (8, .inr (7, [.null, .null, .null, .null, .null, .null]))) a85 = some (8, .inr (7, [.null, .null, .null, .null, .null, .null])) := yup_s _ _ _
  have hB85_a5 : (yup G81 a85 (8, .inr (7, [.null, .null, .null, .null, .null, .null]))) a5 = some (2, .inr (5, [.int 0, .int 0, .long 0, .long 0, .long 0, .long 0, .long 0, .int 1, .int 0, .ref vw])) := hle85 _ _ hB81_a5
  have hB85_vw : (yup G81 a85 (8, .inr (7, [.null, .null, .null, .null, .null, .null]))) vw = some (3, .inl (aC 1, 512, .inr (.inl (fun _ => 0)))) := hle85 _ _ hB81_vw
  have hB85_a16 : (yup G81 a85 (8, .inr (7, [.null, .null, .null, .null, .null, .null]))) a16 = some (4, .inr (8, [.ref n0, .ref n1, .ref n2])) := hle85 _ _ hB81_a16
  have hB85_n0 : (yup G81 a85 (8, .inr (7, [.null, .null, .null, .null, .null, .null]))) n0 = some (100, .inr (9, [.ref s0, .int 0])) := hle85 _ _ hB81_n0
  have hB85_s0 : (yup G81 a85 (8, .inr (7, [.null, .null, .null, .null, .null, .null]))) s0 = some (101, .inl (aC 0, 6, .inl (fun _ => 0))) := hle85 _ _ hB81_s0
  have hB85_n1 : (yup G81 a85 (8, .inr (7, [.null, .null, .null, .null, .null, .null]))) n1 = some (102, .inr (9, [.ref s1, .int 0])) := hle85 _ _ hB81_n1
  have hB85_s1 : (yup G81 a85 (8, .inr (7, [.null, .null, .null, .null, .null, .null]))) s1 = some (103, .inl (aC 0, 6, .inl (fun _ => 0))) := hle85 _ _ hB81_s1
  have hB85_n2 : (yup G81 a85 (8, .inr (7, [.null, .null, .null, .null, .null, .null]))) n2 = some (104, .inr (9, [.ref s2, .int 0])) := hle85 _ _ hB81_n2
  have hB85_s2 : (yup G81 a85 (8, .inr (7, [.null, .null, .null, .null, .null, .null]))) s2 = some (105, .inl (aC 0, 6, .inl (fun _ => 0))) := hle85 _ _ hB81_s2
  have hB85_a27 : (yup G81 a85 (8, .inr (7, [.null, .null, .null, .null, .null, .null]))) a27 = some (5, .inr (4, [.ref n3, .ref n4])) := hle85 _ _ hB81_a27
  have hB85_n3 : (yup G81 a85 (8, .inr (7, [.null, .null, .null, .null, .null, .null]))) n3 = some (106, .inr (9, [.ref s3, .int 0])) := hle85 _ _ hB81_n3
  have hB85_s3 : (yup G81 a85 (8, .inr (7, [.null, .null, .null, .null, .null, .null]))) s3 = some (107, .inl (aC 0, 8, .inl (fun _ => 0))) := hle85 _ _ hB81_s3
  have hB85_n4 : (yup G81 a85 (8, .inr (7, [.null, .null, .null, .null, .null, .null]))) n4 = some (108, .inr (9, [.ref s4, .int 0])) := hle85 _ _ hB81_n4
  have hB85_s4 : (yup G81 a85 (8, .inr (7, [.null, .null, .null, .null, .null, .null]))) s4 = some (109, .inl (aC 0, 8, .inl (fun _ => 0))) := hle85 _ _ hB81_s4
  have hB85_a38 : (yup G81 a85 (8, .inr (7, [.null, .null, .null, .null, .null, .null]))) a38 = some (6, .inr (6, [.ref n5, .ref n6, .ref n7, .ref n8, .ref n9])) := hle85 _ _ hB81_a38
  have hB85_n5 : (yup G81 a85 (8, .inr (7, [.null, .null, .null, .null, .null, .null]))) n5 = some (110, .inr (9, [.ref s5, .int 0])) := hle85 _ _ hB81_n5
  have hB85_s5 : (yup G81 a85 (8, .inr (7, [.null, .null, .null, .null, .null, .null]))) s5 = some (111, .inl (aC 0, 6, .inl (fun _ => 0))) := hle85 _ _ hB81_s5
  have hB85_n6 : (yup G81 a85 (8, .inr (7, [.null, .null, .null, .null, .null, .null]))) n6 = some (112, .inr (9, [.ref s6, .int 0])) := hle85 _ _ hB81_n6
  have hB85_s6 : (yup G81 a85 (8, .inr (7, [.null, .null, .null, .null, .null, .null]))) s6 = some (113, .inl (aC 0, 6, .inl (fun _ => 0))) := hle85 _ _ hB81_s6
  have hB85_n7 : (yup G81 a85 (8, .inr (7, [.null, .null, .null, .null, .null, .null]))) n7 = some (114, .inr (9, [.ref s7, .int 0])) := hle85 _ _ hB81_n7
  have hB85_s7 : (yup G81 a85 (8, .inr (7, [.null, .null, .null, .null, .null, .null]))) s7 = some (115, .inl (aC 0, 6, .inl (fun _ => 0))) := hle85 _ _ hB81_s7
  have hB85_n8 : (yup G81 a85 (8, .inr (7, [.null, .null, .null, .null, .null, .null]))) n8 = some (116, .inr (9, [.ref s8, .int 0])) := hle85 _ _ hB81_n8
  have hB85_s8 : (yup G81 a85 (8, .inr (7, [.null, .null, .null, .null, .null, .null]))) s8 = some (117, .inl (aC 0, 6, .inl (fun _ => 0))) := hle85 _ _ hB81_s8
  have hB85_n9 : (yup G81 a85 (8, .inr (7, [.null, .null, .null, .null, .null, .null]))) n9 = some (118, .inr (9, [.ref s9, .int 0])) := hle85 _ _ hB81_n9
  have hB85_s9 : (yup G81 a85 (8, .inr (7, [.null, .null, .null, .null, .null, .null]))) s9 = some (119, .inl (aC 0, 36, .inl (fun _ => 0))) := hle85 _ _ hB81_s9
  have hB85_a49 : (yup G81 a85 (8, .inr (7, [.null, .null, .null, .null, .null, .null]))) a49 = some (120, .inr (9, [.ref r54, .int 0])) := hle85 _ _ hB81_a49
  have hB85_r54 : (yup G81 a85 (8, .inr (7, [.null, .null, .null, .null, .null, .null]))) r54 = some (121, .inl (aC 0, 4, .inl (fun _ => 0))) := hle85 _ _ hB81_r54
  have hB85_a61 : (yup G81 a85 (8, .inr (7, [.null, .null, .null, .null, .null, .null]))) a61 = some (7, .inr (11, [.ref n11, .ref n12, .ref n13, .ref n14, .int 0, .int 0, .int 0])) := hle85 _ _ hB81_a61
  have hB85_n11 : (yup G81 a85 (8, .inr (7, [.null, .null, .null, .null, .null, .null]))) n11 = some (122, .inr (9, [.ref s11, .int 0])) := hle85 _ _ hB81_n11
  have hB85_s11 : (yup G81 a85 (8, .inr (7, [.null, .null, .null, .null, .null, .null]))) s11 = some (123, .inl (aC 0, 4, .inl (fun _ => 0))) := hle85 _ _ hB81_s11
  have hB85_n12 : (yup G81 a85 (8, .inr (7, [.null, .null, .null, .null, .null, .null]))) n12 = some (124, .inr (9, [.ref s12, .int 0])) := hle85 _ _ hB81_n12
  have hB85_s12 : (yup G81 a85 (8, .inr (7, [.null, .null, .null, .null, .null, .null]))) s12 = some (125, .inl (aC 0, 8, .inl (fun _ => 0))) := hle85 _ _ hB81_s12
  have hB85_n13 : (yup G81 a85 (8, .inr (7, [.null, .null, .null, .null, .null, .null]))) n13 = some (126, .inr (9, [.ref s13, .int 0])) := hle85 _ _ hB81_n13
  have hB85_s13 : (yup G81 a85 (8, .inr (7, [.null, .null, .null, .null, .null, .null]))) s13 = some (127, .inl (aC 0, 6, .inl (fun _ => 0))) := hle85 _ _ hB81_s13
  have hB85_n14 : (yup G81 a85 (8, .inr (7, [.null, .null, .null, .null, .null, .null]))) n14 = some (128, .inr (9, [.ref s14, .int 0])) := hle85 _ _ hB81_n14
  have hB85_s14 : (yup G81 a85 (8, .inr (7, [.null, .null, .null, .null, .null, .null]))) s14 = some (129, .inl (aC 0, 6, .inl (fun _ => 0))) := hle85 _ _ hB81_s14
  have hB85_a72 : (yup G81 a85 (8, .inr (7, [.null, .null, .null, .null, .null, .null]))) a72 = some (130, .inr (9, [.ref r78, .int 0])) := hle85 _ _ hB81_a72
  have hB85_r78 : (yup G81 a85 (8, .inr (7, [.null, .null, .null, .null, .null, .null]))) r78 = some (131, .inl (aC 0, 6, .inl (fun _ => 0))) := hle85 _ _ hB81_r78
  have hB85_a : (yup G81 a85 (8, .inr (7, [.null, .null, .null, .null, .null, .null]))) a = some (1, .inr (12, [.ref a5, .ref a16, .ref a27, .ref a38, .ref a49, .ref a61, .ref a72, .null, .null, .int 0])) := hle85 _ _ hA81
  have kt85 : yTg (fun t => t = 0 ∨ 200 ≤ t) G (yup G81 a85 (8, .inr (7, [.null, .null, .null, .null, .null, .null]))) := (kt81).trans (yTg.le hle85)
  generalize yup G81 a85 (8, .inr (7, [.null, .null, .null, .null, .null, .null])) = G85 at hle85 hA85 hB85_a5 hB85_vw hB85_a16 hB85_n0 hB85_s0 hB85_n1 hB85_s1 hB85_n2 hB85_s2 hB85_a27 hB85_n3 hB85_s3 hB85_n4 hB85_s4 hB85_a38 hB85_n5 hB85_s5 hB85_n6 hB85_s6 hB85_n7 hB85_s7 hB85_n8 hB85_s8 hB85_n9 hB85_s9 hB85_a49 hB85_r54 hB85_a61 hB85_n11 hB85_s11 hB85_n12 hB85_s12 hB85_n13 hB85_s13 hB85_n14 hB85_s14 hB85_a72 hB85_r78 hB85_a kt85 ⊢
  refine y_blk 1 tq_X8_init (z := (89, [(0, .ref a)], [.ref a85, .ref a85, .ref a])) rfl ?_
  refine y_callIN hS tq_X8_init rfl (As := []) rfl ci_X8_58 (m_X3_init hS hA85) rfl (by decide) (Nat.le_of_ble_eq_true rfl) (fun r89 Gc89 q89 => ?_) (fun _ _ h9 => h9.elim)
  obtain ⟨rfl, n16, s16, n17, s17, n18, s18, n19, s19, n20, s20, n21, s21, hO89, hn16_89, hs16_89, hn17_89, hs17_89, hn18_89, hs18_89, hn19_89, hs19_89, hn20_89, hs20_89, hn21_89, hs21_89, kt89_⟩ := q89
  have hB89_a5 := kt89_ _ _ _ hB85_a5 ⟨by decide, by decide⟩
  have hB89_vw := kt89_ _ _ _ hB85_vw ⟨by decide, by decide⟩
  have hB89_a16 := kt89_ _ _ _ hB85_a16 ⟨by decide, by decide⟩
  have hB89_n0 := kt89_ _ _ _ hB85_n0 ⟨by decide, by decide⟩
  have hB89_s0 := kt89_ _ _ _ hB85_s0 ⟨by decide, by decide⟩
  have hB89_n1 := kt89_ _ _ _ hB85_n1 ⟨by decide, by decide⟩
  have hB89_s1 := kt89_ _ _ _ hB85_s1 ⟨by decide, by decide⟩
  have hB89_n2 := kt89_ _ _ _ hB85_n2 ⟨by decide, by decide⟩
  have hB89_s2 := kt89_ _ _ _ hB85_s2 ⟨by decide, by decide⟩
  have hB89_a27 := kt89_ _ _ _ hB85_a27 ⟨by decide, by decide⟩
  have hB89_n3 := kt89_ _ _ _ hB85_n3 ⟨by decide, by decide⟩
  have hB89_s3 := kt89_ _ _ _ hB85_s3 ⟨by decide, by decide⟩
  have hB89_n4 := kt89_ _ _ _ hB85_n4 ⟨by decide, by decide⟩
  have hB89_s4 := kt89_ _ _ _ hB85_s4 ⟨by decide, by decide⟩
  have hB89_a38 := kt89_ _ _ _ hB85_a38 ⟨by decide, by decide⟩
  have hB89_n5 := kt89_ _ _ _ hB85_n5 ⟨by decide, by decide⟩
  have hB89_s5 := kt89_ _ _ _ hB85_s5 ⟨by decide, by decide⟩
  have hB89_n6 := kt89_ _ _ _ hB85_n6 ⟨by decide, by decide⟩
  have hB89_s6 := kt89_ _ _ _ hB85_s6 ⟨by decide, by decide⟩
  have hB89_n7 := kt89_ _ _ _ hB85_n7 ⟨by decide, by decide⟩
  have hB89_s7 := kt89_ _ _ _ hB85_s7 ⟨by decide, by decide⟩
  have hB89_n8 := kt89_ _ _ _ hB85_n8 ⟨by decide, by decide⟩
  have hB89_s8 := kt89_ _ _ _ hB85_s8 ⟨by decide, by decide⟩
  have hB89_n9 := kt89_ _ _ _ hB85_n9 ⟨by decide, by decide⟩
  have hB89_s9 := kt89_ _ _ _ hB85_s9 ⟨by decide, by decide⟩
  have hB89_a49 := kt89_ _ _ _ hB85_a49 ⟨by decide, by decide⟩
  have hB89_r54 := kt89_ _ _ _ hB85_r54 ⟨by decide, by decide⟩
  have hB89_a61 := kt89_ _ _ _ hB85_a61 ⟨by decide, by decide⟩
  have hB89_n11 := kt89_ _ _ _ hB85_n11 ⟨by decide, by decide⟩
  have hB89_s11 := kt89_ _ _ _ hB85_s11 ⟨by decide, by decide⟩
  have hB89_n12 := kt89_ _ _ _ hB85_n12 ⟨by decide, by decide⟩
  have hB89_s12 := kt89_ _ _ _ hB85_s12 ⟨by decide, by decide⟩
  have hB89_n13 := kt89_ _ _ _ hB85_n13 ⟨by decide, by decide⟩
  have hB89_s13 := kt89_ _ _ _ hB85_s13 ⟨by decide, by decide⟩
  have hB89_n14 := kt89_ _ _ _ hB85_n14 ⟨by decide, by decide⟩
  have hB89_s14 := kt89_ _ _ _ hB85_s14 ⟨by decide, by decide⟩
  have hB89_a72 := kt89_ _ _ _ hB85_a72 ⟨by decide, by decide⟩
  have hB89_r78 := kt89_ _ _ _ hB85_r78 ⟨by decide, by decide⟩
  have hB89_a := kt89_ _ _ _ hB85_a ⟨by decide, by decide⟩
  have kt89 := (kt85).trans (kt89_.narrow (g := fun t => t = 0 ∨ 200 ≤ t) (fun t ht => ⟨fun e9 => by rcases ht with ht | ht <;> omega, by rcases ht with ht | ht <;> omega⟩))
  refine y_blk 0 tq_X8_init (z := (92, [(0, .ref a)], [.ref a85, .ref a])) rfl ?_
  refine y_putF hS tq_X8_init rfl fp_X8_59_X8 rfl hB89_a (by omega) rfl rfl (Nat.le_of_ble_eq_true rfl) ?_
  have hA92 : (yup Gc89 a (1, .inr (12, [.ref a5, .ref a16, .ref a27, .ref a38, .ref a49, .ref a61, .ref a72, .ref a85, .null, .int 0]))) a = some (1, .inr (12, [.ref a5, .ref a16, .ref a27, .ref a38, .ref a49, .ref a61, .ref a72, .ref a85, .null, .int 0])) := yup_s _ _ _
  have hB92_a5 : (yup Gc89 a (1, .inr (12, [.ref a5, .ref a16, .ref a27, .ref a38, .ref a49, .ref a61, .ref a72, .ref a85, .null, .int 0]))) a5 = some (2, .inr (5, [.int 0, .int 0, .long 0, .long 0, .long 0, .long 0, .long 0, .int 1, .int 0, .ref vw])) := yup_o hB89_a5 hB89_a (by decide)
  have hB92_vw : (yup Gc89 a (1, .inr (12, [.ref a5, .ref a16, .ref a27, .ref a38, .ref a49, .ref a61, .ref a72, .ref a85, .null, .int 0]))) vw = some (3, .inl (aC 1, 512, .inr (.inl (fun _ => 0)))) := yup_o hB89_vw hB89_a (by decide)
  have hB92_a16 : (yup Gc89 a (1, .inr (12, [.ref a5, .ref a16, .ref a27, .ref a38, .ref a49, .ref a61, .ref a72, .ref a85, .null, .int 0]))) a16 = some (4, .inr (8, [.ref n0, .ref n1, .ref n2])) := yup_o hB89_a16 hB89_a (by decide)
  have hB92_n0 : (yup Gc89 a (1, .inr (12, [.ref a5, .ref a16, .ref a27, .ref a38, .ref a49, .ref a61, .ref a72, .ref a85, .null, .int 0]))) n0 = some (100, .inr (9, [.ref s0, .int 0])) := yup_o hB89_n0 hB89_a (by decide)
  have hB92_s0 : (yup Gc89 a (1, .inr (12, [.ref a5, .ref a16, .ref a27, .ref a38, .ref a49, .ref a61, .ref a72, .ref a85, .null, .int 0]))) s0 = some (101, .inl (aC 0, 6, .inl (fun _ => 0))) := yup_o hB89_s0 hB89_a (by decide)
  have hB92_n1 : (yup Gc89 a (1, .inr (12, [.ref a5, .ref a16, .ref a27, .ref a38, .ref a49, .ref a61, .ref a72, .ref a85, .null, .int 0]))) n1 = some (102, .inr (9, [.ref s1, .int 0])) := yup_o hB89_n1 hB89_a (by decide)
  have hB92_s1 : (yup Gc89 a (1, .inr (12, [.ref a5, .ref a16, .ref a27, .ref a38, .ref a49, .ref a61, .ref a72, .ref a85, .null, .int 0]))) s1 = some (103, .inl (aC 0, 6, .inl (fun _ => 0))) := yup_o hB89_s1 hB89_a (by decide)
  have hB92_n2 : (yup Gc89 a (1, .inr (12, [.ref a5, .ref a16, .ref a27, .ref a38, .ref a49, .ref a61, .ref a72, .ref a85, .null, .int 0]))) n2 = some (104, .inr (9, [.ref s2, .int 0])) := yup_o hB89_n2 hB89_a (by decide)
  have hB92_s2 : (yup Gc89 a (1, .inr (12, [.ref a5, .ref a16, .ref a27, .ref a38, .ref a49, .ref a61, .ref a72, .ref a85, .null, .int 0]))) s2 = some (105, .inl (aC 0, 6, .inl (fun _ => 0))) := yup_o hB89_s2 hB89_a (by decide)
  have hB92_a27 : (yup Gc89 a (1, .inr (12, [.ref a5, .ref a16, .ref a27, .ref a38, .ref a49, .ref a61, .ref a72, .ref a85, .null, .int 0]))) a27 = some (5, .inr (4, [.ref n3, .ref n4])) := yup_o hB89_a27 hB89_a (by decide)
  have hB92_n3 : (yup Gc89 a (1, .inr (12, [.ref a5, .ref a16, .ref a27, .ref a38, .ref a49, .ref a61, .ref a72, .ref a85, .null, .int 0]))) n3 = some (106, .inr (9, [.ref s3, .int 0])) := yup_o hB89_n3 hB89_a (by decide)
  have hB92_s3 : (yup Gc89 a (1, .inr (12, [.ref a5, .ref a16, .ref a27, .ref a38, .ref a49, .ref a61, .ref a72, .ref a85, .null, .int 0]))) s3 = some (107, .inl (aC 0, 8, .inl (fun _ => 0))) := yup_o hB89_s3 hB89_a (by decide)
  have hB92_n4 : (yup Gc89 a (1, .inr (12, [.ref a5, .ref a16, .ref a27, .ref a38, .ref a49, .ref a61, .ref a72, .ref a85, .null, .int 0]))) n4 = some (108, .inr (9, [.ref s4, .int 0])) := yup_o hB89_n4 hB89_a (by decide)
  have hB92_s4 : (yup Gc89 a (1, .inr (12, [.ref a5, .ref a16, .ref a27, .ref a38, .ref a49, .ref a61, .ref a72, .ref a85, .null, .int 0]))) s4 = some (109, .inl (aC 0, 8, .inl (fun _ => 0))) := yup_o hB89_s4 hB89_a (by decide)
  have hB92_a38 : (yup Gc89 a (1, .inr (12, [.ref a5, .ref a16, .ref a27, .ref a38, .ref a49, .ref a61, .ref a72, .ref a85, .null, .int 0]))) a38 = some (6, .inr (6, [.ref n5, .ref n6, .ref n7, .ref n8, .ref n9])) := yup_o hB89_a38 hB89_a (by decide)
  have hB92_n5 : (yup Gc89 a (1, .inr (12, [.ref a5, .ref a16, .ref a27, .ref a38, .ref a49, .ref a61, .ref a72, .ref a85, .null, .int 0]))) n5 = some (110, .inr (9, [.ref s5, .int 0])) := yup_o hB89_n5 hB89_a (by decide)
  have hB92_s5 : (yup Gc89 a (1, .inr (12, [.ref a5, .ref a16, .ref a27, .ref a38, .ref a49, .ref a61, .ref a72, .ref a85, .null, .int 0]))) s5 = some (111, .inl (aC 0, 6, .inl (fun _ => 0))) := yup_o hB89_s5 hB89_a (by decide)
  have hB92_n6 : (yup Gc89 a (1, .inr (12, [.ref a5, .ref a16, .ref a27, .ref a38, .ref a49, .ref a61, .ref a72, .ref a85, .null, .int 0]))) n6 = some (112, .inr (9, [.ref s6, .int 0])) := yup_o hB89_n6 hB89_a (by decide)
  have hB92_s6 : (yup Gc89 a (1, .inr (12, [.ref a5, .ref a16, .ref a27, .ref a38, .ref a49, .ref a61, .ref a72, .ref a85, .null, .int 0]))) s6 = some (113, .inl (aC 0, 6, .inl (fun _ => 0))) := yup_o hB89_s6 hB89_a (by decide)
  have hB92_n7 : (yup Gc89 a (1, .inr (12, [.ref a5, .ref a16, .ref a27, .ref a38, .ref a49, .ref a61, .ref a72, .ref a85, .null, .int 0]))) n7 = some (114, .inr (9, [.ref s7, .int 0])) := yup_o hB89_n7 hB89_a (by decide)
  have hB92_s7 : (yup Gc89 a (1, .inr (12, [.ref a5, .ref a16, .ref a27, .ref a38, .ref a49, .ref a61, .ref a72, .ref a85, .null, .int 0]))) s7 = some (115, .inl (aC 0, 6, .inl (fun _ => 0))) := yup_o hB89_s7 hB89_a (by decide)
  have hB92_n8 : (yup Gc89 a (1, .inr (12, [.ref a5, .ref a16, .ref a27, .ref a38, .ref a49, .ref a61, .ref a72, .ref a85, .null, .int 0]))) n8 = some (116, .inr (9, [.ref s8, .int 0])) := yup_o hB89_n8 hB89_a (by decide)
  have hB92_s8 : (yup Gc89 a (1, .inr (12, [.ref a5, .ref a16, .ref a27, .ref a38, .ref a49, .ref a61, .ref a72, .ref a85, .null, .int 0]))) s8 = some (117, .inl (aC 0, 6, .inl (fun _ => 0))) := yup_o hB89_s8 hB89_a (by decide)
  have hB92_n9 : (yup Gc89 a (1, .inr (12, [.ref a5, .ref a16, .ref a27, .ref a38, .ref a49, .ref a61, .ref a72, .ref a85, .null, .int 0]))) n9 = some (118, .inr (9, [.ref s9, .int 0])) := yup_o hB89_n9 hB89_a (by decide)
  have hB92_s9 : (yup Gc89 a (1, .inr (12, [.ref a5, .ref a16, .ref a27, .ref a38, .ref a49, .ref a61, .ref a72, .ref a85, .null, .int 0]))) s9 = some (119, .inl (aC 0, 36, .inl (fun _ => 0))) := yup_o hB89_s9 hB89_a (by decide)
  have hB92_a49 : (yup Gc89 a (1, .inr (12, [.ref a5, .ref a16, .ref a27, .ref a38, .ref a49, .ref a61, .ref a72, .ref a85, .null, .int 0]))) a49 = some (120, .inr (9, [.ref r54, .int 0])) := yup_o hB89_a49 hB89_a (by decide)
  have hB92_r54 : (yup Gc89 a (1, .inr (12, [.ref a5, .ref a16, .ref a27, .ref a38, .ref a49, .ref a61, .ref a72, .ref a85, .null, .int 0]))) r54 = some (121, .inl (aC 0, 4, .inl (fun _ => 0))) := yup_o hB89_r54 hB89_a (by decide)
  have hB92_a61 : (yup Gc89 a (1, .inr (12, [.ref a5, .ref a16, .ref a27, .ref a38, .ref a49, .ref a61, .ref a72, .ref a85, .null, .int 0]))) a61 = some (7, .inr (11, [.ref n11, .ref n12, .ref n13, .ref n14, .int 0, .int 0, .int 0])) := yup_o hB89_a61 hB89_a (by decide)
  have hB92_n11 : (yup Gc89 a (1, .inr (12, [.ref a5, .ref a16, .ref a27, .ref a38, .ref a49, .ref a61, .ref a72, .ref a85, .null, .int 0]))) n11 = some (122, .inr (9, [.ref s11, .int 0])) := yup_o hB89_n11 hB89_a (by decide)
  have hB92_s11 : (yup Gc89 a (1, .inr (12, [.ref a5, .ref a16, .ref a27, .ref a38, .ref a49, .ref a61, .ref a72, .ref a85, .null, .int 0]))) s11 = some (123, .inl (aC 0, 4, .inl (fun _ => 0))) := yup_o hB89_s11 hB89_a (by decide)
  have hB92_n12 : (yup Gc89 a (1, .inr (12, [.ref a5, .ref a16, .ref a27, .ref a38, .ref a49, .ref a61, .ref a72, .ref a85, .null, .int 0]))) n12 = some (124, .inr (9, [.ref s12, .int 0])) := yup_o hB89_n12 hB89_a (by decide)
  have hB92_s12 : (yup Gc89 a (1, .inr (12, [.ref a5, .ref a16, .ref a27, .ref a38, .ref a49, .ref a61, .ref a72, .ref a85, .null, .int 0]))) s12 = some (125, .inl (aC 0, 8, .inl (fun _ => 0))) := yup_o hB89_s12 hB89_a (by decide)
  have hB92_n13 : (yup Gc89 a (1, .inr (12, [.ref a5, .ref a16, .ref a27, .ref a38, .ref a49, .ref a61, .ref a72, .ref a85, .null, .int 0]))) n13 = some (126, .inr (9, [.ref s13, .int 0])) := yup_o hB89_n13 hB89_a (by decide)
  have hB92_s13 : (yup Gc89 a (1, .inr (12, [.ref a5, .ref a16, .ref a27, .ref a38, .ref a49, .ref a61, .ref a72, .ref a85, .null, .int 0]))) s13 = some (127, .inl (aC 0, 6, .inl (fun _ => 0))) := yup_o hB89_s13 hB89_a (by decide)
  have hB92_n14 : (yup Gc89 a (1, .inr (12, [.ref a5, .ref a16, .ref a27, .ref a38, .ref a49, .ref a61, .ref a72, .ref a85, .null, .int 0]))) n14 = some (128, .inr (9, [.ref s14, .int 0])) := yup_o hB89_n14 hB89_a (by decide)
  have hB92_s14 : (yup Gc89 a (1, .inr (12, [.ref a5, .ref a16, .ref a27, .ref a38, .ref a49, .ref a61, .ref a72, .ref a85, .null, .int 0]))) s14 = some (129, .inl (aC 0, 6, .inl (fun _ => 0))) := yup_o hB89_s14 hB89_a (by decide)
  have hB92_a72 : (yup Gc89 a (1, .inr (12, [.ref a5, .ref a16, .ref a27, .ref a38, .ref a49, .ref a61, .ref a72, .ref a85, .null, .int 0]))) a72 = some (130, .inr (9, [.ref r78, .int 0])) := yup_o hB89_a72 hB89_a (by decide)
  have hB92_r78 : (yup Gc89 a (1, .inr (12, [.ref a5, .ref a16, .ref a27, .ref a38, .ref a49, .ref a61, .ref a72, .ref a85, .null, .int 0]))) r78 = some (131, .inl (aC 0, 6, .inl (fun _ => 0))) := yup_o hB89_r78 hB89_a (by decide)
  have hB92_a85 : (yup Gc89 a (1, .inr (12, [.ref a5, .ref a16, .ref a27, .ref a38, .ref a49, .ref a61, .ref a72, .ref a85, .null, .int 0]))) a85 = some (8, .inr (7, [.ref n16, .ref n17, .ref n18, .ref n19, .ref n20, .ref n21])) := yup_o hO89 hB89_a (by decide)
  have hB92_n16 : (yup Gc89 a (1, .inr (12, [.ref a5, .ref a16, .ref a27, .ref a38, .ref a49, .ref a61, .ref a72, .ref a85, .null, .int 0]))) n16 = some (132, .inr (9, [.ref s16, .int 0])) := yup_o hn16_89 hB89_a (by decide)
  have hB92_s16 : (yup Gc89 a (1, .inr (12, [.ref a5, .ref a16, .ref a27, .ref a38, .ref a49, .ref a61, .ref a72, .ref a85, .null, .int 0]))) s16 = some (133, .inl (aC 0, 4, .inl (fun _ => 0))) := yup_o hs16_89 hB89_a (by decide)
  have hB92_n17 : (yup Gc89 a (1, .inr (12, [.ref a5, .ref a16, .ref a27, .ref a38, .ref a49, .ref a61, .ref a72, .ref a85, .null, .int 0]))) n17 = some (134, .inr (9, [.ref s17, .int 0])) := yup_o hn17_89 hB89_a (by decide)
  have hB92_s17 : (yup Gc89 a (1, .inr (12, [.ref a5, .ref a16, .ref a27, .ref a38, .ref a49, .ref a61, .ref a72, .ref a85, .null, .int 0]))) s17 = some (135, .inl (aC 0, 4, .inl (fun _ => 0))) := yup_o hs17_89 hB89_a (by decide)
  have hB92_n18 : (yup Gc89 a (1, .inr (12, [.ref a5, .ref a16, .ref a27, .ref a38, .ref a49, .ref a61, .ref a72, .ref a85, .null, .int 0]))) n18 = some (136, .inr (9, [.ref s18, .int 0])) := yup_o hn18_89 hB89_a (by decide)
  have hB92_s18 : (yup Gc89 a (1, .inr (12, [.ref a5, .ref a16, .ref a27, .ref a38, .ref a49, .ref a61, .ref a72, .ref a85, .null, .int 0]))) s18 = some (137, .inl (aC 0, 4, .inl (fun _ => 0))) := yup_o hs18_89 hB89_a (by decide)
  have hB92_n19 : (yup Gc89 a (1, .inr (12, [.ref a5, .ref a16, .ref a27, .ref a38, .ref a49, .ref a61, .ref a72, .ref a85, .null, .int 0]))) n19 = some (138, .inr (9, [.ref s19, .int 0])) := yup_o hn19_89 hB89_a (by decide)
  have hB92_s19 : (yup Gc89 a (1, .inr (12, [.ref a5, .ref a16, .ref a27, .ref a38, .ref a49, .ref a61, .ref a72, .ref a85, .null, .int 0]))) s19 = some (139, .inl (aC 0, 60, .inl (fun _ => 0))) := yup_o hs19_89 hB89_a (by decide)
  have hB92_n20 : (yup Gc89 a (1, .inr (12, [.ref a5, .ref a16, .ref a27, .ref a38, .ref a49, .ref a61, .ref a72, .ref a85, .null, .int 0]))) n20 = some (140, .inr (9, [.ref s20, .int 0])) := yup_o hn20_89 hB89_a (by decide)
  have hB92_s20 : (yup Gc89 a (1, .inr (12, [.ref a5, .ref a16, .ref a27, .ref a38, .ref a49, .ref a61, .ref a72, .ref a85, .null, .int 0]))) s20 = some (141, .inl (aC 0, 4, .inl (fun _ => 0))) := yup_o hs20_89 hB89_a (by decide)
  have hB92_n21 : (yup Gc89 a (1, .inr (12, [.ref a5, .ref a16, .ref a27, .ref a38, .ref a49, .ref a61, .ref a72, .ref a85, .null, .int 0]))) n21 = some (142, .inr (9, [.ref s21, .int 0])) := yup_o hn21_89 hB89_a (by decide)
  have hB92_s21 : (yup Gc89 a (1, .inr (12, [.ref a5, .ref a16, .ref a27, .ref a38, .ref a49, .ref a61, .ref a72, .ref a85, .null, .int 0]))) s21 = some (143, .inl (aC 0, 4, .inl (fun _ => 0))) := yup_o hs21_89 hB89_a (by decide)
  have kt92 : yTg (fun t => t = 0 ∨ 200 ≤ t) G (yup Gc89 a (1, .inr (12, [.ref a5, .ref a16, .ref a27, .ref a38, .ref a49, .ref a61, .ref a72, .ref a85, .null, .int 0]))) := (kt89).trans (yTg.up hB89_a (by decide))
  show Y l S0 D K_X8_init 20 60 2100 (fun r G1 => r = none ∧ ∃ (ad : Nat → Nat) (σ : XS), atX aC ad G1 σ ∧ ad 1 = a ∧ xini σ ∧ keepX G G1) (fun _ _ => False) (92 + 3) [(0, .ref a)] [] (yup Gc89 a (1, .inr (12, [.ref a5, .ref a16, .ref a27, .ref a38, .ref a49, .ref a61, .ref a72, .ref a85, .null, .int 0]))) 9 191
  generalize yup Gc89 a (1, .inr (12, [.ref a5, .ref a16, .ref a27, .ref a38, .ref a49, .ref a61, .ref a72, .ref a85, .null, .int 0])) = G92 at hA92 hB92_a5 hB92_vw hB92_a16 hB92_n0 hB92_s0 hB92_n1 hB92_s1 hB92_n2 hB92_s2 hB92_a27 hB92_n3 hB92_s3 hB92_n4 hB92_s4 hB92_a38 hB92_n5 hB92_s5 hB92_n6 hB92_s6 hB92_n7 hB92_s7 hB92_n8 hB92_s8 hB92_n9 hB92_s9 hB92_a49 hB92_r54 hB92_a61 hB92_n11 hB92_s11 hB92_n12 hB92_s12 hB92_n13 hB92_s13 hB92_n14 hB92_s14 hB92_a72 hB92_r78 hB92_a85 hB92_n16 hB92_s16 hB92_n17 hB92_s17 hB92_n18 hB92_s18 hB92_n19 hB92_s19 hB92_n20 hB92_s20 hB92_n21 hB92_s21 kt92 ⊢
  refine y_blk 1 tq_X8_init (z := (96, [(0, .ref a)], [.ref a])) rfl ?_
  refine y_new 9 hS tq_X8_init (kc := 8) (ks := 189) rfl nw_X8_63 (fun a96 hne96 => ?_)
  have hle96 : yLe G92 (yup G92 a96 (9, .inr (10, [.null, .null]))) := yLe.new hne96
  have hA96 : (yup G92 a96 (9, .inr (10, [.null, .null]))) a96 = some (9, .inr (10, [.null, .null])) := yup_s _ _ _
  have hB96_a5 : (yup G92 a96 (9, .inr (10, [.null, .null]))) a5 = some (2, .inr (5, [.int 0, .int 0, .long 0, .long 0, .long 0, .long 0, .long 0, .int 1, .int 0, .ref vw])) := hle96 _ _ hB92_a5
  have hB96_vw : (yup G92 a96 (9, .inr (10, [.null, .null]))) vw = some (3, .inl (aC 1, 512, .inr (.inl (fun _ => 0)))) := hle96 _ _ hB92_vw
  have hB96_a16 : (yup G92 a96 (9, .inr (10, [.null, .null]))) a16 = some (4, .inr (8, [.ref n0, .ref n1, .ref n2])) := hle96 _ _ hB92_a16
  have hB96_n0 : (yup G92 a96 (9, .inr (10, [.null, .null]))) n0 = some (100, .inr (9, [.ref s0, .int 0])) := hle96 _ _ hB92_n0
  have hB96_s0 : (yup G92 a96 (9, .inr (10, [.null, .null]))) s0 = some (101, .inl (aC 0, 6, .inl (fun _ => 0))) := hle96 _ _ hB92_s0
  have hB96_n1 : (yup G92 a96 (9, .inr (10, [.null, .null]))) n1 = some (102, .inr (9, [.ref s1, .int 0])) := hle96 _ _ hB92_n1
  have hB96_s1 : (yup G92 a96 (9, .inr (10, [.null, .null]))) s1 = some (103, .inl (aC 0, 6, .inl (fun _ => 0))) := hle96 _ _ hB92_s1
  have hB96_n2 : (yup G92 a96 (9, .inr (10, [.null, .null]))) n2 = some (104, .inr (9, [.ref s2, .int 0])) := hle96 _ _ hB92_n2
  have hB96_s2 : (yup G92 a96 (9, .inr (10, [.null, .null]))) s2 = some (105, .inl (aC 0, 6, .inl (fun _ => 0))) := hle96 _ _ hB92_s2
  have hB96_a27 : (yup G92 a96 (9, .inr (10, [.null, .null]))) a27 = some (5, .inr (4, [.ref n3, .ref n4])) := hle96 _ _ hB92_a27
  have hB96_n3 : (yup G92 a96 (9, .inr (10, [.null, .null]))) n3 = some (106, .inr (9, [.ref s3, .int 0])) := hle96 _ _ hB92_n3
  have hB96_s3 : (yup G92 a96 (9, .inr (10, [.null, .null]))) s3 = some (107, .inl (aC 0, 8, .inl (fun _ => 0))) := hle96 _ _ hB92_s3
  have hB96_n4 : (yup G92 a96 (9, .inr (10, [.null, .null]))) n4 = some (108, .inr (9, [.ref s4, .int 0])) := hle96 _ _ hB92_n4
  have hB96_s4 : (yup G92 a96 (9, .inr (10, [.null, .null]))) s4 = some (109, .inl (aC 0, 8, .inl (fun _ => 0))) := hle96 _ _ hB92_s4
  have hB96_a38 : (yup G92 a96 (9, .inr (10, [.null, .null]))) a38 = some (6, .inr (6, [.ref n5, .ref n6, .ref n7, .ref n8, .ref n9])) := hle96 _ _ hB92_a38
  have hB96_n5 : (yup G92 a96 (9, .inr (10, [.null, .null]))) n5 = some (110, .inr (9, [.ref s5, .int 0])) := hle96 _ _ hB92_n5
  have hB96_s5 : (yup G92 a96 (9, .inr (10, [.null, .null]))) s5 = some (111, .inl (aC 0, 6, .inl (fun _ => 0))) := hle96 _ _ hB92_s5
  have hB96_n6 : (yup G92 a96 (9, .inr (10, [.null, .null]))) n6 = some (112, .inr (9, [.ref s6, .int 0])) := hle96 _ _ hB92_n6
  have hB96_s6 : (yup G92 a96 (9, .inr (10, [.null, .null]))) s6 = some (113, .inl (aC 0, 6, .inl (fun _ => 0))) := hle96 _ _ hB92_s6
  have hB96_n7 : (yup G92 a96 (9, .inr (10, [.null, .null]))) n7 = some (114, .inr (9, [.ref s7, .int 0])) := hle96 _ _ hB92_n7
  have hB96_s7 : (yup G92 a96 (9, .inr (10, [.null, .null]))) s7 = some (115, .inl (aC 0, 6, .inl (fun _ => 0))) := hle96 _ _ hB92_s7
  have hB96_n8 : (yup G92 a96 (9, .inr (10, [.null, .null]))) n8 = some (116, .inr (9, [.ref s8, .int 0])) := hle96 _ _ hB92_n8
  have hB96_s8 : (yup G92 a96 (9, .inr (10, [.null, .null]))) s8 = some (117, .inl (aC 0, 6, .inl (fun _ => 0))) := hle96 _ _ hB92_s8
  have hB96_n9 : (yup G92 a96 (9, .inr (10, [.null, .null]))) n9 = some (118, .inr (9, [.ref s9, .int 0])) := hle96 _ _ hB92_n9
  have hB96_s9 : (yup G92 a96 (9, .inr (10, [.null, .null]))) s9 = some (119, .inl (aC 0, 36, .inl (fun _ => 0))) := hle96 _ _ hB92_s9
  have hB96_a49 : (yup G92 a96 (9, .inr (10, [.null, .null]))) a49 = some (120, .inr (9, [.ref r54, .int 0])) := hle96 _ _ hB92_a49
  have hB96_r54 : (yup G92 a96 (9, .inr (10, [.null, .null]))) r54 = some (121, .inl (aC 0, 4, .inl (fun _ => 0))) := hle96 _ _ hB92_r54
  have hB96_a61 : (yup G92 a96 (9, .inr (10, [.null, .null]))) a61 = some (7, .inr (11, [.ref n11, .ref n12, .ref n13, .ref n14, .int 0, .int 0, .int 0])) := hle96 _ _ hB92_a61
  have hB96_n11 : (yup G92 a96 (9, .inr (10, [.null, .null]))) n11 = some (122, .inr (9, [.ref s11, .int 0])) := hle96 _ _ hB92_n11
  have hB96_s11 : (yup G92 a96 (9, .inr (10, [.null, .null]))) s11 = some (123, .inl (aC 0, 4, .inl (fun _ => 0))) := hle96 _ _ hB92_s11
  have hB96_n12 : (yup G92 a96 (9, .inr (10, [.null, .null]))) n12 = some (124, .inr (9, [.ref s12, .int 0])) := hle96 _ _ hB92_n12
  have hB96_s12 : (yup G92 a96 (9, .inr (10, [.null, .null]))) s12 = some (125, .inl (aC 0, 8, .inl (fun _ => 0))) := hle96 _ _ hB92_s12
  have hB96_n13 : (yup G92 a96 (9, .inr (10, [.null, .null]))) n13 = some (126, .inr (9, [.ref s13, .int 0])) := hle96 _ _ hB92_n13
  have hB96_s13 : (yup G92 a96 (9, .inr (10, [.null, .null]))) s13 = some (127, .inl (aC 0, 6, .inl (fun _ => 0))) := hle96 _ _ hB92_s13
  have hB96_n14 : (yup G92 a96 (9, .inr (10, [.null, .null]))) n14 = some (128, .inr (9, [.ref s14, .int 0])) := hle96 _ _ hB92_n14
  have hB96_s14 : (yup G92 a96 (9, .inr (10, [.null, .null]))) s14 = some (129, .inl (aC 0, 6, .inl (fun _ => 0))) := hle96 _ _ hB92_s14
  have hB96_a72 : (yup G92 a96 (9, .inr (10, [.null, .null]))) a72 = some (130, .inr (9, [.ref r78, .int 0])) := hle96 _ _ hB92_a72
  have hB96_r78 : (yup G92 a96 (9, .inr (10, [.null, .null]))) r78 = some (131, .inl (aC 0, 6, .inl (fun _ => 0))) := hle96 _ _ hB92_r78
  have hB96_a85 : (yup G92 a96 (9, .inr (10, [.null, .null]))) a85 = some (8, .inr (7, [.ref n16, .ref n17, .ref n18, .ref n19, .ref n20, .ref n21])) := hle96 _ _ hB92_a85
  have hB96_n16 : (yup G92 a96 (9, .inr (10, [.null, .null]))) n16 = some (132, .inr (9, [.ref s16, .int 0])) := hle96 _ _ hB92_n16
  have hB96_s16 : (yup G92 a96 (9, .inr (10, [.null, .null]))) s16 = some (133, .inl (aC 0, 4, .inl (fun _ => 0))) := hle96 _ _ hB92_s16
  have hB96_n17 : (yup G92 a96 (9, .inr (10, [.null, .null]))) n17 = some (134, .inr (9, [.ref s17, .int 0])) := hle96 _ _ hB92_n17
  have hB96_s17 : (yup G92 a96 (9, .inr (10, [.null, .null]))) s17 = some (135, .inl (aC 0, 4, .inl (fun _ => 0))) := hle96 _ _ hB92_s17
  have hB96_n18 : (yup G92 a96 (9, .inr (10, [.null, .null]))) n18 = some (136, .inr (9, [.ref s18, .int 0])) := hle96 _ _ hB92_n18
  have hB96_s18 : (yup G92 a96 (9, .inr (10, [.null, .null]))) s18 = some (137, .inl (aC 0, 4, .inl (fun _ => 0))) := hle96 _ _ hB92_s18
  have hB96_n19 : (yup G92 a96 (9, .inr (10, [.null, .null]))) n19 = some (138, .inr (9, [.ref s19, .int 0])) := hle96 _ _ hB92_n19
  have hB96_s19 : (yup G92 a96 (9, .inr (10, [.null, .null]))) s19 = some (139, .inl (aC 0, 60, .inl (fun _ => 0))) := hle96 _ _ hB92_s19
  have hB96_n20 : (yup G92 a96 (9, .inr (10, [.null, .null]))) n20 = some (140, .inr (9, [.ref s20, .int 0])) := hle96 _ _ hB92_n20
  have hB96_s20 : (yup G92 a96 (9, .inr (10, [.null, .null]))) s20 = some (141, .inl (aC 0, 4, .inl (fun _ => 0))) := hle96 _ _ hB92_s20
  have hB96_n21 : (yup G92 a96 (9, .inr (10, [.null, .null]))) n21 = some (142, .inr (9, [.ref s21, .int 0])) := hle96 _ _ hB92_n21
  have hB96_s21 : (yup G92 a96 (9, .inr (10, [.null, .null]))) s21 = some (143, .inl (aC 0, 4, .inl (fun _ => 0))) := hle96 _ _ hB92_s21
  have hB96_a : (yup G92 a96 (9, .inr (10, [.null, .null]))) a = some (1, .inr (12, [.ref a5, .ref a16, .ref a27, .ref a38, .ref a49, .ref a61, .ref a72, .ref a85, .null, .int 0])) := hle96 _ _ hA92
  have kt96 : yTg (fun t => t = 0 ∨ 200 ≤ t) G (yup G92 a96 (9, .inr (10, [.null, .null]))) := (kt92).trans (yTg.le hle96)
  generalize yup G92 a96 (9, .inr (10, [.null, .null])) = G96 at hle96 hA96 hB96_a5 hB96_vw hB96_a16 hB96_n0 hB96_s0 hB96_n1 hB96_s1 hB96_n2 hB96_s2 hB96_a27 hB96_n3 hB96_s3 hB96_n4 hB96_s4 hB96_a38 hB96_n5 hB96_s5 hB96_n6 hB96_s6 hB96_n7 hB96_s7 hB96_n8 hB96_s8 hB96_n9 hB96_s9 hB96_a49 hB96_r54 hB96_a61 hB96_n11 hB96_s11 hB96_n12 hB96_s12 hB96_n13 hB96_s13 hB96_n14 hB96_s14 hB96_a72 hB96_r78 hB96_a85 hB96_n16 hB96_s16 hB96_n17 hB96_s17 hB96_n18 hB96_s18 hB96_n19 hB96_s19 hB96_n20 hB96_s20 hB96_n21 hB96_s21 hB96_a kt96 ⊢
  refine y_blk 1 tq_X8_init (z := (100, [(0, .ref a)], [.ref a96, .ref a96, .ref a])) rfl ?_
  refine y_callIN hS tq_X8_init rfl (As := []) rfl ci_X8_65 (m_X6_init hS hA96) rfl (by decide) (Nat.le_of_ble_eq_true rfl) (fun r100 Gc100 q100 => ?_) (fun _ _ h9 => h9.elim)
  obtain ⟨rfl, n22, s22, n23, s23, hO100, hn22_100, hs22_100, hn23_100, hs23_100, kt100_⟩ := q100
  have hB100_a5 := kt100_ _ _ _ hB96_a5 ⟨by decide, by decide⟩
  have hB100_vw := kt100_ _ _ _ hB96_vw ⟨by decide, by decide⟩
  have hB100_a16 := kt100_ _ _ _ hB96_a16 ⟨by decide, by decide⟩
  have hB100_n0 := kt100_ _ _ _ hB96_n0 ⟨by decide, by decide⟩
  have hB100_s0 := kt100_ _ _ _ hB96_s0 ⟨by decide, by decide⟩
  have hB100_n1 := kt100_ _ _ _ hB96_n1 ⟨by decide, by decide⟩
  have hB100_s1 := kt100_ _ _ _ hB96_s1 ⟨by decide, by decide⟩
  have hB100_n2 := kt100_ _ _ _ hB96_n2 ⟨by decide, by decide⟩
  have hB100_s2 := kt100_ _ _ _ hB96_s2 ⟨by decide, by decide⟩
  have hB100_a27 := kt100_ _ _ _ hB96_a27 ⟨by decide, by decide⟩
  have hB100_n3 := kt100_ _ _ _ hB96_n3 ⟨by decide, by decide⟩
  have hB100_s3 := kt100_ _ _ _ hB96_s3 ⟨by decide, by decide⟩
  have hB100_n4 := kt100_ _ _ _ hB96_n4 ⟨by decide, by decide⟩
  have hB100_s4 := kt100_ _ _ _ hB96_s4 ⟨by decide, by decide⟩
  have hB100_a38 := kt100_ _ _ _ hB96_a38 ⟨by decide, by decide⟩
  have hB100_n5 := kt100_ _ _ _ hB96_n5 ⟨by decide, by decide⟩
  have hB100_s5 := kt100_ _ _ _ hB96_s5 ⟨by decide, by decide⟩
  have hB100_n6 := kt100_ _ _ _ hB96_n6 ⟨by decide, by decide⟩
  have hB100_s6 := kt100_ _ _ _ hB96_s6 ⟨by decide, by decide⟩
  have hB100_n7 := kt100_ _ _ _ hB96_n7 ⟨by decide, by decide⟩
  have hB100_s7 := kt100_ _ _ _ hB96_s7 ⟨by decide, by decide⟩
  have hB100_n8 := kt100_ _ _ _ hB96_n8 ⟨by decide, by decide⟩
  have hB100_s8 := kt100_ _ _ _ hB96_s8 ⟨by decide, by decide⟩
  have hB100_n9 := kt100_ _ _ _ hB96_n9 ⟨by decide, by decide⟩
  have hB100_s9 := kt100_ _ _ _ hB96_s9 ⟨by decide, by decide⟩
  have hB100_a49 := kt100_ _ _ _ hB96_a49 ⟨by decide, by decide⟩
  have hB100_r54 := kt100_ _ _ _ hB96_r54 ⟨by decide, by decide⟩
  have hB100_a61 := kt100_ _ _ _ hB96_a61 ⟨by decide, by decide⟩
  have hB100_n11 := kt100_ _ _ _ hB96_n11 ⟨by decide, by decide⟩
  have hB100_s11 := kt100_ _ _ _ hB96_s11 ⟨by decide, by decide⟩
  have hB100_n12 := kt100_ _ _ _ hB96_n12 ⟨by decide, by decide⟩
  have hB100_s12 := kt100_ _ _ _ hB96_s12 ⟨by decide, by decide⟩
  have hB100_n13 := kt100_ _ _ _ hB96_n13 ⟨by decide, by decide⟩
  have hB100_s13 := kt100_ _ _ _ hB96_s13 ⟨by decide, by decide⟩
  have hB100_n14 := kt100_ _ _ _ hB96_n14 ⟨by decide, by decide⟩
  have hB100_s14 := kt100_ _ _ _ hB96_s14 ⟨by decide, by decide⟩
  have hB100_a72 := kt100_ _ _ _ hB96_a72 ⟨by decide, by decide⟩
  have hB100_r78 := kt100_ _ _ _ hB96_r78 ⟨by decide, by decide⟩
  have hB100_a85 := kt100_ _ _ _ hB96_a85 ⟨by decide, by decide⟩
  have hB100_n16 := kt100_ _ _ _ hB96_n16 ⟨by decide, by decide⟩
  have hB100_s16 := kt100_ _ _ _ hB96_s16 ⟨by decide, by decide⟩
  have hB100_n17 := kt100_ _ _ _ hB96_n17 ⟨by decide, by decide⟩
  have hB100_s17 := kt100_ _ _ _ hB96_s17 ⟨by decide, by decide⟩
  have hB100_n18 := kt100_ _ _ _ hB96_n18 ⟨by decide, by decide⟩
  have hB100_s18 := kt100_ _ _ _ hB96_s18 ⟨by decide, by decide⟩
  have hB100_n19 := kt100_ _ _ _ hB96_n19 ⟨by decide, by decide⟩
  have hB100_s19 := kt100_ _ _ _ hB96_s19 ⟨by decide, by decide⟩
  have hB100_n20 := kt100_ _ _ _ hB96_n20 ⟨by decide, by decide⟩
  have hB100_s20 := kt100_ _ _ _ hB96_s20 ⟨by decide, by decide⟩
  have hB100_n21 := kt100_ _ _ _ hB96_n21 ⟨by decide, by decide⟩
  have hB100_s21 := kt100_ _ _ _ hB96_s21 ⟨by decide, by decide⟩
  have hB100_a := kt100_ _ _ _ hB96_a ⟨by decide, by decide⟩
  have kt100 := (kt96).trans (kt100_.narrow (g := fun t => t = 0 ∨ 200 ≤ t) (fun t ht => ⟨fun e9 => by rcases ht with ht | ht <;> omega, by rcases ht with ht | ht <;> omega⟩))
  refine y_blk 0 tq_X8_init (z := (103, [(0, .ref a)], [.ref a96, .ref a])) rfl ?_
  refine y_putF hS tq_X8_init rfl fp_X8_66_X8 rfl hB100_a (by omega) rfl rfl (Nat.le_of_ble_eq_true rfl) ?_
  have hA103 : (yup Gc100 a (1, .inr (12, [.ref a5, .ref a16, .ref a27, .ref a38, .ref a49, .ref a61, .ref a72, .ref a85, .ref a96, .int 0]))) a = some (1, .inr (12, [.ref a5, .ref a16, .ref a27, .ref a38, .ref a49, .ref a61, .ref a72, .ref a85, .ref a96, .int 0])) := yup_s _ _ _
  have hB103_a5 : (yup Gc100 a (1, .inr (12, [.ref a5, .ref a16, .ref a27, .ref a38, .ref a49, .ref a61, .ref a72, .ref a85, .ref a96, .int 0]))) a5 = some (2, .inr (5, [.int 0, .int 0, .long 0, .long 0, .long 0, .long 0, .long 0, .int 1, .int 0, .ref vw])) := yup_o hB100_a5 hB100_a (by decide)
  have hB103_vw : (yup Gc100 a (1, .inr (12, [.ref a5, .ref a16, .ref a27, .ref a38, .ref a49, .ref a61, .ref a72, .ref a85, .ref a96, .int 0]))) vw = some (3, .inl (aC 1, 512, .inr (.inl (fun _ => 0)))) := yup_o hB100_vw hB100_a (by decide)
  have hB103_a16 : (yup Gc100 a (1, .inr (12, [.ref a5, .ref a16, .ref a27, .ref a38, .ref a49, .ref a61, .ref a72, .ref a85, .ref a96, .int 0]))) a16 = some (4, .inr (8, [.ref n0, .ref n1, .ref n2])) := yup_o hB100_a16 hB100_a (by decide)
  have hB103_n0 : (yup Gc100 a (1, .inr (12, [.ref a5, .ref a16, .ref a27, .ref a38, .ref a49, .ref a61, .ref a72, .ref a85, .ref a96, .int 0]))) n0 = some (100, .inr (9, [.ref s0, .int 0])) := yup_o hB100_n0 hB100_a (by decide)
  have hB103_s0 : (yup Gc100 a (1, .inr (12, [.ref a5, .ref a16, .ref a27, .ref a38, .ref a49, .ref a61, .ref a72, .ref a85, .ref a96, .int 0]))) s0 = some (101, .inl (aC 0, 6, .inl (fun _ => 0))) := yup_o hB100_s0 hB100_a (by decide)
  have hB103_n1 : (yup Gc100 a (1, .inr (12, [.ref a5, .ref a16, .ref a27, .ref a38, .ref a49, .ref a61, .ref a72, .ref a85, .ref a96, .int 0]))) n1 = some (102, .inr (9, [.ref s1, .int 0])) := yup_o hB100_n1 hB100_a (by decide)
  have hB103_s1 : (yup Gc100 a (1, .inr (12, [.ref a5, .ref a16, .ref a27, .ref a38, .ref a49, .ref a61, .ref a72, .ref a85, .ref a96, .int 0]))) s1 = some (103, .inl (aC 0, 6, .inl (fun _ => 0))) := yup_o hB100_s1 hB100_a (by decide)
  have hB103_n2 : (yup Gc100 a (1, .inr (12, [.ref a5, .ref a16, .ref a27, .ref a38, .ref a49, .ref a61, .ref a72, .ref a85, .ref a96, .int 0]))) n2 = some (104, .inr (9, [.ref s2, .int 0])) := yup_o hB100_n2 hB100_a (by decide)
  have hB103_s2 : (yup Gc100 a (1, .inr (12, [.ref a5, .ref a16, .ref a27, .ref a38, .ref a49, .ref a61, .ref a72, .ref a85, .ref a96, .int 0]))) s2 = some (105, .inl (aC 0, 6, .inl (fun _ => 0))) := yup_o hB100_s2 hB100_a (by decide)
  have hB103_a27 : (yup Gc100 a (1, .inr (12, [.ref a5, .ref a16, .ref a27, .ref a38, .ref a49, .ref a61, .ref a72, .ref a85, .ref a96, .int 0]))) a27 = some (5, .inr (4, [.ref n3, .ref n4])) := yup_o hB100_a27 hB100_a (by decide)
  have hB103_n3 : (yup Gc100 a (1, .inr (12, [.ref a5, .ref a16, .ref a27, .ref a38, .ref a49, .ref a61, .ref a72, .ref a85, .ref a96, .int 0]))) n3 = some (106, .inr (9, [.ref s3, .int 0])) := yup_o hB100_n3 hB100_a (by decide)
  have hB103_s3 : (yup Gc100 a (1, .inr (12, [.ref a5, .ref a16, .ref a27, .ref a38, .ref a49, .ref a61, .ref a72, .ref a85, .ref a96, .int 0]))) s3 = some (107, .inl (aC 0, 8, .inl (fun _ => 0))) := yup_o hB100_s3 hB100_a (by decide)
  have hB103_n4 : (yup Gc100 a (1, .inr (12, [.ref a5, .ref a16, .ref a27, .ref a38, .ref a49, .ref a61, .ref a72, .ref a85, .ref a96, .int 0]))) n4 = some (108, .inr (9, [.ref s4, .int 0])) := yup_o hB100_n4 hB100_a (by decide)
  have hB103_s4 : (yup Gc100 a (1, .inr (12, [.ref a5, .ref a16, .ref a27, .ref a38, .ref a49, .ref a61, .ref a72, .ref a85, .ref a96, .int 0]))) s4 = some (109, .inl (aC 0, 8, .inl (fun _ => 0))) := yup_o hB100_s4 hB100_a (by decide)
  have hB103_a38 : (yup Gc100 a (1, .inr (12, [.ref a5, .ref a16, .ref a27, .ref a38, .ref a49, .ref a61, .ref a72, .ref a85, .ref a96, .int 0]))) a38 = some (6, .inr (6, [.ref n5, .ref n6, .ref n7, .ref n8, .ref n9])) := yup_o hB100_a38 hB100_a (by decide)
  have hB103_n5 : (yup Gc100 a (1, .inr (12, [.ref a5, .ref a16, .ref a27, .ref a38, .ref a49, .ref a61, .ref a72, .ref a85, .ref a96, .int 0]))) n5 = some (110, .inr (9, [.ref s5, .int 0])) := yup_o hB100_n5 hB100_a (by decide)
  have hB103_s5 : (yup Gc100 a (1, .inr (12, [.ref a5, .ref a16, .ref a27, .ref a38, .ref a49, .ref a61, .ref a72, .ref a85, .ref a96, .int 0]))) s5 = some (111, .inl (aC 0, 6, .inl (fun _ => 0))) := yup_o hB100_s5 hB100_a (by decide)
  have hB103_n6 : (yup Gc100 a (1, .inr (12, [.ref a5, .ref a16, .ref a27, .ref a38, .ref a49, .ref a61, .ref a72, .ref a85, .ref a96, .int 0]))) n6 = some (112, .inr (9, [.ref s6, .int 0])) := yup_o hB100_n6 hB100_a (by decide)
  have hB103_s6 : (yup Gc100 a (1, .inr (12, [.ref a5, .ref a16, .ref a27, .ref a38, .ref a49, .ref a61, .ref a72, .ref a85, .ref a96, .int 0]))) s6 = some (113, .inl (aC 0, 6, .inl (fun _ => 0))) := yup_o hB100_s6 hB100_a (by decide)
  have hB103_n7 : (yup Gc100 a (1, .inr (12, [.ref a5, .ref a16, .ref a27, .ref a38, .ref a49, .ref a61, .ref a72, .ref a85, .ref a96, .int 0]))) n7 = some (114, .inr (9, [.ref s7, .int 0])) := yup_o hB100_n7 hB100_a (by decide)
  have hB103_s7 : (yup Gc100 a (1, .inr (12, [.ref a5, .ref a16, .ref a27, .ref a38, .ref a49, .ref a61, .ref a72, .ref a85, .ref a96, .int 0]))) s7 = some (115, .inl (aC 0, 6, .inl (fun _ => 0))) := yup_o hB100_s7 hB100_a (by decide)
  have hB103_n8 : (yup Gc100 a (1, .inr (12, [.ref a5, .ref a16, .ref a27, .ref a38, .ref a49, .ref a61, .ref a72, .ref a85, .ref a96, .int 0]))) n8 = some (116, .inr (9, [.ref s8, .int 0])) := yup_o hB100_n8 hB100_a (by decide)
  have hB103_s8 : (yup Gc100 a (1, .inr (12, [.ref a5, .ref a16, .ref a27, .ref a38, .ref a49, .ref a61, .ref a72, .ref a85, .ref a96, .int 0]))) s8 = some (117, .inl (aC 0, 6, .inl (fun _ => 0))) := yup_o hB100_s8 hB100_a (by decide)
  have hB103_n9 : (yup Gc100 a (1, .inr (12, [.ref a5, .ref a16, .ref a27, .ref a38, .ref a49, .ref a61, .ref a72, .ref a85, .ref a96, .int 0]))) n9 = some (118, .inr (9, [.ref s9, .int 0])) := yup_o hB100_n9 hB100_a (by decide)
  have hB103_s9 : (yup Gc100 a (1, .inr (12, [.ref a5, .ref a16, .ref a27, .ref a38, .ref a49, .ref a61, .ref a72, .ref a85, .ref a96, .int 0]))) s9 = some (119, .inl (aC 0, 36, .inl (fun _ => 0))) := yup_o hB100_s9 hB100_a (by decide)
  have hB103_a49 : (yup Gc100 a (1, .inr (12, [.ref a5, .ref a16, .ref a27, .ref a38, .ref a49, .ref a61, .ref a72, .ref a85, .ref a96, .int 0]))) a49 = some (120, .inr (9, [.ref r54, .int 0])) := yup_o hB100_a49 hB100_a (by decide)
  have hB103_r54 : (yup Gc100 a (1, .inr (12, [.ref a5, .ref a16, .ref a27, .ref a38, .ref a49, .ref a61, .ref a72, .ref a85, .ref a96, .int 0]))) r54 = some (121, .inl (aC 0, 4, .inl (fun _ => 0))) := yup_o hB100_r54 hB100_a (by decide)
  have hB103_a61 : (yup Gc100 a (1, .inr (12, [.ref a5, .ref a16, .ref a27, .ref a38, .ref a49, .ref a61, .ref a72, .ref a85, .ref a96, .int 0]))) a61 = some (7, .inr (11, [.ref n11, .ref n12, .ref n13, .ref n14, .int 0, .int 0, .int 0])) := yup_o hB100_a61 hB100_a (by decide)
  have hB103_n11 : (yup Gc100 a (1, .inr (12, [.ref a5, .ref a16, .ref a27, .ref a38, .ref a49, .ref a61, .ref a72, .ref a85, .ref a96, .int 0]))) n11 = some (122, .inr (9, [.ref s11, .int 0])) := yup_o hB100_n11 hB100_a (by decide)
  have hB103_s11 : (yup Gc100 a (1, .inr (12, [.ref a5, .ref a16, .ref a27, .ref a38, .ref a49, .ref a61, .ref a72, .ref a85, .ref a96, .int 0]))) s11 = some (123, .inl (aC 0, 4, .inl (fun _ => 0))) := yup_o hB100_s11 hB100_a (by decide)
  have hB103_n12 : (yup Gc100 a (1, .inr (12, [.ref a5, .ref a16, .ref a27, .ref a38, .ref a49, .ref a61, .ref a72, .ref a85, .ref a96, .int 0]))) n12 = some (124, .inr (9, [.ref s12, .int 0])) := yup_o hB100_n12 hB100_a (by decide)
  have hB103_s12 : (yup Gc100 a (1, .inr (12, [.ref a5, .ref a16, .ref a27, .ref a38, .ref a49, .ref a61, .ref a72, .ref a85, .ref a96, .int 0]))) s12 = some (125, .inl (aC 0, 8, .inl (fun _ => 0))) := yup_o hB100_s12 hB100_a (by decide)
  have hB103_n13 : (yup Gc100 a (1, .inr (12, [.ref a5, .ref a16, .ref a27, .ref a38, .ref a49, .ref a61, .ref a72, .ref a85, .ref a96, .int 0]))) n13 = some (126, .inr (9, [.ref s13, .int 0])) := yup_o hB100_n13 hB100_a (by decide)
  have hB103_s13 : (yup Gc100 a (1, .inr (12, [.ref a5, .ref a16, .ref a27, .ref a38, .ref a49, .ref a61, .ref a72, .ref a85, .ref a96, .int 0]))) s13 = some (127, .inl (aC 0, 6, .inl (fun _ => 0))) := yup_o hB100_s13 hB100_a (by decide)
  have hB103_n14 : (yup Gc100 a (1, .inr (12, [.ref a5, .ref a16, .ref a27, .ref a38, .ref a49, .ref a61, .ref a72, .ref a85, .ref a96, .int 0]))) n14 = some (128, .inr (9, [.ref s14, .int 0])) := yup_o hB100_n14 hB100_a (by decide)
  have hB103_s14 : (yup Gc100 a (1, .inr (12, [.ref a5, .ref a16, .ref a27, .ref a38, .ref a49, .ref a61, .ref a72, .ref a85, .ref a96, .int 0]))) s14 = some (129, .inl (aC 0, 6, .inl (fun _ => 0))) := yup_o hB100_s14 hB100_a (by decide)
  have hB103_a72 : (yup Gc100 a (1, .inr (12, [.ref a5, .ref a16, .ref a27, .ref a38, .ref a49, .ref a61, .ref a72, .ref a85, .ref a96, .int 0]))) a72 = some (130, .inr (9, [.ref r78, .int 0])) := yup_o hB100_a72 hB100_a (by decide)
  have hB103_r78 : (yup Gc100 a (1, .inr (12, [.ref a5, .ref a16, .ref a27, .ref a38, .ref a49, .ref a61, .ref a72, .ref a85, .ref a96, .int 0]))) r78 = some (131, .inl (aC 0, 6, .inl (fun _ => 0))) := yup_o hB100_r78 hB100_a (by decide)
  have hB103_a85 : (yup Gc100 a (1, .inr (12, [.ref a5, .ref a16, .ref a27, .ref a38, .ref a49, .ref a61, .ref a72, .ref a85, .ref a96, .int 0]))) a85 = some (8, .inr (7, [.ref n16, .ref n17, .ref n18, .ref n19, .ref n20, .ref n21])) := yup_o hB100_a85 hB100_a (by decide)
  have hB103_n16 : (yup Gc100 a (1, .inr (12, [.ref a5, .ref a16, .ref a27, .ref a38, .ref a49, .ref a61, .ref a72, .ref a85, .ref a96, .int 0]))) n16 = some (132, .inr (9, [.ref s16, .int 0])) := yup_o hB100_n16 hB100_a (by decide)
  have hB103_s16 : (yup Gc100 a (1, .inr (12, [.ref a5, .ref a16, .ref a27, .ref a38, .ref a49, .ref a61, .ref a72, .ref a85, .ref a96, .int 0]))) s16 = some (133, .inl (aC 0, 4, .inl (fun _ => 0))) := yup_o hB100_s16 hB100_a (by decide)
  have hB103_n17 : (yup Gc100 a (1, .inr (12, [.ref a5, .ref a16, .ref a27, .ref a38, .ref a49, .ref a61, .ref a72, .ref a85, .ref a96, .int 0]))) n17 = some (134, .inr (9, [.ref s17, .int 0])) := yup_o hB100_n17 hB100_a (by decide)
  have hB103_s17 : (yup Gc100 a (1, .inr (12, [.ref a5, .ref a16, .ref a27, .ref a38, .ref a49, .ref a61, .ref a72, .ref a85, .ref a96, .int 0]))) s17 = some (135, .inl (aC 0, 4, .inl (fun _ => 0))) := yup_o hB100_s17 hB100_a (by decide)
  have hB103_n18 : (yup Gc100 a (1, .inr (12, [.ref a5, .ref a16, .ref a27, .ref a38, .ref a49, .ref a61, .ref a72, .ref a85, .ref a96, .int 0]))) n18 = some (136, .inr (9, [.ref s18, .int 0])) := yup_o hB100_n18 hB100_a (by decide)
  have hB103_s18 : (yup Gc100 a (1, .inr (12, [.ref a5, .ref a16, .ref a27, .ref a38, .ref a49, .ref a61, .ref a72, .ref a85, .ref a96, .int 0]))) s18 = some (137, .inl (aC 0, 4, .inl (fun _ => 0))) := yup_o hB100_s18 hB100_a (by decide)
  have hB103_n19 : (yup Gc100 a (1, .inr (12, [.ref a5, .ref a16, .ref a27, .ref a38, .ref a49, .ref a61, .ref a72, .ref a85, .ref a96, .int 0]))) n19 = some (138, .inr (9, [.ref s19, .int 0])) := yup_o hB100_n19 hB100_a (by decide)
  have hB103_s19 : (yup Gc100 a (1, .inr (12, [.ref a5, .ref a16, .ref a27, .ref a38, .ref a49, .ref a61, .ref a72, .ref a85, .ref a96, .int 0]))) s19 = some (139, .inl (aC 0, 60, .inl (fun _ => 0))) := yup_o hB100_s19 hB100_a (by decide)
  have hB103_n20 : (yup Gc100 a (1, .inr (12, [.ref a5, .ref a16, .ref a27, .ref a38, .ref a49, .ref a61, .ref a72, .ref a85, .ref a96, .int 0]))) n20 = some (140, .inr (9, [.ref s20, .int 0])) := yup_o hB100_n20 hB100_a (by decide)
  have hB103_s20 : (yup Gc100 a (1, .inr (12, [.ref a5, .ref a16, .ref a27, .ref a38, .ref a49, .ref a61, .ref a72, .ref a85, .ref a96, .int 0]))) s20 = some (141, .inl (aC 0, 4, .inl (fun _ => 0))) := yup_o hB100_s20 hB100_a (by decide)
  have hB103_n21 : (yup Gc100 a (1, .inr (12, [.ref a5, .ref a16, .ref a27, .ref a38, .ref a49, .ref a61, .ref a72, .ref a85, .ref a96, .int 0]))) n21 = some (142, .inr (9, [.ref s21, .int 0])) := yup_o hB100_n21 hB100_a (by decide)
  have hB103_s21 : (yup Gc100 a (1, .inr (12, [.ref a5, .ref a16, .ref a27, .ref a38, .ref a49, .ref a61, .ref a72, .ref a85, .ref a96, .int 0]))) s21 = some (143, .inl (aC 0, 4, .inl (fun _ => 0))) := yup_o hB100_s21 hB100_a (by decide)
  have hB103_a96 : (yup Gc100 a (1, .inr (12, [.ref a5, .ref a16, .ref a27, .ref a38, .ref a49, .ref a61, .ref a72, .ref a85, .ref a96, .int 0]))) a96 = some (9, .inr (10, [.ref n22, .ref n23])) := yup_o hO100 hB100_a (by decide)
  have hB103_n22 : (yup Gc100 a (1, .inr (12, [.ref a5, .ref a16, .ref a27, .ref a38, .ref a49, .ref a61, .ref a72, .ref a85, .ref a96, .int 0]))) n22 = some (144, .inr (9, [.ref s22, .int 0])) := yup_o hn22_100 hB100_a (by decide)
  have hB103_s22 : (yup Gc100 a (1, .inr (12, [.ref a5, .ref a16, .ref a27, .ref a38, .ref a49, .ref a61, .ref a72, .ref a85, .ref a96, .int 0]))) s22 = some (145, .inl (aC 0, 5, .inl (fun _ => 0))) := yup_o hs22_100 hB100_a (by decide)
  have hB103_n23 : (yup Gc100 a (1, .inr (12, [.ref a5, .ref a16, .ref a27, .ref a38, .ref a49, .ref a61, .ref a72, .ref a85, .ref a96, .int 0]))) n23 = some (146, .inr (9, [.ref s23, .int 0])) := yup_o hn23_100 hB100_a (by decide)
  have hB103_s23 : (yup Gc100 a (1, .inr (12, [.ref a5, .ref a16, .ref a27, .ref a38, .ref a49, .ref a61, .ref a72, .ref a85, .ref a96, .int 0]))) s23 = some (147, .inl (aC 0, 5, .inl (fun _ => 0))) := yup_o hs23_100 hB100_a (by decide)
  have kt103 : yTg (fun t => t = 0 ∨ 200 ≤ t) G (yup Gc100 a (1, .inr (12, [.ref a5, .ref a16, .ref a27, .ref a38, .ref a49, .ref a61, .ref a72, .ref a85, .ref a96, .int 0]))) := (kt100).trans (yTg.up hB100_a (by decide))
  show Y l S0 D K_X8_init 20 60 2100 (fun r G1 => r = none ∧ ∃ (ad : Nat → Nat) (σ : XS), atX aC ad G1 σ ∧ ad 1 = a ∧ xini σ ∧ keepX G G1) (fun _ _ => False) (103 + 3) [(0, .ref a)] [] (yup Gc100 a (1, .inr (12, [.ref a5, .ref a16, .ref a27, .ref a38, .ref a49, .ref a61, .ref a72, .ref a85, .ref a96, .int 0]))) 4 65
  generalize yup Gc100 a (1, .inr (12, [.ref a5, .ref a16, .ref a27, .ref a38, .ref a49, .ref a61, .ref a72, .ref a85, .ref a96, .int 0])) = G103 at hA103 hB103_a5 hB103_vw hB103_a16 hB103_n0 hB103_s0 hB103_n1 hB103_s1 hB103_n2 hB103_s2 hB103_a27 hB103_n3 hB103_s3 hB103_n4 hB103_s4 hB103_a38 hB103_n5 hB103_s5 hB103_n6 hB103_s6 hB103_n7 hB103_s7 hB103_n8 hB103_s8 hB103_n9 hB103_s9 hB103_a49 hB103_r54 hB103_a61 hB103_n11 hB103_s11 hB103_n12 hB103_s12 hB103_n13 hB103_s13 hB103_n14 hB103_s14 hB103_a72 hB103_r78 hB103_a85 hB103_n16 hB103_s16 hB103_n17 hB103_s17 hB103_n18 hB103_s18 hB103_n19 hB103_s19 hB103_n20 hB103_s20 hB103_n21 hB103_s21 hB103_a96 hB103_n22 hB103_s22 hB103_n23 hB103_s23 kt103 ⊢
  refine y_blk 1 tq_X8_init (z := (107, [(0, .ref a)], [.ref a])) rfl ?_
  refine y_get hS tq_X8_init (v := .ref a61) rfl fg_X8_49_X8 hA103 rfl ?_
  refine y_blk 1 tq_X8_init (z := (111, [(0, .ref a)], [.int 0, .ref a61])) rfl ?_
  obtain ⟨ad, σ, hX, hd1, hd7, hd130, hk0⟩ := yXmk (G := G103) (na := (fun k => ([n0, n1, n2, n3, n4, n5, n6, n7, n8, n9, a49, n11, n12, n13, n14, a72, n16, n17, n18, n19, n20, n21, n22, n23] : List Nat).getD k 0)) (ra := (fun k => ([s0, s1, s2, s3, s4, s5, s6, s7, s8, s9, r54, s11, s12, s13, s14, r78, s16, s17, s18, s19, s20, s21, s22, s23] : List Nat).getD k 0)) (fun k hk => match k, hk with | 0, _ => hB103_n0 | 1, _ => hB103_n1 | 2, _ => hB103_n2 | 3, _ => hB103_n3 | 4, _ => hB103_n4 | 5, _ => hB103_n5 | 6, _ => hB103_n6 | 7, _ => hB103_n7 | 8, _ => hB103_n8 | 9, _ => hB103_n9 | 10, _ => hB103_a49 | 11, _ => hB103_n11 | 12, _ => hB103_n12 | 13, _ => hB103_n13 | 14, _ => hB103_n14 | 15, _ => hB103_a72 | 16, _ => hB103_n16 | 17, _ => hB103_n17 | 18, _ => hB103_n18 | 19, _ => hB103_n19 | 20, _ => hB103_n20 | 21, _ => hB103_n21 | 22, _ => hB103_n22 | 23, _ => hB103_n23 | k + 24, h9 => absurd h9 (by omega)) (fun k hk => match k, hk with | 0, _ => hB103_s0 | 1, _ => hB103_s1 | 2, _ => hB103_s2 | 3, _ => hB103_s3 | 4, _ => hB103_s4 | 5, _ => hB103_s5 | 6, _ => hB103_s6 | 7, _ => hB103_s7 | 8, _ => hB103_s8 | 9, _ => hB103_s9 | 10, _ => hB103_r54 | 11, _ => hB103_s11 | 12, _ => hB103_s12 | 13, _ => hB103_s13 | 14, _ => hB103_s14 | 15, _ => hB103_r78 | 16, _ => hB103_s16 | 17, _ => hB103_s17 | 18, _ => hB103_s18 | 19, _ => hB103_s19 | 20, _ => hB103_s20 | 21, _ => hB103_s21 | 22, _ => hB103_s22 | 23, _ => hB103_s23 | k + 24, h9 => absurd h9 (by omega)) hA103 hB103_a5 hB103_vw hB103_a16 hB103_a27 hB103_a38 hB103_a61 hB103_a85 hB103_a96
  refine y_callV hS tq_X8_init rfl (As := [.int 0]) rfl cv_X8_70 hB103_a61 (yM.eq hd7 (m_X7_tell hS hX 0)) rfl (by decide) (Nat.le_of_ble_eq_true rfl) (fun r111 Gc111 q111 => ?_) (fun _ _ h9 => h9.elim)
  obtain ⟨rfl, σ1, hX1, hk1, hn1, hw1⟩ := q111
  have ha1 : Gc111 a = some (1, xobj ad σ1) := by
    have h9 := hX1.1 1 _ rfl
    rw [hd1] at h9
    exact h9
  refine y_blk 1 tq_X8_init (z := (115, [(0, .ref a)], [.ref a])) rfl ?_
  refine y_get hS tq_X8_init (v := .ref (ad 130)) rfl fg_X8_53_X8 ha1 rfl ?_
  refine y_blk 1 tq_X8_init (z := (119, [(0, .ref a)], [.int (-1), .ref (ad 130)])) rfl ?_
  refine y_callV hS tq_X8_init rfl (As := [.int (-1)]) rfl cv_X8_73 (hX1.num (k := 15) (by decide)) (m_X5_fill hS hX1 (k := 15) (by decide) (-1) (fun e => absurd e (by decide))) rfl (by decide) (Nat.le_of_ble_eq_true rfl) (fun r119 Gc119 q119 => ?_) (fun _ _ h9 => h9.elim)
  obtain ⟨rfl, σ2, hX2, hk2, hn2, hf2⟩ := q119
  exact y_vret tq_X8_init rfl rfl ⟨rfl, ad, σ2, hX2, hd1, ⟨(xkn.trans (hk0 ▸ hn1) hn2).w, hn2.nw hw1.1.1, hn2.i hw1.2, fun i hi => hf2.2 i (by rw [show xcap 15 = 6 from by decide]; exact hi)⟩, fun q t e hq ht => hk2 _ _ _ (hk1 _ _ _ (kt103 _ _ _ hq ht) ht) ht⟩
