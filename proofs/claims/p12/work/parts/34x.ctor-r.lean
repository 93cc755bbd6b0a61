/-! ===== the reference's constructor ===== -/
def ρ00 : RS := (fun j => if j = 4 then -1 else 0, fun _ => 0, fun _ => false, fun _ => 0, fun _ _ => 0, fun _ _ => 0)
theorem yRmk {aC : Nat → ClassId} {ic : Int32 → Nat} {de : Nat} {G : AH} {a k w q l0 l1 l2 l3 l4 l5 l6 : Nat}
    (h0 : G a = some (200, .inr (16, [.int 0, .int 0, .int 0, .ref k, .int 0, .int (-1), .ref l0, .ref l1, .ref l2, .ref l3, .int 0, .int 0, .int 0, .ref w, .ref l4, .int 0, .ref q, .ref l5, .ref l6, .int 0])))
    (h1 : G k = some (201, .inl (aC 0, 0, .inl (fun _ => 0)))) (h2 : G w = some (202, .inl (aC 0, 4, .inl (fun _ => 0)))) (h3 : G q = some (203, .inl (aC 0, 6, .inl (fun _ => 0))))
    (g0 : G l0 = some (210, .inr (3, [.int 0, .ref de, .int 0]))) (g1 : G l1 = some (211, .inr (3, [.int 0, .ref de, .int 0]))) (g2 : G l2 = some (212, .inr (3, [.int 0, .ref de, .int 0]))) (g3 : G l3 = some (213, .inr (3, [.int 0, .ref de, .int 0]))) (g4 : G l4 = some (214, .inr (3, [.int 0, .ref de, .int 0]))) (g5 : G l5 = some (215, .inr (3, [.int 0, .ref de, .int 0]))) (g6 : G l6 = some (216, .inr (3, [.int 0, .ref de, .int 0]))) :
    ∃ ad : Nat → Nat, atH aC ic de ad G ρ00 ∧ ad 200 = a := by
  refine ⟨fun t => if t = 200 then a else if t = 201 then k else if t = 202 then w else if t = 203 then q else if t = 210 then l0 else if t = 211 then l1 else if t = 212 then l2 else if t = 213 then l3 else if t = 214 then l4 else if t = 215 then l5 else if t = 216 then l6 else de, ⟨h0, h1, h2, h3, fun lt q1 q2 => ?_, fun k q => absurd q (Nat.not_lt_zero _), fun k q => absurd q (Nat.not_lt_zero _), fun k q => absurd q (Nat.not_lt_zero _), fun k q => absurd q (Nat.not_lt_zero _), fun k q => absurd q (Nat.not_lt_zero _)⟩, rfl⟩
  have h9 : lt = 210 ∨ lt = 211 ∨ lt = 212 ∨ lt = 213 ∨ lt = 214 ∨ lt = 215 ∨ lt = 216 := by omega
  rcases h9 with rfl | rfl | rfl | rfl | rfl | rfl | rfl
  · exact ⟨g0, Or.inr ⟨rfl, rfl, rfl⟩⟩
  · exact ⟨g1, Or.inr ⟨rfl, rfl, rfl⟩⟩
  · exact ⟨g2, Or.inr ⟨rfl, rfl, rfl⟩⟩
  · exact ⟨g3, Or.inr ⟨rfl, rfl, rfl⟩⟩
  · exact ⟨g4, Or.inr ⟨rfl, rfl, rfl⟩⟩
  · exact ⟨g5, Or.inr ⟨rfl, rfl, rfl⟩⟩
  · exact ⟨g6, Or.inr ⟨rfl, rfl, rfl⟩⟩
theorem rb00 : rsz ρ00 ∧ rbK ρ00 ∧ (∀ k : Nat, rsm (rV ρ00 202 k)) := by
  refine ⟨⟨by decide, by decide, by decide, by decide, by decide, by decide, by decide⟩, ⟨Or.inl ⟨rfl, rfl⟩, ⟨by decide, by decide, by decide, by decide, by decide, by decide, by decide⟩, fun k q => absurd q (Nat.not_lt_zero _), fun k q => absurd q (Nat.not_lt_zero _), fun k q => absurd q (Nat.not_lt_zero _), fun k q => absurd q (Nat.not_lt_zero _)⟩, fun k => ⟨?_, ?_⟩⟩
  · show -128 ≤ (0 : Int32).toInt
    decide
  · show (0 : Int32).toInt ≤ 127
    decide
/-- what a new night of the reference is like -/
def rini (ρ : RS) : Prop := (∀ t : Nat, 210 ≤ t → t < 217 → rZ ρ t = 0) ∧ rZ ρ 201 = 0 ∧ (rI ρ 3 = 0 ∧ rI ρ 4 = -1 ∧ rI ρ 9 = 0 ∧ rI ρ 1 = 0 ∧ rI ρ 2 = 0) ∧ ∀ i : Nat, i < 6 → rV ρ 203 i = -1
theorem rini.of {ρ : RS} (h : rBeg ρ00 ρ) : rini ρ := by
  obtain ⟨⟨b1, b2, b3, b4, b5⟩, c8, c214, ⟨d1, d2⟩, -⟩ := h
  refine ⟨fun t h1 h2 => ?_, b3 201 (by decide), ⟨b1 3 (by decide) (by decide) (by decide) (by decide), b1 4 (by decide) (by decide) (by decide) (by decide), b1 9 (by decide) (by decide) (by decide) (by decide), b1 1 (by decide) (by decide) (by decide) (by decide), b1 2 (by decide) (by decide) (by decide) (by decide)⟩, d2 rfl⟩
  by_cases q : t = 214
  · rw [q]
    exact c214
  · exact b3 t q
set_option maxHeartbeats 4000000 in
set_option maxRecDepth 100000 in
theorem m_X12_init {l : Launch} {S0 : State} {A0 : Array Value} {D : va_G} {aC : Nat → ClassId} {ic : Int32 → Nat} {de : Nat} {G : AH} (hS : yS l S0 A0 D aC) (hI : yIc S0 ic de) {a : Nat} (h : G a = some (200, .inr (16, [.int 0, .int 0, .int 0, .null, .int 0, .int 0, .null, .null, .null, .null, .int 0, .int 0, .int 0, .null, .null, .int 0, .null, .null, .null, .int 0]))) : yM l S0 D yX12_init cX12_init 1 none 18 11 34 [.ref a] G (fun r G1 => r = none ∧ ∃ (ad : Nat → Nat) (ρ : RS), atR aC ic de ad G1 ρ ∧ ad 200 = a ∧ yTg kR G G1 ∧ rini ρ ∧ rNew 0 0 ρ) (fun _ _ => False) := by
  refine yM.ofK K_X12_init rfl (by decide) (Nat.le_of_ble_eq_true rfl) ?_
  refine y_blk 1 tq_X12_init (z := (1, [(0, .ref a)], [.ref a])) rfl ?_
  refine y_objInit hS tq_X12_init rfl ⟨by decide +kernel, by decide +kernel⟩ (by decide) (by decide) ?_
  refine y_blk 2 tq_X12_init (z := (6, [(0, .ref a)], [.int 0, .ref a])) rfl ?_
  refine y_newa_int 201 hS tq_X12_init (kc := 10) (ks := 34) (n := 0) rfl wd_176 (by decide) (by decide) (by decide) (fun a6 hne6 => ?_)
  have hle6 : yLe G (yup G a6 (201, .inl (aC 0, 0, .inl (fun _ => 0)))) := yLe.new hne6
  have hA6 : (yup G a6 (201, .inl (aC 0, 0, .inl (fun _ => 0)))) a6 = some (201, .inl (aC 0, 0, .inl (fun _ => 0))) := yup_s _ _ _
  have hB6_a : (yup G a6 (201, .inl (aC 0, 0, .inl (fun _ => 0)))) a = some (200, .inr (16, [.int 0, .int 0, .int 0, .null, .int 0, .int 0, .null, .null, .null, .null, .int 0, .int 0, .int 0, .null, .null, .int 0, .null, .null, .null, .int 0])) := hle6 _ _ h
  have kt6 : yTg kR G (yup G a6 (201, .inl (aC 0, 0, .inl (fun _ => 0)))) := ((yTg.rfl' (f := kR) (G := G))).trans (yTg.le hle6)
  generalize yup G a6 (201, .inl (aC 0, 0, .inl (fun _ => 0))) = G6 at hle6 hA6 hB6_a kt6 ⊢
  refine y_blk 0 tq_X12_init (z := (8, [(0, .ref a)], [.ref a6, .ref a])) rfl ?_
  refine y_put hS tq_X12_init rfl fp_X12_7_X12 hB6_a (by omega) rfl rfl (Nat.le_of_ble_eq_true rfl) ?_
  have hA8 : (yup G6 a (200, .inr (16, [.int 0, .int 0, .int 0, .ref a6, .int 0, .int 0, .null, .null, .null, .null, .int 0, .int 0, .int 0, .null, .null, .int 0, .null, .null, .null, .int 0]))) a = some (200, .inr (16, [.int 0, .int 0, .int 0, .ref a6, .int 0, .int 0, .null, .null, .null, .null, .int 0, .int 0, .int 0, .null, .null, .int 0, .null, .null, .null, .int 0])) := yup_s _ _ _
  have hB8_a6 : (yup G6 a (200, .inr (16, [.int 0, .int 0, .int 0, .ref a6, .int 0, .int 0, .null, .null, .null, .null, .int 0, .int 0, .int 0, .null, .null, .int 0, .null, .null, .null, .int 0]))) a6 = some (201, .inl (aC 0, 0, .inl (fun _ => 0))) := yup_o hA6 hB6_a (by decide)
  have kt8 : yTg kR G (yup G6 a (200, .inr (16, [.int 0, .int 0, .int 0, .ref a6, .int 0, .int 0, .null, .null, .null, .null, .int 0, .int 0, .int 0, .null, .null, .int 0, .null, .null, .null, .int 0]))) := (kt6).trans (yTg.up hB6_a (by decide))
  show Y l S0 D K_X12_init 18 11 34 (fun r G1 => r = none ∧ ∃ (ad : Nat → Nat) (ρ : RS), atR aC ic de ad G1 ρ ∧ ad 200 = a ∧ yTg kR G G1 ∧ rini ρ ∧ rNew 0 0 ρ) (fun _ _ => False) (8 + 3) [(0, .ref a)] [] (yup G6 a (200, .inr (16, [.int 0, .int 0, .int 0, .ref a6, .int 0, .int 0, .null, .null, .null, .null, .int 0, .int 0, .int 0, .null, .null, .int 0, .null, .null, .null, .int 0]))) 10 34
  generalize yup G6 a (200, .inr (16, [.int 0, .int 0, .int 0, .ref a6, .int 0, .int 0, .null, .null, .null, .null, .int 0, .int 0, .int 0, .null, .null, .int 0, .null, .null, .null, .int 0])) = G8 at hA8 hB8_a6 kt8 ⊢
  refine y_blk 2 tq_X12_init (z := (13, [(0, .ref a)], [.int (-1), .ref a])) rfl ?_
  refine y_put hS tq_X12_init rfl fp_X12_13_X12 hA8 (by omega) rfl rfl (Nat.le_of_ble_eq_true rfl) ?_
  have hA13 : (yup G8 a (200, .inr (16, [.int 0, .int 0, .int 0, .ref a6, .int 0, .int (-1), .null, .null, .null, .null, .int 0, .int 0, .int 0, .null, .null, .int 0, .null, .null, .null, .int 0]))) a = some (200, .inr (16, [.int 0, .int 0, .int 0, .ref a6, .int 0, .int (-1), .null, .null, .null, .null, .int 0, .int 0, .int 0, .null, .null, .int 0, .null, .null, .null, .int 0])) := yup_s _ _ _
  have hB13_a6 : (yup G8 a (200, .inr (16, [.int 0, .int 0, .int 0, .ref a6, .int 0, .int (-1), .null, .null, .null, .null, .int 0, .int 0, .int 0, .null, .null, .int 0, .null, .null, .null, .int 0]))) a6 = some (201, .inl (aC 0, 0, .inl (fun _ => 0))) := yup_o hB8_a6 hA8 (by decide)
  have kt13 : yTg kR G (yup G8 a (200, .inr (16, [.int 0, .int 0, .int 0, .ref a6, .int 0, .int (-1), .null, .null, .null, .null, .int 0, .int 0, .int 0, .null, .null, .int 0, .null, .null, .null, .int 0]))) := (kt8).trans (yTg.up hA8 (by decide))
  show Y l S0 D K_X12_init 18 11 34 (fun r G1 => r = none ∧ ∃ (ad : Nat → Nat) (ρ : RS), atR aC ic de ad G1 ρ ∧ ad 200 = a ∧ yTg kR G G1 ∧ rini ρ ∧ rNew 0 0 ρ) (fun _ _ => False) (13 + 3) [(0, .ref a)] [] (yup G8 a (200, .inr (16, [.int 0, .int 0, .int 0, .ref a6, .int 0, .int (-1), .null, .null, .null, .null, .int 0, .int 0, .int 0, .null, .null, .int 0, .null, .null, .null, .int 0]))) 10 34
  generalize yup G8 a (200, .inr (16, [.int 0, .int 0, .int 0, .ref a6, .int 0, .int (-1), .null, .null, .null, .null, .int 0, .int 0, .int 0, .null, .null, .int 0, .null, .null, .null, .int 0])) = G13 at hA13 hB13_a6 kt13 ⊢
  refine y_blk 1 tq_X12_init (z := (17, [(0, .ref a)], [.ref a])) rfl ?_
  refine y_new 210 hS tq_X12_init (kc := 9) (ks := 31) rfl nw_X12_17 (fun a17 hne17 => ?_)
  have hle17 : yLe G13 (yup G13 a17 (210, .inr (3, [.int 0, .null, .int 0]))) := yLe.new hne17
  have hA17 : (yup G13 a17 (210, .inr (3, [.int 0, .null, .int 0]))) a17 = some (210, .inr (3, [.int 0, .null, .int 0])) := yup_s _ _ _
  have hB17_a6 : (yup G13 a17 (210, .inr (3, [.int 0, .null, .int 0]))) a6 = some (201, .inl (aC 0, 0, .inl (fun _ => 0))) := hle17 _ _ hB13_a6
  have hB17_a : (yup G13 a17 (210, .inr (3, [.int 0, .null, .int 0]))) a = some (200, .inr (16, [.int 0, .int 0, .int 0, .ref a6, .int 0, .int (-1), .null, .null, .null, .null, .int 0, .int 0, .int 0, .null, .null, .int 0, .null, .null, .null, .int 0])) := hle17 _ _ hA13
  have kt17 : yTg kR G (yup G13 a17 (210, .inr (3, [.int 0, .null, .int 0]))) := (kt13).trans (yTg.le hle17)
  generalize yup G13 a17 (210, .inr (3, [.int 0, .null, .int 0])) = G17 at hle17 hA17 hB17_a6 hB17_a kt17 ⊢
  refine y_blk 1 tq_X12_init (z := (21, [(0, .ref a)], [.ref a17, .ref a17, .ref a])) rfl ?_
  refine y_callI hS tq_X12_init rfl (As := []) rfl ci_X12_19 (m_Jinit hS hI (by decide) hA17) rfl (by decide) (Nat.le_of_ble_eq_true rfl) (fun r21 Gc21 q21 => ?_) (fun _ _ h9 => h9.elim)
  obtain ⟨rfl, eG21⟩ := q21
  subst eG21
  have hA21 : (yup G17 a17 (210, .inr (3, [.int 0, .ref de, .int 0]))) a17 = some (210, .inr (3, [.int 0, .ref de, .int 0])) := yup_s _ _ _
  have hB21_a6 : (yup G17 a17 (210, .inr (3, [.int 0, .ref de, .int 0]))) a6 = some (201, .inl (aC 0, 0, .inl (fun _ => 0))) := yup_o hB17_a6 hA17 (by decide)
  have hB21_a : (yup G17 a17 (210, .inr (3, [.int 0, .ref de, .int 0]))) a = some (200, .inr (16, [.int 0, .int 0, .int 0, .ref a6, .int 0, .int (-1), .null, .null, .null, .null, .int 0, .int 0, .int 0, .null, .null, .int 0, .null, .null, .null, .int 0])) := yup_o hB17_a hA17 (by decide)
  have kt21 : yTg kR G (yup G17 a17 (210, .inr (3, [.int 0, .ref de, .int 0]))) := (kt17).trans (yTg.up hA17 (by decide))
  generalize yup G17 a17 (210, .inr (3, [.int 0, .ref de, .int 0])) = G21 at hA21 hB21_a6 hB21_a kt21 ⊢
  refine y_blk 0 tq_X12_init (z := (24, [(0, .ref a)], [.ref a17, .ref a])) rfl ?_
  refine y_put hS tq_X12_init rfl fp_X12_20_X12 hB21_a (by omega) rfl rfl (Nat.le_of_ble_eq_true rfl) ?_
  have hA24 : (yup G21 a (200, .inr (16, [.int 0, .int 0, .int 0, .ref a6, .int 0, .int (-1), .ref a17, .null, .null, .null, .int 0, .int 0, .int 0, .null, .null, .int 0, .null, .null, .null, .int 0]))) a = some (200, .inr (16, [.int 0, .int 0, .int 0, .ref a6, .int 0, .int (-1), .ref a17, .null, .null, .null, .int 0, .int 0, .int 0, .null, .null, .int 0, .null, .null, .null, .int 0])) := yup_s _ _ _
  have hB24_a6 : (yup G21 a (200, .inr (16, [.int 0, .int 0, .int 0, .ref a6, .int 0, .int (-1), .ref a17, .null, .null, .null, .int 0, .int 0, .int 0, .null, .null, .int 0, .null, .null, .null, .int 0]))) a6 = some (201, .inl (aC 0, 0, .inl (fun _ => 0))) := yup_o hB21_a6 hB21_a (by decide)
  have hB24_a17 : (yup G21 a (200, .inr (16, [.int 0, .int 0, .int 0, .ref a6, .int 0, .int (-1), .ref a17, .null, .null, .null, .int 0, .int 0, .int 0, .null, .null, .int 0, .null, .null, .null, .int 0]))) a17 = some (210, .inr (3, [.int 0, .ref de, .int 0])) := yup_o hA21 hB21_a (by decide)
  have kt24 : yTg kR G (yup G21 a (200, .inr (16, [.int 0, .int 0, .int 0, .ref a6, .int 0, .int (-1), .ref a17, .null, .null, .null, .int 0, .int 0, .int 0, .null, .null, .int 0, .null, .null, .null, .int 0]))) := (kt21).trans (yTg.up hB21_a (by decide))
  show Y l S0 D K_X12_init 18 11 34 (fun r G1 => r = none ∧ ∃ (ad : Nat → Nat) (ρ : RS), atR aC ic de ad G1 ρ ∧ ad 200 = a ∧ yTg kR G G1 ∧ rini ρ ∧ rNew 0 0 ρ) (fun _ _ => False) (24 + 3) [(0, .ref a)] [] (yup G21 a (200, .inr (16, [.int 0, .int 0, .int 0, .ref a6, .int 0, .int (-1), .ref a17, .null, .null, .null, .int 0, .int 0, .int 0, .null, .null, .int 0, .null, .null, .null, .int 0]))) 9 31
  generalize yup G21 a (200, .inr (16, [.int 0, .int 0, .int 0, .ref a6, .int 0, .int (-1), .ref a17, .null, .null, .null, .int 0, .int 0, .int 0, .null, .null, .int 0, .null, .null, .null, .int 0])) = G24 at hA24 hB24_a6 hB24_a17 kt24 ⊢
  refine y_blk 1 tq_X12_init (z := (28, [(0, .ref a)], [.ref a])) rfl ?_
  refine y_new 211 hS tq_X12_init (kc := 8) (ks := 28) rfl nw_X12_17 (fun a28 hne28 => ?_)
  have hle28 : yLe G24 (yup G24 a28 (211, .inr (3, [.int 0, .null, .int 0]))) := yLe.new hne28
  have hA28 : (yup G24 a28 (211, .inr (3, [.int 0, .null, .int 0]))) a28 = some (211, .inr (3, [.int 0, .null, .int 0])) := yup_s _ _ _
  have hB28_a6 : (yup G24 a28 (211, .inr (3, [.int 0, .null, .int 0]))) a6 = some (201, .inl (aC 0, 0, .inl (fun _ => 0))) := hle28 _ _ hB24_a6
  have hB28_a17 : (yup G24 a28 (211, .inr (3, [.int 0, .null, .int 0]))) a17 = some (210, .inr (3, [.int 0, .ref de, .int 0])) := hle28 _ _ hB24_a17
  have hB28_a : (yup G24 a28 (211, .inr (3, [.int 0, .null, .int 0]))) a = some (200, .inr (16, [.int 0, .int 0, .int 0, .ref a6, .int 0, .int (-1), .ref a17, .null, .null, .null, .int 0, .int 0, .int 0, .null, .null, .int 0, .null, .null, .null, .int 0])) := hle28 _ _ hA24
  have kt28 : yTg kR G (yup G24 a28 (211, .inr (3, [.int 0, .null, .int 0]))) := (kt24).trans (yTg.le hle28)
  generalize yup G24 a28 (211, .inr (3, [.int 0, .null, .int 0])) = G28 at hle28 hA28 hB28_a6 hB28_a17 hB28_a kt28 ⊢
  refine y_blk 1 tq_X12_init (z := (32, [(0, .ref a)], [.ref a28, .ref a28, .ref a])) rfl ?_
  refine y_callI hS tq_X12_init rfl (As := []) rfl ci_X12_19 (m_Jinit hS hI (by decide) hA28) rfl (by decide) (Nat.le_of_ble_eq_true rfl) (fun r32 Gc32 q32 => ?_) (fun _ _ h9 => h9.elim)
  obtain ⟨rfl, eG32⟩ := q32
  subst eG32
  have hA32 : (yup G28 a28 (211, .inr (3, [.int 0, .ref de, .int 0]))) a28 = some (211, .inr (3, [.int 0, .ref de, .int 0])) := yup_s _ _ _
  have hB32_a6 : (yup G28 a28 (211, .inr (3, [.int 0, .ref de, .int 0]))) a6 = some (201, .inl (aC 0, 0, .inl (fun _ => 0))) := yup_o hB28_a6 hA28 (by decide)
  have hB32_a17 : (yup G28 a28 (211, .inr (3, [.int 0, .ref de, .int 0]))) a17 = some (210, .inr (3, [.int 0, .ref de, .int 0])) := yup_o hB28_a17 hA28 (by decide)
  have hB32_a : (yup G28 a28 (211, .inr (3, [.int 0, .ref de, .int 0]))) a = some (200, .inr (16, [.int 0, .int 0, .int 0, .ref a6, .int 0, .int (-1), .ref a17, .null, .null, .null, .int 0, .int 0, .int 0, .null, .null, .int 0, .null, .null, .null, .int 0])) := yup_o hB28_a hA28 (by decide)
  have kt32 : yTg kR G (yup G28 a28 (211, .inr (3, [.int 0, .ref de, .int 0]))) := (kt28).trans (yTg.up hA28 (by decide))
  generalize yup G28 a28 (211, .inr (3, [.int 0, .ref de, .int 0])) = G32 at hA32 hB32_a6 hB32_a17 hB32_a kt32 ⊢
  refine y_blk 0 tq_X12_init (z := (35, [(0, .ref a)], [.ref a28, .ref a])) rfl ?_
  refine y_put hS tq_X12_init rfl fp_X12_24_X12 hB32_a (by omega) rfl rfl (Nat.le_of_ble_eq_true rfl) ?_
  have hA35 : (yup G32 a (200, .inr (16, [.int 0, .int 0, .int 0, .ref a6, .int 0, .int (-1), .ref a17, .ref a28, .null, .null, .int 0, .int 0, .int 0, .null, .null, .int 0, .null, .null, .null, .int 0]))) a = some (200, .inr (16, [.int 0, .int 0, .int 0, .ref a6, .int 0, .int (-1), .ref a17, .ref a28, .null, .null, .int 0, .int 0, .int 0, .null, .null, .int 0, .null, .null, .null, .int 0])) := yup_s _ _ _
  have hB35_a6 : (yup G32 a (200, .inr (16, [.int 0, .int 0, .int 0, .ref a6, .int 0, .int (-1), .ref a17, .ref a28, .null, .null, .int 0, .int 0, .int 0, .null, .null, .int 0, .null, .null, .null, .int 0]))) a6 = some (201, .inl (aC 0, 0, .inl (fun _ => 0))) := yup_o hB32_a6 hB32_a (by decide)
  have hB35_a17 : (yup G32 a (200, .inr (16, [.int 0, .int 0, .int 0, .ref a6, .int 0, .int (-1), .ref a17, .ref a28, .null, .null, .int 0, .int 0, .int 0, .null, .null, .int 0, .null, .null, .null, .int 0]))) a17 = some (210, .inr (3, [.int 0, .ref de, .int 0])) := yup_o hB32_a17 hB32_a (by decide)
  have hB35_a28 : (yup G32 a (200, .inr (16, [.int 0, .int 0, .int 0, .ref a6, .int 0, .int (-1), .ref a17, .ref a28, .null, .null, .int 0, .int 0, .int 0, .null, .null, .int 0, .null, .null, .null, .int 0]))) a28 = some (211, .inr (3, [.int 0, .ref de, .int 0])) := yup_o hA32 hB32_a (by decide)
  have kt35 : yTg kR G (yup G32 a (200, .inr (16, [.int 0, .int 0, .int 0, .ref a6, .int 0, .int (-1), .ref a17, .ref a28, .null, .null, .int 0, .int 0, .int 0, .null, .null, .int 0, .null, .null, .null, .int 0]))) := (kt32).trans (yTg.up hB32_a (by decide))
  show Y l S0 D K_X12_init 18 11 34 (fun r G1 => r = none ∧ ∃ (ad : Nat → Nat) (ρ : RS), atR aC ic de ad G1 ρ ∧ ad 200 = a ∧ yTg kR G G1 ∧ rini ρ ∧ rNew 0 0 ρ) (fun _ _ => False) (35 + 3) [(0, .ref a)] [] (yup G32 a (200, .inr (16, [.int 0, .int 0, .int 0, .ref a6, .int 0, .int (-1), .ref a17, .ref a28, .null, .null, .int 0, .int 0, .int 0, .null, .null, .int 0, .null, .null, .null, .int 0]))) 8 28
  generalize yup G32 a (200, .inr (16, [.int 0, .int 0, .int 0, .ref a6, .int 0, .int (-1), .ref a17, .ref a28, .null, .null, .int 0, .int 0, .int 0, .null, .null, .int 0, .null, .null, .null, .int 0])) = G35 at hA35 hB35_a6 hB35_a17 hB35_a28 kt35 ⊢
  refine y_blk 1 tq_X12_init (z := (39, [(0, .ref a)], [.ref a])) rfl ?_
  refine y_new 212 hS tq_X12_init (kc := 7) (ks := 25) rfl nw_X12_17 (fun a39 hne39 => ?_)
  have hle39 : yLe G35 (yup G35 a39 (212, .inr (3, [.int 0, .null, .int 0]))) := yLe.new hne39
  have hA39 : (yup G35 a39 (212, .inr (3, [.int 0, .null, .int 0]))) a39 = some (212, .inr (3, [.int 0, .null, .int 0])) := yup_s _ _ _
  have hB39_a6 : (yup G35 a39 (212, .inr (3, [.int 0, .null, .int 0]))) a6 = some (201, .inl (aC 0, 0, .inl (fun _ => 0))) := hle39 _ _ hB35_a6
  have hB39_a17 : (yup G35 a39 (212, .inr (3, [.int 0, .null, .int 0]))) a17 = some (210, .inr (3, [.int 0, .ref de, .int 0])) := hle39 _ _ hB35_a17
  have hB39_a28 : (yup G35 a39 (212, .inr (3, [.int 0, .null, .int 0]))) a28 = some (211, .inr (3, [.int 0, .ref de, .int 0])) := hle39 _ _ hB35_a28
  have hB39_a : (yup G35 a39 (212, .inr (3, [.int 0, .null, .int 0]))) a = some (200, .inr (16, [.int 0, .int 0, .int 0, .ref a6, .int 0, .int (-1), .ref a17, .ref a28, .null, .null, .int 0, .int 0, .int 0, .null, .null, .int 0, .null, .null, .null, .int 0])) := hle39 _ _ hA35
  have kt39 : yTg kR G (yup G35 a39 (212, .inr (3, [.int 0, .null, .int 0]))) := (kt35).trans (yTg.le hle39)
  generalize yup G35 a39 (212, .inr (3, [.int 0, .null, .int 0])) = G39 at hle39 hA39 hB39_a6 hB39_a17 hB39_a28 hB39_a kt39 ⊢
  refine y_blk 1 tq_X12_init (z := (43, [(0, .ref a)], [.ref a39, .ref a39, .ref a])) rfl ?_
  refine y_callI hS tq_X12_init rfl (As := []) rfl ci_X12_19 (m_Jinit hS hI (by decide) hA39) rfl (by decide) (Nat.le_of_ble_eq_true rfl) (fun r43 Gc43 q43 => ?_) (fun _ _ h9 => h9.elim)
  obtain ⟨rfl, eG43⟩ := q43
  subst eG43
  have hA43 : (yup G39 a39 (212, .inr (3, [.int 0, .ref de, .int 0]))) a39 = some (212, .inr (3, [.int 0, .ref de, .int 0])) := yup_s _ _ _
  have hB43_a6 : (yup G39 a39 (212, .inr (3, [.int 0, .ref de, .int 0]))) a6 = some (201, .inl (aC 0, 0, .inl (fun _ => 0))) := yup_o hB39_a6 hA39 (by decide)
  have hB43_a17 : (yup G39 a39 (212, .inr (3, [.int 0, .ref de, .int 0]))) a17 = some (210, .inr (3, [.int 0, .ref de, .int 0])) := yup_o hB39_a17 hA39 (by decide)
  have hB43_a28 : (yup G39 a39 (212, .inr (3, [.int 0, .ref de, .int 0]))) a28 = some (211, .inr (3, [.int 0, .ref de, .int 0])) := yup_o hB39_a28 hA39 (by decide)
  have hB43_a : (yup G39 a39 (212, .inr (3, [.int 0, .ref de, .int 0]))) a = some (200, .inr (16, [.int 0, .int 0, .int 0, .ref a6, .int 0, .int (-1), .ref a17, .ref a28, .null, .null, .int 0, .int 0, .int 0, .null, .null, .int 0, .null, .null, .null, .int 0])) := yup_o hB39_a hA39 (by decide)
  have kt43 : yTg kR G (yup G39 a39 (212, .inr (3, [.int 0, .ref de, .int 0]))) := (kt39).trans (yTg.up hA39 (by decide))
  generalize yup G39 a39 (212, .inr (3, [.int 0, .ref de, .int 0])) = G43 at hA43 hB43_a6 hB43_a17 hB43_a28 hB43_a kt43 ⊢
  refine y_blk 0 tq_X12_init (z := (46, [(0, .ref a)], [.ref a39, .ref a])) rfl ?_
  refine y_put hS tq_X12_init rfl fp_X12_27_X12 hB43_a (by omega) rfl rfl (Nat.le_of_ble_eq_true rfl) ?_
  have hA46 : (yup G43 a (200, .inr (16, [.int 0, .int 0, .int 0, .ref a6, .int 0, .int (-1), .ref a17, .ref a28, .ref a39, .null, .int 0, .int 0, .int 0, .null, .null, .int 0, .null, .null, .null, .int 0]))) a = some (200, .inr (16, [.int 0, .int 0, .int 0, .ref a6, .int 0, .int (-1), .ref a17, .ref a28, .ref a39, .null, .int 0, .int 0, .int 0, .null, .null, .int 0, .null, .null, .null, .int 0])) := yup_s _ _ _
  have hB46_a6 : (yup G43 a (200, .inr (16, [.int 0, .int 0, .int 0, .ref a6, .int 0, .int (-1), .ref a17, .ref a28, .ref a39, .null, .int 0, .int 0, .int 0, .null, .null, .int 0, .null, .null, .null, .int 0]))) a6 = some (201, .inl (aC 0, 0, .inl (fun _ => 0))) := yup_o hB43_a6 hB43_a (by decide)
  have hB46_a17 : (yup G43 a (200, .inr (16, [.int 0, .int 0, .int 0, .ref a6, .int 0, .int (-1), .ref a17, .ref a28, .ref a39, .null, .int 0, .int 0, .int 0, .null, .null, .int 0, .null, .null, .null, .int 0]))) a17 = some (210, .inr (3, [.int 0, .ref de, .int 0])) := yup_o hB43_a17 hB43_a (by decide)
  have hB46_a28 : (yup G43 a (200, .inr (16, [.int 0, .int 0, .int 0, .ref a6, .int 0, .int (-1), .ref a17, .ref a28, .ref a39, .null, .int 0, .int 0, .int 0, .null, .null, .int 0, .null, .null, .null, .int 0]))) a28 = some (211, .inr (3, [.int 0, .ref de, .int 0])) := yup_o hB43_a28 hB43_a (by decide)
  have hB46_a39 : (yup G43 a (200, .inr (16, [.int 0, .int 0, .int 0, .ref a6, .int 0, .int (-1), .ref a17, .ref a28, .ref a39, .null, .int 0, .int 0, .int 0, .null, .null, .int 0, .null, .null, .null, .int 0]))) a39 = some (212, .inr (3, [.int 0, .ref de, .int 0])) := yup_o hA43 hB43_a (by decide)
  have kt46 : yTg kR G (yup G43 a (200, .inr (16, [.int 0, .int 0, .int 0, .ref a6, .int 0, .int (-1), .ref a17, .ref a28, .ref a39, .null, .int 0, .int 0, .int 0, .null, .null, .int 0, .null, .null, .null, .int 0]))) := (kt43).trans (yTg.up hB43_a (by decide))
  show Y l S0 D K_X12_init 18 11 34 (fun r G1 => r = none ∧ ∃ (ad : Nat → Nat) (ρ : RS), atR aC ic de ad G1 ρ ∧ ad 200 = a ∧ yTg kR G G1 ∧ rini ρ ∧ rNew 0 0 ρ) (fun _ _ => False) (46 + 3) [(0, .ref a)] [] (yup G43 a (200, .inr (16, [.int 0, .int 0, .int 0, .ref a6, .int 0, .int (-1), .ref a17, .ref a28, .ref a39, .null, .int 0, .int 0, .int 0, .null, .null, .int 0, .null, .null, .null, .int 0]))) 7 25
  generalize yup G43 a (200, .inr (16, [.int 0, .int 0, .int 0, .ref a6, .int 0, .int (-1), .ref a17, .ref a28, .ref a39, .null, .int 0, .int 0, .int 0, .null, .null, .int 0, .null, .null, .null, .int 0])) = G46 at hA46 hB46_a6 hB46_a17 hB46_a28 hB46_a39 kt46 ⊢
  refine y_blk 1 tq_X12_init (z := (50, [(0, .ref a)], [.ref a])) rfl ?_
  refine y_new 213 hS tq_X12_init (kc := 6) (ks := 22) rfl nw_X12_17 (fun a50 hne50 => ?_)
  have hle50 : yLe G46 (yup G46 a50 (213, .inr (3, [.int 0, .null, .int 0]))) := yLe.new hne50
  have hA50 : (yup G46 a50 (213, .inr (3, [.int 0, .null, .int 0]))) a50 = some (213, .inr (3, [.int 0, .null, .int 0])) := yup_s _ _ _
  have hB50_a6 : (yup G46 a50 (213, .inr (3, [.int 0, .null, .int 0]))) a6 = some (201, .inl (aC 0, 0, .inl (fun _ => 0))) := hle50 _ _ hB46_a6
  have hB50_a17 : (yup G46 a50 (213, .inr (3, [.int 0, .null, .int 0]))) a17 = some (210, .inr (3, [.int 0, .ref de, .int 0])) := hle50 _ _ hB46_a17
  have hB50_a28 : (yup G46 a50 (213, .inr (3, [.int 0, .null, .int 0]))) a28 = some (211, .inr (3, [.int 0, .ref de, .int 0])) := hle50 _ _ hB46_a28
  have hB50_a39 : (yup G46 a50 (213, .inr (3, [.int 0, .null, .int 0]))) a39 = some (212, .inr (3, [.int 0, .ref de, .int 0])) := hle50 _ _ hB46_a39
  have hB50_a : (yup G46 a50 (213, .inr (3, [.int 0, .null, .int 0]))) a = some (200, .inr (16, [.int 0, .int 0, .int 0, .ref a6, .int 0, .int (-1), .ref a17, .ref a28, .ref a39, .null, .int 0, .int 0, .int 0, .null, .null, .int 0, .null, .null, .null, .int 0])) := hle50 _ _ hA46
  have kt50 : yTg kR G (yup G46 a50 (213, .inr (3, [.int 0, .null, .int 0]))) := (kt46).trans (yTg.le hle50)
  generalize yup G46 a50 (213, .inr (3, [.int 0, .null, .int 0])) = G50 at hle50 hA50 hB50_a6 hB50_a17 hB50_a28 hB50_a39 hB50_a kt50 ⊢
  refine y_blk 1 tq_X12_init (z := (54, [(0, .ref a)], [.ref a50, .ref a50, .ref a])) rfl ?_
  refine y_callI hS tq_X12_init rfl (As := []) rfl ci_X12_19 (m_Jinit hS hI (by decide) hA50) rfl (by decide) (Nat.le_of_ble_eq_true rfl) (fun r54 Gc54 q54 => ?_) (fun _ _ h9 => h9.elim)
  obtain ⟨rfl, eG54⟩ := q54
  subst eG54
  have hA54 : (yup G50 a50 (213, .inr (3, [.int 0, .ref de, .int 0]))) a50 = some (213, .inr (3, [.int 0, .ref de, .int 0])) := yup_s _ _ _
  have hB54_a6 : (yup G50 a50 (213, .inr (3, [.int 0, .ref de, .int 0]))) a6 = some (201, .inl (aC 0, 0, .inl (fun _ => 0))) := yup_o hB50_a6 hA50 (by decide)
  have hB54_a17 : (yup G50 a50 (213, .inr (3, [.int 0, .ref de, .int 0]))) a17 = some (210, .inr (3, [.int 0, .ref de, .int 0])) := yup_o hB50_a17 hA50 (by decide)
  have hB54_a28 : (yup G50 a50 (213, .inr (3, [.int 0, .ref de, .int 0]))) a28 = some (211, .inr (3, [.int 0, .ref de, .int 0])) := yup_o hB50_a28 hA50 (by decide)
  have hB54_a39 : (yup G50 a50 (213, .inr (3, [.int 0, .ref de, .int 0]))) a39 = some (212, .inr (3, [.int 0, .ref de, .int 0])) := yup_o hB50_a39 hA50 (by decide)
  have hB54_a : (yup G50 a50 (213, .inr (3, [.int 0, .ref de, .int 0]))) a = some (200, .inr (16, [.int 0, .int 0, .int 0, .ref a6, .int 0, .int (-1), .ref a17, .ref a28, .ref a39, .null, .int 0, .int 0, .int 0, .null, .null, .int 0, .null, .null, .null, .int 0])) := yup_o hB50_a hA50 (by decide)
  have kt54 : yTg kR G (yup G50 a50 (213, .inr (3, [.int 0, .ref de, .int 0]))) := (kt50).trans (yTg.up hA50 (by decide))
  generalize yup G50 a50 (213, .inr (3, [.int 0, .ref de, .int 0])) = G54 at hA54 hB54_a6 hB54_a17 hB54_a28 hB54_a39 hB54_a kt54 ⊢
  refine y_blk 0 tq_X12_init (z := (57, [(0, .ref a)], [.ref a50, .ref a])) rfl ?_
  refine y_put hS tq_X12_init rfl fp_X12_30_X12 hB54_a (by omega) rfl rfl (Nat.le_of_ble_eq_true rfl) ?_
  have hA57 : (yup G54 a (200, .inr (16, [.int 0, .int 0, .int 0, .ref a6, .int 0, .int (-1), .ref a17, .ref a28, .ref a39, .ref a50, .int 0, .int 0, .int 0, .null, .null, .int 0, .null, .null, .null, .int 0]))) a = some (200, .inr (16, [.int 0, .int 0, .int 0, .ref a6, .int 0, .int (-1), .ref a17, .ref a28, .ref a39, .ref a50, .int 0, .int 0, .int 0, .null, .null, .int 0, .null, .null, .null, .int 0])) := yup_s _ _ _
  have hB57_a6 : (yup G54 a (200, .inr (16, [.int 0, .int 0, .int 0, .ref a6, .int 0, .int (-1), .ref a17, .ref a28, .ref a39, .ref a50, .int 0, .int 0, .int 0, .null, .null, .int 0, .null, .null, .null, .int 0]))) a6 = some (201, .inl (aC 0, 0, .inl (fun _ => 0))) := yup_o hB54_a6 hB54_a (by decide)
  have hB57_a17 : (yup G54 a (200, .inr (16, [.int 0, .int 0, .int 0, .ref a6, .int 0, .int (-1), .ref a17, .ref a28, .ref a39, .ref a50, .int 0, .int 0, .int 0, .null, .null, .int 0, .null, .null, .null, .int 0]))) a17 = some (210, .inr (3, [.int 0, .ref de, .int 0])) := yup_o hB54_a17 hB54_a (by decide)
  have hB57_a28 : (yup G54 a (200, .inr (16, [.int 0, .int 0, .int 0, .ref a6, .int 0, .int (-1), .ref a17, .ref a28, .ref a39, .ref a50, .int 0, .int 0, .int 0, .null, .null, .int 0, .null, .null, .null, .int 0]))) a28 = some (211, .inr (3, [.int 0, .ref de, .int 0])) := yup_o hB54_a28 hB54_a (by decide)
  have hB57_a39 : (yup G54 a (200, .inr (16, [.int 0, .int 0, .int 0, .ref a6, .int 0, .int (-1), .ref a17, .ref a28, .ref a39, .ref a50, .int 0, .int 0, .int 0, .null, .null, .int 0, .null, .null, .null, .int 0]))) a39 = some (212, .inr (3, [.int 0, .ref de, .int 0])) := yup_o hB54_a39 hB54_a (by decide)
  have hB57_a50 : (yup G54 a (200, .inr (16, [.int 0, .int 0, .int 0, .ref a6, .int 0, .int (-1), .ref a17, .ref a28, .ref a39, .ref a50, .int 0, .int 0, .int 0, .null, .null, .int 0, .null, .null, .null, .int 0]))) a50 = some (213, .inr (3, [.int 0, .ref de, .int 0])) := yup_o hA54 hB54_a (by decide)
  have kt57 : yTg kR G (yup G54 a (200, .inr (16, [.int 0, .int 0, .int 0, .ref a6, .int 0, .int (-1), .ref a17, .ref a28, .ref a39, .ref a50, .int 0, .int 0, .int 0, .null, .null, .int 0, .null, .null, .null, .int 0]))) := (kt54).trans (yTg.up hB54_a (by decide))
  show Y l S0 D K_X12_init 18 11 34 (fun r G1 => r = none ∧ ∃ (ad : Nat → Nat) (ρ : RS), atR aC ic de ad G1 ρ ∧ ad 200 = a ∧ yTg kR G G1 ∧ rini ρ ∧ rNew 0 0 ρ) (fun _ _ => False) (57 + 3) [(0, .ref a)] [] (yup G54 a (200, .inr (16, [.int 0, .int 0, .int 0, .ref a6, .int 0, .int (-1), .ref a17, .ref a28, .ref a39, .ref a50, .int 0, .int 0, .int 0, .null, .null, .int 0, .null, .null, .null, .int 0]))) 6 22
  generalize yup G54 a (200, .inr (16, [.int 0, .int 0, .int 0, .ref a6, .int 0, .int (-1), .ref a17, .ref a28, .ref a39, .ref a50, .int 0, .int 0, .int 0, .null, .null, .int 0, .null, .null, .null, .int 0])) = G57 at hA57 hB57_a6 hB57_a17 hB57_a28 hB57_a39 hB57_a50 kt57 ⊢
  refine y_blk 2 tq_X12_init (z := (62, [(0, .ref a)], [.int 4, .ref a])) rfl ?_
  refine y_newa_int 202 hS tq_X12_init (kc := 5) (ks := 18) (n := 4) rfl wd_176 (by decide) (by decide) (by decide) (fun a62 hne62 => ?_)
  have hle62 : yLe G57 (yup G57 a62 (202, .inl (aC 0, 4, .inl (fun _ => 0)))) := yLe.new hne62
  have hA62 : (yup G57 a62 (202, .inl (aC 0, 4, .inl (fun _ => 0)))) a62 = some (202, .inl (aC 0, 4, .inl (fun _ => 0))) := yup_s _ _ _
  have hB62_a6 : (yup G57 a62 (202, .inl (aC 0, 4, .inl (fun _ => 0)))) a6 = some (201, .inl (aC 0, 0, .inl (fun _ => 0))) := hle62 _ _ hB57_a6
  have hB62_a17 : (yup G57 a62 (202, .inl (aC 0, 4, .inl (fun _ => 0)))) a17 = some (210, .inr (3, [.int 0, .ref de, .int 0])) := hle62 _ _ hB57_a17
  have hB62_a28 : (yup G57 a62 (202, .inl (aC 0, 4, .inl (fun _ => 0)))) a28 = some (211, .inr (3, [.int 0, .ref de, .int 0])) := hle62 _ _ hB57_a28
  have hB62_a39 : (yup G57 a62 (202, .inl (aC 0, 4, .inl (fun _ => 0)))) a39 = some (212, .inr (3, [.int 0, .ref de, .int 0])) := hle62 _ _ hB57_a39
  have hB62_a50 : (yup G57 a62 (202, .inl (aC 0, 4, .inl (fun _ => 0)))) a50 = some (213, .inr (3, [.int 0, .ref de, .int 0])) := hle62 _ _ hB57_a50
  have hB62_a : (yup G57 a62 (202, .inl (aC 0, 4, .inl (fun _ => 0)))) a = some (200, .inr (16, [.int 0, .int 0, .int 0, .ref a6, .int 0, .int (-1), .ref a17, .ref a28, .ref a39, .ref a50, .int 0, .int 0, .int 0, .null, .null, .int 0, .null, .null, .null, .int 0])) := hle62 _ _ hA57
  have kt62 : yTg kR G (yup G57 a62 (202, .inl (aC 0, 4, .inl (fun _ => 0)))) := (kt57).trans (yTg.le hle62)
  generalize yup G57 a62 (202, .inl (aC 0, 4, .inl (fun _ => 0))) = G62 at hle62 hA62 hB62_a6 hB62_a17 hB62_a28 hB62_a39 hB62_a50 hB62_a kt62 ⊢
  refine y_blk 0 tq_X12_init (z := (64, [(0, .ref a)], [.ref a62, .ref a])) rfl ?_
  refine y_putF hS tq_X12_init rfl fp_X12_33_X12 rfl hB62_a (by omega) rfl rfl (Nat.le_of_ble_eq_true rfl) ?_
  have hA64 : (yup G62 a (200, .inr (16, [.int 0, .int 0, .int 0, .ref a6, .int 0, .int (-1), .ref a17, .ref a28, .ref a39, .ref a50, .int 0, .int 0, .int 0, .ref a62, .null, .int 0, .null, .null, .null, .int 0]))) a = some (200, .inr (16, [.int 0, .int 0, .int 0, .ref a6, .int 0, .int (-1), .ref a17, .ref a28, .ref a39, .ref a50, .int 0, .int 0, .int 0, .ref a62, .null, .int 0, .null, .null, .null, .int 0])) := yup_s _ _ _
  have hB64_a6 : (yup G62 a (200, .inr (16, [.int 0, .int 0, .int 0, .ref a6, .int 0, .int (-1), .ref a17, .ref a28, .ref a39, .ref a50, .int 0, .int 0, .int 0, .ref a62, .null, .int 0, .null, .null, .null, .int 0]))) a6 = some (201, .inl (aC 0, 0, .inl (fun _ => 0))) := yup_o hB62_a6 hB62_a (by decide)
  have hB64_a17 : (yup G62 a (200, .inr (16, [.int 0, .int 0, .int 0, .ref a6, .int 0, .int (-1), .ref a17, .ref a28, .ref a39, .ref a50, .int 0, .int 0, .int 0, .ref a62, .null, .int 0, .null, .null, .null, .int 0]))) a17 = some (210, .inr (3, [.int 0, .ref de, .int 0])) := yup_o hB62_a17 hB62_a (by decide)
  have hB64_a28 : (yup G62 a (200, .inr (16, [.int 0, .int 0, .int 0, .ref a6, .int 0, .int (-1), .ref a17, .ref a28, .ref a39, .ref a50, .int 0, .int 0, .int 0, .ref a62, .null, .int 0, .null, .null, .null, .int 0]))) a28 = some (211, .inr (3, [.int 0, .ref de, .int 0])) := yup_o hB62_a28 hB62_a (by decide)
  have hB64_a39 : (yup G62 a (200, .inr (16, [.int 0, .int 0, .int 0, .ref a6, .int 0, .int (-1), .ref a17, .ref a28, .ref a39, .ref a50, .int 0, .int 0, .int 0, .ref a62, .null, .int 0, .null, .null, .null, .int 0]))) a39 = some (212, .inr (3, [.int 0, .ref de, .int 0])) := yup_o hB62_a39 hB62_a (by decide)
  have hB64_a50 : (yup G62 a (200, .inr (16, [.int 0, .int 0, .int 0, .ref a6, .int 0, .int (-1), .ref a17, .ref a28, .ref a39, .ref a50, .int 0, .int 0, .int 0, .ref a62, .null, .int 0, .null, .null, .null, .int 0]))) a50 = some (213, .inr (3, [.int 0, .ref de, .int 0])) := yup_o hB62_a50 hB62_a (by decide)
  have hB64_a62 : (yup G62 a (200, .inr (16, [.int 0, .int 0, .int 0, .ref a6, .int 0, .int (-1), .ref a17, .ref a28, .ref a39, .ref a50, .int 0, .int 0, .int 0, .ref a62, .null, .int 0, .null, .null, .null, .int 0]))) a62 = some (202, .inl (aC 0, 4, .inl (fun _ => 0))) := yup_o hA62 hB62_a (by decide)
  have kt64 : yTg kR G (yup G62 a (200, .inr (16, [.int 0, .int 0, .int 0, .ref a6, .int 0, .int (-1), .ref a17, .ref a28, .ref a39, .ref a50, .int 0, .int 0, .int 0, .ref a62, .null, .int 0, .null, .null, .null, .int 0]))) := (kt62).trans (yTg.up hB62_a (by decide))
  show Y l S0 D K_X12_init 18 11 34 (fun r G1 => r = none ∧ ∃ (ad : Nat → Nat) (ρ : RS), atR aC ic de ad G1 ρ ∧ ad 200 = a ∧ yTg kR G G1 ∧ rini ρ ∧ rNew 0 0 ρ) (fun _ _ => False) (64 + 3) [(0, .ref a)] [] (yup G62 a (200, .inr (16, [.int 0, .int 0, .int 0, .ref a6, .int 0, .int (-1), .ref a17, .ref a28, .ref a39, .ref a50, .int 0, .int 0, .int 0, .ref a62, .null, .int 0, .null, .null, .null, .int 0]))) 5 18
  generalize yup G62 a (200, .inr (16, [.int 0, .int 0, .int 0, .ref a6, .int 0, .int (-1), .ref a17, .ref a28, .ref a39, .ref a50, .int 0, .int 0, .int 0, .ref a62, .null, .int 0, .null, .null, .null, .int 0])) = G64 at hA64 hB64_a6 hB64_a17 hB64_a28 hB64_a39 hB64_a50 hB64_a62 kt64 ⊢
  refine y_blk 1 tq_X12_init (z := (68, [(0, .ref a)], [.ref a])) rfl ?_
  refine y_new 214 hS tq_X12_init (kc := 4) (ks := 15) rfl nw_X12_17 (fun a68 hne68 => ?_)
  have hle68 : yLe G64 (yup G64 a68 (214, .inr (3, [.int 0, .null, .int 0]))) := yLe.new hne68
  have hA68 : (yup G64 a68 (214, .inr (3, [.int 0, .null, .int 0]))) a68 = some (214, .inr (3, [.int 0, .null, .int 0])) := yup_s _ _ _
  have hB68_a6 : (yup G64 a68 (214, .inr (3, [.int 0, .null, .int 0]))) a6 = some (201, .inl (aC 0, 0, .inl (fun _ => 0))) := hle68 _ _ hB64_a6
  have hB68_a17 : (yup G64 a68 (214, .inr (3, [.int 0, .null, .int 0]))) a17 = some (210, .inr (3, [.int 0, .ref de, .int 0])) := hle68 _ _ hB64_a17
  have hB68_a28 : (yup G64 a68 (214, .inr (3, [.int 0, .null, .int 0]))) a28 = some (211, .inr (3, [.int 0, .ref de, .int 0])) := hle68 _ _ hB64_a28
  have hB68_a39 : (yup G64 a68 (214, .inr (3, [.int 0, .null, .int 0]))) a39 = some (212, .inr (3, [.int 0, .ref de, .int 0])) := hle68 _ _ hB64_a39
  have hB68_a50 : (yup G64 a68 (214, .inr (3, [.int 0, .null, .int 0]))) a50 = some (213, .inr (3, [.int 0, .ref de, .int 0])) := hle68 _ _ hB64_a50
  have hB68_a62 : (yup G64 a68 (214, .inr (3, [.int 0, .null, .int 0]))) a62 = some (202, .inl (aC 0, 4, .inl (fun _ => 0))) := hle68 _ _ hB64_a62
  have hB68_a : (yup G64 a68 (214, .inr (3, [.int 0, .null, .int 0]))) a = some (200, .inr (16, [.int 0, .int 0, .int 0, .ref a6, .int 0, .int (-1), .ref a17, .ref a28, .ref a39, .ref a50, .int 0, .int 0, .int 0, .ref a62, .null, .int 0, .null, .null, .null, .int 0])) := hle68 _ _ hA64
  have kt68 : yTg kR G (yup G64 a68 (214, .inr (3, [.int 0, .null, .int 0]))) := (kt64).trans (yTg.le hle68)
  generalize yup G64 a68 (214, .inr (3, [.int 0, .null, .int 0])) = G68 at hle68 hA68 hB68_a6 hB68_a17 hB68_a28 hB68_a39 hB68_a50 hB68_a62 hB68_a kt68 ⊢
  refine y_blk 1 tq_X12_init (z := (72, [(0, .ref a)], [.ref a68, .ref a68, .ref a])) rfl ?_
  refine y_callI hS tq_X12_init rfl (As := []) rfl ci_X12_19 (m_Jinit hS hI (by decide) hA68) rfl (by decide) (Nat.le_of_ble_eq_true rfl) (fun r72 Gc72 q72 => ?_) (fun _ _ h9 => h9.elim)
  obtain ⟨rfl, eG72⟩ := q72
  subst eG72
  have hA72 : (yup G68 a68 (214, .inr (3, [.int 0, .ref de, .int 0]))) a68 = some (214, .inr (3, [.int 0, .ref de, .int 0])) := yup_s _ _ _
  have hB72_a6 : (yup G68 a68 (214, .inr (3, [.int 0, .ref de, .int 0]))) a6 = some (201, .inl (aC 0, 0, .inl (fun _ => 0))) := yup_o hB68_a6 hA68 (by decide)
  have hB72_a17 : (yup G68 a68 (214, .inr (3, [.int 0, .ref de, .int 0]))) a17 = some (210, .inr (3, [.int 0, .ref de, .int 0])) := yup_o hB68_a17 hA68 (by decide)
  have hB72_a28 : (yup G68 a68 (214, .inr (3, [.int 0, .ref de, .int 0]))) a28 = some (211, .inr (3, [.int 0, .ref de, .int 0])) := yup_o hB68_a28 hA68 (by decide)
  have hB72_a39 : (yup G68 a68 (214, .inr (3, [.int 0, .ref de, .int 0]))) a39 = some (212, .inr (3, [.int 0, .ref de, .int 0])) := yup_o hB68_a39 hA68 (by decide)
  have hB72_a50 : (yup G68 a68 (214, .inr (3, [.int 0, .ref de, .int 0]))) a50 = some (213, .inr (3, [.int 0, .ref de, .int 0])) := yup_o hB68_a50 hA68 (by decide)
  have hB72_a62 : (yup G68 a68 (214, .inr (3, [.int 0, .ref de, .int 0]))) a62 = some (202, .inl (aC 0, 4, .inl (fun _ => 0))) := yup_o hB68_a62 hA68 (by decide)
  have hB72_a : (yup G68 a68 (214, .inr (3, [.int 0, .ref de, .int 0]))) a = some (200, .inr (16, [.int 0, .int 0, .int 0, .ref a6, .int 0, .int (-1), .ref a17, .ref a28, .ref a39, .ref a50, .int 0, .int 0, .int 0, .ref a62, .null, .int 0, .null, .null, .null, .int 0])) := yup_o hB68_a hA68 (by decide)
  have kt72 : yTg kR G (yup G68 a68 (214, .inr (3, [.int 0, .ref de, .int 0]))) := (kt68).trans (yTg.up hA68 (by decide))
  generalize yup G68 a68 (214, .inr (3, [.int 0, .ref de, .int 0])) = G72 at hA72 hB72_a6 hB72_a17 hB72_a28 hB72_a39 hB72_a50 hB72_a62 hB72_a kt72 ⊢
  refine y_blk 0 tq_X12_init (z := (75, [(0, .ref a)], [.ref a68, .ref a])) rfl ?_
  refine y_put hS tq_X12_init rfl fp_X12_36_X12 hB72_a (by omega) rfl rfl (Nat.le_of_ble_eq_true rfl) ?_
  have hA75 : (yup G72 a (200, .inr (16, [.int 0, .int 0, .int 0, .ref a6, .int 0, .int (-1), .ref a17, .ref a28, .ref a39, .ref a50, .int 0, .int 0, .int 0, .ref a62, .ref a68, .int 0, .null, .null, .null, .int 0]))) a = some (200, .inr (16, [.int 0, .int 0, .int 0, .ref a6, .int 0, .int (-1), .ref a17, .ref a28, .ref a39, .ref a50, .int 0, .int 0, .int 0, .ref a62, .ref a68, .int 0, .null, .null, .null, .int 0])) := yup_s _ _ _
  have hB75_a6 : (yup G72 a (200, .inr (16, [.int 0, .int 0, .int 0, .ref a6, .int 0, .int (-1), .ref a17, .ref a28, .ref a39, .ref a50, .int 0, .int 0, .int 0, .ref a62, .ref a68, .int 0, .null, .null, .null, .int 0]))) a6 = some (201, .inl (aC 0, 0, .inl (fun _ => 0))) := yup_o hB72_a6 hB72_a (by decide)
  have hB75_a17 : (yup G72 a (200, .inr (16, [.int 0, .int 0, .int 0, .ref a6, .int 0, .int (-1), .ref a17, .ref a28, .ref a39, .ref a50, .int 0, .int 0, .int 0, .ref a62, .ref a68, .int 0, .null, .null, .null, .int 0]))) a17 = some (210, .inr (3, [.int 0, .ref de, .int 0])) := yup_o hB72_a17 hB72_a (by decide)
  have hB75_a28 : (yup G72 a (200, .inr (16, [.int 0, .int 0, .int 0, .ref a6, .int 0, .int (-1), .ref a17, .ref a28, .ref a39, .ref a50, .int 0, .int 0, .int 0, .ref a62, .ref a68, .int 0, .null, .null, .null, .int 0]))) a28 = some (211, .inr (3, [.int 0, .ref de, .int 0])) := yup_o hB72_a28 hB72_a (by decide)
  have hB75_a39 : (yup G72 a (200, .inr (16, [.int 0, .int 0, .int 0, .ref a6, .int 0, .int (-1), .ref a17, .ref a28, .ref a39, .ref a50, .int 0, .int 0, .int 0, .ref a62, .ref a68, .int 0, .null, .null, .null, .int 0]))) a39 = some (212, .inr (3, [.int 0, .ref de, .int 0])) := yup_o hB72_a39 hB72_a (by decide)
  have hB75_a50 : (yup G72 a (200, .inr (16, [.int 0, .int 0, .int 0, .ref a6, .int 0, .int (-1), .ref a17, .ref a28, .ref a39, .ref a50, .int 0, .int 0, .int 0, .ref a62, .ref a68, .int 0, .null, .null, .null, .int 0]))) a50 = some (213, .inr (3, [.int 0, .ref de, .int 0])) := yup_o hB72_a50 hB72_a (by decide)
  have hB75_a62 : (yup G72 a (200, .inr (16, [.int 0, .int 0, .int 0, .ref a6, .int 0, .int (-1), .ref a17, .ref a28, .ref a39, .ref a50, .int 0, .int 0, .int 0, .ref a62, .ref a68, .int 0, .null, .null, .null, .int 0]))) a62 = some (202, .inl (aC 0, 4, .inl (fun _ => 0))) := yup_o hB72_a62 hB72_a (by decide)
  have hB75_a68 : (yup G72 a (200, .inr (16, [.int 0, .int 0, .int 0, .ref a6, .int 0, .int (-1), .ref a17, .ref a28, .ref a39, .ref a50, .int 0, .int 0, .int 0, .ref a62, .ref a68, .int 0, .null, .null, .null, .int 0]))) a68 = some (214, .inr (3, [.int 0, .ref de, .int 0])) := yup_o hA72 hB72_a (by decide)
  have kt75 : yTg kR G (yup G72 a (200, .inr (16, [.int 0, .int 0, .int 0, .ref a6, .int 0, .int (-1), .ref a17, .ref a28, .ref a39, .ref a50, .int 0, .int 0, .int 0, .ref a62, .ref a68, .int 0, .null, .null, .null, .int 0]))) := (kt72).trans (yTg.up hB72_a (by decide))
  show Y l S0 D K_X12_init 18 11 34 (fun r G1 => r = none ∧ ∃ (ad : Nat → Nat) (ρ : RS), atR aC ic de ad G1 ρ ∧ ad 200 = a ∧ yTg kR G G1 ∧ rini ρ ∧ rNew 0 0 ρ) (fun _ _ => False) (75 + 3) [(0, .ref a)] [] (yup G72 a (200, .inr (16, [.int 0, .int 0, .int 0, .ref a6, .int 0, .int (-1), .ref a17, .ref a28, .ref a39, .ref a50, .int 0, .int 0, .int 0, .ref a62, .ref a68, .int 0, .null, .null, .null, .int 0]))) 4 15
  generalize yup G72 a (200, .inr (16, [.int 0, .int 0, .int 0, .ref a6, .int 0, .int (-1), .ref a17, .ref a28, .ref a39, .ref a50, .int 0, .int 0, .int 0, .ref a62, .ref a68, .int 0, .null, .null, .null, .int 0])) = G75 at hA75 hB75_a6 hB75_a17 hB75_a28 hB75_a39 hB75_a50 hB75_a62 hB75_a68 kt75 ⊢
  refine y_blk 2 tq_X12_init (z := (81, [(0, .ref a)], [.int 6, .ref a])) rfl ?_
  refine y_newa_int 203 hS tq_X12_init (kc := 3) (ks := 9) (n := 6) rfl wd_176 (by decide) (by decide) (by decide) (fun a81 hne81 => ?_)
  have hle81 : yLe G75 (yup G75 a81 (203, .inl (aC 0, 6, .inl (fun _ => 0)))) := yLe.new hne81
  have hA81 : (yup G75 a81 (203, .inl (aC 0, 6, .inl (fun _ => 0)))) a81 = some (203, .inl (aC 0, 6, .inl (fun _ => 0))) := yup_s _ _ _
  have hB81_a6 : (yup G75 a81 (203, .inl (aC 0, 6, .inl (fun _ => 0)))) a6 = some (201, .inl (aC 0, 0, .inl (fun _ => 0))) := hle81 _ _ hB75_a6
  have hB81_a17 : (yup G75 a81 (203, .inl (aC 0, 6, .inl (fun _ => 0)))) a17 = some (210, .inr (3, [.int 0, .ref de, .int 0])) := hle81 _ _ hB75_a17
  have hB81_a28 : (yup G75 a81 (203, .inl (aC 0, 6, .inl (fun _ => 0)))) a28 = some (211, .inr (3, [.int 0, .ref de, .int 0])) := hle81 _ _ hB75_a28
  have hB81_a39 : (yup G75 a81 (203, .inl (aC 0, 6, .inl (fun _ => 0)))) a39 = some (212, .inr (3, [.int 0, .ref de, .int 0])) := hle81 _ _ hB75_a39
  have hB81_a50 : (yup G75 a81 (203, .inl (aC 0, 6, .inl (fun _ => 0)))) a50 = some (213, .inr (3, [.int 0, .ref de, .int 0])) := hle81 _ _ hB75_a50
  have hB81_a62 : (yup G75 a81 (203, .inl (aC 0, 6, .inl (fun _ => 0)))) a62 = some (202, .inl (aC 0, 4, .inl (fun _ => 0))) := hle81 _ _ hB75_a62
  have hB81_a68 : (yup G75 a81 (203, .inl (aC 0, 6, .inl (fun _ => 0)))) a68 = some (214, .inr (3, [.int 0, .ref de, .int 0])) := hle81 _ _ hB75_a68
  have hB81_a : (yup G75 a81 (203, .inl (aC 0, 6, .inl (fun _ => 0)))) a = some (200, .inr (16, [.int 0, .int 0, .int 0, .ref a6, .int 0, .int (-1), .ref a17, .ref a28, .ref a39, .ref a50, .int 0, .int 0, .int 0, .ref a62, .ref a68, .int 0, .null, .null, .null, .int 0])) := hle81 _ _ hA75
  have kt81 : yTg kR G (yup G75 a81 (203, .inl (aC 0, 6, .inl (fun _ => 0)))) := (kt75).trans (yTg.le hle81)
  generalize yup G75 a81 (203, .inl (aC 0, 6, .inl (fun _ => 0))) = G81 at hle81 hA81 hB81_a6 hB81_a17 hB81_a28 hB81_a39 hB81_a50 hB81_a62 hB81_a68 hB81_a kt81 ⊢
  refine y_blk 0 tq_X12_init (z := (83, [(0, .ref a)], [.ref a81, .ref a])) rfl ?_
  refine y_putF hS tq_X12_init rfl fp_X12_39_X12 rfl hB81_a (by omega) rfl rfl (Nat.le_of_ble_eq_true rfl) ?_
  have hA83 : (yup G81 a (200, .inr (16, [.int 0, .int 0, .int 0, .ref a6, .int 0, .int (-1), .ref a17, .ref a28, .ref a39, .ref a50, .int 0, .int 0, .int 0, .ref a62, .ref a68, .int 0, .ref a81, .null, .null, .int 0]))) a = some (200, .inr (16, [.int 0, .int 0, .int 0, .ref a6, .int 0, .int (-1), .ref a17, .ref a28, .ref a39, .ref a50, .int 0, .int 0, .int 0, .ref a62, .ref a68, .int 0, .ref a81, .null, .null, .int 0])) := yup_s _ _ _
  have hB83_a6 : (yup G81 a (200, .inr (16, [.int 0, .int 0, .int 0, .ref a6, .int 0, .int (-1), .ref a17, .ref a28, .ref a39, .ref a50, .int 0, .int 0, .int 0, .ref a62, .ref a68, .int 0, .ref a81, .null, .null, .int 0]))) a6 = some (201, .inl (aC 0, 0, .inl (fun _ => 0))) := yup_o hB81_a6 hB81_a (by decide)
  have hB83_a17 : (yup G81 a (200, .inr (16, [.int 0, .int 0, .int 0, .ref a6, .int 0, .int (-1), .ref a17, .ref a28, .ref a39, .ref a50, .int 0, .int 0, .int 0, .ref a62, .ref a68, .int 0, .ref a81, .null, .null, .int 0]))) a17 = some (210, .inr (3, [.int 0, .ref de, .int 0])) := yup_o hB81_a17 hB81_a (by decide)
  have hB83_a28 : (yup G81 a (200, .inr (16, [.int 0, .int 0, .int 0, .ref a6, .int 0, .int (-1), .ref a17, .ref a28, .ref a39, .ref a50, .int 0, .int 0, .int 0, .ref a62, .ref a68, .int 0, .ref a81, .null, .null, .int 0]))) a28 = some (211, .inr (3, [.int 0, .ref de, .int 0])) := yup_o hB81_a28 hB81_a (by decide)
  have hB83_a39 : (yup G81 a (200, .inr (16, [.int 0, .int 0, .int 0, .ref a6, .int 0, .int (-1), .ref a17, .ref a28, .ref a39, .ref a50, .int 0, .int 0, .int 0, .ref a62, .ref a68, .int 0, .ref a81, .null, .null, .int 0]))) a39 = some (212, .inr (3, [.int 0, .ref de, .int 0])) := yup_o hB81_a39 hB81_a (by decide)
  have hB83_a50 : (yup G81 a (200, .inr (16, [.int 0, .int 0, .int 0, .ref a6, .int 0, .int (-1), .ref a17, .ref a28, .ref a39, .ref a50, .int 0, .int 0, .int 0, .ref a62, .ref a68, .int 0, .ref a81, .null, .null, .int 0]))) a50 = some (213, .inr (3, [.int 0, .ref de, .int 0])) := yup_o hB81_a50 hB81_a (by decide)
  have hB83_a62 : (yup G81 a (200, .inr (16, [.int 0, .int 0, .int 0, .ref a6, .int 0, .int (-1), .ref a17, .ref a28, .ref a39, .ref a50, .int 0, .int 0, .int 0, .ref a62, .ref a68, .int 0, .ref a81, .null, .null, .int 0]))) a62 = some (202, .inl (aC 0, 4, .inl (fun _ => 0))) := yup_o hB81_a62 hB81_a (by decide)
  have hB83_a68 : (yup G81 a (200, .inr (16, [.int 0, .int 0, .int 0, .ref a6, .int 0, .int (-1), .ref a17, .ref a28, .ref a39, .ref a50, .int 0, .int 0, .int 0, .ref a62, .ref a68, .int 0, .ref a81, .null, .null, .int 0]))) a68 = some (214, .inr (3, [.int 0, .ref de, .int 0])) := yup_o hB81_a68 hB81_a (by decide)
  have hB83_a81 : (yup G81 a (200, .inr (16, [.int 0, .int 0, .int 0, .ref a6, .int 0, .int (-1), .ref a17, .ref a28, .ref a39, .ref a50, .int 0, .int 0, .int 0, .ref a62, .ref a68, .int 0, .ref a81, .null, .null, .int 0]))) a81 = some (203, .inl (aC 0, 6, .inl (fun _ => 0))) := yup_o hA81 hB81_a (by decide)
  have kt83 : yTg kR G (yup G81 a (200, .inr (16, [.int 0, .int 0, .int 0, .ref a6, .int 0, .int (-1), .ref a17, .ref a28, .ref a39, .ref a50, .int 0, .int 0, .int 0, .ref a62, .ref a68, .int 0, .ref a81, .null, .null, .int 0]))) := (kt81).trans (yTg.up hB81_a (by decide))
  show Y l S0 D K_X12_init 18 11 34 (fun r G1 => r = none ∧ ∃ (ad : Nat → Nat) (ρ : RS), atR aC ic de ad G1 ρ ∧ ad 200 = a ∧ yTg kR G G1 ∧ rini ρ ∧ rNew 0 0 ρ) (fun _ _ => False) (83 + 3) [(0, .ref a)] [] (yup G81 a (200, .inr (16, [.int 0, .int 0, .int 0, .ref a6, .int 0, .int (-1), .ref a17, .ref a28, .ref a39, .ref a50, .int 0, .int 0, .int 0, .ref a62, .ref a68, .int 0, .ref a81, .null, .null, .int 0]))) 3 9
  generalize yup G81 a (200, .inr (16, [.int 0, .int 0, .int 0, .ref a6, .int 0, .int (-1), .ref a17, .ref a28, .ref a39, .ref a50, .int 0, .int 0, .int 0, .ref a62, .ref a68, .int 0, .ref a81, .null, .null, .int 0])) = G83 at hA83 hB83_a6 hB83_a17 hB83_a28 hB83_a39 hB83_a50 hB83_a62 hB83_a68 hB83_a81 kt83 ⊢
  refine y_blk 1 tq_X12_init (z := (87, [(0, .ref a)], [.ref a])) rfl ?_
  refine y_new 215 hS tq_X12_init (kc := 2) (ks := 6) rfl nw_X12_17 (fun a87 hne87 => ?_)
  have hle87 : yLe G83 (yup G83 a87 (215, .inr (3, [.int 0, .null, .int 0]))) := yLe.new hne87
  have hA87 : (yup G83 a87 (215, .inr (3, [.int 0, .null, .int 0]))) a87 = some (215, .inr (3, [.int 0, .null, .int 0])) := yup_s _ _ _
  have hB87_a6 : (yup G83 a87 (215, .inr (3, [.int 0, .null, .int 0]))) a6 = some (201, .inl (aC 0, 0, .inl (fun _ => 0))) := hle87 _ _ hB83_a6
  have hB87_a17 : (yup G83 a87 (215, .inr (3, [.int 0, .null, .int 0]))) a17 = some (210, .inr (3, [.int 0, .ref de, .int 0])) := hle87 _ _ hB83_a17
  have hB87_a28 : (yup G83 a87 (215, .inr (3, [.int 0, .null, .int 0]))) a28 = some (211, .inr (3, [.int 0, .ref de, .int 0])) := hle87 _ _ hB83_a28
  have hB87_a39 : (yup G83 a87 (215, .inr (3, [.int 0, .null, .int 0]))) a39 = some (212, .inr (3, [.int 0, .ref de, .int 0])) := hle87 _ _ hB83_a39
  have hB87_a50 : (yup G83 a87 (215, .inr (3, [.int 0, .null, .int 0]))) a50 = some (213, .inr (3, [.int 0, .ref de, .int 0])) := hle87 _ _ hB83_a50
  have hB87_a62 : (yup G83 a87 (215, .inr (3, [.int 0, .null, .int 0]))) a62 = some (202, .inl (aC 0, 4, .inl (fun _ => 0))) := hle87 _ _ hB83_a62
  have hB87_a68 : (yup G83 a87 (215, .inr (3, [.int 0, .null, .int 0]))) a68 = some (214, .inr (3, [.int 0, .ref de, .int 0])) := hle87 _ _ hB83_a68
  have hB87_a81 : (yup G83 a87 (215, .inr (3, [.int 0, .null, .int 0]))) a81 = some (203, .inl (aC 0, 6, .inl (fun _ => 0))) := hle87 _ _ hB83_a81
  have hB87_a : (yup G83 a87 (215, .inr (3, [.int 0, .null, .int 0]))) a = some (200, .inr (16, [.int 0, .int 0, .int 0, .ref a6, .int 0, .int (-1), .ref a17, .ref a28, .ref a39, .ref a50, .int 0, .int 0, .int 0, .ref a62, .ref a68, .int 0, .ref a81, .null, .null, .int 0])) := hle87 _ _ hA83
  have kt87 : yTg kR G (yup G83 a87 (215, .inr (3, [.int 0, .null, .int 0]))) := (kt83).trans (yTg.le hle87)
  generalize yup G83 a87 (215, .inr (3, [.int 0, .null, .int 0])) = G87 at hle87 hA87 hB87_a6 hB87_a17 hB87_a28 hB87_a39 hB87_a50 hB87_a62 hB87_a68 hB87_a81 hB87_a kt87 ⊢
  refine y_blk 1 tq_X12_init (z := (91, [(0, .ref a)], [.ref a87, .ref a87, .ref a])) rfl ?_
  refine y_callI hS tq_X12_init rfl (As := []) rfl ci_X12_19 (m_Jinit hS hI (by decide) hA87) rfl (by decide) (Nat.le_of_ble_eq_true rfl) (fun r91 Gc91 q91 => ?_) (fun _ _ h9 => h9.elim)
  obtain ⟨rfl, eG91⟩ := q91
  subst eG91
  have hA91 : (yup G87 a87 (215, .inr (3, [.int 0, .ref de, .int 0]))) a87 = some (215, .inr (3, [.int 0, .ref de, .int 0])) := yup_s _ _ _
  have hB91_a6 : (yup G87 a87 (215, .inr (3, [.int 0, .ref de, .int 0]))) a6 = some (201, .inl (aC 0, 0, .inl (fun _ => 0))) := yup_o hB87_a6 hA87 (by decide)
  have hB91_a17 : (yup G87 a87 (215, .inr (3, [.int 0, .ref de, .int 0]))) a17 = some (210, .inr (3, [.int 0, .ref de, .int 0])) := yup_o hB87_a17 hA87 (by decide)
  have hB91_a28 : (yup G87 a87 (215, .inr (3, [.int 0, .ref de, .int 0]))) a28 = some (211, .inr (3, [.int 0, .ref de, .int 0])) := yup_o hB87_a28 hA87 (by decide)
  have hB91_a39 : (yup G87 a87 (215, .inr (3, [.int 0, .ref de, .int 0]))) a39 = some (212, .inr (3, [.int 0, .ref de, .int 0])) := yup_o hB87_a39 hA87 (by decide)
  have hB91_a50 : (yup G87 a87 (215, .inr (3, [.int 0, .ref de, .int 0]))) a50 = some (213, .inr (3, [.int 0, .ref de, .int 0])) := yup_o hB87_a50 hA87 (by decide)
  have hB91_a62 : (yup G87 a87 (215, .inr (3, [.int 0, .ref de, .int 0]))) a62 = some (202, .inl (aC 0, 4, .inl (fun _ => 0))) := yup_o hB87_a62 hA87 (by decide)
  have hB91_a68 : (yup G87 a87 (215, .inr (3, [.int 0, .ref de, .int 0]))) a68 = some (214, .inr (3, [.int 0, .ref de, .int 0])) := yup_o hB87_a68 hA87 (by decide)
  have hB91_a81 : (yup G87 a87 (215, .inr (3, [.int 0, .ref de, .int 0]))) a81 = some (203, .inl (aC 0, 6, .inl (fun _ => 0))) := yup_o hB87_a81 hA87 (by decide)
  have hB91_a : (yup G87 a87 (215, .inr (3, [.int 0, .ref de, .int 0]))) a = some (200, .inr (16, [.int 0, .int 0, .int 0, .ref a6, .int 0, .int (-1), .ref a17, .ref a28, .ref a39, .ref a50, .int 0, .int 0, .int 0, .ref a62, .ref a68, .int 0, .ref a81, .null, .null, .int 0])) := yup_o hB87_a hA87 (by decide)
  have kt91 : yTg kR G (yup G87 a87 (215, .inr (3, [.int 0, .ref de, .int 0]))) := (kt87).trans (yTg.up hA87 (by decide))
  generalize yup G87 a87 (215, .inr (3, [.int 0, .ref de, .int 0])) = G91 at hA91 hB91_a6 hB91_a17 hB91_a28 hB91_a39 hB91_a50 hB91_a62 hB91_a68 hB91_a81 hB91_a kt91 ⊢
  refine y_blk 0 tq_X12_init (z := (94, [(0, .ref a)], [.ref a87, .ref a])) rfl ?_
  refine y_put hS tq_X12_init rfl fp_X12_42_X12 hB91_a (by omega) rfl rfl (Nat.le_of_ble_eq_true rfl) ?_
  have hA94 : (yup G91 a (200, .inr (16, [.int 0, .int 0, .int 0, .ref a6, .int 0, .int (-1), .ref a17, .ref a28, .ref a39, .ref a50, .int 0, .int 0, .int 0, .ref a62, .ref a68, .int 0, .ref a81, .ref a87, .null, .int 0]))) a = some (200, .inr (16, [.int 0, .int 0, .int 0, .ref a6, .int 0, .int (-1), .ref a17, .ref a28, .ref a39, .ref a50, .int 0, .int 0, .int 0, .ref a62, .ref a68, .int 0, .ref a81, .ref a87, .null, .int 0])) := yup_s _ _ _
  have hB94_a6 : (yup G91 a (200, .inr (16, [.int 0, .int 0, .int 0, .ref a6, .int 0, .int (-1), .ref a17, .ref a28, .ref a39, .ref a50, .int 0, .int 0, .int 0, .ref a62, .ref a68, .int 0, .ref a81, .ref a87, .null, .int 0]))) a6 = some (201, .inl (aC 0, 0, .inl (fun _ => 0))) := yup_o hB91_a6 hB91_a (by decide)
  have hB94_a17 : (yup G91 a (200, .inr (16, [.int 0, .int 0, .int 0, .ref a6, .int 0, .int (-1), .ref a17, .ref a28, .ref a39, .ref a50, .int 0, .int 0, .int 0, .ref a62, .ref a68, .int 0, .ref a81, .ref a87, .null, .int 0]))) a17 = some (210, .inr (3, [.int 0, .ref de, .int 0])) := yup_o hB91_a17 hB91_a (by decide)
  have hB94_a28 : (yup G91 a (200, .inr (16, [.int 0, .int 0, .int 0, .ref a6, .int 0, .int (-1), .ref a17, .ref a28, .ref a39, .ref a50, .int 0, .int 0, .int 0, .ref a62, .ref a68, .int 0, .ref a81, .ref a87, .null, .int 0]))) a28 = some (211, .inr (3, [.int 0, .ref de, .int 0])) := yup_o hB91_a28 hB91_a (by decide)
  have hB94_a39 : (yup G91 a (200, .inr (16, [.int 0, .int 0, .int 0, .ref a6, .int 0, .int (-1), .ref a17, .ref a28, .ref a39, .ref a50, .int 0, .int 0, .int 0, .ref a62, .ref a68, .int 0, .ref a81, .ref a87, .null, .int 0]))) a39 = some (212, .inr (3, [.int 0, .ref de, .int 0])) := yup_o hB91_a39 hB91_a (by decide)
  have hB94_a50 : (yup G91 a (200, .inr (16, [.int 0, .int 0, .int 0, .ref a6, .int 0, .int (-1), .ref a17, .ref a28, .ref a39, .ref a50, .int 0, .int 0, .int 0, .ref a62, .ref a68, .int 0, .ref a81, .ref a87, .null, .int 0]))) a50 = some (213, .inr (3, [.int 0, .ref de, .int 0])) := yup_o hB91_a50 hB91_a (by decide)
  have hB94_a62 : (yup G91 a (200, .inr (16, [.int 0, .int 0, .int 0, .ref a6, .int 0, .int (-1), .ref a17, .ref a28, .ref a39, .ref a50, .int 0, .int 0, .int 0, .ref a62, .ref a68, .int 0, .ref a81, .ref a87, .null, .int 0]))) a62 = some (202, .inl (aC 0, 4, .inl (fun _ => 0))) := yup_o hB91_a62 hB91_a (by decide)
  have hB94_a68 : (yup G91 a (200, .inr (16, [.int 0, .int 0, .int 0, .ref a6, .int 0, .int (-1), .ref a17, .ref a28, .ref a39, .ref a50, .int 0, .int 0, .int 0, .ref a62, .ref a68, .int 0, .ref a81, .ref a87, .null, .int 0]))) a68 = some (214, .inr (3, [.int 0, .ref de, .int 0])) := yup_o hB91_a68 hB91_a (by decide)
  have hB94_a81 : (yup G91 a (200, .inr (16, [.int 0, .int 0, .int 0, .ref a6, .int 0, .int (-1), .ref a17, .ref a28, .ref a39, .ref a50, .int 0, .int 0, .int 0, .ref a62, .ref a68, .int 0, .ref a81, .ref a87, .null, .int 0]))) a81 = some (203, .inl (aC 0, 6, .inl (fun _ => 0))) := yup_o hB91_a81 hB91_a (by decide)
  have hB94_a87 : (yup G91 a (200, .inr (16, [.int 0, .int 0, .int 0, .ref a6, .int 0, .int (-1), .ref a17, .ref a28, .ref a39, .ref a50, .int 0, .int 0, .int 0, .ref a62, .ref a68, .int 0, .ref a81, .ref a87, .null, .int 0]))) a87 = some (215, .inr (3, [.int 0, .ref de, .int 0])) := yup_o hA91 hB91_a (by decide)
  have kt94 : yTg kR G (yup G91 a (200, .inr (16, [.int 0, .int 0, .int 0, .ref a6, .int 0, .int (-1), .ref a17, .ref a28, .ref a39, .ref a50, .int 0, .int 0, .int 0, .ref a62, .ref a68, .int 0, .ref a81, .ref a87, .null, .int 0]))) := (kt91).trans (yTg.up hB91_a (by decide))
  show Y l S0 D K_X12_init 18 11 34 (fun r G1 => r = none ∧ ∃ (ad : Nat → Nat) (ρ : RS), atR aC ic de ad G1 ρ ∧ ad 200 = a ∧ yTg kR G G1 ∧ rini ρ ∧ rNew 0 0 ρ) (fun _ _ => False) (94 + 3) [(0, .ref a)] [] (yup G91 a (200, .inr (16, [.int 0, .int 0, .int 0, .ref a6, .int 0, .int (-1), .ref a17, .ref a28, .ref a39, .ref a50, .int 0, .int 0, .int 0, .ref a62, .ref a68, .int 0, .ref a81, .ref a87, .null, .int 0]))) 2 6
  generalize yup G91 a (200, .inr (16, [.int 0, .int 0, .int 0, .ref a6, .int 0, .int (-1), .ref a17, .ref a28, .ref a39, .ref a50, .int 0, .int 0, .int 0, .ref a62, .ref a68, .int 0, .ref a81, .ref a87, .null, .int 0])) = G94 at hA94 hB94_a6 hB94_a17 hB94_a28 hB94_a39 hB94_a50 hB94_a62 hB94_a68 hB94_a81 hB94_a87 kt94 ⊢
  refine y_blk 1 tq_X12_init (z := (98, [(0, .ref a)], [.ref a])) rfl ?_
  refine y_new 216 hS tq_X12_init (kc := 1) (ks := 3) rfl nw_X12_17 (fun a98 hne98 => ?_)
  have hle98 : yLe G94 (yup G94 a98 (216, .inr (3, [.int 0, .null, .int 0]))) := yLe.new hne98
  have hA98 : (yup G94 a98 (216, .inr (3, [.int 0, .null, .int 0]))) a98 = some (216, .inr (3, [.int 0, .null, .int 0])) := yup_s _ _ _
  have hB98_a6 : (yup G94 a98 (216, .inr (3, [.int 0, .null, .int 0]))) a6 = some (201, .inl (aC 0, 0, .inl (fun _ => 0))) := hle98 _ _ hB94_a6
  have hB98_a17 : (yup G94 a98 (216, .inr (3, [.int 0, .null, .int 0]))) a17 = some (210, .inr (3, [.int 0, .ref de, .int 0])) := hle98 _ _ hB94_a17
  have hB98_a28 : (yup G94 a98 (216, .inr (3, [.int 0, .null, .int 0]))) a28 = some (211, .inr (3, [.int 0, .ref de, .int 0])) := hle98 _ _ hB94_a28
  have hB98_a39 : (yup G94 a98 (216, .inr (3, [.int 0, .null, .int 0]))) a39 = some (212, .inr (3, [.int 0, .ref de, .int 0])) := hle98 _ _ hB94_a39
  have hB98_a50 : (yup G94 a98 (216, .inr (3, [.int 0, .null, .int 0]))) a50 = some (213, .inr (3, [.int 0, .ref de, .int 0])) := hle98 _ _ hB94_a50
  have hB98_a62 : (yup G94 a98 (216, .inr (3, [.int 0, .null, .int 0]))) a62 = some (202, .inl (aC 0, 4, .inl (fun _ => 0))) := hle98 _ _ hB94_a62
  have hB98_a68 : (yup G94 a98 (216, .inr (3, [.int 0, .null, .int 0]))) a68 = some (214, .inr (3, [.int 0, .ref de, .int 0])) := hle98 _ _ hB94_a68
  have hB98_a81 : (yup G94 a98 (216, .inr (3, [.int 0, .null, .int 0]))) a81 = some (203, .inl (aC 0, 6, .inl (fun _ => 0))) := hle98 _ _ hB94_a81
  have hB98_a87 : (yup G94 a98 (216, .inr (3, [.int 0, .null, .int 0]))) a87 = some (215, .inr (3, [.int 0, .ref de, .int 0])) := hle98 _ _ hB94_a87
  have hB98_a : (yup G94 a98 (216, .inr (3, [.int 0, .null, .int 0]))) a = some (200, .inr (16, [.int 0, .int 0, .int 0, .ref a6, .int 0, .int (-1), .ref a17, .ref a28, .ref a39, .ref a50, .int 0, .int 0, .int 0, .ref a62, .ref a68, .int 0, .ref a81, .ref a87, .null, .int 0])) := hle98 _ _ hA94
  have kt98 : yTg kR G (yup G94 a98 (216, .inr (3, [.int 0, .null, .int 0]))) := (kt94).trans (yTg.le hle98)
  generalize yup G94 a98 (216, .inr (3, [.int 0, .null, .int 0])) = G98 at hle98 hA98 hB98_a6 hB98_a17 hB98_a28 hB98_a39 hB98_a50 hB98_a62 hB98_a68 hB98_a81 hB98_a87 hB98_a kt98 ⊢
  refine y_blk 1 tq_X12_init (z := (102, [(0, .ref a)], [.ref a98, .ref a98, .ref a])) rfl ?_
  refine y_callI hS tq_X12_init rfl (As := []) rfl ci_X12_19 (m_Jinit hS hI (by decide) hA98) rfl (by decide) (Nat.le_of_ble_eq_true rfl) (fun r102 Gc102 q102 => ?_) (fun _ _ h9 => h9.elim)
  obtain ⟨rfl, eG102⟩ := q102
  subst eG102
  have hA102 : (yup G98 a98 (216, .inr (3, [.int 0, .ref de, .int 0]))) a98 = some (216, .inr (3, [.int 0, .ref de, .int 0])) := yup_s _ _ _
  have hB102_a6 : (yup G98 a98 (216, .inr (3, [.int 0, .ref de, .int 0]))) a6 = some (201, .inl (aC 0, 0, .inl (fun _ => 0))) := yup_o hB98_a6 hA98 (by decide)
  have hB102_a17 : (yup G98 a98 (216, .inr (3, [.int 0, .ref de, .int 0]))) a17 = some (210, .inr (3, [.int 0, .ref de, .int 0])) := yup_o hB98_a17 hA98 (by decide)
  have hB102_a28 : (yup G98 a98 (216, .inr (3, [.int 0, .ref de, .int 0]))) a28 = some (211, .inr (3, [.int 0, .ref de, .int 0])) := yup_o hB98_a28 hA98 (by decide)
  have hB102_a39 : (yup G98 a98 (216, .inr (3, [.int 0, .ref de, .int 0]))) a39 = some (212, .inr (3, [.int 0, .ref de, .int 0])) := yup_o hB98_a39 hA98 (by decide)
  have hB102_a50 : (yup G98 a98 (216, .inr (3, [.int 0, .ref de, .int 0]))) a50 = some (213, .inr (3, [.int 0, .ref de, .int 0])) := yup_o hB98_a50 hA98 (by decide)
  have hB102_a62 : (yup G98 a98 (216, .inr (3, [.int 0, .ref de, .int 0]))) a62 = some (202, .inl (aC 0, 4, .inl (fun _ => 0))) := yup_o hB98_a62 hA98 (by decide)
  have hB102_a68 : (yup G98 a98 (216, .inr (3, [.int 0, .ref de, .int 0]))) a68 = some (214, .inr (3, [.int 0, .ref de, .int 0])) := yup_o hB98_a68 hA98 (by decide)
  have hB102_a81 : (yup G98 a98 (216, .inr (3, [.int 0, .ref de, .int 0]))) a81 = some (203, .inl (aC 0, 6, .inl (fun _ => 0))) := yup_o hB98_a81 hA98 (by decide)
  have hB102_a87 : (yup G98 a98 (216, .inr (3, [.int 0, .ref de, .int 0]))) a87 = some (215, .inr (3, [.int 0, .ref de, .int 0])) := yup_o hB98_a87 hA98 (by decide)
  have hB102_a : (yup G98 a98 (216, .inr (3, [.int 0, .ref de, .int 0]))) a = some (200, .inr (16, [.int 0, .int 0, .int 0, .ref a6, .int 0, .int (-1), .ref a17, .ref a28, .ref a39, .ref a50, .int 0, .int 0, .int 0, .ref a62, .ref a68, .int 0, .ref a81, .ref a87, .null, .int 0])) := yup_o hB98_a hA98 (by decide)
  have kt102 : yTg kR G (yup G98 a98 (216, .inr (3, [.int 0, .ref de, .int 0]))) := (kt98).trans (yTg.up hA98 (by decide))
  generalize yup G98 a98 (216, .inr (3, [.int 0, .ref de, .int 0])) = G102 at hA102 hB102_a6 hB102_a17 hB102_a28 hB102_a39 hB102_a50 hB102_a62 hB102_a68 hB102_a81 hB102_a87 hB102_a kt102 ⊢
  refine y_blk 0 tq_X12_init (z := (105, [(0, .ref a)], [.ref a98, .ref a])) rfl ?_
  refine y_put hS tq_X12_init rfl fp_X12_45_X12 hB102_a (by omega) rfl rfl (Nat.le_of_ble_eq_true rfl) ?_
  have hA105 : (yup G102 a (200, .inr (16, [.int 0, .int 0, .int 0, .ref a6, .int 0, .int (-1), .ref a17, .ref a28, .ref a39, .ref a50, .int 0, .int 0, .int 0, .ref a62, .ref a68, .int 0, .ref a81, .ref a87, .ref a98, .int 0]))) a = some (200, .inr (16, [.int 0, .int 0, .int 0, .ref a6, .int 0, .int (-1), .ref a17, .ref a28, .ref a39, .ref a50, .int 0, .int 0, .int 0, .ref a62, .ref a68, .int 0, .ref a81, .ref a87, .ref a98, .int 0])) := yup_s _ _ _
  have hB105_a6 : (yup G102 a (200, .inr (16, [.int 0, .int 0, .int 0, .ref a6, .int 0, .int (-1), .ref a17, .ref a28, .ref a39, .ref a50, .int 0, .int 0, .int 0, .ref a62, .ref a68, .int 0, .ref a81, .ref a87, .ref a98, .int 0]))) a6 = some (201, .inl (aC 0, 0, .inl (fun _ => 0))) := yup_o hB102_a6 hB102_a (by decide)
  have hB105_a17 : (yup G102 a (200, .inr (16, [.int 0, .int 0, .int 0, .ref a6, .int 0, .int (-1), .ref a17, .ref a28, .ref a39, .ref a50, .int 0, .int 0, .int 0, .ref a62, .ref a68, .int 0, .ref a81, .ref a87, .ref a98, .int 0]))) a17 = some (210, .inr (3, [.int 0, .ref de, .int 0])) := yup_o hB102_a17 hB102_a (by decide)
  have hB105_a28 : (yup G102 a (200, .inr (16, [.int 0, .int 0, .int 0, .ref a6, .int 0, .int (-1), .ref a17, .ref a28, .ref a39, .ref a50, .int 0, .int 0, .int 0, .ref a62, .ref a68, .int 0, .ref a81, .ref a87, .ref a98, .int 0]))) a28 = some (211, .inr (3, [.int 0, .ref de, .int 0])) := yup_o hB102_a28 hB102_a (by decide)
  have hB105_a39 : (yup G102 a (200, .inr (16, [.int 0, .int 0, .int 0, .ref a6, .int 0, .int (-1), .ref a17, .ref a28, .ref a39, .ref a50, .int 0, .int 0, .int 0, .ref a62, .ref a68, .int 0, .ref a81, .ref a87, .ref a98, .int 0]))) a39 = some (212, .inr (3, [.int 0, .ref de, .int 0])) := yup_o hB102_a39 hB102_a (by decide)
  have hB105_a50 : (yup G102 a (200, .inr (16, [.int 0, .int 0, .int 0, .ref a6, .int 0, .int (-1), .ref a17, .ref a28, .ref a39, .ref a50, .int 0, .int 0, .int 0, .ref a62, .ref a68, .int 0, .ref a81, .ref a87, .ref a98, .int 0]))) a50 = some (213, .inr (3, [.int 0, .ref de, .int 0])) := yup_o hB102_a50 hB102_a (by decide)
  have hB105_a62 : (yup G102 a (200, .inr (16, [.int 0, .int 0, .int 0, .ref a6, .int 0, .int (-1), .ref a17, .ref a28, .ref a39, .ref a50, .int 0, .int 0, .int 0, .ref a62, .ref a68, .int 0, .ref a81, .ref a87, .ref a98, .int 0]))) a62 = some (202, .inl (aC 0, 4, .inl (fun _ => 0))) := yup_o hB102_a62 hB102_a (by decide)
  have hB105_a68 : (yup G102 a (200, .inr (16, [.int 0, .int 0, .int 0, .ref a6, .int 0, .int (-1), .ref a17, .ref a28, .ref a39, .ref a50, .int 0, .int 0, .int 0, .ref a62, .ref a68, .int 0, .ref a81, .ref a87, .ref a98, .int 0]))) a68 = some (214, .inr (3, [.int 0, .ref de, .int 0])) := yup_o hB102_a68 hB102_a (by decide)
  have hB105_a81 : (yup G102 a (200, .inr (16, [.int 0, .int 0, .int 0, .ref a6, .int 0, .int (-1), .ref a17, .ref a28, .ref a39, .ref a50, .int 0, .int 0, .int 0, .ref a62, .ref a68, .int 0, .ref a81, .ref a87, .ref a98, .int 0]))) a81 = some (203, .inl (aC 0, 6, .inl (fun _ => 0))) := yup_o hB102_a81 hB102_a (by decide)
  have hB105_a87 : (yup G102 a (200, .inr (16, [.int 0, .int 0, .int 0, .ref a6, .int 0, .int (-1), .ref a17, .ref a28, .ref a39, .ref a50, .int 0, .int 0, .int 0, .ref a62, .ref a68, .int 0, .ref a81, .ref a87, .ref a98, .int 0]))) a87 = some (215, .inr (3, [.int 0, .ref de, .int 0])) := yup_o hB102_a87 hB102_a (by decide)
  have hB105_a98 : (yup G102 a (200, .inr (16, [.int 0, .int 0, .int 0, .ref a6, .int 0, .int (-1), .ref a17, .ref a28, .ref a39, .ref a50, .int 0, .int 0, .int 0, .ref a62, .ref a68, .int 0, .ref a81, .ref a87, .ref a98, .int 0]))) a98 = some (216, .inr (3, [.int 0, .ref de, .int 0])) := yup_o hA102 hB102_a (by decide)
  have kt105 : yTg kR G (yup G102 a (200, .inr (16, [.int 0, .int 0, .int 0, .ref a6, .int 0, .int (-1), .ref a17, .ref a28, .ref a39, .ref a50, .int 0, .int 0, .int 0, .ref a62, .ref a68, .int 0, .ref a81, .ref a87, .ref a98, .int 0]))) := (kt102).trans (yTg.up hB102_a (by decide))
  show Y l S0 D K_X12_init 18 11 34 (fun r G1 => r = none ∧ ∃ (ad : Nat → Nat) (ρ : RS), atR aC ic de ad G1 ρ ∧ ad 200 = a ∧ yTg kR G G1 ∧ rini ρ ∧ rNew 0 0 ρ) (fun _ _ => False) (105 + 3) [(0, .ref a)] [] (yup G102 a (200, .inr (16, [.int 0, .int 0, .int 0, .ref a6, .int 0, .int (-1), .ref a17, .ref a28, .ref a39, .ref a50, .int 0, .int 0, .int 0, .ref a62, .ref a68, .int 0, .ref a81, .ref a87, .ref a98, .int 0]))) 1 3
  generalize yup G102 a (200, .inr (16, [.int 0, .int 0, .int 0, .ref a6, .int 0, .int (-1), .ref a17, .ref a28, .ref a39, .ref a50, .int 0, .int 0, .int 0, .ref a62, .ref a68, .int 0, .ref a81, .ref a87, .ref a98, .int 0])) = G105 at hA105 hB105_a6 hB105_a17 hB105_a28 hB105_a39 hB105_a50 hB105_a62 hB105_a68 hB105_a81 hB105_a87 hB105_a98 kt105 ⊢
  refine y_blk 1 tq_X12_init (z := (109, [(0, .ref a)], [.ref a])) rfl ?_
  obtain ⟨ad, hX, hd⟩ := yRmk (aC := aC) (ic := ic) hA105 hB105_a6 hB105_a62 hB105_a81 hB105_a17 hB105_a28 hB105_a39 hB105_a50 hB105_a68 hB105_a87 hB105_a98
  refine y_callV hS tq_X12_init rfl (As := []) rfl cv_X12_48 hA105 (yM.eq hd (m_X12_begin hS hI hX rb00.1 rb00.2.1 rb00.2.2 (Or.inr rfl))) rfl (by decide) (Nat.le_of_ble_eq_true rfl) (fun r109 Gc109 q109 => ?_) (fun _ _ h9 => h9.elim)
  obtain ⟨rfl, ad1, ρ1, hX1, hd1, hk1, hq1, hB1⟩ := q109
  exact y_vret tq_X12_init rfl rfl ⟨rfl, ad1, ρ1, hX1, hd1.trans hd, (kt105).trans hk1, rini.of hB1, hq1⟩
