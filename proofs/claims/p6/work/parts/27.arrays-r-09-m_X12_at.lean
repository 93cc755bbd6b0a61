/-! part -/
set_option maxHeartbeats 4000000 in
set_option maxRecDepth 100000 in
theorem m_X12_at {l : Launch} {S0 : State} {A0 : Array Value} {D : va_G} {aC : Nat → ClassId} {ic : Int32 → Nat} {de : Nat} {ad : Nat → Nat} {G : AH} {ρ : RS} (hS : yS l S0 A0 D aC) (hI : yIc S0 ic de) (hX : atR aC ic de ad G ρ) (cell : Int32) (minute : Int32) (hcell : rcell ρ cell) : yM l S0 D yX12_at cX12_at 4 (some (.array .boolean)) 22 1 64 [.ref (ad 200), .int cell, .int minute] G (fun r G1 => ∃ (a : Nat) (f : Nat → Int32), r = some (.ref a) ∧ G1 a = some (501, .inl (aC 2, rZ ρ 201, .inl f)) ∧ yTg kA G G1) (fun _ _ => False) := by
  refine yM.ofK K_X12_at rfl (by decide) (Nat.le_of_ble_eq_true rfl) ?_
  have hn64 := hX.2.n64
  have hc0 := hcell.1
  have hc1 := hcell.2
  refine y_blk 1 tq_X12_at (z := (1, [(0, .ref (ad 200)), (1, .int cell), (2, .int minute)], [.ref (ad 200)])) rfl ?_
  refine y_get hS tq_X12_at (v := .ref (ad 201)) rfl fg_X12_7_X12 hX.m rfl ?_
  refine y_blk 0 tq_X12_at (z := (4, [(0, .ref (ad 200)), (1, .int cell), (2, .int minute)], [.ref (ad 201)])) rfl ?_
  refine y_alen hS tq_X12_at 0 rfl rfl hX.ki ?_
  refine y_blk 0 tq_X12_at (z := (5, [(0, .ref (ad 200)), (1, .int cell), (2, .int minute)], [.int (Int32.ofNat (rZ ρ 201))])) rfl ?_
  refine y_less (k2 := 0 + 1) (n2 := 0 + (rZ ρ 201)) (by omega) (by omega) ?_
  refine y_newa_bool 501 hS tq_X12_at rfl wd_2116 (by rw [ylt, yl_0, yofn (by omega)]; omega) (yofc (by omega)) (by omega) (fun a5 hne5 => ?_)
  have hle5 : yLe G (yup G a5 (501, .inl (aC 2, (rZ ρ 201), .inl (fun _ => 0)))) := yLe.new hne5
  have hA5 : (yup G a5 (501, .inl (aC 2, (rZ ρ 201), .inl (fun _ => 0)))) a5 = some (501, .inl (aC 2, (rZ ρ 201), .inl (fun _ => 0))) := yup_s _ _ _
  generalize yup G a5 (501, .inl (aC 2, (rZ ρ 201), .inl (fun _ => 0))) = G5 at hle5 hA5 ⊢
  have hX5 := hX.le hle5
  have kt5 := ((yTg.rfl' (f := kA) (G := G))).trans (yTg.le hle5)
  refine y_blk 6 tq_X12_at (z := (13, [(3, .ref a5), (0, .ref (ad 200)), (1, .int cell), (2, .int minute)], [.int minute, .int cell, .ref (ad 200), .int cell, .ref a5])) rfl ?_
  refine y_callV hS tq_X12_at rfl (As := [.int cell, .int minute]) rfl cv_X12_280 hX5.m (m_X12_isUnseen hS hI hX5 cell minute (by first | assumption | exact hX5.lac (by assumption) | exact hX5.poc (by assumption) | exact hX5.wac (by assumption) (by assumption) (by omega))) rfl (by decide) (Nat.le_of_ble_eq_true rfl) (fun r13 Gc13 q13 => ?_) (fun E9 G9 h9 => h9.elim)
  obtain ⟨⟨x13, hb_x13, rfl⟩, eG13⟩ := q13
  have eG13 := eG13.symm
  subst eG13
  refine y_blk 0 tq_X12_at (z := (16, [(3, .ref a5), (0, .ref (ad 200)), (1, .int cell), (2, .int minute)], [.int x13, .int cell, .ref a5])) rfl ?_
  refine y_zast hS tq_X12_at rfl hA5 (by decide) (by first | exact yIn (by decide) (by decide) | exact yIn (by assumption) (by assumption) | (exact yIn (by omega) (by omega))) ?_
  have hA16 : (yup G5 a5 (501, .inl (aC 2, (rZ ρ 201), .inl (upd (fun _ => 0) (Int32.toNatClampNeg cell) (vp_nar .boolean x13))))) a5 = some (501, .inl (aC 2, (rZ ρ 201), .inl (upd (fun _ => 0) (Int32.toNatClampNeg cell) (vp_nar .boolean x13)))) := yup_s _ _ _
  have hX16 : atR aC ic de ad (yup G5 a5 (501, .inl (aC 2, (rZ ρ 201), .inl (upd (fun _ => 0) (Int32.toNatClampNeg cell) (vp_nar .boolean x13))))) ρ := hX5.kp (yTg.up hA5 (by decide))
  have kt16 : yTg kA G (yup G5 a5 (501, .inl (aC 2, (rZ ρ 201), .inl (upd (fun _ => 0) (Int32.toNatClampNeg cell) (vp_nar .boolean x13))))) := (kt5).trans (yTg.up hA5 (by decide))
  generalize yup G5 a5 (501, .inl (aC 2, (rZ ρ 201), .inl (upd (fun _ => 0) (Int32.toNatClampNeg cell) (vp_nar .boolean x13)))) = G16 at hA16 hX16 kt16 ⊢
  generalize (upd (fun _ => 0) (Int32.toNatClampNeg cell) (vp_nar .boolean x13)) = f16 at hA16
  refine y_blk 1 tq_X12_at (z := (18, [(3, .ref a5), (0, .ref (ad 200)), (1, .int cell), (2, .int minute)], [.ref a5])) rfl ?_
  exact y_aret tq_X12_at rfl rfl (Or.inr ⟨_, rfl⟩) (Or.inr ⟨_, rfl⟩) (⟨_, _, rfl, hA16, kt16⟩)
