/-! ===== the claim out of the walk ===== -/
theorem i_J0 : ∀ w ∈ u_ws RJ0 TJ0 4, w ∈ lw_tbl := by
  intro w hw
  obtain ⟨k, hk, rfl⟩ := List.mem_map.mp hw
  have hk := List.mem_range.mp hk
  match k, hk with
  | 0, _ => exact lw_in7 _ (List.mem_of_getElem? (i := 37) (by decide +kernel))
  | 1, _ => exact lw_in7 _ (List.mem_of_getElem? (i := 39) (by decide +kernel))
  | 2, _ => exact lw_in7 _ (List.mem_of_getElem? (i := 41) (by decide +kernel))
  | 3, _ => exact lw_in7 _ (List.mem_of_getElem? (i := 43) (by decide +kernel))
  | k + 4, h => exact absurd h (by omega)
theorem i_J4 : ∀ w ∈ u_ws RJ4 TJ4 4, w ∈ lw_tbl := by
  intro w hw
  obtain ⟨k, hk, rfl⟩ := List.mem_map.mp hw
  have hk := List.mem_range.mp hk
  match k, hk with
  | 0, _ => exact lw_in6 _ (List.mem_of_getElem? (i := 31) (by decide +kernel))
  | 1, _ => exact lw_in6 _ (List.mem_of_getElem? (i := 33) (by decide +kernel))
  | 2, _ => exact lw_in6 _ (List.mem_of_getElem? (i := 35) (by decide +kernel))
  | 3, _ => exact lw_in6 _ (List.mem_of_getElem? (i := 37) (by decide +kernel))
  | k + 4, h => exact absurd h (by omega)
theorem i_J6 : ∀ w ∈ u_ws RJ6 TJ6 1, w ∈ lw_tbl := by
  intro w hw
  obtain ⟨k, hk, rfl⟩ := List.mem_map.mp hw
  have hk := List.mem_range.mp hk
  match k, hk with
  | 0, _ => exact lw_in8 _ (List.mem_of_getElem? (i := 103) (by decide +kernel))
  | k + 1, h => exact absurd h (by omega)
theorem i_Jx4a65c : ∀ w ∈ u_ws RJx4a65c TJx4a65c 3, w ∈ lw_tbl := by
  intro w hw
  obtain ⟨k, hk, rfl⟩ := List.mem_map.mp hw
  have hk := List.mem_range.mp hk
  match k, hk with
  | 0, _ => exact lw_in7 _ (List.mem_of_getElem? (i := 75) (by decide +kernel))
  | 1, _ => exact lw_in7 _ (List.mem_of_getElem? (i := 71) (by decide +kernel))
  | 2, _ => exact lw_in7 _ (List.mem_of_getElem? (i := 73) (by decide +kernel))
  | k + 3, h => exact absurd h (by omega)
theorem i_X0 : ∀ w ∈ u_ws RX0 TX0 2, w ∈ lw_tbl := by
  intro w hw
  obtain ⟨k, hk, rfl⟩ := List.mem_map.mp hw
  have hk := List.mem_range.mp hk
  match k, hk with
  | 0, _ => exact lw_in1 _ (List.mem_of_getElem? (i := 124) (by decide +kernel))
  | 1, _ => exact lw_in1 _ (List.mem_of_getElem? (i := 126) (by decide +kernel))
  | k + 2, h => exact absurd h (by omega)
theorem i_X1 : ∀ w ∈ u_ws RX1 TX1 10, w ∈ lw_tbl := by
  intro w hw
  obtain ⟨k, hk, rfl⟩ := List.mem_map.mp hw
  have hk := List.mem_range.mp hk
  match k, hk with
  | 0, _ => exact lw_in1 _ (List.mem_of_getElem? (i := 62) (by decide +kernel))
  | 1, _ => exact lw_in1 _ (List.mem_of_getElem? (i := 64) (by decide +kernel))
  | 2, _ => exact lw_in1 _ (List.mem_of_getElem? (i := 66) (by decide +kernel))
  | 3, _ => exact lw_in1 _ (List.mem_of_getElem? (i := 68) (by decide +kernel))
  | 4, _ => exact lw_in1 _ (List.mem_of_getElem? (i := 70) (by decide +kernel))
  | 5, _ => exact lw_in1 _ (List.mem_of_getElem? (i := 72) (by decide +kernel))
  | 6, _ => exact lw_in1 _ (List.mem_of_getElem? (i := 74) (by decide +kernel))
  | 7, _ => exact lw_in1 _ (List.mem_of_getElem? (i := 76) (by decide +kernel))
  | 8, _ => exact lw_in1 _ (List.mem_of_getElem? (i := 78) (by decide +kernel))
  | 9, _ => exact lw_in1 _ (List.mem_of_getElem? (i := 80) (by decide +kernel))
  | k + 10, h => exact absurd h (by omega)
theorem i_X2 : ∀ w ∈ u_ws RX2 TX2 5, w ∈ lw_tbl := by
  intro w hw
  obtain ⟨k, hk, rfl⟩ := List.mem_map.mp hw
  have hk := List.mem_range.mp hk
  match k, hk with
  | 0, _ => exact lw_in1 _ (List.mem_of_getElem? (i := 142) (by decide +kernel))
  | 1, _ => exact lw_in1 _ (List.mem_of_getElem? (i := 144) (by decide +kernel))
  | 2, _ => exact lw_in1 _ (List.mem_of_getElem? (i := 146) (by decide +kernel))
  | 3, _ => exact lw_in1 _ (List.mem_of_getElem? (i := 148) (by decide +kernel))
  | 4, _ => exact lw_in1 _ (List.mem_of_getElem? (i := 150) (by decide +kernel))
  | k + 5, h => exact absurd h (by omega)
theorem i_X3 : ∀ w ∈ u_ws RX3 TX3 6, w ∈ lw_tbl := by
  intro w hw
  obtain ⟨k, hk, rfl⟩ := List.mem_map.mp hw
  have hk := List.mem_range.mp hk
  match k, hk with
  | 0, _ => exact lw_in1 _ (List.mem_of_getElem? (i := 199) (by decide +kernel))
  | 1, _ => exact lw_in1 _ (List.mem_of_getElem? (i := 201) (by decide +kernel))
  | 2, _ => exact lw_in1 _ (List.mem_of_getElem? (i := 203) (by decide +kernel))
  | 3, _ => exact lw_in1 _ (List.mem_of_getElem? (i := 205) (by decide +kernel))
  | 4, _ => exact lw_in1 _ (List.mem_of_getElem? (i := 207) (by decide +kernel))
  | 5, _ => exact lw_in1 _ (List.mem_of_getElem? (i := 209) (by decide +kernel))
  | k + 6, h => exact absurd h (by omega)
theorem i_X4 : ∀ w ∈ u_ws RX4 TX4 3, w ∈ lw_tbl := by
  intro w hw
  obtain ⟨k, hk, rfl⟩ := List.mem_map.mp hw
  have hk := List.mem_range.mp hk
  match k, hk with
  | 0, _ => exact lw_in1 _ (List.mem_of_getElem? (i := 107) (by decide +kernel))
  | 1, _ => exact lw_in1 _ (List.mem_of_getElem? (i := 109) (by decide +kernel))
  | 2, _ => exact lw_in1 _ (List.mem_of_getElem? (i := 111) (by decide +kernel))
  | k + 3, h => exact absurd h (by omega)
theorem i_X5 : ∀ w ∈ u_ws RX5 TX5 2, w ∈ lw_tbl := by
  intro w hw
  obtain ⟨k, hk, rfl⟩ := List.mem_map.mp hw
  have hk := List.mem_range.mp hk
  match k, hk with
  | 0, _ => exact lw_in1 _ (List.mem_of_getElem? (i := 98) (by decide +kernel))
  | 1, _ => exact lw_in1 _ (List.mem_of_getElem? (i := 100) (by decide +kernel))
  | k + 2, h => exact absurd h (by omega)
theorem i_X6 : ∀ w ∈ u_ws RX6 TX6 2, w ∈ lw_tbl := by
  intro w hw
  obtain ⟨k, hk, rfl⟩ := List.mem_map.mp hw
  have hk := List.mem_range.mp hk
  match k, hk with
  | 0, _ => exact lw_in1 _ (List.mem_of_getElem? (i := 222) (by decide +kernel))
  | 1, _ => exact lw_in1 _ (List.mem_of_getElem? (i := 224) (by decide +kernel))
  | k + 2, h => exact absurd h (by omega)
theorem i_X7 : ∀ w ∈ u_ws RX7 TX7 7, w ∈ lw_tbl := by
  intro w hw
  obtain ⟨k, hk, rfl⟩ := List.mem_map.mp hw
  have hk := List.mem_range.mp hk
  match k, hk with
  | 0, _ => exact lw_in1 _ (List.mem_of_getElem? (i := 170) (by decide +kernel))
  | 1, _ => exact lw_in1 _ (List.mem_of_getElem? (i := 172) (by decide +kernel))
  | 2, _ => exact lw_in1 _ (List.mem_of_getElem? (i := 174) (by decide +kernel))
  | 3, _ => exact lw_in1 _ (List.mem_of_getElem? (i := 176) (by decide +kernel))
  | 4, _ => exact lw_in1 _ (List.mem_of_getElem? (i := 178) (by decide +kernel))
  | 5, _ => exact lw_in1 _ (List.mem_of_getElem? (i := 180) (by decide +kernel))
  | 6, _ => exact lw_in1 _ (List.mem_of_getElem? (i := 182) (by decide +kernel))
  | k + 7, h => exact absurd h (by omega)
theorem i_X8 : ∀ w ∈ u_ws RX8 TX8 10, w ∈ lw_tbl := by
  intro w hw
  obtain ⟨k, hk, rfl⟩ := List.mem_map.mp hw
  have hk := List.mem_range.mp hk
  match k, hk with
  | 0, _ => exact lw_in2 _ (List.mem_of_getElem? (i := 29) (by decide +kernel))
  | 1, _ => exact lw_in2 _ (List.mem_of_getElem? (i := 31) (by decide +kernel))
  | 2, _ => exact lw_in2 _ (List.mem_of_getElem? (i := 33) (by decide +kernel))
  | 3, _ => exact lw_in2 _ (List.mem_of_getElem? (i := 35) (by decide +kernel))
  | 4, _ => exact lw_in2 _ (List.mem_of_getElem? (i := 37) (by decide +kernel))
  | 5, _ => exact lw_in2 _ (List.mem_of_getElem? (i := 39) (by decide +kernel))
  | 6, _ => exact lw_in2 _ (List.mem_of_getElem? (i := 41) (by decide +kernel))
  | 7, _ => exact lw_in2 _ (List.mem_of_getElem? (i := 43) (by decide +kernel))
  | 8, _ => exact lw_in2 _ (List.mem_of_getElem? (i := 45) (by decide +kernel))
  | 9, _ => exact lw_in2 _ (List.mem_of_getElem? (i := 47) (by decide +kernel))
  | k + 10, h => exact absurd h (by omega)
theorem i_X9 : ∀ w ∈ u_ws RX9 TX9 2, w ∈ lw_tbl := by
  intro w hw
  obtain ⟨k, hk, rfl⟩ := List.mem_map.mp hw
  have hk := List.mem_range.mp hk
  match k, hk with
  | 0, _ => exact lw_in4 _ (List.mem_of_getElem? (i := 42) (by decide +kernel))
  | 1, _ => exact lw_in4 _ (List.mem_of_getElem? (i := 44) (by decide +kernel))
  | k + 2, h => exact absurd h (by omega)
theorem i_X10 : ∀ w ∈ u_ws RX10 TX10 6, w ∈ lw_tbl := by
  intro w hw
  obtain ⟨k, hk, rfl⟩ := List.mem_map.mp hw
  have hk := List.mem_range.mp hk
  match k, hk with
  | 0, _ => exact lw_in8 _ (List.mem_of_getElem? (i := 118) (by decide +kernel))
  | 1, _ => exact lw_in8 _ (List.mem_of_getElem? (i := 120) (by decide +kernel))
  | 2, _ => exact lw_in8 _ (List.mem_of_getElem? (i := 122) (by decide +kernel))
  | 3, _ => exact lw_in8 _ (List.mem_of_getElem? (i := 124) (by decide +kernel))
  | 4, _ => exact lw_in8 _ (List.mem_of_getElem? (i := 126) (by decide +kernel))
  | 5, _ => exact lw_in8 _ (List.mem_of_getElem? (i := 128) (by decide +kernel))
  | k + 6, h => exact absurd h (by omega)
theorem i_X11 : ∀ w ∈ u_ws RX11 TX11 5, w ∈ lw_tbl := by
  intro w hw
  obtain ⟨k, hk, rfl⟩ := List.mem_map.mp hw
  have hk := List.mem_range.mp hk
  match k, hk with
  | 0, _ => exact lw_in9 _ (List.mem_of_getElem? (i := 37) (by decide +kernel))
  | 1, _ => exact lw_in9 _ (List.mem_of_getElem? (i := 39) (by decide +kernel))
  | 2, _ => exact lw_in9 _ (List.mem_of_getElem? (i := 41) (by decide +kernel))
  | 3, _ => exact lw_in9 _ (List.mem_of_getElem? (i := 43) (by decide +kernel))
  | 4, _ => exact lw_in9 _ (List.mem_of_getElem? (i := 45) (by decide +kernel))
  | k + 5, h => exact absurd h (by omega)
theorem i_X12 : ∀ w ∈ u_ws RX12 TX12 20, w ∈ lw_tbl := by
  intro w hw
  obtain ⟨k, hk, rfl⟩ := List.mem_map.mp hw
  have hk := List.mem_range.mp hk
  match k, hk with
  | 0, _ => exact lw_in7 _ (List.mem_of_getElem? (i := 133) (by decide +kernel))
  | 1, _ => exact lw_in7 _ (List.mem_of_getElem? (i := 135) (by decide +kernel))
  | 2, _ => exact lw_in7 _ (List.mem_of_getElem? (i := 137) (by decide +kernel))
  | 3, _ => exact lw_in7 _ (List.mem_of_getElem? (i := 139) (by decide +kernel))
  | 4, _ => exact lw_in7 _ (List.mem_of_getElem? (i := 141) (by decide +kernel))
  | 5, _ => exact lw_in7 _ (List.mem_of_getElem? (i := 143) (by decide +kernel))
  | 6, _ => exact lw_in7 _ (List.mem_of_getElem? (i := 145) (by decide +kernel))
  | 7, _ => exact lw_in7 _ (List.mem_of_getElem? (i := 147) (by decide +kernel))
  | 8, _ => exact lw_in7 _ (List.mem_of_getElem? (i := 149) (by decide +kernel))
  | 9, _ => exact lw_in7 _ (List.mem_of_getElem? (i := 151) (by decide +kernel))
  | 10, _ => exact lw_in7 _ (List.mem_of_getElem? (i := 153) (by decide +kernel))
  | 11, _ => exact lw_in7 _ (List.mem_of_getElem? (i := 155) (by decide +kernel))
  | 12, _ => exact lw_in7 _ (List.mem_of_getElem? (i := 157) (by decide +kernel))
  | 13, _ => exact lw_in7 _ (List.mem_of_getElem? (i := 159) (by decide +kernel))
  | 14, _ => exact lw_in7 _ (List.mem_of_getElem? (i := 161) (by decide +kernel))
  | 15, _ => exact lw_in7 _ (List.mem_of_getElem? (i := 163) (by decide +kernel))
  | 16, _ => exact lw_in7 _ (List.mem_of_getElem? (i := 165) (by decide +kernel))
  | 17, _ => exact lw_in7 _ (List.mem_of_getElem? (i := 167) (by decide +kernel))
  | 18, _ => exact lw_in7 _ (List.mem_of_getElem? (i := 169) (by decide +kernel))
  | 19, _ => exact lw_in7 _ (List.mem_of_getElem? (i := 171) (by decide +kernel))
  | k + 20, h => exact absurd h (by omega)
theorem yCls {s : State} {A0 : Array Value} (hts : ∀ w ∈ lw_tbl, w.before A0 s = true) : ∃ D : va_G, ∀ (c : Nat) (q : vw_C), vwCl[c]? = some q → u_Kn s q.1 q.2.1 q.2.2 (D.1 c) (D.2 c) := by
  have h : ∀ c : Nat, ∃ (cC : ClassId) (iS : Nat → Nat), ∀ q : vw_C, vwCl[c]? = some q → u_Kn s q.1 q.2.1 q.2.2 cC iS := by
    have hd : ∃ cC : ClassId, True := by
      obtain ⟨cC, iS, h⟩ := u_known (C := RJ0) (T := TJ0) (N := 4) (n := 4) hts i_J0 (hts _ (lw_in6 _ (List.mem_of_getElem? (i := 153) (by decide +kernel))))
      exact ⟨cC, trivial⟩
    obtain ⟨c0, -⟩ := hd
    intro c
    match c with
    | 0 =>
      obtain ⟨cC, iS, h⟩ := u_known (C := RJ0) (T := TJ0) (N := 4) (n := 4) hts i_J0 (hts _ (lw_in6 _ (List.mem_of_getElem? (i := 153) (by decide +kernel))))
      exact ⟨cC, iS, fun q hq => by cases hq; exact h⟩
    | 1 =>
      obtain ⟨cC, iS, h⟩ := u_known (C := RJ4) (T := TJ4) (N := 4) (n := 4) hts i_J4 (hts _ (lw_in6 _ (List.mem_of_getElem? (i := 10) (by decide +kernel))))
      exact ⟨cC, iS, fun q hq => by cases hq; exact h⟩
    | 2 =>
      obtain ⟨cC, iS, h⟩ := u_known (C := RJ6) (T := TJ6) (N := 1) (n := 1) hts i_J6 (hts _ (lw_in8 _ (List.mem_of_getElem? (i := 94) (by decide +kernel))))
      exact ⟨cC, iS, fun q hq => by cases hq; exact h⟩
    | 3 =>
      obtain ⟨cC, iS, h⟩ := u_known (C := RJx4a65c) (T := TJx4a65c) (N := 3) (n := 3) hts i_Jx4a65c (hts _ (lw_in7 _ (List.mem_of_getElem? (i := 53) (by decide +kernel))))
      exact ⟨cC, iS, fun q hq => by cases hq; exact h⟩
    | 4 =>
      obtain ⟨cC, iS, h⟩ := u_known (C := RX0) (T := TX0) (N := 2) (n := 2) hts i_X0 (hts _ (lw_in1 _ (List.mem_of_getElem? (i := 115) (by decide +kernel))))
      exact ⟨cC, iS, fun q hq => by cases hq; exact h⟩
    | 5 =>
      obtain ⟨cC, iS, h⟩ := u_known (C := RX1) (T := TX1) (N := 10) (n := 10) hts i_X1 (hts _ (lw_in1 _ (List.mem_of_getElem? (i := 47) (by decide +kernel))))
      exact ⟨cC, iS, fun q hq => by cases hq; exact h⟩
    | 6 =>
      obtain ⟨cC, iS, h⟩ := u_known (C := RX2) (T := TX2) (N := 5) (n := 5) hts i_X2 (hts _ (lw_in1 _ (List.mem_of_getElem? (i := 130) (by decide +kernel))))
      exact ⟨cC, iS, fun q hq => by cases hq; exact h⟩
    | 7 =>
      obtain ⟨cC, iS, h⟩ := u_known (C := RX3) (T := TX3) (N := 6) (n := 6) hts i_X3 (hts _ (lw_in1 _ (List.mem_of_getElem? (i := 186) (by decide +kernel))))
      exact ⟨cC, iS, fun q hq => by cases hq; exact h⟩
    | 8 =>
      obtain ⟨cC, iS, h⟩ := u_known (C := RX4) (T := TX4) (N := 3) (n := 3) hts i_X4 (hts _ (lw_in1 _ (List.mem_of_getElem? (i := 85) (by decide +kernel))))
      exact ⟨cC, iS, fun q hq => by cases hq; exact h⟩
    | 9 =>
      obtain ⟨cC, iS, h⟩ := u_known (C := RX5) (T := TX5) (N := 2) (n := 2) hts i_X5 (hts _ (lw_in1 _ (List.mem_of_getElem? (i := 91) (by decide +kernel))))
      exact ⟨cC, iS, fun q hq => by cases hq; exact h⟩
    | 10 =>
      obtain ⟨cC, iS, h⟩ := u_known (C := RX6) (T := TX6) (N := 2) (n := 2) hts i_X6 (hts _ (lw_in1 _ (List.mem_of_getElem? (i := 213) (by decide +kernel))))
      exact ⟨cC, iS, fun q hq => by cases hq; exact h⟩
    | 11 =>
      obtain ⟨cC, iS, h⟩ := u_known (C := RX7) (T := TX7) (N := 7) (n := 7) hts i_X7 (hts _ (lw_in1 _ (List.mem_of_getElem? (i := 156) (by decide +kernel))))
      exact ⟨cC, iS, fun q hq => by cases hq; exact h⟩
    | 12 =>
      obtain ⟨cC, iS, h⟩ := u_known (C := RX8) (T := TX8) (N := 10) (n := 10) hts i_X8 (hts _ (lw_in1 _ (List.mem_of_getElem? (i := 39) (by decide +kernel))))
      exact ⟨cC, iS, fun q hq => by cases hq; exact h⟩
    | 13 =>
      obtain ⟨cC, iS, h⟩ := u_known (C := RX9) (T := TX9) (N := 2) (n := 2) hts i_X9 (hts _ (lw_in4 _ (List.mem_of_getElem? (i := 35) (by decide +kernel))))
      exact ⟨cC, iS, fun q hq => by cases hq; exact h⟩
    | 14 =>
      obtain ⟨cC, iS, h⟩ := u_known (C := RX10) (T := TX10) (N := 6) (n := 6) hts i_X10 (hts _ (lw_in8 _ (List.mem_of_getElem? (i := 79) (by decide +kernel))))
      exact ⟨cC, iS, fun q hq => by cases hq; exact h⟩
    | 15 =>
      obtain ⟨cC, iS, h⟩ := u_known (C := RX11) (T := TX11) (N := 5) (n := 5) hts i_X11 (hts _ (lw_in9 _ (List.mem_of_getElem? (i := 20) (by decide +kernel))))
      exact ⟨cC, iS, fun q hq => by cases hq; exact h⟩
    | 16 =>
      obtain ⟨cC, iS, h⟩ := u_known (C := RX12) (T := TX12) (N := 20) (n := 20) hts i_X12 (hts _ (lw_in7 _ (List.mem_of_getElem? (i := 47) (by decide +kernel))))
      exact ⟨cC, iS, fun q hq => by cases hq; exact h⟩
    | c + 17 => exact ⟨c0, fun _ => 0, fun q hq => by cases hq⟩
  exact ⟨(fun c => (h c).choose, fun c => (h c).choose_spec.choose), fun c q hq => (h c).choose_spec.choose_spec q hq⟩
theorem yArrs {s : State} {A0 : Array Value} (hts : ∀ w ∈ lw_tbl, w.before A0 s = true) : ∃ aC : Nat → ClassId, ∀ (k : Nat) (q : ClassId × FieldType), (yty aC)[k]? = some q → ArrOfT s q.1 q.2 ∧ va_RA s q.1 q.2 := by
  obtain ⟨c0, k0, m0, a0, b0, d0⟩ := Cond.arrayClass_spec (type := .int) (hts (.arrayClass .int) (lw_in1 _ (List.mem_of_getElem? (i := 103) (by decide +kernel))))
  obtain ⟨c1, k1, m1, a1, b1, d1⟩ := Cond.arrayClass_spec (type := .long) (hts (.arrayClass .long) (lw_in1 _ (List.mem_of_getElem? (i := 83) (by decide +kernel))))
  obtain ⟨c2, k2, m2, a2, b2, d2⟩ := Cond.arrayClass_spec (type := .boolean) (hts (.arrayClass .boolean) (lw_in9 _ (List.mem_of_getElem? (i := 123) (by decide +kernel))))
  obtain ⟨c3, k3, m3, a3, b3, d3⟩ := Cond.arrayClass_spec (type := .byte) (hts (.arrayClass .byte) (lw_in2 _ (List.mem_of_getElem? (i := 207) (by decide +kernel))))
  obtain ⟨m4, c4, k4, a4, -, b4, d4, e4⟩ := Cond.arrayOver_spec (n := "java/lang/Object") (hts (.arrayOver (.object "java/lang/Object")) (lw_in8 _ (List.mem_of_getElem? (i := 36) (by decide +kernel))))
  refine ⟨fun k => if k = 0 then c0 else if k = 1 then c1 else if k = 2 then c2 else if k = 3 then c3 else c4, fun k q hq => ?_⟩
  match k, hq with
  | 0, hq => cases hq; exact ⟨fun n z => ⟨fun k h => (by cases h), k0, b0, m0, d0⟩, a0⟩
  | 1, hq => cases hq; exact ⟨fun n z => ⟨fun k h => (by cases h), k1, b1, m1, d1⟩, a1⟩
  | 2, hq => cases hq; exact ⟨fun n z => ⟨fun k h => (by cases h), k2, b2, m2, d2⟩, a2⟩
  | 3, hq => cases hq; exact ⟨fun n z => ⟨fun k h => (by cases h), k3, b3, m3, d3⟩, a3⟩
  | 4, hq => cases hq; exact ⟨fun n z => ⟨fun k h => (by cases h), k4, b4, m4, d4⟩, k4, m4, b4, d4, a4, e4⟩
  | k + 5, hq => cases hq
/-! THE CLAIM OUT OF ONE WALK OF THE LAW'S BODY. Your part is whole_start (and what it stands on); all else here is the same for every law, but numbers. -/
def R_law : String := "NightwatchWallLaw"
def lw_P (b : Addr) (xs : List Int32) (args : Array Value) (s : State) : Prop := args = #[.ref b] ∧ s.IntsAt b xs ∧ xs.length ≤ 2560 ∧ (Jvm.Cond.and given_1 narrow_1).before args s = true
def lw_Q (_ : Array Value) (s : State) (o : Outcome) (t : State) : Prop := o = .returned (some (.int 1)) ∧ Framed s o t [] 601024 7293034
def lw_Z (below : List Frame) (a : Array Value) (s : State) : State → Prop := fun t => ∃ o, t.status = .running ∧ Ended t below o ∧ lw_Q a s o t
/-- the law's own end, with 1 on the stack, nothing written that was there before, its room as the claim has it -/
theorem lw_ret {p : Program} {l : Launch} {e : Env} {s : State} {m : MethodId} {below : List Frame} {meth : Method} {c : Code} {b : Nat} (hx : p.tables.exec = Jvm.exec) (hb : c.code = code) (hr : meth.sig.returnType = ret) (hlocks : meth.locks = false) {pc : Nat} {H : Heap} {ls : Array Slot} (hdg : decode code pc = .ok (.ireturn, 1)) : W p l e room_1 s m #[Value.ref b] below meth c H [] 601024 7293034 (lw_Z below #[Value.ref b] s) (F0 m pc ls [.int 1]) := by
  intro T hT X
  obtain ⟨fs, hret, hrun, hended, hW, hframe⟩ := X.leave (v := some (.int 1)) (hlocks := hlocks) (fun h => by rw [hr] at h; cases h)
  have hmeth' : T.vm.method? m = some meth := X.method'
  refine ⟨T.setFrames fs, ?_, .returned (some (.int 1)), hrun, hended, rfl, ⟨_, rfl⟩, hW, hframe⟩
  jvm_step X.here [X.here.top, hx, hb, hdg, hmeth', hr, ret, narrow_b1]
  (try refine ⟨rfl, ?_⟩); (try refine ⟨rfl, ?_⟩)
  first | (intro acts; rw [hret _ acts rfl rfl rfl]) | rw [hret _ _ rfl rfl rfl]
  exact Steps.refl _
/-- what holds at the law's entry: the machine, the code, the tables' words (any of lw_tbl by 'hts w (by decide +kernel)'), the script of L ints xs at the cell b, what the Statement gives of the start (any of its parts by flat_of_before) -/
def lw_At (p : Program) (s : State) (m : MethodId) (meth : Method) (c : Code) (b L : Nat) (xs : Nat → Int32) : Prop :=
  p.tables.exec = Jvm.exec ∧ c.code = code ∧ meth.sig.returnType = ret ∧ c.maxLocals = 7 ∧ s.vm.findClass R_law = some m.cls ∧ (∀ w ∈ lw_tbl, w.before #[Value.ref b] s = true) ∧ va_X b L xs s s.heap ∧ b < s.heap.size ∧ meth.locks = false ∧ (Jvm.Cond.and given_1 narrow_1).before #[Value.ref b] s = true
theorem yRoom {p : Program} {l : Launch} {e : Env} {s : State} {m : MethodId} {args : Array Value} {below : List Frame} {meth : Method} {c : Code} {T : State} {locs : List Loc} {cells slots : Nat} (X : Stand p l e room_1 s m args below meth c T locs cells slots) : Stand p l e (yR 1300 601024 7293034) s m args below meth c T locs cells slots :=
  by
  refine { X with room := ?_ }
  have h := X.room
  have e1 : room_1.frames = 2048 := rfl
  have e2 : room_1.cells = 601024 := rfl
  have e3 : room_1.slots = 7293034 := rfl
  have e4 : room_1.locals = 84000 := rfl
  simp only [State.hasRoom, Bool.and_eq_true, decide_eq_true_eq, e1, e2, e3, e4] at h ⊢
  obtain ⟨⟨⟨⟨h1, h2, h2a, h2b, h2c, h2d⟩, h3⟩, h4⟩, h5⟩ := h
  exact ⟨⟨⟨⟨by omega, by omega, by omega, by omega, by omega, h2d⟩, h3⟩, h4⟩, h5⟩
-- ===== YOUR PART BEGINS =====
set_option maxRecDepth 100000 in
theorem whole_start {p : Program} {e : Env} {s : State} {m : MethodId} {below : List Frame} {meth : Method} {c : Code} (l : Launch) (hflags : l.flags = flags0) {b L : Nat} {xs : Nat → Int32} (hL : L ≤ 2560) (C0 : lw_At p s m meth c b L xs) : W p l e room_1 s m #[Value.ref b] below meth c s.heap [] 0 0 (lw_Z below #[Value.ref b] s) (entryFrame m ([Value.ref b] : List Value).toArray 7) := by
  obtain ⟨hx, hb, hr, hml, hown, hts, hX, hbl, hlocks, hgv⟩ := id C0
  obtain ⟨aC, hA⟩ := yArrs hts
  obtain ⟨D, hD⟩ := yCls hts
  have hst : l.stackTraces = false := by unfold Launch.stackTraces; rw [hflags]; decide
  have hS : yS l s #[Value.ref b] D aC := ⟨hst, hts, ⟨hD, hA⟩, hgv⟩
  obtain ⟨ic, de, hI⟩ := yIc_of hS
  have hl := lv_entry ([.ref b]) (n := 7) (Nat.le_of_ble_eq_true rfl)
  rw [lg_entry_eq]
  have hY := law_all (nm := meth.name) (et := c.exceptionTable.toList) (Q := fun r _ => r = some (.int 1)) (X := fun _ _ => False) hS hI hX hbl hL (fun _ _ _ _ _ => rfl)
  have hW := hY p e s m #[Value.ref b] below meth c s.heap [] 0 0 _ ⟨hx, hb, hml, hown, hr, hlocks, rfl, rfl, State.WarmedH.refl s, Nat.le_refl _, fun _ _ => rfl⟩ hl ⟨Nat.le_refl _, fun _ _ => rfl, fun a t e h => nomatch h⟩ (Nat.le_refl _) (fun q h => nomatch h) (by omega) (by omega)
  intro T hT X
  obtain ⟨t, a1, o, b1, b2, b3⟩ := hW T hT (yRoom X)
  rcases b3 with ⟨⟨r, G, rfl, rfl, hG⟩, L9, ⟨hv, hWm, hs⟩, hfree⟩ | ⟨q, rfl, hT9⟩
  · exact ⟨t, a1, _, b1, b2, rfl, ⟨_, rfl⟩, hWm, hs.weaken (fun y hy hlt => absurd hlt (Nat.not_lt.mpr (hfree y hy))) (Nat.le_refl _) (Nat.le_refl _)⟩
  · exfalso
    obtain ⟨E, ce, L9, ⟨G, hf, -⟩, -⟩ := hT9
    exact hf
-- ===== YOUR PART ENDS =====
set_option maxHeartbeats 4000000 in
theorem lw_walk (l : Launch) (hflags : l.flags = flags0) (b : Addr) (xs : List Int32) : MetFree l x (headSpec (Jvm.Cond.code x code maxLocals ret :: tables_1) room_1) (lw_P b xs) (fun _ _ _ _ _ => True) lw_Q := by
  refine MetFree.of_bodyS (code := code) (maxLocals := maxLocals) (ret := ret) (by decide) ?_ ?_
  · intro args s m h hn
    obtain ⟨meth, c, h1, h2, h3, h4, h5, h6, -, -⟩ := Cond.code_spec hn (atoms_spec (ws := Jvm.Cond.code x code maxLocals ret :: tables_1) h _ List.mem_cons_self)
    exact ⟨meth, c, h1, h2, h3, h4, h5, h6⟩
  · intro p e s m args below meth c s₁ B hml0 hP _
    obtain ⟨rfl, hx, hbd, hgv⟩ := hP
    obtain ⟨scr, harrAt, hlist, hof, hsmall⟩ := hx
    obtain ⟨hcb, hkn, -, -⟩ := State.arrayAt?_spec harrAt
    have hown : s.vm.findClass R_law = some m.cls := findClass_of_methodNamed B.named
    have hts0 : ∀ c ∈ (Jvm.Cond.code x code maxLocals ret :: tables_1), c.before #[Value.ref b] s = true := atoms_spec (ws := Jvm.Cond.code x code maxLocals ret :: tables_1) B.pre
    have hts : ∀ w ∈ lw_tbl, w.before #[Value.ref b] s = true := k2_hts_sels lw_privs (fun w hw => hts0 w (List.mem_cons_of_mem _ hw)) lw_privs_ok
    have hml : c.maxLocals = 7 := B.maxLocals_eq (hts0 _ List.mem_cons_self)
    have X₀ : Stand p l e room_1 s m #[Value.ref b] below meth c s₁ [] 0 0 := Stand.of_body B
    have hh0 : s₁.heap = s.heap := by rw [B.state]; rfl
    have hsz : scr.slots.size = xs.length := by rw [← Array.length_toList, hlist, List.length_map]
    have hval : ∀ j : Nat, j < xs.length → scr.slots[j]? = some (.int (xs.getD j 0)) := fun j hj => by
      rw [← Array.getElem?_toList, hlist]
      simp [hj]
    have hbl : b < s.heap.size := (Array.getElem?_eq_some_iff.mp hcb).1
    have hX : va_X b xs.length (fun j => xs.getD j 0) s s.heap := ⟨scr, hcb, hof, hkn, hsz, hval⟩
    have K : W p l e room_1 s m #[Value.ref b] below meth c s₁.heap [] 0 0 (lw_Z below #[Value.ref b] s) (entryFrame m ([Value.ref b] : List Value).toArray 7) := by
      rw [hh0]
      exact whole_start l hflags hbd ⟨B.exec, B.bytes, B.returns, hml, hown, hts, hX, hbl, B.notSynchronized, hgv⟩
    obtain ⟨t, a1, o, b1, b2, b3⟩ := K s₁ rfl X₀
    exact ⟨t, o, a1, b1, b2, b3⟩
theorem lw_pre_spec {args : Array Value} {s : State} (h : (Jvm.Cond.and given_1 narrow_1).before args s = true) (hr : rest_1_c.before args s = true) : ∃ (b : Addr) (xs : List Int32), lw_P b xs args s := by
  have hs := flat_of_before _ h
  have hq := flat_of_before _ hr
  have hc : (Cond.count 1).before args s = true := hs _ (by decide +kernel)
  have harr : (Cond.arrayOf (.arg 0) .int).before args s = true := hs _ (by decide +kernel)
  have hle : (Cond.le (.length (.arg 0)) (.int 2560)).before args s = true := hs _ (by decide +kernel)
  have hlen : (Cond.isInt (.length (.arg 0))).before args s = true := hq _ (by decide +kernel)
  have hall : (Cond.all (.arg 0) (.isInt (.elem (.arg 0) (.index 0)))).before args s = true := hq _ (by decide +kernel)
  obtain ⟨b, xs, hb, hx⟩ := State.ints_of_pre rfl harr hlen hall
  have hsm : xs.length < 2 ^ 31 := hx.choose_spec.2.2.2
  have hev : (Term.length (.arg 0)).eval args s none [] s = some (.int xs.length.toInt32) := hx.length_eval hb
  have hv := Cond.le_ints hev (show (Term.int 2560).eval args s none [] s = some (.int 2560) from rfl)
  have hd : xs.length.toInt32 ≤ 2560 := by
    simpa [Cond.before, Cond.holds, hv] using hle
  have hN : xs.length ≤ 2560 := (Int32.ofNat_le_ofNat hsm (by decide)).mp (show Int32.ofNat xs.length ≤ Int32.ofNat 2560 from hd)
  exact ⟨b, xs, Cond.one_arg hc (show args[0]? = some (.ref b) from hb), hx, hN, h⟩
theorem lw_comes (l : Launch) (hflags : l.flags = flags0) : Comes l x (Jvm.Cond.code x code maxLocals ret :: tables_1) room_1 (fun tb e args s => Calls_1 tb e args s ∧ rest_1 tb e args s ∧ Pre_1 tb e args s)
    (fun _ _ args s o t => lw_Q args s o t) := by
  intro p e ha hc hk s m args below hf hfit hheap happ hpre
  obtain ⟨b, xs, hP⟩ := lw_pre_spec hpre.2.2 hpre.2.1
  obtain ⟨k, o, h1, h2, h3, hQ⟩ := lw_walk l hflags b xs p e ha hc hk s m args below hf ((Spec.applies_iff_loose hf).mp happ).1 hP trivial
  exact ⟨k, o, h1, h2, h3, hQ⟩
theorem lw_frame {s t : State} {o : Outcome} {args : Array Value} (h : Framed s o t [] 601024 7293034) :
    Framed s o t (fieldLocs frame_1_writes args s ++ arrayLocs frame_1_arrays args s ++ staticLocs frame_1_statics s) 601024 7293034 := h
theorem lw_limb (L : Cond) (hL : ∀ (args : Array Value) (s t : State), L.after args s (.returned (some (.int 1))) t = true) :
    ArmFor flags0 classFile x code maxLocals ret World_1 tables_1 room_1 Calls_1 rest_1 Pre_1
      (fun tb e a s o t => postC L tb e a s o t ∧ Framed s o t (fieldLocs frame_1_writes a s ++ arrayLocs frame_1_arrays a s ++ staticLocs frame_1_statics s) 601024 7293034) := by
  intro l hflags _ _ p e ha hc hk s m args below hf hfit hheap happ hpre
  obtain ⟨k, o, h1, h2, h3, rfl, hF⟩ := lw_comes l hflags p e ha hc hk s m args below hf hfit hheap happ hpre
  exact ⟨k, _, h1, h2, h3, hL args s _, lw_frame hF⟩
theorem i_vc : Claimed_1_1 ∧ Claimed_1_2 := ⟨lw_limb limb_1_1 (fun args s t => by simp [limb_1_1, Cond.after, Cond.holds, Cond.value]), lw_limb limb_1_2 (fun args s t => Cond.after_iff.mpr (by
  first | (rw [show limb_1_2 = Cond.eq .result (.int 1) from rfl, Cond.eq_ints (x := 1) (y := 1) rfl rfl]; simp; done) | (simp [limb_1_2, Cond.value, Term.eval]; done)))⟩
