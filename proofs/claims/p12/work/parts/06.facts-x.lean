/-! ===== facts of the classes, and of the class NightwatchWall: instructions by their places, links by their entries ===== -/
theorem lw_inp1 : ∀ w ∈ k2_sels lw_privs_1, w ∈ lw_tbl := by
  intro w hw
  obtain ⟨q, hq, hq2⟩ := List.mem_map.mp hw
  exact List.mem_append_left _ (List.mem_map.mpr ⟨q, (show q ∈ lw_privs from List.mem_append_left _ hq), hq2⟩)
theorem lw_inp2 : ∀ w ∈ k2_sels lw_privs_2, w ∈ lw_tbl := by
  intro w hw
  obtain ⟨q, hq, hq2⟩ := List.mem_map.mp hw
  exact List.mem_append_left _ (List.mem_map.mpr ⟨q, (show q ∈ lw_privs from List.mem_append_right _ (List.mem_append_left _ hq)), hq2⟩)
theorem lw_inp3 : ∀ w ∈ k2_sels lw_privs_3, w ∈ lw_tbl := by
  intro w hw
  obtain ⟨q, hq, hq2⟩ := List.mem_map.mp hw
  exact List.mem_append_left _ (List.mem_map.mpr ⟨q, (show q ∈ lw_privs from List.mem_append_right _ (List.mem_append_right _ (List.mem_append_left _ hq))), hq2⟩)
theorem lw_inp4 : ∀ w ∈ k2_sels lw_privs_4, w ∈ lw_tbl := by
  intro w hw
  obtain ⟨q, hq, hq2⟩ := List.mem_map.mp hw
  exact List.mem_append_left _ (List.mem_map.mpr ⟨q, (show q ∈ lw_privs from List.mem_append_right _ (List.mem_append_right _ (List.mem_append_right _ (List.mem_append_left _ hq)))), hq2⟩)
theorem lw_inp5 : ∀ w ∈ k2_sels lw_privs_5, w ∈ lw_tbl := by
  intro w hw
  obtain ⟨q, hq, hq2⟩ := List.mem_map.mp hw
  exact List.mem_append_left _ (List.mem_map.mpr ⟨q, (show q ∈ lw_privs from List.mem_append_right _ (List.mem_append_right _ (List.mem_append_right _ (List.mem_append_right _ (hq))))), hq2⟩)
theorem lw_in1 : ∀ w ∈ tables_1_1, w ∈ lw_tbl := fun w hw => List.mem_append_right _ (show w ∈ tables_1 from List.mem_append_left _ hw)
theorem lw_in2 : ∀ w ∈ tables_1_2, w ∈ lw_tbl := fun w hw => List.mem_append_right _ (show w ∈ tables_1 from List.mem_append_right _ (List.mem_append_left _ hw))
theorem lw_in3 : ∀ w ∈ tables_1_3, w ∈ lw_tbl := fun w hw => List.mem_append_right _ (show w ∈ tables_1 from List.mem_append_right _ (List.mem_append_right _ (List.mem_append_left _ hw)))
theorem lw_in4 : ∀ w ∈ tables_1_4, w ∈ lw_tbl := fun w hw => List.mem_append_right _ (show w ∈ tables_1 from List.mem_append_right _ (List.mem_append_right _ (List.mem_append_right _ (List.mem_append_left _ hw))))
theorem lw_in5 : ∀ w ∈ tables_1_5, w ∈ lw_tbl := fun w hw => List.mem_append_right _ (show w ∈ tables_1 from List.mem_append_right _ (List.mem_append_right _ (List.mem_append_right _ (List.mem_append_right _ (List.mem_append_left _ hw)))))
theorem lw_in6 : ∀ w ∈ tables_1_6, w ∈ lw_tbl := fun w hw => List.mem_append_right _ (show w ∈ tables_1 from List.mem_append_right _ (List.mem_append_right _ (List.mem_append_right _ (List.mem_append_right _ (List.mem_append_right _ (List.mem_append_left _ hw))))))
theorem lw_in7 : ∀ w ∈ tables_1_7, w ∈ lw_tbl := fun w hw => List.mem_append_right _ (show w ∈ tables_1 from List.mem_append_right _ (List.mem_append_right _ (List.mem_append_right _ (List.mem_append_right _ (List.mem_append_right _ (List.mem_append_right _ (List.mem_append_left _ hw)))))))
theorem lw_in8 : ∀ w ∈ tables_1_8, w ∈ lw_tbl := fun w hw => List.mem_append_right _ (show w ∈ tables_1 from List.mem_append_right _ (List.mem_append_right _ (List.mem_append_right _ (List.mem_append_right _ (List.mem_append_right _ (List.mem_append_right _ (List.mem_append_right _ (List.mem_append_left _ hw))))))))
theorem lw_in9 : ∀ w ∈ tables_1_9, w ∈ lw_tbl := fun w hw => List.mem_append_right _ (show w ∈ tables_1 from List.mem_append_right _ (List.mem_append_right _ (List.mem_append_right _ (List.mem_append_right _ (List.mem_append_right _ (List.mem_append_right _ (List.mem_append_right _ (List.mem_append_right _ (hw)))))))))
theorem cl_J0 : yCl 0 RJ0 TJ0 4 := by
  refine ⟨rfl, ?_, ⟨tyJ0, tyJ0_ok⟩, nmJ0⟩
  intro w hw
  obtain ⟨k, hk, rfl⟩ := List.mem_map.mp hw
  have hk := List.mem_range.mp hk
  match k, hk with
  | 0, _ => exact ⟨lw_in7 _ (List.mem_of_getElem? (i := 37) rfl), rfl⟩
  | 1, _ => exact ⟨lw_in7 _ (List.mem_of_getElem? (i := 39) rfl), rfl⟩
  | 2, _ => exact ⟨lw_in7 _ (List.mem_of_getElem? (i := 41) rfl), rfl⟩
  | 3, _ => exact ⟨lw_in7 _ (List.mem_of_getElem? (i := 43) rfl), rfl⟩
  | k + 4, hk => exact absurd hk (by omega)
theorem cl_J4 : yCl 1 RJ4 TJ4 4 := by
  refine ⟨rfl, ?_, ⟨tyJ4, tyJ4_ok⟩, nmJ4⟩
  intro w hw
  obtain ⟨k, hk, rfl⟩ := List.mem_map.mp hw
  have hk := List.mem_range.mp hk
  match k, hk with
  | 0, _ => exact ⟨lw_in6 _ (List.mem_of_getElem? (i := 31) rfl), rfl⟩
  | 1, _ => exact ⟨lw_in6 _ (List.mem_of_getElem? (i := 33) rfl), rfl⟩
  | 2, _ => exact ⟨lw_in6 _ (List.mem_of_getElem? (i := 35) rfl), rfl⟩
  | 3, _ => exact ⟨lw_in6 _ (List.mem_of_getElem? (i := 37) rfl), rfl⟩
  | k + 4, hk => exact absurd hk (by omega)
theorem cl_J6 : yCl 2 RJ6 TJ6 1 := by
  refine ⟨rfl, ?_, ⟨tyJ6, tyJ6_ok⟩, nmJ6⟩
  intro w hw
  obtain ⟨k, hk, rfl⟩ := List.mem_map.mp hw
  have hk := List.mem_range.mp hk
  match k, hk with
  | 0, _ => exact ⟨lw_in8 _ (List.mem_of_getElem? (i := 103) rfl), rfl⟩
  | k + 1, hk => exact absurd hk (by omega)
theorem cl_Jx4a65c : yCl 3 RJx4a65c TJx4a65c 3 := by
  refine ⟨rfl, ?_, ⟨tyJx4a65c, tyJx4a65c_ok⟩, nmJx4a65c⟩
  intro w hw
  obtain ⟨k, hk, rfl⟩ := List.mem_map.mp hw
  have hk := List.mem_range.mp hk
  match k, hk with
  | 0, _ => exact ⟨lw_in7 _ (List.mem_of_getElem? (i := 75) rfl), rfl⟩
  | 1, _ => exact ⟨lw_in7 _ (List.mem_of_getElem? (i := 71) rfl), rfl⟩
  | 2, _ => exact ⟨lw_in7 _ (List.mem_of_getElem? (i := 73) rfl), rfl⟩
  | k + 3, hk => exact absurd hk (by omega)
theorem cl_X0 : yCl 4 RX0 TX0 2 := by
  refine ⟨rfl, ?_, ⟨tyX0, tyX0_ok⟩, nmX0⟩
  intro w hw
  obtain ⟨k, hk, rfl⟩ := List.mem_map.mp hw
  have hk := List.mem_range.mp hk
  match k, hk with
  | 0, _ => exact ⟨lw_in1 _ (List.mem_of_getElem? (i := 124) rfl), rfl⟩
  | 1, _ => exact ⟨lw_in1 _ (List.mem_of_getElem? (i := 126) rfl), rfl⟩
  | k + 2, hk => exact absurd hk (by omega)
theorem cl_X1 : yCl 5 RX1 TX1 10 := by
  refine ⟨rfl, ?_, ⟨tyX1, tyX1_ok⟩, nmX1⟩
  intro w hw
  obtain ⟨k, hk, rfl⟩ := List.mem_map.mp hw
  have hk := List.mem_range.mp hk
  match k, hk with
  | 0, _ => exact ⟨lw_in1 _ (List.mem_of_getElem? (i := 62) rfl), rfl⟩
  | 1, _ => exact ⟨lw_in1 _ (List.mem_of_getElem? (i := 64) rfl), rfl⟩
  | 2, _ => exact ⟨lw_in1 _ (List.mem_of_getElem? (i := 66) rfl), rfl⟩
  | 3, _ => exact ⟨lw_in1 _ (List.mem_of_getElem? (i := 68) rfl), rfl⟩
  | 4, _ => exact ⟨lw_in1 _ (List.mem_of_getElem? (i := 70) rfl), rfl⟩
  | 5, _ => exact ⟨lw_in1 _ (List.mem_of_getElem? (i := 72) rfl), rfl⟩
  | 6, _ => exact ⟨lw_in1 _ (List.mem_of_getElem? (i := 74) rfl), rfl⟩
  | 7, _ => exact ⟨lw_in1 _ (List.mem_of_getElem? (i := 76) rfl), rfl⟩
  | 8, _ => exact ⟨lw_in1 _ (List.mem_of_getElem? (i := 78) rfl), rfl⟩
  | 9, _ => exact ⟨lw_in1 _ (List.mem_of_getElem? (i := 80) rfl), rfl⟩
  | k + 10, hk => exact absurd hk (by omega)
theorem cl_X2 : yCl 6 RX2 TX2 5 := by
  refine ⟨rfl, ?_, ⟨tyX2, tyX2_ok⟩, nmX2⟩
  intro w hw
  obtain ⟨k, hk, rfl⟩ := List.mem_map.mp hw
  have hk := List.mem_range.mp hk
  match k, hk with
  | 0, _ => exact ⟨lw_in1 _ (List.mem_of_getElem? (i := 142) rfl), rfl⟩
  | 1, _ => exact ⟨lw_in1 _ (List.mem_of_getElem? (i := 144) rfl), rfl⟩
  | 2, _ => exact ⟨lw_in1 _ (List.mem_of_getElem? (i := 146) rfl), rfl⟩
  | 3, _ => exact ⟨lw_in1 _ (List.mem_of_getElem? (i := 148) rfl), rfl⟩
  | 4, _ => exact ⟨lw_in1 _ (List.mem_of_getElem? (i := 150) rfl), rfl⟩
  | k + 5, hk => exact absurd hk (by omega)
theorem cl_X3 : yCl 7 RX3 TX3 6 := by
  refine ⟨rfl, ?_, ⟨tyX3, tyX3_ok⟩, nmX3⟩
  intro w hw
  obtain ⟨k, hk, rfl⟩ := List.mem_map.mp hw
  have hk := List.mem_range.mp hk
  match k, hk with
  | 0, _ => exact ⟨lw_in1 _ (List.mem_of_getElem? (i := 199) rfl), rfl⟩
  | 1, _ => exact ⟨lw_in1 _ (List.mem_of_getElem? (i := 201) rfl), rfl⟩
  | 2, _ => exact ⟨lw_in1 _ (List.mem_of_getElem? (i := 203) rfl), rfl⟩
  | 3, _ => exact ⟨lw_in1 _ (List.mem_of_getElem? (i := 205) rfl), rfl⟩
  | 4, _ => exact ⟨lw_in1 _ (List.mem_of_getElem? (i := 207) rfl), rfl⟩
  | 5, _ => exact ⟨lw_in1 _ (List.mem_of_getElem? (i := 209) rfl), rfl⟩
  | k + 6, hk => exact absurd hk (by omega)
theorem cl_X4 : yCl 8 RX4 TX4 3 := by
  refine ⟨rfl, ?_, ⟨tyX4, tyX4_ok⟩, nmX4⟩
  intro w hw
  obtain ⟨k, hk, rfl⟩ := List.mem_map.mp hw
  have hk := List.mem_range.mp hk
  match k, hk with
  | 0, _ => exact ⟨lw_in1 _ (List.mem_of_getElem? (i := 107) rfl), rfl⟩
  | 1, _ => exact ⟨lw_in1 _ (List.mem_of_getElem? (i := 109) rfl), rfl⟩
  | 2, _ => exact ⟨lw_in1 _ (List.mem_of_getElem? (i := 111) rfl), rfl⟩
  | k + 3, hk => exact absurd hk (by omega)
theorem cl_X5 : yCl 9 RX5 TX5 2 := by
  refine ⟨rfl, ?_, ⟨tyX5, tyX5_ok⟩, nmX5⟩
  intro w hw
  obtain ⟨k, hk, rfl⟩ := List.mem_map.mp hw
  have hk := List.mem_range.mp hk
  match k, hk with
  | 0, _ => exact ⟨lw_in1 _ (List.mem_of_getElem? (i := 98) rfl), rfl⟩
  | 1, _ => exact ⟨lw_in1 _ (List.mem_of_getElem? (i := 100) rfl), rfl⟩
  | k + 2, hk => exact absurd hk (by omega)
theorem cl_X6 : yCl 10 RX6 TX6 2 := by
  refine ⟨rfl, ?_, ⟨tyX6, tyX6_ok⟩, nmX6⟩
  intro w hw
  obtain ⟨k, hk, rfl⟩ := List.mem_map.mp hw
  have hk := List.mem_range.mp hk
  match k, hk with
  | 0, _ => exact ⟨lw_in1 _ (List.mem_of_getElem? (i := 222) rfl), rfl⟩
  | 1, _ => exact ⟨lw_in1 _ (List.mem_of_getElem? (i := 224) rfl), rfl⟩
  | k + 2, hk => exact absurd hk (by omega)
theorem cl_X7 : yCl 11 RX7 TX7 7 := by
  refine ⟨rfl, ?_, ⟨tyX7, tyX7_ok⟩, nmX7⟩
  intro w hw
  obtain ⟨k, hk, rfl⟩ := List.mem_map.mp hw
  have hk := List.mem_range.mp hk
  match k, hk with
  | 0, _ => exact ⟨lw_in1 _ (List.mem_of_getElem? (i := 170) rfl), rfl⟩
  | 1, _ => exact ⟨lw_in1 _ (List.mem_of_getElem? (i := 172) rfl), rfl⟩
  | 2, _ => exact ⟨lw_in1 _ (List.mem_of_getElem? (i := 174) rfl), rfl⟩
  | 3, _ => exact ⟨lw_in1 _ (List.mem_of_getElem? (i := 176) rfl), rfl⟩
  | 4, _ => exact ⟨lw_in1 _ (List.mem_of_getElem? (i := 178) rfl), rfl⟩
  | 5, _ => exact ⟨lw_in1 _ (List.mem_of_getElem? (i := 180) rfl), rfl⟩
  | 6, _ => exact ⟨lw_in1 _ (List.mem_of_getElem? (i := 182) rfl), rfl⟩
  | k + 7, hk => exact absurd hk (by omega)
theorem cl_X8 : yCl 12 RX8 TX8 10 := by
  refine ⟨rfl, ?_, ⟨tyX8, tyX8_ok⟩, nmX8⟩
  intro w hw
  obtain ⟨k, hk, rfl⟩ := List.mem_map.mp hw
  have hk := List.mem_range.mp hk
  match k, hk with
  | 0, _ => exact ⟨lw_in2 _ (List.mem_of_getElem? (i := 29) rfl), rfl⟩
  | 1, _ => exact ⟨lw_in2 _ (List.mem_of_getElem? (i := 31) rfl), rfl⟩
  | 2, _ => exact ⟨lw_in2 _ (List.mem_of_getElem? (i := 33) rfl), rfl⟩
  | 3, _ => exact ⟨lw_in2 _ (List.mem_of_getElem? (i := 35) rfl), rfl⟩
  | 4, _ => exact ⟨lw_in2 _ (List.mem_of_getElem? (i := 37) rfl), rfl⟩
  | 5, _ => exact ⟨lw_in2 _ (List.mem_of_getElem? (i := 39) rfl), rfl⟩
  | 6, _ => exact ⟨lw_in2 _ (List.mem_of_getElem? (i := 41) rfl), rfl⟩
  | 7, _ => exact ⟨lw_in2 _ (List.mem_of_getElem? (i := 43) rfl), rfl⟩
  | 8, _ => exact ⟨lw_in2 _ (List.mem_of_getElem? (i := 45) rfl), rfl⟩
  | 9, _ => exact ⟨lw_in2 _ (List.mem_of_getElem? (i := 47) rfl), rfl⟩
  | k + 10, hk => exact absurd hk (by omega)
theorem cl_X9 : yCl 13 RX9 TX9 2 := by
  refine ⟨rfl, ?_, ⟨tyX9, tyX9_ok⟩, nmX9⟩
  intro w hw
  obtain ⟨k, hk, rfl⟩ := List.mem_map.mp hw
  have hk := List.mem_range.mp hk
  match k, hk with
  | 0, _ => exact ⟨lw_in4 _ (List.mem_of_getElem? (i := 42) rfl), rfl⟩
  | 1, _ => exact ⟨lw_in4 _ (List.mem_of_getElem? (i := 44) rfl), rfl⟩
  | k + 2, hk => exact absurd hk (by omega)
theorem cl_X10 : yCl 14 RX10 TX10 6 := by
  refine ⟨rfl, ?_, ⟨tyX10, tyX10_ok⟩, nmX10⟩
  intro w hw
  obtain ⟨k, hk, rfl⟩ := List.mem_map.mp hw
  have hk := List.mem_range.mp hk
  match k, hk with
  | 0, _ => exact ⟨lw_in8 _ (List.mem_of_getElem? (i := 118) rfl), rfl⟩
  | 1, _ => exact ⟨lw_in8 _ (List.mem_of_getElem? (i := 120) rfl), rfl⟩
  | 2, _ => exact ⟨lw_in8 _ (List.mem_of_getElem? (i := 122) rfl), rfl⟩
  | 3, _ => exact ⟨lw_in8 _ (List.mem_of_getElem? (i := 124) rfl), rfl⟩
  | 4, _ => exact ⟨lw_in8 _ (List.mem_of_getElem? (i := 126) rfl), rfl⟩
  | 5, _ => exact ⟨lw_in8 _ (List.mem_of_getElem? (i := 128) rfl), rfl⟩
  | k + 6, hk => exact absurd hk (by omega)
theorem cl_X11 : yCl 15 RX11 TX11 5 := by
  refine ⟨rfl, ?_, ⟨tyX11, tyX11_ok⟩, nmX11⟩
  intro w hw
  obtain ⟨k, hk, rfl⟩ := List.mem_map.mp hw
  have hk := List.mem_range.mp hk
  match k, hk with
  | 0, _ => exact ⟨lw_in9 _ (List.mem_of_getElem? (i := 37) rfl), rfl⟩
  | 1, _ => exact ⟨lw_in9 _ (List.mem_of_getElem? (i := 39) rfl), rfl⟩
  | 2, _ => exact ⟨lw_in9 _ (List.mem_of_getElem? (i := 41) rfl), rfl⟩
  | 3, _ => exact ⟨lw_in9 _ (List.mem_of_getElem? (i := 43) rfl), rfl⟩
  | 4, _ => exact ⟨lw_in9 _ (List.mem_of_getElem? (i := 45) rfl), rfl⟩
  | k + 5, hk => exact absurd hk (by omega)
theorem cl_X12 : yCl 16 RX12 TX12 20 := by
  refine ⟨rfl, ?_, ⟨tyX12, tyX12_ok⟩, nmX12⟩
  intro w hw
  obtain ⟨k, hk, rfl⟩ := List.mem_map.mp hw
  have hk := List.mem_range.mp hk
  match k, hk with
  | 0, _ => exact ⟨lw_in7 _ (List.mem_of_getElem? (i := 133) rfl), rfl⟩
  | 1, _ => exact ⟨lw_in7 _ (List.mem_of_getElem? (i := 135) rfl), rfl⟩
  | 2, _ => exact ⟨lw_in7 _ (List.mem_of_getElem? (i := 137) rfl), rfl⟩
  | 3, _ => exact ⟨lw_in7 _ (List.mem_of_getElem? (i := 139) rfl), rfl⟩
  | 4, _ => exact ⟨lw_in7 _ (List.mem_of_getElem? (i := 141) rfl), rfl⟩
  | 5, _ => exact ⟨lw_in7 _ (List.mem_of_getElem? (i := 143) rfl), rfl⟩
  | 6, _ => exact ⟨lw_in7 _ (List.mem_of_getElem? (i := 145) rfl), rfl⟩
  | 7, _ => exact ⟨lw_in7 _ (List.mem_of_getElem? (i := 147) rfl), rfl⟩
  | 8, _ => exact ⟨lw_in7 _ (List.mem_of_getElem? (i := 149) rfl), rfl⟩
  | 9, _ => exact ⟨lw_in7 _ (List.mem_of_getElem? (i := 151) rfl), rfl⟩
  | 10, _ => exact ⟨lw_in7 _ (List.mem_of_getElem? (i := 153) rfl), rfl⟩
  | 11, _ => exact ⟨lw_in7 _ (List.mem_of_getElem? (i := 155) rfl), rfl⟩
  | 12, _ => exact ⟨lw_in7 _ (List.mem_of_getElem? (i := 157) rfl), rfl⟩
  | 13, _ => exact ⟨lw_in7 _ (List.mem_of_getElem? (i := 159) rfl), rfl⟩
  | 14, _ => exact ⟨lw_in7 _ (List.mem_of_getElem? (i := 161) rfl), rfl⟩
  | 15, _ => exact ⟨lw_in7 _ (List.mem_of_getElem? (i := 163) rfl), rfl⟩
  | 16, _ => exact ⟨lw_in7 _ (List.mem_of_getElem? (i := 165) rfl), rfl⟩
  | 17, _ => exact ⟨lw_in7 _ (List.mem_of_getElem? (i := 167) rfl), rfl⟩
  | 18, _ => exact ⟨lw_in7 _ (List.mem_of_getElem? (i := 169) rfl), rfl⟩
  | 19, _ => exact ⟨lw_in7 _ (List.mem_of_getElem? (i := 171) rfl), rfl⟩
  | k + 20, hk => exact absurd hk (by omega)
def t_X0_init : yT := [(0, .aload_n 0, 1), (1, .invokespecial 3, 3), (4, .aload_n 0, 1), (5, .new 9, 3), (8, .dup, 1), (9, .bipush 8, 2), (11, .invokespecial 13, 3), (14, .putfield 16, 3), (17, .aload_n 0, 1), (18, .new 9, 3), (21, .dup, 1), (22, .bipush 8, 2), (24, .invokespecial 13, 3), (27, .putfield 20, 3), (30, .return_, 1)]
theorem wd_193 : yWd (.classLink RX0 9 RX5) := ⟨lw_in1 _ (List.mem_of_getElem? (i := 120) rfl), rfl⟩
theorem wd_164 : yWd (.instantiable RX5 2) := ⟨lw_in1 _ (List.mem_of_getElem? (i := 91) rfl), rfl⟩
theorem wd_77 : yWd (.initialized RX5) := ⟨lw_in1 _ (List.mem_of_getElem? (i := 4) rfl), rfl⟩
theorem nw_X0_9 : yNW RX0 9 9 2 [.null, .int 0] := by
  refine ⟨_, _, cl_X5, ?_, wd_193, wd_164, wd_77⟩
  intro ty hty j hj
  match j, hj with
  | 0, h => have e := Option.some.inj ((hty 0 h).symm.trans (tyX5_ok 0 h)); rw [e]; rfl
  | 1, h => have e := Option.some.inj ((hty 1 h).symm.trans (tyX5_ok 1 h)); rw [e]; rfl
  | j + 2, h => exact absurd h (by omega)
theorem wd_167 : yWd (.code yX5_init cX5_init 2 none) := ⟨lw_in1 _ (List.mem_of_getElem? (i := 94) rfl), rfl⟩
theorem wd_194 : yWd (.methodLink RX0 13 yX5_init) := ⟨lw_in1 _ (List.mem_of_getElem? (i := 121) rfl), rfl⟩
theorem wd_166 : yWd (.instanceMethod yX5_init) := ⟨lw_in1 _ (List.mem_of_getElem? (i := 93) rfl), rfl⟩
theorem ci_X0_13 : yCI RX0 13 yX5_init cX5_init 2 1 := ⟨wd_167, wd_194, wd_166, wd_77, ⟨by decide, by decide, by decide +kernel⟩, rfl, by decide⟩
theorem wd_195 : yWd (.fieldLink RX0 16 "NightwatchWall$Fogs" "minutes" "LNightwatchWall$Numbers;") := ⟨lw_in1 _ (List.mem_of_getElem? (i := 122) rfl), rfl⟩
theorem fp_X0_16_X0 : yFF RX0 16 4 0 (.object "NightwatchWall$Numbers") := ⟨_, _, _, cl_X0, by decide, rfl, rfl, by decide +kernel, wd_195⟩
theorem wd_196 : yWd (.fieldLink RX0 20 "NightwatchWall$Fogs" "densities" "LNightwatchWall$Numbers;") := ⟨lw_in1 _ (List.mem_of_getElem? (i := 123) rfl), rfl⟩
theorem fp_X0_20_X0 : yFF RX0 20 4 1 (.object "NightwatchWall$Numbers") := ⟨_, _, _, cl_X0, by decide, rfl, rfl, by decide +kernel, wd_196⟩
def t_X0_isFull : yT := [(0, .aload_n 0, 1), (1, .getfield 16, 3), (4, .invokevirtual 23, 3), (7, .ireturn, 1)]
theorem fg_X0_16_X0 : yFL RX0 16 4 0 := ⟨_, _, _, cl_X0, by decide, wd_195⟩
theorem wd_330 : yWd (.code yX5_isFull cX5_isFull 1 (some .boolean)) := ⟨lw_in2 _ (List.mem_of_getElem? (i := 17) rfl), rfl⟩
theorem wd_1012 : yWd (.methodLink RX0 23 yX5_isFull) := ⟨lw_in4 _ (List.mem_of_getElem? (i := 219) rfl), rfl⟩
theorem wd_328 : yWd (.instanceMethod yX5_isFull) := ⟨lw_in2 _ (List.mem_of_getElem? (i := 15) rfl), rfl⟩
theorem wd_329 : yWd (.selects RX5 yX5_isFull yX5_isFull) := ⟨lw_in2 _ (List.mem_of_getElem? (i := 16) rfl), rfl⟩
theorem cv_X0_23 : yCV RX0 23 9 yX5_isFull cX5_isFull 1 (some .boolean) 0 := ⟨_, _, _, cl_X5, wd_330, wd_1012, wd_328, wd_329, wd_77, ⟨by decide, by decide, by decide +kernel⟩, by decide⟩
def t_X0_forget : yT := [(0, .aload_n 0, 1), (1, .getfield 16, 3), (4, .invokevirtual 27, 3), (7, .aload_n 0, 1), (8, .getfield 20, 3), (11, .invokevirtual 27, 3), (14, .return_, 1)]
theorem wd_311 : yWd (.code yX5_clear cX5_clear 1 none) := ⟨lw_in1 _ (List.mem_of_getElem? (i := 238) rfl), rfl⟩
theorem wd_904 : yWd (.methodLink RX0 27 yX5_clear) := ⟨lw_in4 _ (List.mem_of_getElem? (i := 111) rfl), rfl⟩
theorem wd_309 : yWd (.instanceMethod yX5_clear) := ⟨lw_in1 _ (List.mem_of_getElem? (i := 236) rfl), rfl⟩
theorem wd_310 : yWd (.selects RX5 yX5_clear yX5_clear) := ⟨lw_in1 _ (List.mem_of_getElem? (i := 237) rfl), rfl⟩
theorem cv_X0_27 : yCV RX0 27 9 yX5_clear cX5_clear 1 none 0 := ⟨_, _, _, cl_X5, wd_311, wd_904, wd_309, wd_310, wd_77, ⟨by decide, by decide, by decide +kernel⟩, by decide⟩
theorem fg_X0_20_X0 : yFL RX0 20 4 1 := ⟨_, _, _, cl_X0, by decide, wd_196⟩
def t_X0_tell : yT := [(0, .aload_n 0, 1), (1, .getfield 16, 3), (4, .iload_n 1, 1), (5, .invokevirtual 30, 3), (8, .aload_n 0, 1), (9, .getfield 20, 3), (12, .iload_n 2, 1), (13, .invokevirtual 30, 3), (16, .aload_n 0, 1), (17, .getfield 16, 3), (20, .invokevirtual 33, 3), (23, .ireturn, 1)]
theorem wd_326 : yWd (.code yX5_add cX5_add 2 none) := ⟨lw_in2 _ (List.mem_of_getElem? (i := 13) rfl), rfl⟩
theorem wd_1017 : yWd (.methodLink RX0 30 yX5_add) := ⟨lw_in4 _ (List.mem_of_getElem? (i := 224) rfl), rfl⟩
theorem wd_324 : yWd (.instanceMethod yX5_add) := ⟨lw_in2 _ (List.mem_of_getElem? (i := 11) rfl), rfl⟩
theorem wd_325 : yWd (.selects RX5 yX5_add yX5_add) := ⟨lw_in2 _ (List.mem_of_getElem? (i := 12) rfl), rfl⟩
theorem cv_X0_30 : yCV RX0 30 9 yX5_add cX5_add 2 none 1 := ⟨_, _, _, cl_X5, wd_326, wd_1017, wd_324, wd_325, wd_77, ⟨by decide, by decide, by decide +kernel⟩, by decide⟩
theorem wd_398 : yWd (.code yX5_size cX5_size 1 (some .int)) := ⟨lw_in2 _ (List.mem_of_getElem? (i := 85) rfl), rfl⟩
theorem wd_583 : yWd (.methodLink RX0 33 yX5_size) := ⟨lw_in3 _ (List.mem_of_getElem? (i := 30) rfl), rfl⟩
theorem wd_396 : yWd (.instanceMethod yX5_size) := ⟨lw_in2 _ (List.mem_of_getElem? (i := 83) rfl), rfl⟩
theorem wd_397 : yWd (.selects RX5 yX5_size yX5_size) := ⟨lw_in2 _ (List.mem_of_getElem? (i := 84) rfl), rfl⟩
theorem cv_X0_33 : yCV RX0 33 9 yX5_size cX5_size 1 (some .int) 0 := ⟨_, _, _, cl_X5, wd_398, wd_583, wd_396, wd_397, wd_77, ⟨by decide, by decide, by decide +kernel⟩, by decide⟩
def t_X0_fogAt : yT := [(0, .iconst (-1), 1), (1, .istore_n 2, 1), (2, .iconst 0, 1), (3, .istore_n 3, 1), (4, .iconst 0, 1), (5, .istore 4, 2), (7, .iload 4, 2), (9, .aload_n 0, 1), (10, .getfield 16, 3), (13, .invokevirtual 33, 3), (16, .if_icmp .ge 45, 3), (19, .aload_n 0, 1), (20, .getfield 16, 3), (23, .iload 4, 2), (25, .invokevirtual 37, 3), (28, .istore 5, 2), (30, .iload 5, 2), (32, .iload_n 1, 1), (33, .if_icmp .gt 22, 3), (36, .iload 5, 2), (38, .iload_n 2, 1), (39, .if_icmp .lt 16, 3), (42, .iload 5, 2), (44, .istore_n 2, 1), (45, .aload_n 0, 1), (46, .getfield 20, 3), (49, .iload 4, 2), (51, .invokevirtual 37, 3), (54, .istore_n 3, 1), (55, .iinc 4 1, 3), (58, .goto (-51), 3), (61, .iload_n 3, 1), (62, .ireturn, 1)]
theorem wd_382 : yWd (.code yX5_at cX5_at 2 (some .int)) := ⟨lw_in2 _ (List.mem_of_getElem? (i := 69) rfl), rfl⟩
theorem wd_584 : yWd (.methodLink RX0 37 yX5_at) := ⟨lw_in3 _ (List.mem_of_getElem? (i := 31) rfl), rfl⟩
theorem wd_380 : yWd (.instanceMethod yX5_at) := ⟨lw_in2 _ (List.mem_of_getElem? (i := 67) rfl), rfl⟩
theorem wd_381 : yWd (.selects RX5 yX5_at yX5_at) := ⟨lw_in2 _ (List.mem_of_getElem? (i := 68) rfl), rfl⟩
theorem cv_X0_37 : yCV RX0 37 9 yX5_at cX5_at 2 (some .int) 1 := ⟨_, _, _, cl_X5, wd_382, wd_584, wd_380, wd_381, wd_77, ⟨by decide, by decide, by decide +kernel⟩, by decide⟩
def t_X1_init : yT := [(0, .aload_n 0, 1), (1, .invokespecial 3, 3), (4, .aload_n 0, 1), (5, .iconst 1, 1), (6, .putfield 9, 3), (9, .aload_n 0, 1), (10, .sipush 512, 3), (13, .newarray .long, 2), (15, .putfield 15, 3), (18, .return_, 1)]
theorem wd_132 : yWd (.fieldLink RX1 9 "NightwatchWall$Grid" "openFrom" "I") := ⟨lw_in1 _ (List.mem_of_getElem? (i := 59) rfl), rfl⟩
theorem fp_X1_9_X1 : yFP RX1 9 5 7 (.int) := ⟨_, _, _, cl_X1, by decide, rfl, by decide +kernel, wd_132⟩
theorem wd_156 : yWd (.arrayClass .long) := ⟨lw_in1 _ (List.mem_of_getElem? (i := 83) rfl), rfl⟩
theorem wd_134 : yWd (.fieldLink RX1 15 "NightwatchWall$Grid" "views" "[J") := ⟨lw_in1 _ (List.mem_of_getElem? (i := 61) rfl), rfl⟩
theorem fp_X1_15_X1 : yFF RX1 15 5 9 (.array (.long)) := ⟨_, _, _, cl_X1, by decide, rfl, rfl, by decide +kernel, wd_134⟩
def t_X1_wide : yT := [(0, .aload_n 0, 1), (1, .getfield 19, 3), (4, .ireturn, 1)]
theorem wd_125 : yWd (.fieldLink RX1 19 "NightwatchWall$Grid" "wide" "I") := ⟨lw_in1 _ (List.mem_of_getElem? (i := 52) rfl), rfl⟩
theorem fg_X1_19_X1 : yFL RX1 19 5 0 := ⟨_, _, _, cl_X1, by decide, wd_125⟩
def t_X1_high : yT := [(0, .aload_n 0, 1), (1, .getfield 22, 3), (4, .ireturn, 1)]
theorem wd_126 : yWd (.fieldLink RX1 22 "NightwatchWall$Grid" "high" "I") := ⟨lw_in1 _ (List.mem_of_getElem? (i := 53) rfl), rfl⟩
theorem fg_X1_22_X1 : yFL RX1 22 5 1 := ⟨_, _, _, cl_X1, by decide, wd_126⟩
def t_X1_cells : yT := [(0, .aload_n 0, 1), (1, .getfield 19, 3), (4, .aload_n 0, 1), (5, .getfield 22, 3), (8, .imul, 1), (9, .ireturn, 1)]
def t_X1_build : yT := [(0, .aload_n 0, 1), (1, .iload_n 1, 1), (2, .putfield 19, 3), (5, .aload_n 0, 1), (6, .iload_n 2, 1), (7, .putfield 22, 3), (10, .aload_n 0, 1), (11, .invokevirtual 25, 3), (14, .aload_n 0, 1), (15, .lconst 0, 1), (16, .putfield 28, 3), (19, .aload_n 0, 1), (20, .lconst 0, 1), (21, .putfield 32, 3), (24, .aload_n 0, 1), (25, .lconst 0, 1), (26, .putfield 35, 3), (29, .iload_n 3, 1), (30, .istore 4, 2), (32, .iconst 0, 1), (33, .istore 5, 2), (35, .iload 5, 2), (37, .aload_n 0, 1), (38, .invokevirtual 38, 3), (41, .if_icmp .ge 40, 3), (44, .iload 4, 2), (46, .invokestatic 42, 3), (49, .istore 4, 2), (51, .aload_n 0, 1), (52, .iload 5, 2), (54, .iload_n 3, 1), (55, .bipush 100, 2), (57, .if_icmp .ne 7, 3), (60, .iconst 0, 1), (61, .goto 11, 3), (64, .iload 4, 2), (66, .bipush 10, 2), (68, .irem, 1), (69, .invokestatic 46, 3), (72, .invokevirtual 49, 3), (75, .iinc 5 1, 3), (78, .goto (-43), 3), (81, .aload_n 0, 1), (82, .iconst 1, 1), (83, .iconst 0, 1), (84, .invokevirtual 53, 3), (87, .aload_n 0, 1), (88, .invokevirtual 56, 3), (91, .return_, 1)]
theorem fp_X1_19_X1 : yFP RX1 19 5 0 (.int) := ⟨_, _, _, cl_X1, by decide, rfl, by decide +kernel, wd_125⟩
theorem fp_X1_22_X1 : yFP RX1 22 5 1 (.int) := ⟨_, _, _, cl_X1, by decide, rfl, by decide +kernel, wd_126⟩
theorem wd_856 : yWd (.code yX1_drawColumns cX1_drawColumns 2 none) := ⟨lw_in4 _ (List.mem_of_getElem? (i := 63) rfl), rfl⟩
theorem wd_853 : yWd (.methodLink RX1 25 yX1_drawColumns) := ⟨lw_in4 _ (List.mem_of_getElem? (i := 60) rfl), rfl⟩
theorem wd_75 : yWd (.initialized RX1) := ⟨lw_in1 _ (List.mem_of_getElem? (i := 2) rfl), rfl⟩
theorem wd_855 : yWd (.instanceMethod yX1_drawColumns) := ⟨lw_in4 _ (List.mem_of_getElem? (i := 62) rfl), rfl⟩
theorem wd_21 : yWd (.selects RX1 yX1_drawColumns yX1_drawColumns) := ⟨lw_inp2 _ (List.mem_of_getElem? (i := 5) rfl), rfl⟩
theorem cv_X1_25 : yCV RX1 25 5 yX1_drawColumns cX1_drawColumns 2 none 0 := ⟨_, _, _, cl_X1, wd_856, wd_853, wd_855, wd_21, wd_75, ⟨by decide, by decide, by decide +kernel⟩, by decide⟩
theorem wd_129 : yWd (.fieldLink RX1 28 "NightwatchWall$Grid" "walls" "J") := ⟨lw_in1 _ (List.mem_of_getElem? (i := 56) rfl), rfl⟩
theorem fp_X1_28_X1 : yFP RX1 28 5 4 (.long) := ⟨_, _, _, cl_X1, by decide, rfl, by decide +kernel, wd_129⟩
theorem wd_130 : yWd (.fieldLink RX1 32 "NightwatchWall$Grid" "hedges" "J") := ⟨lw_in1 _ (List.mem_of_getElem? (i := 57) rfl), rfl⟩
theorem fp_X1_32_X1 : yFP RX1 32 5 5 (.long) := ⟨_, _, _, cl_X1, by decide, rfl, by decide +kernel, wd_130⟩
theorem wd_131 : yWd (.fieldLink RX1 35 "NightwatchWall$Grid" "gateCells" "J") := ⟨lw_in1 _ (List.mem_of_getElem? (i := 58) rfl), rfl⟩
theorem fp_X1_35_X1 : yFP RX1 35 5 6 (.long) := ⟨_, _, _, cl_X1, by decide, rfl, by decide +kernel, wd_131⟩
theorem wd_524 : yWd (.code yX1_cells cX1_cells 1 (some .int)) := ⟨lw_in2 _ (List.mem_of_getElem? (i := 211) rfl), rfl⟩
theorem wd_862 : yWd (.methodLink RX1 38 yX1_cells) := ⟨lw_in4 _ (List.mem_of_getElem? (i := 69) rfl), rfl⟩
theorem wd_522 : yWd (.instanceMethod yX1_cells) := ⟨lw_in2 _ (List.mem_of_getElem? (i := 209) rfl), rfl⟩
theorem wd_523 : yWd (.selects RX1 yX1_cells yX1_cells) := ⟨lw_in2 _ (List.mem_of_getElem? (i := 210) rfl), rfl⟩
theorem cv_X1_38 : yCV RX1 38 5 yX1_cells cX1_cells 1 (some .int) 0 := ⟨_, _, _, cl_X1, wd_524, wd_862, wd_522, wd_523, wd_75, ⟨by decide, by decide, by decide +kernel⟩, by decide⟩
theorem wd_322 : yWd (.code yX8_nextOfRow cX8_nextOfRow 1 (some .int)) := ⟨lw_in2 _ (List.mem_of_getElem? (i := 9) rfl), rfl⟩
theorem wd_74 : yWd (.initialized RX8) := ⟨lw_in1 _ (List.mem_of_getElem? (i := 1) rfl), rfl⟩
theorem wd_321 : yWd (.static yX8_nextOfRow) := ⟨lw_in2 _ (List.mem_of_getElem? (i := 8) rfl), rfl⟩
theorem cs_X1_42 : yCSN RX1 42 yX8_nextOfRow "NightwatchWall" cX8_nextOfRow 1 (some .int) 1 := ⟨wd_322, (lw_in4 _ (List.mem_of_getElem? (i := 70) (by decide +kernel))), wd_321, wd_74, ⟨by decide, by decide, by decide +kernel⟩, by decide⟩
theorem wd_866 : yWd (.code yX1_kindOfDigit cX1_kindOfDigit 1 (some .int)) := ⟨lw_in4 _ (List.mem_of_getElem? (i := 73) rfl), rfl⟩
theorem wd_864 : yWd (.methodLink RX1 46 yX1_kindOfDigit) := ⟨lw_in4 _ (List.mem_of_getElem? (i := 71) rfl), rfl⟩
theorem wd_865 : yWd (.static yX1_kindOfDigit) := ⟨lw_in4 _ (List.mem_of_getElem? (i := 72) rfl), rfl⟩
theorem cs_X1_46 : yCS RX1 46 yX1_kindOfDigit cX1_kindOfDigit 1 (some .int) 1 := ⟨wd_866, wd_864, wd_865, wd_75, ⟨by decide, by decide, by decide +kernel⟩, by decide⟩
theorem wd_870 : yWd (.code yX1_setKind cX1_setKind 5 none) := ⟨lw_in4 _ (List.mem_of_getElem? (i := 77) rfl), rfl⟩
theorem wd_867 : yWd (.methodLink RX1 49 yX1_setKind) := ⟨lw_in4 _ (List.mem_of_getElem? (i := 74) rfl), rfl⟩
theorem wd_869 : yWd (.instanceMethod yX1_setKind) := ⟨lw_in4 _ (List.mem_of_getElem? (i := 76) rfl), rfl⟩
theorem wd_22 : yWd (.selects RX1 yX1_setKind yX1_setKind) := ⟨lw_inp2 _ (List.mem_of_getElem? (i := 6) rfl), rfl⟩
theorem cv_X1_49 : yCV RX1 49 5 yX1_setKind cX1_setKind 5 none 2 := ⟨_, _, _, cl_X1, wd_870, wd_867, wd_869, wd_22, wd_75, ⟨by decide, by decide, by decide +kernel⟩, by decide⟩
theorem wd_874 : yWd (.code yX1_openGates cX1_openGates 3 none) := ⟨lw_in4 _ (List.mem_of_getElem? (i := 81) rfl), rfl⟩
theorem wd_871 : yWd (.methodLink RX1 53 yX1_openGates) := ⟨lw_in4 _ (List.mem_of_getElem? (i := 78) rfl), rfl⟩
theorem wd_872 : yWd (.instanceMethod yX1_openGates) := ⟨lw_in4 _ (List.mem_of_getElem? (i := 79) rfl), rfl⟩
theorem wd_873 : yWd (.selects RX1 yX1_openGates yX1_openGates) := ⟨lw_in4 _ (List.mem_of_getElem? (i := 80) rfl), rfl⟩
theorem cv_X1_53 : yCV RX1 53 5 yX1_openGates cX1_openGates 3 none 2 := ⟨_, _, _, cl_X1, wd_874, wd_871, wd_872, wd_873, wd_75, ⟨by decide, by decide, by decide +kernel⟩, by decide⟩
theorem wd_878 : yWd (.code yX1_drawViews cX1_drawViews 2 none) := ⟨lw_in4 _ (List.mem_of_getElem? (i := 85) rfl), rfl⟩
theorem wd_875 : yWd (.methodLink RX1 56 yX1_drawViews) := ⟨lw_in4 _ (List.mem_of_getElem? (i := 82) rfl), rfl⟩
theorem wd_877 : yWd (.instanceMethod yX1_drawViews) := ⟨lw_in4 _ (List.mem_of_getElem? (i := 84) rfl), rfl⟩
theorem wd_23 : yWd (.selects RX1 yX1_drawViews yX1_drawViews) := ⟨lw_inp2 _ (List.mem_of_getElem? (i := 7) rfl), rfl⟩
theorem cv_X1_56 : yCV RX1 56 5 yX1_drawViews cX1_drawViews 2 none 0 := ⟨_, _, _, cl_X1, wd_878, wd_875, wd_877, wd_23, wd_75, ⟨by decide, by decide, by decide +kernel⟩, by decide⟩
def t_X1_change : yT := [(0, .aload_n 0, 1), (1, .iload_n 1, 1), (2, .iload_n 2, 1), (3, .invokevirtual 49, 3), (6, .aload_n 0, 1), (7, .invokevirtual 56, 3), (10, .return_, 1)]
def t_X1_openGates : yT := [(0, .aload_n 0, 1), (1, .iload_n 1, 1), (2, .putfield 9, 3), (5, .aload_n 0, 1), (6, .iload_n 2, 1), (7, .putfield 59, 3), (10, .return_, 1)]
theorem wd_133 : yWd (.fieldLink RX1 59 "NightwatchWall$Grid" "openTo" "I") := ⟨lw_in1 _ (List.mem_of_getElem? (i := 60) rfl), rfl⟩
theorem fp_X1_59_X1 : yFP RX1 59 5 8 (.int) := ⟨_, _, _, cl_X1, by decide, rfl, by decide +kernel, wd_133⟩
def t_X1_kindOfDigit : yT := [(0, .iload_n 0, 1), (1, .tableswitch 37 0 3 #[31, 31, 33, 35], 31), (32, .iconst 1, 1), (33, .ireturn, 1), (34, .iconst 2, 1), (35, .ireturn, 1), (36, .iconst 3, 1), (37, .ireturn, 1), (38, .iconst 0, 1), (39, .ireturn, 1)]
def t_X1_setKind : yT := [(0, .iload_n 1, 1), (1, .invokestatic 62, 3), (4, .lstore_n 3, 1), (5, .aload_n 0, 1), (6, .iload_n 2, 1), (7, .iconst 1, 1), (8, .if_icmp .ne 12, 3), (11, .aload_n 0, 1), (12, .getfield 28, 3), (15, .lload_n 3, 1), (16, .lor, 1), (17, .goto 13, 3), (20, .aload_n 0, 1), (21, .getfield 28, 3), (24, .lload_n 3, 1), (25, .ldc2_w 66, 3), (28, .lxor, 1), (29, .land, 1), (30, .putfield 28, 3), (33, .aload_n 0, 1), (34, .iload_n 2, 1), (35, .iconst 2, 1), (36, .if_icmp .ne 12, 3), (39, .aload_n 0, 1), (40, .getfield 32, 3), (43, .lload_n 3, 1), (44, .lor, 1), (45, .goto 13, 3), (48, .aload_n 0, 1), (49, .getfield 32, 3), (52, .lload_n 3, 1), (53, .ldc2_w 66, 3), (56, .lxor, 1), (57, .land, 1), (58, .putfield 32, 3), (61, .aload_n 0, 1), (62, .iload_n 2, 1), (63, .iconst 3, 1), (64, .if_icmp .ne 12, 3), (67, .aload_n 0, 1), (68, .getfield 35, 3), (71, .lload_n 3, 1), (72, .lor, 1), (73, .goto 13, 3), (76, .aload_n 0, 1), (77, .getfield 35, 3), (80, .lload_n 3, 1), (81, .ldc2_w 66, 3), (84, .lxor, 1), (85, .land, 1), (86, .putfield 35, 3), (89, .return_, 1)]
theorem wd_385 : yWd (.code yX8_setOf cX8_setOf 1 (some .long)) := ⟨lw_in2 _ (List.mem_of_getElem? (i := 72) rfl), rfl⟩
theorem wd_384 : yWd (.static yX8_setOf) := ⟨lw_in2 _ (List.mem_of_getElem? (i := 71) rfl), rfl⟩
theorem cs_X1_62 : yCSN RX1 62 yX8_setOf "NightwatchWall" cX8_setOf 1 (some .long) 1 := ⟨wd_385, (lw_in4 _ (List.mem_of_getElem? (i := 68) (by decide +kernel))), wd_384, wd_74, ⟨by decide, by decide, by decide +kernel⟩, by decide⟩
theorem fg_X1_28_X1 : yFL RX1 28 5 4 := ⟨_, _, _, cl_X1, by decide, wd_129⟩
theorem wd_420 : yWd (.constantLong RX1 66 (-1)) := ⟨lw_in2 _ (List.mem_of_getElem? (i := 107) rfl), rfl⟩
theorem ld_X1_66 : yWd (.constantLong RX1 66 (-1)) := wd_420
theorem fg_X1_32_X1 : yFL RX1 32 5 5 := ⟨_, _, _, cl_X1, by decide, wd_130⟩
theorem fg_X1_35_X1 : yFL RX1 35 5 6 := ⟨_, _, _, cl_X1, by decide, wd_131⟩
def t_X1_kindOf : yT := [(0, .aload_n 0, 1), (1, .getfield 28, 3), (4, .iload_n 1, 1), (5, .invokestatic 68, 3), (8, .ifCond .eq 5, 3), (11, .iconst 1, 1), (12, .ireturn, 1), (13, .aload_n 0, 1), (14, .getfield 32, 3), (17, .iload_n 1, 1), (18, .invokestatic 68, 3), (21, .ifCond .eq 5, 3), (24, .iconst 2, 1), (25, .ireturn, 1), (26, .aload_n 0, 1), (27, .getfield 35, 3), (30, .iload_n 1, 1), (31, .invokestatic 68, 3), (34, .ifCond .eq 7, 3), (37, .iconst 3, 1), (38, .goto 4, 3), (41, .iconst 0, 1), (42, .ireturn, 1)]
theorem wd_596 : yWd (.code yX8_isOf cX8_isOf 3 (some .boolean)) := ⟨lw_in3 _ (List.mem_of_getElem? (i := 43) rfl), rfl⟩
theorem wd_595 : yWd (.static yX8_isOf) := ⟨lw_in3 _ (List.mem_of_getElem? (i := 42) rfl), rfl⟩
theorem cs_X1_68 : yCSN RX1 68 yX8_isOf "NightwatchWall" cX8_isOf 3 (some .boolean) 2 := ⟨wd_596, (lw_in3 _ (List.mem_of_getElem? (i := 139) (by decide +kernel))), wd_595, wd_74, ⟨by decide, by decide, by decide +kernel⟩, by decide⟩
def t_X1_isWall : yT := [(0, .aload_n 0, 1), (1, .getfield 28, 3), (4, .iload_n 1, 1), (5, .invokestatic 68, 3), (8, .ireturn, 1)]
def t_X1_gateCount : yT := [(0, .aload_n 0, 1), (1, .getfield 35, 3), (4, .invokestatic 72, 3), (7, .ireturn, 1)]
theorem wd_639 : yWd (.code yJ13_bitCount_95d88 cJ13_bitCount_95d88 2 (some .int)) := ⟨lw_in3 _ (List.mem_of_getElem? (i := 86) rfl), rfl⟩
theorem wd_966 : yWd (.methodLink RX1 72 yJ13_bitCount_95d88) := ⟨lw_in4 _ (List.mem_of_getElem? (i := 173) rfl), rfl⟩
theorem wd_95 : yWd (.initialized RJ13) := ⟨lw_in1 _ (List.mem_of_getElem? (i := 22) rfl), rfl⟩
theorem wd_638 : yWd (.static yJ13_bitCount_95d88) := ⟨lw_in3 _ (List.mem_of_getElem? (i := 85) rfl), rfl⟩
theorem cs_X1_72 : yCS RX1 72 yJ13_bitCount_95d88 cJ13_bitCount_95d88 2 (some .int) 1 := ⟨wd_639, wd_966, wd_638, wd_95, ⟨by decide, by decide, by decide +kernel⟩, by decide⟩
def t_X1_allCells : yT := [(0, .aload_n 0, 1), (1, .getfield 19, 3), (4, .aload_n 0, 1), (5, .getfield 22, 3), (8, .imul, 1), (9, .istore_n 1, 1), (10, .iload_n 1, 1), (11, .bipush 64, 2), (13, .if_icmp .lt 9, 3), (16, .ldc2_w 66, 3), (19, .goto 8, 3), (22, .lconst 1, 1), (23, .iload_n 1, 1), (24, .lshl, 1), (25, .lconst 1, 1), (26, .lsub, 1), (27, .lreturn, 1)]
def t_X1_openCells : yT := [(0, .aload_n 0, 1), (1, .invokevirtual 78, 3), (4, .aload_n 0, 1), (5, .getfield 28, 3), (8, .ldc2_w 66, 3), (11, .lxor, 1), (12, .land, 1), (13, .lreturn, 1)]
theorem wd_419 : yWd (.code yX1_allCells cX1_allCells 2 (some .long)) := ⟨lw_in2 _ (List.mem_of_getElem? (i := 106) rfl), rfl⟩
theorem wd_416 : yWd (.methodLink RX1 78 yX1_allCells) := ⟨lw_in2 _ (List.mem_of_getElem? (i := 103) rfl), rfl⟩
theorem wd_418 : yWd (.instanceMethod yX1_allCells) := ⟨lw_in2 _ (List.mem_of_getElem? (i := 105) rfl), rfl⟩
theorem wd_1 : yWd (.selects RX1 yX1_allCells yX1_allCells) := ⟨lw_inp1 _ (List.mem_of_getElem? (i := 1) rfl), rfl⟩
theorem cv_X1_78 : yCV RX1 78 5 yX1_allCells cX1_allCells 2 (some .long) 0 := ⟨_, _, _, cl_X1, wd_419, wd_416, wd_418, wd_1, wd_75, ⟨by decide, by decide, by decide +kernel⟩, by decide⟩
def t_X1_walkable : yT := [(0, .iload_n 1, 1), (1, .aload_n 0, 1), (2, .getfield 9, 3), (5, .aload_n 0, 1), (6, .getfield 59, 3), (9, .invokestatic 82, 3), (12, .istore_n 2, 1), (13, .iload_n 2, 1), (14, .ifCond .eq 10, 3), (17, .aload_n 0, 1), (18, .invokevirtual 86, 3), (21, .goto 16, 3), (24, .aload_n 0, 1), (25, .invokevirtual 86, 3), (28, .aload_n 0, 1), (29, .getfield 35, 3), (32, .ldc2_w 66, 3), (35, .lxor, 1), (36, .land, 1), (37, .lreturn, 1)]
theorem fg_X1_9_X1 : yFL RX1 9 5 7 := ⟨_, _, _, cl_X1, by decide, wd_132⟩
theorem fg_X1_59_X1 : yFL RX1 59 5 8 := ⟨_, _, _, cl_X1, by decide, wd_133⟩
theorem wd_426 : yWd (.code yX8_isIn cX8_isIn 3 (some .boolean)) := ⟨lw_in2 _ (List.mem_of_getElem? (i := 113) rfl), rfl⟩
theorem wd_425 : yWd (.static yX8_isIn) := ⟨lw_in2 _ (List.mem_of_getElem? (i := 112) rfl), rfl⟩
theorem cs_X1_82 : yCSN RX1 82 yX8_isIn "NightwatchWall" cX8_isIn 3 (some .boolean) 3 := ⟨wd_426, (lw_in3 _ (List.mem_of_getElem? (i := 152) (by decide +kernel))), wd_425, wd_74, ⟨by decide, by decide, by decide +kernel⟩, by decide⟩
theorem wd_415 : yWd (.code yX1_openCells cX1_openCells 1 (some .long)) := ⟨lw_in2 _ (List.mem_of_getElem? (i := 102) rfl), rfl⟩
theorem wd_706 : yWd (.methodLink RX1 86 yX1_openCells) := ⟨lw_in3 _ (List.mem_of_getElem? (i := 153) rfl), rfl⟩
theorem wd_413 : yWd (.instanceMethod yX1_openCells) := ⟨lw_in2 _ (List.mem_of_getElem? (i := 100) rfl), rfl⟩
theorem wd_414 : yWd (.selects RX1 yX1_openCells yX1_openCells) := ⟨lw_in2 _ (List.mem_of_getElem? (i := 101) rfl), rfl⟩
theorem cv_X1_86 : yCV RX1 86 5 yX1_openCells cX1_openCells 1 (some .long) 0 := ⟨_, _, _, cl_X1, wd_415, wd_706, wd_413, wd_414, wd_75, ⟨by decide, by decide, by decide +kernel⟩, by decide⟩
def t_X1_cellOf : yT := [(0, .iload_n 1, 1), (1, .iconst 0, 1), (2, .aload_n 0, 1), (3, .getfield 22, 3), (6, .iconst 1, 1), (7, .isub, 1), (8, .invokestatic 82, 3), (11, .ifCond .eq 21, 3), (14, .iload_n 2, 1), (15, .iconst 0, 1), (16, .aload_n 0, 1), (17, .getfield 19, 3), (20, .iconst 1, 1), (21, .isub, 1), (22, .invokestatic 82, 3), (25, .ifCond .eq 7, 3), (28, .iconst 1, 1), (29, .goto 4, 3), (32, .iconst 0, 1), (33, .istore_n 3, 1), (34, .iload_n 3, 1), (35, .ifCond .eq 14, 3), (38, .iload_n 1, 1), (39, .aload_n 0, 1), (40, .getfield 19, 3), (43, .imul, 1), (44, .iload_n 2, 1), (45, .iadd, 1), (46, .goto 4, 3), (49, .iconst (-1), 1), (50, .ireturn, 1)]
def t_X1_rowOf : yT := [(0, .aload_n 0, 1), (1, .getfield 19, 3), (4, .iconst 1, 1), (5, .if_icmp .ge 7, 3), (8, .iconst 0, 1), (9, .goto 9, 3), (12, .iload_n 1, 1), (13, .aload_n 0, 1), (14, .getfield 19, 3), (17, .idiv, 1), (18, .ireturn, 1)]
def t_X1_columnOf : yT := [(0, .aload_n 0, 1), (1, .getfield 19, 3), (4, .iconst 1, 1), (5, .if_icmp .ge 7, 3), (8, .iconst 0, 1), (9, .goto 9, 3), (12, .iload_n 1, 1), (13, .aload_n 0, 1), (14, .getfield 19, 3), (17, .irem, 1), (18, .ireturn, 1)]
def t_X1_cellBehind : yT := [(0, .aload_n 0, 1), (1, .iload_n 1, 1), (2, .invokevirtual 89, 3), (5, .istore_n 3, 1), (6, .aload_n 0, 1), (7, .iload_n 1, 1), (8, .invokevirtual 92, 3), (11, .istore 4, 2), (13, .iload_n 2, 1), (14, .tableswitch 70 1 4 #[30, 40, 50, 60], 30), (44, .aload_n 0, 1), (45, .iload_n 3, 1), (46, .iconst 1, 1), (47, .isub, 1), (48, .iload 4, 2), (50, .invokevirtual 95, 3), (53, .ireturn, 1), (54, .aload_n 0, 1), (55, .iload_n 3, 1), (56, .iload 4, 2), (58, .iconst 1, 1), (59, .iadd, 1), (60, .invokevirtual 95, 3), (63, .ireturn, 1), (64, .aload_n 0, 1), (65, .iload_n 3, 1), (66, .iconst 1, 1), (67, .iadd, 1), (68, .iload 4, 2), (70, .invokevirtual 95, 3), (73, .ireturn, 1), (74, .aload_n 0, 1), (75, .iload_n 3, 1), (76, .iload 4, 2), (78, .iconst 1, 1), (79, .isub, 1), (80, .invokevirtual 95, 3), (83, .ireturn, 1), (84, .iload_n 1, 1), (85, .ireturn, 1)]
theorem wd_890 : yWd (.code yX1_rowOf cX1_rowOf 2 (some .int)) := ⟨lw_in4 _ (List.mem_of_getElem? (i := 97) rfl), rfl⟩
theorem wd_887 : yWd (.methodLink RX1 89 yX1_rowOf) := ⟨lw_in4 _ (List.mem_of_getElem? (i := 94) rfl), rfl⟩
theorem wd_889 : yWd (.instanceMethod yX1_rowOf) := ⟨lw_in4 _ (List.mem_of_getElem? (i := 96) rfl), rfl⟩
theorem wd_26 : yWd (.selects RX1 yX1_rowOf yX1_rowOf) := ⟨lw_inp2 _ (List.mem_of_getElem? (i := 10) rfl), rfl⟩
theorem cv_X1_89 : yCV RX1 89 5 yX1_rowOf cX1_rowOf 2 (some .int) 1 := ⟨_, _, _, cl_X1, wd_890, wd_887, wd_889, wd_26, wd_75, ⟨by decide, by decide, by decide +kernel⟩, by decide⟩
theorem wd_894 : yWd (.code yX1_columnOf cX1_columnOf 2 (some .int)) := ⟨lw_in4 _ (List.mem_of_getElem? (i := 101) rfl), rfl⟩
theorem wd_891 : yWd (.methodLink RX1 92 yX1_columnOf) := ⟨lw_in4 _ (List.mem_of_getElem? (i := 98) rfl), rfl⟩
theorem wd_893 : yWd (.instanceMethod yX1_columnOf) := ⟨lw_in4 _ (List.mem_of_getElem? (i := 100) rfl), rfl⟩
theorem wd_27 : yWd (.selects RX1 yX1_columnOf yX1_columnOf) := ⟨lw_inp2 _ (List.mem_of_getElem? (i := 11) rfl), rfl⟩
theorem cv_X1_92 : yCV RX1 92 5 yX1_columnOf cX1_columnOf 2 (some .int) 1 := ⟨_, _, _, cl_X1, wd_894, wd_891, wd_893, wd_27, wd_75, ⟨by decide, by decide, by decide +kernel⟩, by decide⟩
theorem wd_860 : yWd (.code yX1_cellOf cX1_cellOf 4 (some .int)) := ⟨lw_in4 _ (List.mem_of_getElem? (i := 67) rfl), rfl⟩
theorem wd_857 : yWd (.methodLink RX1 95 yX1_cellOf) := ⟨lw_in4 _ (List.mem_of_getElem? (i := 64) rfl), rfl⟩
theorem wd_858 : yWd (.instanceMethod yX1_cellOf) := ⟨lw_in4 _ (List.mem_of_getElem? (i := 65) rfl), rfl⟩
theorem wd_859 : yWd (.selects RX1 yX1_cellOf yX1_cellOf) := ⟨lw_in4 _ (List.mem_of_getElem? (i := 66) rfl), rfl⟩
theorem cv_X1_95 : yCV RX1 95 5 yX1_cellOf cX1_cellOf 4 (some .int) 2 := ⟨_, _, _, cl_X1, wd_860, wd_857, wd_858, wd_859, wd_75, ⟨by decide, by decide, by decide +kernel⟩, by decide⟩
def t_X1_spread : yT := [(0, .lload_n 1, 1), (1, .aload_n 0, 1), (2, .getfield 99, 3), (5, .ldc2_w 66, 3), (8, .lxor, 1), (9, .land, 1), (10, .iconst 1, 1), (11, .lshl, 1), (12, .lstore_n 3, 1), (13, .lload_n 1, 1), (14, .aload_n 0, 1), (15, .getfield 102, 3), (18, .ldc2_w 66, 3), (21, .lxor, 1), (22, .land, 1), (23, .iconst 1, 1), (24, .lushr, 1), (25, .lstore 5, 2), (27, .lload_n 1, 1), (28, .lload_n 1, 1), (29, .aload_n 0, 1), (30, .getfield 19, 3), (33, .lshl, 1), (34, .lor, 1), (35, .lload_n 1, 1), (36, .aload_n 0, 1), (37, .getfield 19, 3), (40, .lushr, 1), (41, .lor, 1), (42, .lload_n 3, 1), (43, .lor, 1), (44, .lload 5, 2), (46, .lor, 1), (47, .aload_n 0, 1), (48, .invokevirtual 78, 3), (51, .land, 1), (52, .lreturn, 1)]
theorem wd_128 : yWd (.fieldLink RX1 99 "NightwatchWall$Grid" "lastColumn" "J") := ⟨lw_in1 _ (List.mem_of_getElem? (i := 55) rfl), rfl⟩
theorem fg_X1_99_X1 : yFL RX1 99 5 3 := ⟨_, _, _, cl_X1, by decide, wd_128⟩
theorem wd_127 : yWd (.fieldLink RX1 102 "NightwatchWall$Grid" "firstColumn" "J") := ⟨lw_in1 _ (List.mem_of_getElem? (i := 54) rfl), rfl⟩
theorem fg_X1_102_X1 : yFL RX1 102 5 2 := ⟨_, _, _, cl_X1, by decide, wd_127⟩
def t_X1_drawColumns : yT := [(0, .aload_n 0, 1), (1, .lconst 0, 1), (2, .putfield 102, 3), (5, .aload_n 0, 1), (6, .lconst 0, 1), (7, .putfield 99, 3), (10, .iconst 0, 1), (11, .istore_n 1, 1), (12, .iload_n 1, 1), (13, .aload_n 0, 1), (14, .getfield 22, 3), (17, .if_icmp .ge 50, 3), (20, .aload_n 0, 1), (21, .dup, 1), (22, .getfield 102, 3), (25, .aload_n 0, 1), (26, .iload_n 1, 1), (27, .iconst 0, 1), (28, .invokevirtual 95, 3), (31, .invokestatic 62, 3), (34, .lor, 1), (35, .putfield 102, 3), (38, .aload_n 0, 1), (39, .dup, 1), (40, .getfield 99, 3), (43, .aload_n 0, 1), (44, .iload_n 1, 1), (45, .aload_n 0, 1), (46, .getfield 19, 3), (49, .iconst 1, 1), (50, .isub, 1), (51, .invokevirtual 95, 3), (54, .invokestatic 62, 3), (57, .lor, 1), (58, .putfield 99, 3), (61, .iinc 1 1, 3), (64, .goto (-52), 3), (67, .return_, 1)]
theorem fp_X1_102_X1 : yFP RX1 102 5 2 (.long) := ⟨_, _, _, cl_X1, by decide, rfl, by decide +kernel, wd_127⟩
theorem fp_X1_99_X1 : yFP RX1 99 5 3 (.long) := ⟨_, _, _, cl_X1, by decide, rfl, by decide +kernel, wd_128⟩
def t_X1_viewOf : yT := [(0, .iload_n 2, 1), (1, .ifCond .ge 7, 3), (4, .iconst 0, 1), (5, .goto 4, 3), (8, .iload_n 2, 1), (9, .istore_n 3, 1), (10, .iload_n 1, 1), (11, .bipush 8, 2), (13, .imul, 1), (14, .iload_n 3, 1), (15, .bipush 8, 2), (17, .if_icmp .ge 7, 3), (20, .iload_n 3, 1), (21, .goto 5, 3), (24, .bipush 7, 2), (26, .iadd, 1), (27, .istore 4, 2), (29, .iload 4, 2), (31, .ifCond .lt 23, 3), (34, .iload 4, 2), (36, .aload_n 0, 1), (37, .getfield 15, 3), (40, .arraylength, 1), (41, .if_icmp .ge 13, 3), (44, .aload_n 0, 1), (45, .getfield 15, 3), (48, .iload 4, 2), (50, .laload, 1), (51, .goto 4, 3), (54, .lconst 0, 1), (55, .lreturn, 1)]
theorem fg_X1_15_X1 : yFL RX1 15 5 9 := ⟨_, _, _, cl_X1, by decide, wd_134⟩
def t_X1_drawViews : yT := [(0, .iconst 0, 1), (1, .istore_n 1, 1), (2, .iload_n 1, 1), (3, .aload_n 0, 1), (4, .invokevirtual 38, 3), (7, .if_icmp .ge 14, 3), (10, .aload_n 0, 1), (11, .iload_n 1, 1), (12, .invokevirtual 105, 3), (15, .iinc 1 1, 3), (18, .goto (-16), 3), (21, .return_, 1)]
theorem wd_882 : yWd (.code yX1_drawViewsOf cX1_drawViewsOf 9 none) := ⟨lw_in4 _ (List.mem_of_getElem? (i := 89) rfl), rfl⟩
theorem wd_879 : yWd (.methodLink RX1 105 yX1_drawViewsOf) := ⟨lw_in4 _ (List.mem_of_getElem? (i := 86) rfl), rfl⟩
theorem wd_881 : yWd (.instanceMethod yX1_drawViewsOf) := ⟨lw_in4 _ (List.mem_of_getElem? (i := 88) rfl), rfl⟩
theorem wd_24 : yWd (.selects RX1 yX1_drawViewsOf yX1_drawViewsOf) := ⟨lw_inp2 _ (List.mem_of_getElem? (i := 8) rfl), rfl⟩
theorem cv_X1_105 : yCV RX1 105 5 yX1_drawViewsOf cX1_drawViewsOf 9 none 1 := ⟨_, _, _, cl_X1, wd_882, wd_879, wd_881, wd_24, wd_75, ⟨by decide, by decide, by decide +kernel⟩, by decide⟩
def t_X1_drawViewsOf : yT := [(0, .iload_n 1, 1), (1, .invokestatic 62, 3), (4, .lstore_n 2, 1), (5, .sipush 495, 3), (8, .istore 4, 2), (10, .iconst 0, 1), (11, .istore 5, 2), (13, .iload 5, 2), (15, .bipush 8, 2), (17, .if_icmp .ge 142, 3), (20, .iconst 0, 1), (21, .istore 6, 2), (23, .iload 6, 2), (25, .bipush 9, 2), (27, .if_icmp .ge 94, 3), (30, .iload 5, 2), (32, .ifCond .le 83, 3), (35, .iload 4, 2), (37, .iconst 1, 1), (38, .iload 6, 2), (40, .ishl, 1), (41, .iand, 1), (42, .ifCond .eq 73, 3), (45, .aload_n 0, 1), (46, .iload_n 1, 1), (47, .iload 6, 2), (49, .iload 5, 2), (51, .invokevirtual 109, 3), (54, .istore 7, 2), (56, .iload 7, 2), (58, .iconst (-1), 1), (59, .if_icmp .eq 20, 3), (62, .aload_n 0, 1), (63, .getfield 28, 3), (66, .aload_n 0, 1), (67, .getfield 32, 3), (70, .lor, 1), (71, .iload 7, 2), (73, .invokestatic 68, 3), (76, .ifCond .eq 7, 3), (79, .iconst 1, 1), (80, .goto 4, 3), (83, .iconst 0, 1), (84, .istore 8, 2), (86, .lload_n 2, 1), (87, .iload 7, 2), (89, .invokestatic 62, 3), (92, .lor, 1), (93, .lstore_n 2, 1), (94, .iload 8, 2), (96, .ifCond .eq 15, 3), (99, .iload 4, 2), (101, .iconst 1, 1), (102, .iload 6, 2), (104, .ishl, 1), (105, .iconst (-1), 1), (106, .ixor, 1), (107, .iand, 1), (108, .goto 5, 3), (111, .iload 4, 2), (113, .istore 4, 2), (115, .iinc 6 1, 3), (118, .goto (-95), 3), (121, .iload_n 1, 1), (122, .bipush 8, 2), (124, .imul, 1), (125, .iload 5, 2), (127, .iadd, 1), (128, .istore 6, 2), (130, .iload 6, 2), (132, .ifCond .lt 21, 3), (135, .iload 6, 2), (137, .aload_n 0, 1), (138, .getfield 15, 3), (141, .arraylength, 1), (142, .if_icmp .ge 11, 3), (145, .aload_n 0, 1), (146, .getfield 15, 3), (149, .iload 6, 2), (151, .lload_n 2, 1), (152, .lastore, 1), (153, .iinc 5 1, 3), (156, .goto (-143), 3), (159, .return_, 1)]
theorem wd_886 : yWd (.code yX1_cellToward cX1_cellToward 6 (some .int)) := ⟨lw_in4 _ (List.mem_of_getElem? (i := 93) rfl), rfl⟩
theorem wd_883 : yWd (.methodLink RX1 109 yX1_cellToward) := ⟨lw_in4 _ (List.mem_of_getElem? (i := 90) rfl), rfl⟩
theorem wd_885 : yWd (.instanceMethod yX1_cellToward) := ⟨lw_in4 _ (List.mem_of_getElem? (i := 92) rfl), rfl⟩
theorem wd_25 : yWd (.selects RX1 yX1_cellToward yX1_cellToward) := ⟨lw_inp2 _ (List.mem_of_getElem? (i := 9) rfl), rfl⟩
theorem cv_X1_109 : yCV RX1 109 5 yX1_cellToward cX1_cellToward 6 (some .int) 3 := ⟨_, _, _, cl_X1, wd_886, wd_883, wd_885, wd_25, wd_75, ⟨by decide, by decide, by decide +kernel⟩, by decide⟩
def t_X1_cellToward : yT := [(0, .iload_n 2, 1), (1, .iconst 3, 1), (2, .idiv, 1), (3, .iconst 1, 1), (4, .isub, 1), (5, .istore 4, 2), (7, .iload_n 2, 1), (8, .iconst 3, 1), (9, .irem, 1), (10, .iconst 1, 1), (11, .isub, 1), (12, .istore 5, 2), (14, .aload_n 0, 1), (15, .aload_n 0, 1), (16, .iload_n 1, 1), (17, .invokevirtual 89, 3), (20, .iload_n 3, 1), (21, .iload 4, 2), (23, .imul, 1), (24, .iadd, 1), (25, .aload_n 0, 1), (26, .iload_n 1, 1), (27, .invokevirtual 92, 3), (30, .iload_n 3, 1), (31, .iload 5, 2), (33, .imul, 1), (34, .iadd, 1), (35, .invokevirtual 95, 3), (38, .ireturn, 1)]
def t_X2_init : yT := [(0, .aload_n 0, 1), (1, .invokespecial 3, 3), (4, .aload_n 0, 1), (5, .new 9, 3), (8, .dup, 1), (9, .bipush 6, 2), (11, .invokespecial 11, 3), (14, .putfield 14, 3), (17, .aload_n 0, 1), (18, .new 9, 3), (21, .dup, 1), (22, .bipush 6, 2), (24, .invokespecial 11, 3), (27, .putfield 20, 3), (30, .aload_n 0, 1), (31, .new 9, 3), (34, .dup, 1), (35, .bipush 6, 2), (37, .invokespecial 11, 3), (40, .putfield 23, 3), (43, .aload_n 0, 1), (44, .new 9, 3), (47, .dup, 1), (48, .bipush 6, 2), (50, .invokespecial 11, 3), (53, .putfield 26, 3), (56, .aload_n 0, 1), (57, .new 9, 3), (60, .dup, 1), (61, .bipush 36, 2), (63, .invokespecial 11, 3), (66, .putfield 29, 3), (69, .return_, 1)]
theorem wd_208 : yWd (.classLink RX2 9 RX5) := ⟨lw_in1 _ (List.mem_of_getElem? (i := 135) rfl), rfl⟩
theorem nw_X2_9 : yNW RX2 9 9 2 [.null, .int 0] := by
  refine ⟨_, _, cl_X5, ?_, wd_208, wd_164, wd_77⟩
  intro ty hty j hj
  match j, hj with
  | 0, h => have e := Option.some.inj ((hty 0 h).symm.trans (tyX5_ok 0 h)); rw [e]; rfl
  | 1, h => have e := Option.some.inj ((hty 1 h).symm.trans (tyX5_ok 1 h)); rw [e]; rfl
  | j + 2, h => exact absurd h (by omega)
theorem wd_209 : yWd (.methodLink RX2 11 yX5_init) := ⟨lw_in1 _ (List.mem_of_getElem? (i := 136) rfl), rfl⟩
theorem ci_X2_11 : yCI RX2 11 yX5_init cX5_init 2 1 := ⟨wd_167, wd_209, wd_166, wd_77, ⟨by decide, by decide, by decide +kernel⟩, rfl, by decide⟩
theorem wd_210 : yWd (.fieldLink RX2 14 "NightwatchWall$Guards" "firsts" "LNightwatchWall$Numbers;") := ⟨lw_in1 _ (List.mem_of_getElem? (i := 137) rfl), rfl⟩
theorem fp_X2_14_X2 : yFF RX2 14 6 0 (.object "NightwatchWall$Numbers") := ⟨_, _, _, cl_X2, by decide, rfl, rfl, by decide +kernel, wd_210⟩
theorem wd_211 : yWd (.fieldLink RX2 20 "NightwatchWall$Guards" "lasts" "LNightwatchWall$Numbers;") := ⟨lw_in1 _ (List.mem_of_getElem? (i := 138) rfl), rfl⟩
theorem fp_X2_20_X2 : yFF RX2 20 6 1 (.object "NightwatchWall$Numbers") := ⟨_, _, _, cl_X2, by decide, rfl, rfl, by decide +kernel, wd_211⟩
theorem wd_212 : yWd (.fieldLink RX2 23 "NightwatchWall$Guards" "stays" "LNightwatchWall$Numbers;") := ⟨lw_in1 _ (List.mem_of_getElem? (i := 139) rfl), rfl⟩
theorem fp_X2_23_X2 : yFF RX2 23 6 2 (.object "NightwatchWall$Numbers") := ⟨_, _, _, cl_X2, by decide, rfl, rfl, by decide +kernel, wd_212⟩
theorem wd_213 : yWd (.fieldLink RX2 26 "NightwatchWall$Guards" "lengths" "LNightwatchWall$Numbers;") := ⟨lw_in1 _ (List.mem_of_getElem? (i := 140) rfl), rfl⟩
theorem fp_X2_26_X2 : yFF RX2 26 6 3 (.object "NightwatchWall$Numbers") := ⟨_, _, _, cl_X2, by decide, rfl, rfl, by decide +kernel, wd_213⟩
theorem wd_214 : yWd (.fieldLink RX2 29 "NightwatchWall$Guards" "rounds" "LNightwatchWall$Numbers;") := ⟨lw_in1 _ (List.mem_of_getElem? (i := 141) rfl), rfl⟩
theorem fp_X2_29_X2 : yFF RX2 29 6 4 (.object "NightwatchWall$Numbers") := ⟨_, _, _, cl_X2, by decide, rfl, rfl, by decide +kernel, wd_214⟩
def t_X2_count : yT := [(0, .aload_n 0, 1), (1, .getfield 14, 3), (4, .invokevirtual 32, 3), (7, .ireturn, 1)]
theorem fg_X2_14_X2 : yFL RX2 14 6 0 := ⟨_, _, _, cl_X2, by decide, wd_210⟩
theorem wd_395 : yWd (.methodLink RX2 32 yX5_size) := ⟨lw_in2 _ (List.mem_of_getElem? (i := 82) rfl), rfl⟩
theorem cv_X2_32 : yCV RX2 32 9 yX5_size cX5_size 1 (some .int) 0 := ⟨_, _, _, cl_X5, wd_398, wd_395, wd_396, wd_397, wd_77, ⟨by decide, by decide, by decide +kernel⟩, by decide⟩
def t_X2_isFull : yT := [(0, .aload_n 0, 1), (1, .getfield 14, 3), (4, .invokevirtual 36, 3), (7, .ireturn, 1)]
theorem wd_1029 : yWd (.methodLink RX2 36 yX5_isFull) := ⟨lw_in4 _ (List.mem_of_getElem? (i := 236) rfl), rfl⟩
theorem cv_X2_36 : yCV RX2 36 9 yX5_isFull cX5_isFull 1 (some .boolean) 0 := ⟨_, _, _, cl_X5, wd_330, wd_1029, wd_328, wd_329, wd_77, ⟨by decide, by decide, by decide +kernel⟩, by decide⟩
def t_X2_forget : yT := [(0, .aload_n 0, 1), (1, .getfield 14, 3), (4, .invokevirtual 40, 3), (7, .aload_n 0, 1), (8, .getfield 20, 3), (11, .invokevirtual 40, 3), (14, .aload_n 0, 1), (15, .getfield 23, 3), (18, .invokevirtual 40, 3), (21, .aload_n 0, 1), (22, .getfield 26, 3), (25, .invokevirtual 40, 3), (28, .return_, 1)]
theorem wd_909 : yWd (.methodLink RX2 40 yX5_clear) := ⟨lw_in4 _ (List.mem_of_getElem? (i := 116) rfl), rfl⟩
theorem cv_X2_40 : yCV RX2 40 9 yX5_clear cX5_clear 1 none 0 := ⟨_, _, _, cl_X5, wd_311, wd_909, wd_309, wd_310, wd_77, ⟨by decide, by decide, by decide +kernel⟩, by decide⟩
theorem fg_X2_20_X2 : yFL RX2 20 6 1 := ⟨_, _, _, cl_X2, by decide, wd_211⟩
theorem fg_X2_23_X2 : yFL RX2 23 6 2 := ⟨_, _, _, cl_X2, by decide, wd_212⟩
theorem fg_X2_26_X2 : yFL RX2 26 6 3 := ⟨_, _, _, cl_X2, by decide, wd_213⟩
def t_X2_enlist : yT := [(0, .aload_n 0, 1), (1, .getfield 14, 3), (4, .iload_n 2, 1), (5, .invokevirtual 43, 3), (8, .aload_n 0, 1), (9, .getfield 20, 3), (12, .iload_n 3, 1), (13, .invokevirtual 43, 3), (16, .aload_n 0, 1), (17, .getfield 23, 3), (20, .iload 4, 2), (22, .invokevirtual 43, 3), (25, .aload_n 0, 1), (26, .getfield 26, 3), (29, .iconst 0, 1), (30, .invokevirtual 43, 3), (33, .aload_n 0, 1), (34, .aload_n 0, 1), (35, .invokevirtual 46, 3), (38, .iconst 1, 1), (39, .isub, 1), (40, .iload_n 1, 1), (41, .invokevirtual 49, 3), (44, .pop, 1), (45, .aload_n 0, 1), (46, .invokevirtual 46, 3), (49, .iconst 1, 1), (50, .isub, 1), (51, .ireturn, 1)]
theorem wd_1034 : yWd (.methodLink RX2 43 yX5_add) := ⟨lw_in5 _ (List.mem_of_getElem? (i := 1) rfl), rfl⟩
theorem cv_X2_43 : yCV RX2 43 9 yX5_add cX5_add 2 none 1 := ⟨_, _, _, cl_X5, wd_326, wd_1034, wd_324, wd_325, wd_77, ⟨by decide, by decide, by decide +kernel⟩, by decide⟩
theorem wd_394 : yWd (.code yX2_count cX2_count 1 (some .int)) := ⟨lw_in2 _ (List.mem_of_getElem? (i := 81) rfl), rfl⟩
theorem wd_391 : yWd (.methodLink RX2 46 yX2_count) := ⟨lw_in2 _ (List.mem_of_getElem? (i := 78) rfl), rfl⟩
theorem wd_79 : yWd (.initialized RX2) := ⟨lw_in1 _ (List.mem_of_getElem? (i := 6) rfl), rfl⟩
theorem wd_392 : yWd (.instanceMethod yX2_count) := ⟨lw_in2 _ (List.mem_of_getElem? (i := 79) rfl), rfl⟩
theorem wd_393 : yWd (.selects RX2 yX2_count yX2_count) := ⟨lw_in2 _ (List.mem_of_getElem? (i := 80) rfl), rfl⟩
theorem cv_X2_46 : yCV RX2 46 6 yX2_count cX2_count 1 (some .int) 0 := ⟨_, _, _, cl_X2, wd_394, wd_391, wd_392, wd_393, wd_79, ⟨by decide, by decide, by decide +kernel⟩, by decide⟩
theorem wd_1038 : yWd (.code yX2_lengthen cX2_lengthen 4 (some .int)) := ⟨lw_in5 _ (List.mem_of_getElem? (i := 5) rfl), rfl⟩
theorem wd_1035 : yWd (.methodLink RX2 49 yX2_lengthen) := ⟨lw_in5 _ (List.mem_of_getElem? (i := 2) rfl), rfl⟩
theorem wd_1036 : yWd (.instanceMethod yX2_lengthen) := ⟨lw_in5 _ (List.mem_of_getElem? (i := 3) rfl), rfl⟩
theorem wd_1037 : yWd (.selects RX2 yX2_lengthen yX2_lengthen) := ⟨lw_in5 _ (List.mem_of_getElem? (i := 4) rfl), rfl⟩
theorem cv_X2_49 : yCV RX2 49 6 yX2_lengthen cX2_lengthen 4 (some .int) 2 := ⟨_, _, _, cl_X2, wd_1038, wd_1035, wd_1036, wd_1037, wd_79, ⟨by decide, by decide, by decide +kernel⟩, by decide⟩
def t_X2_isRoundFull : yT := [(0, .aload_n 0, 1), (1, .getfield 26, 3), (4, .iload_n 1, 1), (5, .invokevirtual 53, 3), (8, .bipush 6, 2), (10, .if_icmp .lt 7, 3), (13, .iconst 1, 1), (14, .goto 4, 3), (17, .iconst 0, 1), (18, .ireturn, 1)]
theorem wd_399 : yWd (.methodLink RX2 53 yX5_at) := ⟨lw_in2 _ (List.mem_of_getElem? (i := 86) rfl), rfl⟩
theorem cv_X2_53 : yCV RX2 53 9 yX5_at cX5_at 2 (some .int) 1 := ⟨_, _, _, cl_X5, wd_382, wd_399, wd_380, wd_381, wd_77, ⟨by decide, by decide, by decide +kernel⟩, by decide⟩
def t_X2_lengthen : yT := [(0, .aload_n 0, 1), (1, .getfield 26, 3), (4, .iload_n 1, 1), (5, .invokevirtual 53, 3), (8, .istore_n 3, 1), (9, .aload_n 0, 1), (10, .getfield 29, 3), (13, .iload_n 1, 1), (14, .bipush 6, 2), (16, .imul, 1), (17, .iload_n 3, 1), (18, .iadd, 1), (19, .iload_n 2, 1), (20, .invokevirtual 57, 3), (23, .aload_n 0, 1), (24, .getfield 26, 3), (27, .iload_n 1, 1), (28, .iload_n 3, 1), (29, .iconst 1, 1), (30, .iadd, 1), (31, .invokevirtual 57, 3), (34, .iload_n 3, 1), (35, .iconst 1, 1), (36, .iadd, 1), (37, .ireturn, 1)]
theorem fg_X2_29_X2 : yFL RX2 29 6 4 := ⟨_, _, _, cl_X2, by decide, wd_214⟩
theorem wd_319 : yWd (.code yX5_put cX5_put 3 none) := ⟨lw_in2 _ (List.mem_of_getElem? (i := 6) rfl), rfl⟩
theorem wd_1039 : yWd (.methodLink RX2 57 yX5_put) := ⟨lw_in5 _ (List.mem_of_getElem? (i := 6) rfl), rfl⟩
theorem wd_317 : yWd (.instanceMethod yX5_put) := ⟨lw_in2 _ (List.mem_of_getElem? (i := 4) rfl), rfl⟩
theorem wd_318 : yWd (.selects RX5 yX5_put yX5_put) := ⟨lw_in2 _ (List.mem_of_getElem? (i := 5) rfl), rfl⟩
theorem cv_X2_57 : yCV RX2 57 9 yX5_put cX5_put 3 none 2 := ⟨_, _, _, cl_X5, wd_319, wd_1039, wd_317, wd_318, wd_77, ⟨by decide, by decide, by decide +kernel⟩, by decide⟩
def t_X2_firstOf : yT := [(0, .aload_n 0, 1), (1, .getfield 14, 3), (4, .iload_n 1, 1), (5, .invokevirtual 53, 3), (8, .ireturn, 1)]
def t_X2_lastOf : yT := [(0, .aload_n 0, 1), (1, .getfield 20, 3), (4, .iload_n 1, 1), (5, .invokevirtual 53, 3), (8, .ireturn, 1)]
def t_X2_stayOf : yT := [(0, .aload_n 0, 1), (1, .getfield 23, 3), (4, .iload_n 1, 1), (5, .invokevirtual 53, 3), (8, .ireturn, 1)]
def t_X2_lengthOf : yT := [(0, .aload_n 0, 1), (1, .getfield 26, 3), (4, .iload_n 1, 1), (5, .invokevirtual 53, 3), (8, .ireturn, 1)]
def t_X2_standAt : yT := [(0, .aload_n 0, 1), (1, .getfield 23, 3), (4, .iload_n 1, 1), (5, .invokevirtual 53, 3), (8, .istore_n 3, 1), (9, .aload_n 0, 1), (10, .getfield 26, 3), (13, .iload_n 1, 1), (14, .invokevirtual 53, 3), (17, .istore 4, 2), (19, .iload_n 2, 1), (20, .aload_n 0, 1), (21, .getfield 14, 3), (24, .iload_n 1, 1), (25, .invokevirtual 53, 3), (28, .isub, 1), (29, .istore 5, 2), (31, .iload 5, 2), (33, .ifCond .lt 26, 3), (36, .iload_n 2, 1), (37, .aload_n 0, 1), (38, .getfield 20, 3), (41, .iload_n 1, 1), (42, .invokevirtual 53, 3), (45, .if_icmp .gt 14, 3), (48, .iload_n 3, 1), (49, .iconst 1, 1), (50, .if_icmp .lt 9, 3), (53, .iload 4, 2), (55, .iconst 1, 1), (56, .if_icmp .ge 5, 3), (59, .iconst (-1), 1), (60, .ireturn, 1), (61, .aload_n 0, 1), (62, .getfield 29, 3), (65, .iload_n 1, 1), (66, .bipush 6, 2), (68, .imul, 1), (69, .iload 5, 2), (71, .iload_n 3, 1), (72, .idiv, 1), (73, .iload 4, 2), (75, .irem, 1), (76, .iadd, 1), (77, .invokevirtual 53, 3), (80, .ireturn, 1)]
def t_X2_isOnDuty : yT := [(0, .aload_n 0, 1), (1, .iload_n 1, 1), (2, .iload_n 2, 1), (3, .invokevirtual 61, 3), (6, .iconst (-1), 1), (7, .if_icmp .eq 7, 3), (10, .iconst 1, 1), (11, .goto 4, 3), (14, .iconst 0, 1), (15, .ireturn, 1)]
theorem wd_588 : yWd (.code yX2_standAt cX2_standAt 6 (some .int)) := ⟨lw_in3 _ (List.mem_of_getElem? (i := 35) rfl), rfl⟩
theorem wd_625 : yWd (.methodLink RX2 61 yX2_standAt) := ⟨lw_in3 _ (List.mem_of_getElem? (i := 72) rfl), rfl⟩
theorem wd_586 : yWd (.instanceMethod yX2_standAt) := ⟨lw_in3 _ (List.mem_of_getElem? (i := 33) rfl), rfl⟩
theorem wd_587 : yWd (.selects RX2 yX2_standAt yX2_standAt) := ⟨lw_in3 _ (List.mem_of_getElem? (i := 34) rfl), rfl⟩
theorem cv_X2_61 : yCV RX2 61 6 yX2_standAt cX2_standAt 6 (some .int) 2 := ⟨_, _, _, cl_X2, wd_588, wd_625, wd_586, wd_587, wd_79, ⟨by decide, by decide, by decide +kernel⟩, by decide⟩
def t_X2_isTired : yT := [(0, .iload_n 2, 1), (1, .aload_n 0, 1), (2, .getfield 14, 3), (5, .iload_n 1, 1), (6, .invokevirtual 53, 3), (9, .isub, 1), (10, .bipush 90, 2), (12, .if_icmp .lt 7, 3), (15, .iconst 1, 1), (16, .goto 4, 3), (19, .iconst 0, 1), (20, .ireturn, 1)]
def t_X2_tiredMinutesOf : yT := [(0, .aload_n 0, 1), (1, .getfield 20, 3), (4, .iload_n 1, 1), (5, .invokevirtual 53, 3), (8, .aload_n 0, 1), (9, .getfield 14, 3), (12, .iload_n 1, 1), (13, .invokevirtual 53, 3), (16, .isub, 1), (17, .bipush 90, 2), (19, .isub, 1), (20, .iconst 1, 1), (21, .iadd, 1), (22, .istore_n 2, 1), (23, .iload_n 2, 1), (24, .ifCond .ge 7, 3), (27, .iconst 0, 1), (28, .goto 4, 3), (31, .iload_n 2, 1), (32, .ireturn, 1)]
def t_X2_countOnDuty : yT := [(0, .iconst 0, 1), (1, .istore_n 2, 1), (2, .iconst 0, 1), (3, .istore_n 3, 1), (4, .iload_n 3, 1), (5, .aload_n 0, 1), (6, .invokevirtual 46, 3), (9, .if_icmp .ge 26, 3), (12, .iload_n 2, 1), (13, .aload_n 0, 1), (14, .iload_n 3, 1), (15, .iload_n 1, 1), (16, .invokevirtual 64, 3), (19, .ifCond .eq 7, 3), (22, .iconst 1, 1), (23, .goto 4, 3), (26, .iconst 0, 1), (27, .iadd, 1), (28, .istore_n 2, 1), (29, .iinc 3 1, 3), (32, .goto (-28), 3), (35, .iload_n 2, 1), (36, .ireturn, 1)]
theorem wd_650 : yWd (.code yX2_isOnDuty cX2_isOnDuty 3 (some .boolean)) := ⟨lw_in3 _ (List.mem_of_getElem? (i := 97) rfl), rfl⟩
theorem wd_647 : yWd (.methodLink RX2 64 yX2_isOnDuty) := ⟨lw_in3 _ (List.mem_of_getElem? (i := 94) rfl), rfl⟩
theorem wd_648 : yWd (.instanceMethod yX2_isOnDuty) := ⟨lw_in3 _ (List.mem_of_getElem? (i := 95) rfl), rfl⟩
theorem wd_649 : yWd (.selects RX2 yX2_isOnDuty yX2_isOnDuty) := ⟨lw_in3 _ (List.mem_of_getElem? (i := 96) rfl), rfl⟩
theorem cv_X2_64 : yCV RX2 64 6 yX2_isOnDuty cX2_isOnDuty 3 (some .boolean) 2 := ⟨_, _, _, cl_X2, wd_650, wd_647, wd_648, wd_649, wd_79, ⟨by decide, by decide, by decide +kernel⟩, by decide⟩
def t_X2_countTired : yT := [(0, .iconst 0, 1), (1, .istore_n 2, 1), (2, .iconst 0, 1), (3, .istore_n 3, 1), (4, .iload_n 3, 1), (5, .aload_n 0, 1), (6, .invokevirtual 46, 3), (9, .if_icmp .ge 35, 3), (12, .iload_n 2, 1), (13, .aload_n 0, 1), (14, .iload_n 3, 1), (15, .iload_n 1, 1), (16, .invokevirtual 64, 3), (19, .ifCond .eq 16, 3), (22, .aload_n 0, 1), (23, .iload_n 3, 1), (24, .iload_n 1, 1), (25, .invokevirtual 68, 3), (28, .ifCond .eq 7, 3), (31, .iconst 1, 1), (32, .goto 4, 3), (35, .iconst 0, 1), (36, .iadd, 1), (37, .istore_n 2, 1), (38, .iinc 3 1, 3), (41, .goto (-37), 3), (44, .iload_n 2, 1), (45, .ireturn, 1)]
theorem wd_592 : yWd (.code yX2_isTired cX2_isTired 3 (some .boolean)) := ⟨lw_in3 _ (List.mem_of_getElem? (i := 39) rfl), rfl⟩
theorem wd_655 : yWd (.methodLink RX2 68 yX2_isTired) := ⟨lw_in3 _ (List.mem_of_getElem? (i := 102) rfl), rfl⟩
theorem wd_590 : yWd (.instanceMethod yX2_isTired) := ⟨lw_in3 _ (List.mem_of_getElem? (i := 37) rfl), rfl⟩
theorem wd_591 : yWd (.selects RX2 yX2_isTired yX2_isTired) := ⟨lw_in3 _ (List.mem_of_getElem? (i := 38) rfl), rfl⟩
theorem cv_X2_68 : yCV RX2 68 6 yX2_isTired cX2_isTired 3 (some .boolean) 2 := ⟨_, _, _, cl_X2, wd_592, wd_655, wd_590, wd_591, wd_79, ⟨by decide, by decide, by decide +kernel⟩, by decide⟩
def t_X2_setOn : yT := [(0, .iconst 0, 1), (1, .istore_n 3, 1), (2, .iconst 0, 1), (3, .istore 4, 2), (5, .iload 4, 2), (7, .aload_n 0, 1), (8, .invokevirtual 46, 3), (11, .if_icmp .ge 31, 3), (14, .iload_n 3, 1), (15, .aload_n 0, 1), (16, .iload 4, 2), (18, .iload_n 2, 1), (19, .invokevirtual 61, 3), (22, .iload_n 1, 1), (23, .if_icmp .ne 10, 3), (26, .iconst 1, 1), (27, .iload 4, 2), (29, .ishl, 1), (30, .goto 4, 3), (33, .iconst 0, 1), (34, .ior, 1), (35, .istore_n 3, 1), (36, .iinc 4 1, 3), (39, .goto (-34), 3), (42, .iload_n 3, 1), (43, .ireturn, 1)]
def t_X2_firstOn : yT := [(0, .iconst 0, 1), (1, .istore_n 3, 1), (2, .iload_n 3, 1), (3, .aload_n 0, 1), (4, .invokevirtual 46, 3), (7, .if_icmp .ge 21, 3), (10, .aload_n 0, 1), (11, .iload_n 3, 1), (12, .iload_n 2, 1), (13, .invokevirtual 61, 3), (16, .iload_n 1, 1), (17, .if_icmp .ne 5, 3), (20, .iload_n 3, 1), (21, .ireturn, 1), (22, .iinc 3 1, 3), (25, .goto (-23), 3), (28, .iconst (-1), 1), (29, .ireturn, 1)]
def t_X2_cellsHeld : yT := [(0, .lconst 0, 1), (1, .lstore_n 2, 1), (2, .iconst 0, 1), (3, .istore 4, 2), (5, .iload 4, 2), (7, .aload_n 0, 1), (8, .invokevirtual 46, 3), (11, .if_icmp .ge 22, 3), (14, .lload_n 2, 1), (15, .aload_n 0, 1), (16, .iload 4, 2), (18, .iload_n 1, 1), (19, .invokevirtual 61, 3), (22, .invokestatic 71, 3), (25, .lor, 1), (26, .lstore_n 2, 1), (27, .iinc 4 1, 3), (30, .goto (-25), 3), (33, .lload_n 2, 1), (34, .lreturn, 1)]
theorem cs_X2_71 : yCSN RX2 71 yX8_setOf "NightwatchWall" cX8_setOf 1 (some .long) 1 := ⟨wd_385, (lw_in2 _ (List.mem_of_getElem? (i := 87) (by decide +kernel))), wd_384, wd_74, ⟨by decide, by decide, by decide +kernel⟩, by decide⟩
def t_X2_roundCells : yT := [(0, .lconst 0, 1), (1, .lstore_n 1, 1), (2, .iconst 0, 1), (3, .istore_n 3, 1), (4, .iload_n 3, 1), (5, .aload_n 0, 1), (6, .invokevirtual 46, 3), (9, .if_icmp .ge 51, 3), (12, .iconst 0, 1), (13, .istore 4, 2), (15, .iload 4, 2), (17, .aload_n 0, 1), (18, .getfield 26, 3), (21, .iload_n 3, 1), (22, .invokevirtual 53, 3), (25, .if_icmp .ge 29, 3), (28, .lload_n 1, 1), (29, .aload_n 0, 1), (30, .getfield 29, 3), (33, .iload_n 3, 1), (34, .bipush 6, 2), (36, .imul, 1), (37, .iload 4, 2), (39, .iadd, 1), (40, .invokevirtual 53, 3), (43, .invokestatic 71, 3), (46, .lor, 1), (47, .lstore_n 1, 1), (48, .iinc 4 1, 3), (51, .goto (-36), 3), (54, .iinc 3 1, 3), (57, .goto (-53), 3), (60, .lload_n 1, 1), (61, .lreturn, 1)]
def t_X3_init : yT := [(0, .aload_n 0, 1), (1, .invokespecial 3, 3), (4, .aload_n 0, 1), (5, .new 9, 3), (8, .dup, 1), (9, .iconst 4, 1), (10, .invokespecial 13, 3), (13, .putfield 16, 3), (16, .aload_n 0, 1), (17, .new 9, 3), (20, .dup, 1), (21, .iconst 4, 1), (22, .invokespecial 13, 3), (25, .putfield 20, 3), (28, .aload_n 0, 1), (29, .new 9, 3), (32, .dup, 1), (33, .iconst 4, 1), (34, .invokespecial 13, 3), (37, .putfield 23, 3), (40, .aload_n 0, 1), (41, .new 9, 3), (44, .dup, 1), (45, .bipush 60, 2), (47, .invokespecial 13, 3), (50, .putfield 26, 3), (53, .aload_n 0, 1), (54, .new 9, 3), (57, .dup, 1), (58, .iconst 4, 1), (59, .invokespecial 13, 3), (62, .putfield 29, 3), (65, .aload_n 0, 1), (66, .new 9, 3), (69, .dup, 1), (70, .iconst 4, 1), (71, .invokespecial 13, 3), (74, .putfield 32, 3), (77, .return_, 1)]
theorem wd_264 : yWd (.classLink RX3 9 RX5) := ⟨lw_in1 _ (List.mem_of_getElem? (i := 191) rfl), rfl⟩
theorem nw_X3_9 : yNW RX3 9 9 2 [.null, .int 0] := by
  refine ⟨_, _, cl_X5, ?_, wd_264, wd_164, wd_77⟩
  intro ty hty j hj
  match j, hj with
  | 0, h => have e := Option.some.inj ((hty 0 h).symm.trans (tyX5_ok 0 h)); rw [e]; rfl
  | 1, h => have e := Option.some.inj ((hty 1 h).symm.trans (tyX5_ok 1 h)); rw [e]; rfl
  | j + 2, h => exact absurd h (by omega)
theorem wd_265 : yWd (.methodLink RX3 13 yX5_init) := ⟨lw_in1 _ (List.mem_of_getElem? (i := 192) rfl), rfl⟩
theorem ci_X3_13 : yCI RX3 13 yX5_init cX5_init 2 1 := ⟨wd_167, wd_265, wd_166, wd_77, ⟨by decide, by decide, by decide +kernel⟩, rfl, by decide⟩
theorem wd_266 : yWd (.fieldLink RX3 16 "NightwatchWall$Intruders" "firsts" "LNightwatchWall$Numbers;") := ⟨lw_in1 _ (List.mem_of_getElem? (i := 193) rfl), rfl⟩
theorem fp_X3_16_X3 : yFF RX3 16 7 0 (.object "NightwatchWall$Numbers") := ⟨_, _, _, cl_X3, by decide, rfl, rfl, by decide +kernel, wd_266⟩
theorem wd_267 : yWd (.fieldLink RX3 20 "NightwatchWall$Intruders" "told" "LNightwatchWall$Numbers;") := ⟨lw_in1 _ (List.mem_of_getElem? (i := 194) rfl), rfl⟩
theorem fp_X3_20_X3 : yFF RX3 20 7 1 (.object "NightwatchWall$Numbers") := ⟨_, _, _, cl_X3, by decide, rfl, rfl, by decide +kernel, wd_267⟩
theorem wd_268 : yWd (.fieldLink RX3 23 "NightwatchWall$Intruders" "made" "LNightwatchWall$Numbers;") := ⟨lw_in1 _ (List.mem_of_getElem? (i := 195) rfl), rfl⟩
theorem fp_X3_23_X3 : yFF RX3 23 7 2 (.object "NightwatchWall$Numbers") := ⟨_, _, _, cl_X3, by decide, rfl, rfl, by decide +kernel, wd_268⟩
theorem wd_269 : yWd (.fieldLink RX3 26 "NightwatchWall$Intruders" "ways" "LNightwatchWall$Numbers;") := ⟨lw_in1 _ (List.mem_of_getElem? (i := 196) rfl), rfl⟩
theorem fp_X3_26_X3 : yFF RX3 26 7 3 (.object "NightwatchWall$Numbers") := ⟨_, _, _, cl_X3, by decide, rfl, rfl, by decide +kernel, wd_269⟩
theorem wd_270 : yWd (.fieldLink RX3 29 "NightwatchWall$Intruders" "steps" "LNightwatchWall$Numbers;") := ⟨lw_in1 _ (List.mem_of_getElem? (i := 197) rfl), rfl⟩
theorem fp_X3_29_X3 : yFF RX3 29 7 4 (.object "NightwatchWall$Numbers") := ⟨_, _, _, cl_X3, by decide, rfl, rfl, by decide +kernel, wd_270⟩
theorem wd_271 : yWd (.fieldLink RX3 32 "NightwatchWall$Intruders" "stepMinutes" "LNightwatchWall$Numbers;") := ⟨lw_in1 _ (List.mem_of_getElem? (i := 198) rfl), rfl⟩
theorem fp_X3_32_X3 : yFF RX3 32 7 5 (.object "NightwatchWall$Numbers") := ⟨_, _, _, cl_X3, by decide, rfl, rfl, by decide +kernel, wd_271⟩
def t_X3_count : yT := [(0, .aload_n 0, 1), (1, .getfield 16, 3), (4, .invokevirtual 35, 3), (7, .ireturn, 1)]
theorem fg_X3_16_X3 : yFL RX3 16 7 0 := ⟨_, _, _, cl_X3, by decide, wd_266⟩
theorem wd_409 : yWd (.methodLink RX3 35 yX5_size) := ⟨lw_in2 _ (List.mem_of_getElem? (i := 96) rfl), rfl⟩
theorem cv_X3_35 : yCV RX3 35 9 yX5_size cX5_size 1 (some .int) 0 := ⟨_, _, _, cl_X5, wd_398, wd_409, wd_396, wd_397, wd_77, ⟨by decide, by decide, by decide +kernel⟩, by decide⟩
def t_X3_isFull : yT := [(0, .aload_n 0, 1), (1, .getfield 16, 3), (4, .invokevirtual 39, 3), (7, .ireturn, 1)]
theorem wd_1168 : yWd (.methodLink RX3 39 yX5_isFull) := ⟨lw_in5 _ (List.mem_of_getElem? (i := 135) rfl), rfl⟩
theorem cv_X3_39 : yCV RX3 39 9 yX5_isFull cX5_isFull 1 (some .boolean) 0 := ⟨_, _, _, cl_X5, wd_330, wd_1168, wd_328, wd_329, wd_77, ⟨by decide, by decide, by decide +kernel⟩, by decide⟩
def t_X3_forget : yT := [(0, .aload_n 0, 1), (1, .getfield 16, 3), (4, .invokevirtual 43, 3), (7, .aload_n 0, 1), (8, .getfield 20, 3), (11, .invokevirtual 43, 3), (14, .aload_n 0, 1), (15, .getfield 23, 3), (18, .invokevirtual 43, 3), (21, .aload_n 0, 1), (22, .getfield 29, 3), (25, .invokevirtual 43, 3), (28, .aload_n 0, 1), (29, .getfield 32, 3), (32, .invokevirtual 43, 3), (35, .return_, 1)]
theorem wd_916 : yWd (.methodLink RX3 43 yX5_clear) := ⟨lw_in4 _ (List.mem_of_getElem? (i := 123) rfl), rfl⟩
theorem cv_X3_43 : yCV RX3 43 9 yX5_clear cX5_clear 1 none 0 := ⟨_, _, _, cl_X5, wd_311, wd_916, wd_309, wd_310, wd_77, ⟨by decide, by decide, by decide +kernel⟩, by decide⟩
theorem fg_X3_20_X3 : yFL RX3 20 7 1 := ⟨_, _, _, cl_X3, by decide, wd_267⟩
theorem fg_X3_23_X3 : yFL RX3 23 7 2 := ⟨_, _, _, cl_X3, by decide, wd_268⟩
theorem fg_X3_29_X3 : yFL RX3 29 7 4 := ⟨_, _, _, cl_X3, by decide, wd_270⟩
theorem fg_X3_32_X3 : yFL RX3 32 7 5 := ⟨_, _, _, cl_X3, by decide, wd_271⟩
def t_X3_come : yT := [(0, .aload_n 0, 1), (1, .aload_n 1, 1), (2, .iload_n 2, 1), (3, .iload_n 3, 1), (4, .iload 4, 2), (6, .invokevirtual 46, 3), (9, .istore 5, 2), (11, .iload 5, 2), (13, .iconst (-1), 1), (14, .if_icmp .ne 5, 3), (17, .iconst 0, 1), (18, .ireturn, 1), (19, .aload_n 0, 1), (20, .getfield 16, 3), (23, .iload_n 3, 1), (24, .invokevirtual 50, 3), (27, .aload_n 0, 1), (28, .getfield 20, 3), (31, .iload 4, 2), (33, .invokestatic 53, 3), (36, .invokevirtual 50, 3), (39, .aload_n 0, 1), (40, .getfield 23, 3), (43, .iload 5, 2), (45, .invokevirtual 50, 3), (48, .aload_n 0, 1), (49, .getfield 29, 3), (52, .iconst 0, 1), (53, .invokevirtual 50, 3), (56, .aload_n 0, 1), (57, .getfield 32, 3), (60, .iconst (-1), 1), (61, .invokevirtual 50, 3), (64, .iconst 1, 1), (65, .ireturn, 1)]
theorem wd_1176 : yWd (.code yX3_walk cX3_walk 9 (some .int)) := ⟨lw_in5 _ (List.mem_of_getElem? (i := 143) rfl), rfl⟩
theorem wd_1173 : yWd (.methodLink RX3 46 yX3_walk) := ⟨lw_in5 _ (List.mem_of_getElem? (i := 140) rfl), rfl⟩
theorem wd_81 : yWd (.initialized RX3) := ⟨lw_in1 _ (List.mem_of_getElem? (i := 8) rfl), rfl⟩
theorem wd_1175 : yWd (.instanceMethod yX3_walk) := ⟨lw_in5 _ (List.mem_of_getElem? (i := 142) rfl), rfl⟩
theorem wd_29 : yWd (.selects RX3 yX3_walk yX3_walk) := ⟨lw_inp2 _ (List.mem_of_getElem? (i := 13) rfl), rfl⟩
theorem cv_X3_46 : yCV RX3 46 7 yX3_walk cX3_walk 9 (some .int) 4 := ⟨_, _, _, cl_X3, wd_1176, wd_1173, wd_1175, wd_29, wd_81, ⟨by decide, by decide, by decide +kernel⟩, by decide⟩
theorem wd_1186 : yWd (.methodLink RX3 50 yX5_add) := ⟨lw_in5 _ (List.mem_of_getElem? (i := 153) rfl), rfl⟩
theorem cv_X3_50 : yCV RX3 50 9 yX5_add cX5_add 2 none 1 := ⟨_, _, _, cl_X5, wd_326, wd_1186, wd_324, wd_325, wd_77, ⟨by decide, by decide, by decide +kernel⟩, by decide⟩
theorem wd_1189 : yWd (.code yX3_countDigits cX3_countDigits 3 (some .int)) := ⟨lw_in5 _ (List.mem_of_getElem? (i := 156) rfl), rfl⟩
theorem wd_1187 : yWd (.methodLink RX3 53 yX3_countDigits) := ⟨lw_in5 _ (List.mem_of_getElem? (i := 154) rfl), rfl⟩
theorem wd_1188 : yWd (.static yX3_countDigits) := ⟨lw_in5 _ (List.mem_of_getElem? (i := 155) rfl), rfl⟩
theorem cs_X3_53 : yCS RX3 53 yX3_countDigits cX3_countDigits 3 (some .int) 1 := ⟨wd_1189, wd_1187, wd_1188, wd_81, ⟨by decide, by decide, by decide +kernel⟩, by decide⟩
def t_X3_walk : yT := [(0, .aload_n 0, 1), (1, .invokevirtual 57, 3), (4, .bipush 15, 2), (6, .imul, 1), (7, .istore 5, 2), (9, .iload_n 2, 1), (10, .istore 6, 2), (12, .iconst 0, 1), (13, .istore 7, 2), (15, .iload 4, 2), (17, .invokestatic 60, 3), (20, .istore 8, 2), (22, .aload_n 0, 1), (23, .getfield 26, 3), (26, .iload 5, 2), (28, .iload 6, 2), (30, .invokevirtual 63, 3), (33, .iload 8, 2), (35, .ifCond .le 69, 3), (38, .iload_n 3, 1), (39, .iload 7, 2), (41, .iadd, 1), (42, .sipush 239, 3), (45, .if_icmp .ge 59, 3), (48, .iload 6, 2), (50, .iconst (-1), 1), (51, .if_icmp .eq 53, 3), (54, .aload_n 1, 1), (55, .iload 6, 2), (57, .invokevirtual 67, 3), (60, .ifCond .ne 44, 3), (63, .aload_n 1, 1), (64, .iload 6, 2), (66, .iload 4, 2), (68, .iload 8, 2), (70, .idiv, 1), (71, .iconst 5, 1), (72, .irem, 1), (73, .invokevirtual 73, 3), (76, .istore 6, 2), (78, .iinc 7 1, 3), (81, .aload_n 0, 1), (82, .getfield 26, 3), (85, .iload 5, 2), (87, .iload 7, 2), (89, .iadd, 1), (90, .iload 6, 2), (92, .invokevirtual 63, 3), (95, .iload 8, 2), (97, .iconst 5, 1), (98, .idiv, 1), (99, .istore 8, 2), (101, .goto (-68), 3), (104, .iload 6, 2), (106, .iconst (-1), 1), (107, .if_icmp .eq 12, 3), (110, .aload_n 1, 1), (111, .iload 6, 2), (113, .invokevirtual 67, 3), (116, .ifCond .eq 7, 3), (119, .iconst (-1), 1), (120, .goto 5, 3), (123, .iload 7, 2), (125, .ireturn, 1)]
theorem wd_408 : yWd (.code yX3_count cX3_count 1 (some .int)) := ⟨lw_in2 _ (List.mem_of_getElem? (i := 95) rfl), rfl⟩
theorem wd_405 : yWd (.methodLink RX3 57 yX3_count) := ⟨lw_in2 _ (List.mem_of_getElem? (i := 92) rfl), rfl⟩
theorem wd_406 : yWd (.instanceMethod yX3_count) := ⟨lw_in2 _ (List.mem_of_getElem? (i := 93) rfl), rfl⟩
theorem wd_407 : yWd (.selects RX3 yX3_count yX3_count) := ⟨lw_in2 _ (List.mem_of_getElem? (i := 94) rfl), rfl⟩
theorem cv_X3_57 : yCV RX3 57 7 yX3_count cX3_count 1 (some .int) 0 := ⟨_, _, _, cl_X3, wd_408, wd_405, wd_406, wd_407, wd_81, ⟨by decide, by decide, by decide +kernel⟩, by decide⟩
theorem wd_1179 : yWd (.code yX3_powerOfLeadingDigit cX3_powerOfLeadingDigit 3 (some .int)) := ⟨lw_in5 _ (List.mem_of_getElem? (i := 146) rfl), rfl⟩
theorem wd_1177 : yWd (.methodLink RX3 60 yX3_powerOfLeadingDigit) := ⟨lw_in5 _ (List.mem_of_getElem? (i := 144) rfl), rfl⟩
theorem wd_1178 : yWd (.static yX3_powerOfLeadingDigit) := ⟨lw_in5 _ (List.mem_of_getElem? (i := 145) rfl), rfl⟩
theorem cs_X3_60 : yCS RX3 60 yX3_powerOfLeadingDigit cX3_powerOfLeadingDigit 3 (some .int) 1 := ⟨wd_1179, wd_1177, wd_1178, wd_81, ⟨by decide, by decide, by decide +kernel⟩, by decide⟩
theorem fg_X3_26_X3 : yFL RX3 26 7 3 := ⟨_, _, _, cl_X3, by decide, wd_269⟩
theorem wd_1180 : yWd (.methodLink RX3 63 yX5_put) := ⟨lw_in5 _ (List.mem_of_getElem? (i := 147) rfl), rfl⟩
theorem cv_X3_63 : yCV RX3 63 9 yX5_put cX5_put 3 none 2 := ⟨_, _, _, cl_X5, wd_319, wd_1180, wd_317, wd_318, wd_77, ⟨by decide, by decide, by decide +kernel⟩, by decide⟩
theorem wd_982 : yWd (.code yX1_isWall cX1_isWall 2 (some .boolean)) := ⟨lw_in4 _ (List.mem_of_getElem? (i := 189) rfl), rfl⟩
theorem wd_1181 : yWd (.methodLink RX3 67 yX1_isWall) := ⟨lw_in5 _ (List.mem_of_getElem? (i := 148) rfl), rfl⟩
theorem wd_980 : yWd (.instanceMethod yX1_isWall) := ⟨lw_in4 _ (List.mem_of_getElem? (i := 187) rfl), rfl⟩
theorem wd_981 : yWd (.selects RX1 yX1_isWall yX1_isWall) := ⟨lw_in4 _ (List.mem_of_getElem? (i := 188) rfl), rfl⟩
theorem cv_X3_67 : yCV RX3 67 5 yX1_isWall cX1_isWall 2 (some .boolean) 1 := ⟨_, _, _, cl_X1, wd_982, wd_1181, wd_980, wd_981, wd_75, ⟨by decide, by decide, by decide +kernel⟩, by decide⟩
theorem wd_1185 : yWd (.code yX1_cellBehind cX1_cellBehind 5 (some .int)) := ⟨lw_in5 _ (List.mem_of_getElem? (i := 152) rfl), rfl⟩
theorem wd_1182 : yWd (.methodLink RX3 73 yX1_cellBehind) := ⟨lw_in5 _ (List.mem_of_getElem? (i := 149) rfl), rfl⟩
theorem wd_1183 : yWd (.instanceMethod yX1_cellBehind) := ⟨lw_in5 _ (List.mem_of_getElem? (i := 150) rfl), rfl⟩
theorem wd_1184 : yWd (.selects RX1 yX1_cellBehind yX1_cellBehind) := ⟨lw_in5 _ (List.mem_of_getElem? (i := 151) rfl), rfl⟩
theorem cv_X3_73 : yCV RX3 73 5 yX1_cellBehind cX1_cellBehind 5 (some .int) 2 := ⟨_, _, _, cl_X1, wd_1185, wd_1182, wd_1183, wd_1184, wd_75, ⟨by decide, by decide, by decide +kernel⟩, by decide⟩
def t_X3_countDigits : yT := [(0, .iconst 0, 1), (1, .istore_n 1, 1), (2, .iload_n 0, 1), (3, .istore_n 2, 1), (4, .iload_n 2, 1), (5, .ifCond .le 13, 3), (8, .iinc 1 1, 3), (11, .iload_n 2, 1), (12, .iconst 5, 1), (13, .idiv, 1), (14, .istore_n 2, 1), (15, .goto (-11), 3), (18, .iload_n 1, 1), (19, .ireturn, 1)]
def t_X3_powerOfLeadingDigit : yT := [(0, .iload_n 0, 1), (1, .ifCond .le 7, 3), (4, .iconst 1, 1), (5, .goto 4, 3), (8, .iconst 0, 1), (9, .istore_n 1, 1), (10, .iload_n 0, 1), (11, .iconst 5, 1), (12, .idiv, 1), (13, .istore_n 2, 1), (14, .iload_n 2, 1), (15, .ifCond .le 14, 3), (18, .iload_n 1, 1), (19, .iconst 5, 1), (20, .imul, 1), (21, .istore_n 1, 1), (22, .iload_n 2, 1), (23, .iconst 5, 1), (24, .idiv, 1), (25, .istore_n 2, 1), (26, .goto (-12), 3), (29, .iload_n 1, 1), (30, .ireturn, 1)]
def t_X3_firstOf : yT := [(0, .aload_n 0, 1), (1, .getfield 16, 3), (4, .iload_n 1, 1), (5, .invokevirtual 77, 3), (8, .ireturn, 1)]
theorem wd_410 : yWd (.methodLink RX3 77 yX5_at) := ⟨lw_in2 _ (List.mem_of_getElem? (i := 97) rfl), rfl⟩
theorem cv_X3_77 : yCV RX3 77 9 yX5_at cX5_at 2 (some .int) 1 := ⟨_, _, _, cl_X5, wd_382, wd_410, wd_380, wd_381, wd_77, ⟨by decide, by decide, by decide +kernel⟩, by decide⟩
def t_X3_movesOf : yT := [(0, .aload_n 0, 1), (1, .getfield 20, 3), (4, .iload_n 1, 1), (5, .invokevirtual 77, 3), (8, .ireturn, 1)]
def t_X3_cellAt : yT := [(0, .iload_n 2, 1), (1, .aload_n 0, 1), (2, .getfield 16, 3), (5, .iload_n 1, 1), (6, .invokevirtual 77, 3), (9, .isub, 1), (10, .istore_n 3, 1), (11, .aload_n 0, 1), (12, .getfield 23, 3), (15, .iload_n 1, 1), (16, .invokevirtual 77, 3), (19, .istore 4, 2), (21, .iload_n 3, 1), (22, .ifCond .ge 7, 3), (25, .iconst (-1), 1), (26, .goto 27, 3), (29, .aload_n 0, 1), (30, .getfield 26, 3), (33, .iload_n 1, 1), (34, .bipush 15, 2), (36, .imul, 1), (37, .iload_n 3, 1), (38, .iload 4, 2), (40, .if_icmp .ge 7, 3), (43, .iload_n 3, 1), (44, .goto 5, 3), (47, .iload 4, 2), (49, .iadd, 1), (50, .invokevirtual 77, 3), (53, .ireturn, 1)]
def t_X3_countOn : yT := [(0, .iconst 0, 1), (1, .istore_n 3, 1), (2, .iconst 0, 1), (3, .istore 4, 2), (5, .iload 4, 2), (7, .aload_n 0, 1), (8, .invokevirtual 57, 3), (11, .if_icmp .ge 28, 3), (14, .iload_n 3, 1), (15, .aload_n 0, 1), (16, .iload 4, 2), (18, .iload_n 2, 1), (19, .invokevirtual 80, 3), (22, .iload_n 1, 1), (23, .if_icmp .ne 7, 3), (26, .iconst 1, 1), (27, .goto 4, 3), (30, .iconst 0, 1), (31, .iadd, 1), (32, .istore_n 3, 1), (33, .iinc 4 1, 3), (36, .goto (-31), 3), (39, .iload_n 3, 1), (40, .ireturn, 1)]
theorem wd_574 : yWd (.code yX3_cellAt cX3_cellAt 5 (some .int)) := ⟨lw_in3 _ (List.mem_of_getElem? (i := 21) rfl), rfl⟩
theorem wd_813 : yWd (.methodLink RX3 80 yX3_cellAt) := ⟨lw_in4 _ (List.mem_of_getElem? (i := 20) rfl), rfl⟩
theorem wd_572 : yWd (.instanceMethod yX3_cellAt) := ⟨lw_in3 _ (List.mem_of_getElem? (i := 19) rfl), rfl⟩
theorem wd_573 : yWd (.selects RX3 yX3_cellAt yX3_cellAt) := ⟨lw_in3 _ (List.mem_of_getElem? (i := 20) rfl), rfl⟩
theorem cv_X3_80 : yCV RX3 80 7 yX3_cellAt cX3_cellAt 5 (some .int) 2 := ⟨_, _, _, cl_X3, wd_574, wd_813, wd_572, wd_573, wd_81, ⟨by decide, by decide, by decide +kernel⟩, by decide⟩
def t_X3_wayCells : yT := [(0, .lconst 0, 1), (1, .lstore_n 1, 1), (2, .iconst 0, 1), (3, .istore_n 3, 1), (4, .iload_n 3, 1), (5, .aload_n 0, 1), (6, .invokevirtual 57, 3), (9, .if_icmp .ge 51, 3), (12, .iconst 0, 1), (13, .istore 4, 2), (15, .iload 4, 2), (17, .aload_n 0, 1), (18, .getfield 23, 3), (21, .iload_n 3, 1), (22, .invokevirtual 77, 3), (25, .if_icmp .gt 29, 3), (28, .lload_n 1, 1), (29, .aload_n 0, 1), (30, .getfield 26, 3), (33, .iload_n 3, 1), (34, .bipush 15, 2), (36, .imul, 1), (37, .iload 4, 2), (39, .iadd, 1), (40, .invokevirtual 77, 3), (43, .invokestatic 83, 3), (46, .lor, 1), (47, .lstore_n 1, 1), (48, .iinc 4 1, 3), (51, .goto (-36), 3), (54, .iinc 3 1, 3), (57, .goto (-53), 3), (60, .lload_n 1, 1), (61, .lreturn, 1)]
theorem cs_X3_83 : yCSN RX3 83 yX8_setOf "NightwatchWall" cX8_setOf 1 (some .long) 1 := ⟨wd_385, (lw_in2 _ (List.mem_of_getElem? (i := 98) (by decide +kernel))), wd_384, wd_74, ⟨by decide, by decide, by decide +kernel⟩, by decide⟩
def t_X3_stepsOf : yT := [(0, .aload_n 0, 1), (1, .getfield 29, 3), (4, .iload_n 1, 1), (5, .invokevirtual 77, 3), (8, .ireturn, 1)]
def t_X3_stepMinuteOf : yT := [(0, .aload_n 0, 1), (1, .getfield 32, 3), (4, .iload_n 1, 1), (5, .invokevirtual 77, 3), (8, .ireturn, 1)]
def t_X3_isNextStep : yT := [(0, .iload_n 2, 1), (1, .aload_n 0, 1), (2, .getfield 29, 3), (5, .iload_n 1, 1), (6, .invokevirtual 77, 3), (9, .if_icmp .ne 19, 3), (12, .iload_n 3, 1), (13, .aload_n 0, 1), (14, .getfield 32, 3), (17, .iload_n 1, 1), (18, .invokevirtual 77, 3), (21, .if_icmp .lt 7, 3), (24, .iconst 1, 1), (25, .goto 4, 3), (28, .iconst 0, 1), (29, .ireturn, 1)]
def t_X3_addStep : yT := [(0, .aload_n 0, 1), (1, .getfield 29, 3), (4, .iload_n 1, 1), (5, .aload_n 0, 1), (6, .getfield 29, 3), (9, .iload_n 1, 1), (10, .invokevirtual 77, 3), (13, .iconst 1, 1), (14, .iadd, 1), (15, .invokevirtual 63, 3), (18, .aload_n 0, 1), (19, .getfield 32, 3), (22, .iload_n 1, 1), (23, .iload_n 2, 1), (24, .invokevirtual 63, 3), (27, .aload_n 0, 1), (28, .getfield 29, 3), (31, .iload_n 1, 1), (32, .invokevirtual 77, 3), (35, .ireturn, 1)]
def t_X3_areStepsSound : yT := [(0, .iconst 0, 1), (1, .istore_n 1, 1), (2, .iload_n 1, 1), (3, .aload_n 0, 1), (4, .invokevirtual 57, 3), (7, .if_icmp .ge 23, 3), (10, .aload_n 0, 1), (11, .getfield 29, 3), (14, .iload_n 1, 1), (15, .invokevirtual 77, 3), (18, .iconst 4, 1), (19, .if_icmp .le 5, 3), (22, .iconst 0, 1), (23, .ireturn, 1), (24, .iinc 1 1, 3), (27, .goto (-25), 3), (30, .iconst 1, 1), (31, .ireturn, 1)]
def t_X4_init : yT := [(0, .aload_n 0, 1), (1, .invokespecial 1, 3), (4, .aload_n 0, 1), (5, .new 7, 3), (8, .dup, 1), (9, .bipush 6, 2), (11, .invokespecial 11, 3), (14, .putfield 14, 3), (17, .aload_n 0, 1), (18, .new 7, 3), (21, .dup, 1), (22, .bipush 6, 2), (24, .invokespecial 11, 3), (27, .putfield 18, 3), (30, .aload_n 0, 1), (31, .new 7, 3), (34, .dup, 1), (35, .bipush 6, 2), (37, .invokespecial 11, 3), (40, .putfield 21, 3), (43, .return_, 1)]
theorem wd_163 : yWd (.classLink RX4 7 RX5) := ⟨lw_in1 _ (List.mem_of_getElem? (i := 90) rfl), rfl⟩
theorem nw_X4_7 : yNW RX4 7 9 2 [.null, .int 0] := by
  refine ⟨_, _, cl_X5, ?_, wd_163, wd_164, wd_77⟩
  intro ty hty j hj
  match j, hj with
  | 0, h => have e := Option.some.inj ((hty 0 h).symm.trans (tyX5_ok 0 h)); rw [e]; rfl
  | 1, h => have e := Option.some.inj ((hty 1 h).symm.trans (tyX5_ok 1 h)); rw [e]; rfl
  | j + 2, h => exact absurd h (by omega)
theorem wd_165 : yWd (.methodLink RX4 11 yX5_init) := ⟨lw_in1 _ (List.mem_of_getElem? (i := 92) rfl), rfl⟩
theorem ci_X4_11 : yCI RX4 11 yX5_init cX5_init 2 1 := ⟨wd_167, wd_165, wd_166, wd_77, ⟨by decide, by decide, by decide +kernel⟩, rfl, by decide⟩
theorem wd_177 : yWd (.fieldLink RX4 14 "NightwatchWall$Lamps" "cells" "LNightwatchWall$Numbers;") := ⟨lw_in1 _ (List.mem_of_getElem? (i := 104) rfl), rfl⟩
theorem fp_X4_14_X4 : yFF RX4 14 8 0 (.object "NightwatchWall$Numbers") := ⟨_, _, _, cl_X4, by decide, rfl, rfl, by decide +kernel, wd_177⟩
theorem wd_178 : yWd (.fieldLink RX4 18 "NightwatchWall$Lamps" "reaches" "LNightwatchWall$Numbers;") := ⟨lw_in1 _ (List.mem_of_getElem? (i := 105) rfl), rfl⟩
theorem fp_X4_18_X4 : yFF RX4 18 8 1 (.object "NightwatchWall$Numbers") := ⟨_, _, _, cl_X4, by decide, rfl, rfl, by decide +kernel, wd_178⟩
theorem wd_179 : yWd (.fieldLink RX4 21 "NightwatchWall$Lamps" "lit" "LNightwatchWall$Numbers;") := ⟨lw_in1 _ (List.mem_of_getElem? (i := 106) rfl), rfl⟩
theorem fp_X4_21_X4 : yFF RX4 21 8 2 (.object "NightwatchWall$Numbers") := ⟨_, _, _, cl_X4, by decide, rfl, rfl, by decide +kernel, wd_179⟩
def t_X4_count : yT := [(0, .aload_n 0, 1), (1, .getfield 14, 3), (4, .invokevirtual 24, 3), (7, .ireturn, 1)]
theorem fg_X4_14_X4 : yFL RX4 14 8 0 := ⟨_, _, _, cl_X4, by decide, wd_177⟩
theorem wd_529 : yWd (.methodLink RX4 24 yX5_size) := ⟨lw_in2 _ (List.mem_of_getElem? (i := 216) rfl), rfl⟩
theorem cv_X4_24 : yCV RX4 24 9 yX5_size cX5_size 1 (some .int) 0 := ⟨_, _, _, cl_X5, wd_398, wd_529, wd_396, wd_397, wd_77, ⟨by decide, by decide, by decide +kernel⟩, by decide⟩
def t_X4_isFull : yT := [(0, .aload_n 0, 1), (1, .getfield 14, 3), (4, .invokevirtual 28, 3), (7, .ireturn, 1)]
theorem wd_978 : yWd (.methodLink RX4 28 yX5_isFull) := ⟨lw_in4 _ (List.mem_of_getElem? (i := 185) rfl), rfl⟩
theorem cv_X4_28 : yCV RX4 28 9 yX5_isFull cX5_isFull 1 (some .boolean) 0 := ⟨_, _, _, cl_X5, wd_330, wd_978, wd_328, wd_329, wd_77, ⟨by decide, by decide, by decide +kernel⟩, by decide⟩
def t_X4_forget : yT := [(0, .aload_n 0, 1), (1, .getfield 14, 3), (4, .invokevirtual 32, 3), (7, .aload_n 0, 1), (8, .getfield 18, 3), (11, .invokevirtual 32, 3), (14, .aload_n 0, 1), (15, .getfield 21, 3), (18, .invokevirtual 32, 3), (21, .return_, 1)]
theorem wd_899 : yWd (.methodLink RX4 32 yX5_clear) := ⟨lw_in4 _ (List.mem_of_getElem? (i := 106) rfl), rfl⟩
theorem cv_X4_32 : yCV RX4 32 9 yX5_clear cX5_clear 1 none 0 := ⟨_, _, _, cl_X5, wd_311, wd_899, wd_309, wd_310, wd_77, ⟨by decide, by decide, by decide +kernel⟩, by decide⟩
theorem fg_X4_18_X4 : yFL RX4 18 8 1 := ⟨_, _, _, cl_X4, by decide, wd_178⟩
theorem fg_X4_21_X4 : yFL RX4 21 8 2 := ⟨_, _, _, cl_X4, by decide, wd_179⟩
def t_X4_putUp : yT := [(0, .aload_n 0, 1), (1, .getfield 14, 3), (4, .iload_n 1, 1), (5, .invokevirtual 35, 3), (8, .aload_n 0, 1), (9, .getfield 18, 3), (12, .iload_n 2, 1), (13, .invokevirtual 35, 3), (16, .aload_n 0, 1), (17, .getfield 21, 3), (20, .iconst 1, 1), (21, .invokevirtual 35, 3), (24, .aload_n 0, 1), (25, .invokevirtual 38, 3), (28, .iconst 1, 1), (29, .isub, 1), (30, .ireturn, 1)]
theorem wd_987 : yWd (.methodLink RX4 35 yX5_add) := ⟨lw_in4 _ (List.mem_of_getElem? (i := 194) rfl), rfl⟩
theorem cv_X4_35 : yCV RX4 35 9 yX5_add cX5_add 2 none 1 := ⟨_, _, _, cl_X5, wd_326, wd_987, wd_324, wd_325, wd_77, ⟨by decide, by decide, by decide +kernel⟩, by decide⟩
theorem wd_528 : yWd (.code yX4_count cX4_count 1 (some .int)) := ⟨lw_in2 _ (List.mem_of_getElem? (i := 215) rfl), rfl⟩
theorem wd_988 : yWd (.methodLink RX4 38 yX4_count) := ⟨lw_in4 _ (List.mem_of_getElem? (i := 195) rfl), rfl⟩
theorem wd_76 : yWd (.initialized RX4) := ⟨lw_in1 _ (List.mem_of_getElem? (i := 3) rfl), rfl⟩
theorem wd_526 : yWd (.instanceMethod yX4_count) := ⟨lw_in2 _ (List.mem_of_getElem? (i := 213) rfl), rfl⟩
theorem wd_527 : yWd (.selects RX4 yX4_count yX4_count) := ⟨lw_in2 _ (List.mem_of_getElem? (i := 214) rfl), rfl⟩
theorem cv_X4_38 : yCV RX4 38 8 yX4_count cX4_count 1 (some .int) 0 := ⟨_, _, _, cl_X4, wd_528, wd_988, wd_526, wd_527, wd_76, ⟨by decide, by decide, by decide +kernel⟩, by decide⟩
def t_X4_turn : yT := [(0, .aload_n 0, 1), (1, .getfield 21, 3), (4, .iload_n 1, 1), (5, .iload_n 2, 1), (6, .ifCond .eq 7, 3), (9, .iconst 1, 1), (10, .goto 4, 3), (13, .iconst 0, 1), (14, .invokevirtual 41, 3), (17, .return_, 1)]
theorem wd_1000 : yWd (.methodLink RX4 41 yX5_put) := ⟨lw_in4 _ (List.mem_of_getElem? (i := 207) rfl), rfl⟩
theorem cv_X4_41 : yCV RX4 41 9 yX5_put cX5_put 3 none 2 := ⟨_, _, _, cl_X5, wd_319, wd_1000, wd_317, wd_318, wd_77, ⟨by decide, by decide, by decide +kernel⟩, by decide⟩
def t_X4_countLit : yT := [(0, .aload_n 0, 1), (1, .getfield 21, 3), (4, .iconst 1, 1), (5, .invokevirtual 45, 3), (8, .ireturn, 1)]
theorem wd_537 : yWd (.code yX5_countOf cX5_countOf 2 (some .int)) := ⟨lw_in2 _ (List.mem_of_getElem? (i := 224) rfl), rfl⟩
theorem wd_534 : yWd (.methodLink RX4 45 yX5_countOf) := ⟨lw_in2 _ (List.mem_of_getElem? (i := 221) rfl), rfl⟩
theorem wd_535 : yWd (.instanceMethod yX5_countOf) := ⟨lw_in2 _ (List.mem_of_getElem? (i := 222) rfl), rfl⟩
theorem wd_536 : yWd (.selects RX5 yX5_countOf yX5_countOf) := ⟨lw_in2 _ (List.mem_of_getElem? (i := 223) rfl), rfl⟩
theorem cv_X4_45 : yCV RX4 45 9 yX5_countOf cX5_countOf 2 (some .int) 1 := ⟨_, _, _, cl_X5, wd_537, wd_534, wd_535, wd_536, wd_77, ⟨by decide, by decide, by decide +kernel⟩, by decide⟩
def t_X4_cells : yT := [(0, .aload_n 0, 1), (1, .getfield 14, 3), (4, .invokevirtual 49, 3), (7, .lreturn, 1)]
theorem wd_378 : yWd (.code yX5_asCells cX5_asCells 4 (some .long)) := ⟨lw_in2 _ (List.mem_of_getElem? (i := 65) rfl), rfl⟩
theorem wd_375 : yWd (.methodLink RX4 49 yX5_asCells) := ⟨lw_in2 _ (List.mem_of_getElem? (i := 62) rfl), rfl⟩
theorem wd_376 : yWd (.instanceMethod yX5_asCells) := ⟨lw_in2 _ (List.mem_of_getElem? (i := 63) rfl), rfl⟩
theorem wd_377 : yWd (.selects RX5 yX5_asCells yX5_asCells) := ⟨lw_in2 _ (List.mem_of_getElem? (i := 64) rfl), rfl⟩
theorem cv_X4_49 : yCV RX4 49 9 yX5_asCells cX5_asCells 4 (some .long) 0 := ⟨_, _, _, cl_X5, wd_378, wd_375, wd_376, wd_377, wd_77, ⟨by decide, by decide, by decide +kernel⟩, by decide⟩
def t_X4_brightCells : yT := [(0, .lconst 0, 1), (1, .lstore_n 2, 1), (2, .iconst 0, 1), (3, .istore 4, 2), (5, .iload 4, 2), (7, .aload_n 0, 1), (8, .getfield 14, 3), (11, .invokevirtual 24, 3), (14, .if_icmp .ge 47, 3), (17, .aload_n 0, 1), (18, .getfield 21, 3), (21, .iload 4, 2), (23, .invokevirtual 53, 3), (26, .iconst 1, 1), (27, .if_icmp .ne 28, 3), (30, .lload_n 2, 1), (31, .aload_n 1, 1), (32, .aload_n 0, 1), (33, .getfield 14, 3), (36, .iload 4, 2), (38, .invokevirtual 53, 3), (41, .aload_n 0, 1), (42, .getfield 18, 3), (45, .iload 4, 2), (47, .invokevirtual 53, 3), (50, .invokevirtual 56, 3), (53, .lor, 1), (54, .lstore_n 2, 1), (55, .iinc 4 1, 3), (58, .goto (-53), 3), (61, .lload_n 2, 1), (62, .lreturn, 1)]
theorem wd_566 : yWd (.methodLink RX4 53 yX5_at) := ⟨lw_in3 _ (List.mem_of_getElem? (i := 13) rfl), rfl⟩
theorem cv_X4_53 : yCV RX4 53 9 yX5_at cX5_at 2 (some .int) 1 := ⟨_, _, _, cl_X5, wd_382, wd_566, wd_380, wd_381, wd_77, ⟨by decide, by decide, by decide +kernel⟩, by decide⟩
theorem wd_570 : yWd (.code yX1_viewOf cX1_viewOf 5 (some .long)) := ⟨lw_in3 _ (List.mem_of_getElem? (i := 17) rfl), rfl⟩
theorem wd_567 : yWd (.methodLink RX4 56 yX1_viewOf) := ⟨lw_in3 _ (List.mem_of_getElem? (i := 14) rfl), rfl⟩
theorem wd_568 : yWd (.instanceMethod yX1_viewOf) := ⟨lw_in3 _ (List.mem_of_getElem? (i := 15) rfl), rfl⟩
theorem wd_569 : yWd (.selects RX1 yX1_viewOf yX1_viewOf) := ⟨lw_in3 _ (List.mem_of_getElem? (i := 16) rfl), rfl⟩
theorem cv_X4_56 : yCV RX4 56 5 yX1_viewOf cX1_viewOf 5 (some .long) 2 := ⟨_, _, _, cl_X1, wd_570, wd_567, wd_568, wd_569, wd_75, ⟨by decide, by decide, by decide +kernel⟩, by decide⟩
def t_X5_init : yT := [(0, .aload_n 0, 1), (1, .invokespecial 3, 3), (4, .aload_n 0, 1), (5, .iload_n 1, 1), (6, .ifCond .ge 7, 3), (9, .iconst 0, 1), (10, .goto 4, 3), (13, .iload_n 1, 1), (14, .newarray .int, 2), (16, .putfield 9, 3), (19, .return_, 1)]
theorem wd_176 : yWd (.arrayClass .int) := ⟨lw_in1 _ (List.mem_of_getElem? (i := 103) rfl), rfl⟩
theorem wd_169 : yWd (.fieldLink RX5 9 "NightwatchWall$Numbers" "held" "[I") := ⟨lw_in1 _ (List.mem_of_getElem? (i := 96) rfl), rfl⟩
theorem fp_X5_9_X5 : yFF RX5 9 9 0 (.array (.int)) := ⟨_, _, _, cl_X5, by decide, rfl, rfl, by decide +kernel, wd_169⟩
def t_X5_size : yT := [(0, .aload_n 0, 1), (1, .getfield 15, 3), (4, .ireturn, 1)]
theorem wd_170 : yWd (.fieldLink RX5 15 "NightwatchWall$Numbers" "size" "I") := ⟨lw_in1 _ (List.mem_of_getElem? (i := 97) rfl), rfl⟩
theorem fg_X5_15_X5 : yFL RX5 15 9 1 := ⟨_, _, _, cl_X5, by decide, wd_170⟩
def t_X5_isFull : yT := [(0, .aload_n 0, 1), (1, .getfield 15, 3), (4, .aload_n 0, 1), (5, .getfield 9, 3), (8, .arraylength, 1), (9, .if_icmp .lt 7, 3), (12, .iconst 1, 1), (13, .goto 4, 3), (16, .iconst 0, 1), (17, .ireturn, 1)]
theorem fg_X5_9_X5 : yFL RX5 9 9 0 := ⟨_, _, _, cl_X5, by decide, wd_169⟩
def t_X5_at : yT := [(0, .iload_n 1, 1), (1, .ifCond .lt 21, 3), (4, .iload_n 1, 1), (5, .aload_n 0, 1), (6, .getfield 9, 3), (9, .arraylength, 1), (10, .if_icmp .ge 12, 3), (13, .aload_n 0, 1), (14, .getfield 9, 3), (17, .iload_n 1, 1), (18, .iaload, 1), (19, .goto 4, 3), (22, .iconst (-1), 1), (23, .ireturn, 1)]
def t_X5_put : yT := [(0, .iload_n 1, 1), (1, .ifCond .lt 19, 3), (4, .iload_n 1, 1), (5, .aload_n 0, 1), (6, .getfield 9, 3), (9, .arraylength, 1), (10, .if_icmp .ge 10, 3), (13, .aload_n 0, 1), (14, .getfield 9, 3), (17, .iload_n 1, 1), (18, .iload_n 2, 1), (19, .iastore, 1), (20, .return_, 1)]
def t_X5_add : yT := [(0, .aload_n 0, 1), (1, .invokevirtual 19, 3), (4, .ifCond .ne 24, 3), (7, .aload_n 0, 1), (8, .dup, 1), (9, .getfield 15, 3), (12, .iconst 1, 1), (13, .iadd, 1), (14, .putfield 15, 3), (17, .aload_n 0, 1), (18, .aload_n 0, 1), (19, .getfield 15, 3), (22, .iconst 1, 1), (23, .isub, 1), (24, .iload_n 1, 1), (25, .invokevirtual 23, 3), (28, .return_, 1)]
theorem wd_327 : yWd (.methodLink RX5 19 yX5_isFull) := ⟨lw_in2 _ (List.mem_of_getElem? (i := 14) rfl), rfl⟩
theorem cv_X5_19 : yCV RX5 19 9 yX5_isFull cX5_isFull 1 (some .boolean) 0 := ⟨_, _, _, cl_X5, wd_330, wd_327, wd_328, wd_329, wd_77, ⟨by decide, by decide, by decide +kernel⟩, by decide⟩
theorem fp_X5_15_X5 : yFP RX5 15 9 1 (.int) := ⟨_, _, _, cl_X5, by decide, rfl, by decide +kernel, wd_170⟩
theorem wd_316 : yWd (.methodLink RX5 23 yX5_put) := ⟨lw_in2 _ (List.mem_of_getElem? (i := 3) rfl), rfl⟩
theorem cv_X5_23 : yCV RX5 23 9 yX5_put cX5_put 3 none 2 := ⟨_, _, _, cl_X5, wd_319, wd_316, wd_317, wd_318, wd_77, ⟨by decide, by decide, by decide +kernel⟩, by decide⟩
def t_X5_clear : yT := [(0, .aload_n 0, 1), (1, .iconst 0, 1), (2, .putfield 15, 3), (5, .return_, 1)]
def t_X5_fill : yT := [(0, .aload_n 0, 1), (1, .aload_n 0, 1), (2, .getfield 9, 3), (5, .arraylength, 1), (6, .putfield 15, 3), (9, .iconst 0, 1), (10, .istore_n 2, 1), (11, .iload_n 2, 1), (12, .aload_n 0, 1), (13, .getfield 15, 3), (16, .if_icmp .ge 15, 3), (19, .aload_n 0, 1), (20, .iload_n 2, 1), (21, .iload_n 1, 1), (22, .invokevirtual 23, 3), (25, .iinc 2 1, 3), (28, .goto (-17), 3), (31, .return_, 1)]
def t_X5_placesOf : yT := [(0, .iconst 0, 1), (1, .istore_n 2, 1), (2, .iconst 0, 1), (3, .istore_n 3, 1), (4, .iload_n 3, 1), (5, .aload_n 0, 1), (6, .getfield 15, 3), (9, .if_icmp .ge 24, 3), (12, .aload_n 0, 1), (13, .iload_n 3, 1), (14, .invokevirtual 27, 3), (17, .iload_n 1, 1), (18, .if_icmp .ne 9, 3), (21, .iload_n 2, 1), (22, .iconst 1, 1), (23, .iload_n 3, 1), (24, .ishl, 1), (25, .ior, 1), (26, .istore_n 2, 1), (27, .iinc 3 1, 3), (30, .goto (-26), 3), (33, .iload_n 2, 1), (34, .ireturn, 1)]
theorem wd_379 : yWd (.methodLink RX5 27 yX5_at) := ⟨lw_in2 _ (List.mem_of_getElem? (i := 66) rfl), rfl⟩
theorem cv_X5_27 : yCV RX5 27 9 yX5_at cX5_at 2 (some .int) 1 := ⟨_, _, _, cl_X5, wd_382, wd_379, wd_380, wd_381, wd_77, ⟨by decide, by decide, by decide +kernel⟩, by decide⟩
def t_X5_countOf : yT := [(0, .aload_n 0, 1), (1, .iload_n 1, 1), (2, .invokevirtual 31, 3), (5, .invokestatic 34, 3), (8, .ireturn, 1)]
theorem wd_541 : yWd (.code yX5_placesOf cX5_placesOf 4 (some .int)) := ⟨lw_in2 _ (List.mem_of_getElem? (i := 228) rfl), rfl⟩
theorem wd_538 : yWd (.methodLink RX5 31 yX5_placesOf) := ⟨lw_in2 _ (List.mem_of_getElem? (i := 225) rfl), rfl⟩
theorem wd_539 : yWd (.instanceMethod yX5_placesOf) := ⟨lw_in2 _ (List.mem_of_getElem? (i := 226) rfl), rfl⟩
theorem wd_540 : yWd (.selects RX5 yX5_placesOf yX5_placesOf) := ⟨lw_in2 _ (List.mem_of_getElem? (i := 227) rfl), rfl⟩
theorem cv_X5_31 : yCV RX5 31 9 yX5_placesOf cX5_placesOf 4 (some .int) 1 := ⟨_, _, _, cl_X5, wd_541, wd_538, wd_539, wd_540, wd_77, ⟨by decide, by decide, by decide +kernel⟩, by decide⟩
theorem wd_544 : yWd (.code yJ6_bitCount_0f7a4 cJ6_bitCount_0f7a4 1 (some .int)) := ⟨lw_in2 _ (List.mem_of_getElem? (i := 231) rfl), rfl⟩
theorem wd_542 : yWd (.methodLink RX5 34 yJ6_bitCount_0f7a4) := ⟨lw_in2 _ (List.mem_of_getElem? (i := 229) rfl), rfl⟩
theorem wd_102 : yWd (.initialized RJ6) := ⟨lw_in1 _ (List.mem_of_getElem? (i := 29) rfl), rfl⟩
theorem wd_543 : yWd (.static yJ6_bitCount_0f7a4) := ⟨lw_in2 _ (List.mem_of_getElem? (i := 230) rfl), rfl⟩
theorem cs_X5_34 : yCS RX5 34 yJ6_bitCount_0f7a4 cJ6_bitCount_0f7a4 1 (some .int) 1 := ⟨wd_544, wd_542, wd_543, wd_102, ⟨by decide, by decide, by decide +kernel⟩, by decide⟩
def t_X5_has : yT := [(0, .aload_n 0, 1), (1, .iload_n 1, 1), (2, .invokevirtual 31, 3), (5, .ifCond .eq 7, 3), (8, .iconst 1, 1), (9, .goto 4, 3), (12, .iconst 0, 1), (13, .ireturn, 1)]
def t_X5_asCells : yT := [(0, .lconst 0, 1), (1, .lstore_n 1, 1), (2, .iconst 0, 1), (3, .istore_n 3, 1), (4, .iload_n 3, 1), (5, .aload_n 0, 1), (6, .getfield 15, 3), (9, .if_icmp .ge 20, 3), (12, .lload_n 1, 1), (13, .aload_n 0, 1), (14, .iload_n 3, 1), (15, .invokevirtual 27, 3), (18, .invokestatic 39, 3), (21, .lor, 1), (22, .lstore_n 1, 1), (23, .iinc 3 1, 3), (26, .goto (-22), 3), (29, .lload_n 1, 1), (30, .lreturn, 1)]
theorem cs_X5_39 : yCSN RX5 39 yX8_setOf "NightwatchWall" cX8_setOf 1 (some .long) 1 := ⟨wd_385, (lw_in2 _ (List.mem_of_getElem? (i := 70) (by decide +kernel))), wd_384, wd_74, ⟨by decide, by decide, by decide +kernel⟩, by decide⟩
def t_X6_init : yT := [(0, .aload_n 0, 1), (1, .invokespecial 1, 3), (4, .aload_n 0, 1), (5, .new 7, 3), (8, .dup, 1), (9, .iconst 5, 1), (10, .invokespecial 11, 3), (13, .putfield 14, 3), (16, .aload_n 0, 1), (17, .new 7, 3), (20, .dup, 1), (21, .iconst 5, 1), (22, .invokespecial 11, 3), (25, .putfield 18, 3), (28, .return_, 1)]
theorem wd_291 : yWd (.classLink RX6 7 RX5) := ⟨lw_in1 _ (List.mem_of_getElem? (i := 218) rfl), rfl⟩
theorem nw_X6_7 : yNW RX6 7 9 2 [.null, .int 0] := by
  refine ⟨_, _, cl_X5, ?_, wd_291, wd_164, wd_77⟩
  intro ty hty j hj
  match j, hj with
  | 0, h => have e := Option.some.inj ((hty 0 h).symm.trans (tyX5_ok 0 h)); rw [e]; rfl
  | 1, h => have e := Option.some.inj ((hty 1 h).symm.trans (tyX5_ok 1 h)); rw [e]; rfl
  | j + 2, h => exact absurd h (by omega)
theorem wd_292 : yWd (.methodLink RX6 11 yX5_init) := ⟨lw_in1 _ (List.mem_of_getElem? (i := 219) rfl), rfl⟩
theorem ci_X6_11 : yCI RX6 11 yX5_init cX5_init 2 1 := ⟨wd_167, wd_292, wd_166, wd_77, ⟨by decide, by decide, by decide +kernel⟩, rfl, by decide⟩
theorem wd_293 : yWd (.fieldLink RX6 14 "NightwatchWall$Wires" "cells" "LNightwatchWall$Numbers;") := ⟨lw_in1 _ (List.mem_of_getElem? (i := 220) rfl), rfl⟩
theorem fp_X6_14_X6 : yFF RX6 14 10 0 (.object "NightwatchWall$Numbers") := ⟨_, _, _, cl_X6, by decide, rfl, rfl, by decide +kernel, wd_293⟩
theorem wd_294 : yWd (.fieldLink RX6 18 "NightwatchWall$Wires" "bars" "LNightwatchWall$Numbers;") := ⟨lw_in1 _ (List.mem_of_getElem? (i := 221) rfl), rfl⟩
theorem fp_X6_18_X6 : yFF RX6 18 10 1 (.object "NightwatchWall$Numbers") := ⟨_, _, _, cl_X6, by decide, rfl, rfl, by decide +kernel, wd_294⟩
def t_X6_count : yT := [(0, .aload_n 0, 1), (1, .getfield 14, 3), (4, .invokevirtual 21, 3), (7, .ireturn, 1)]
theorem fg_X6_14_X6 : yFL RX6 14 10 0 := ⟨_, _, _, cl_X6, by decide, wd_293⟩
theorem wd_602 : yWd (.methodLink RX6 21 yX5_size) := ⟨lw_in3 _ (List.mem_of_getElem? (i := 49) rfl), rfl⟩
theorem cv_X6_21 : yCV RX6 21 9 yX5_size cX5_size 1 (some .int) 0 := ⟨_, _, _, cl_X5, wd_398, wd_602, wd_396, wd_397, wd_77, ⟨by decide, by decide, by decide +kernel⟩, by decide⟩
def t_X6_isFull : yT := [(0, .aload_n 0, 1), (1, .getfield 14, 3), (4, .invokevirtual 25, 3), (7, .ireturn, 1)]
theorem wd_1201 : yWd (.methodLink RX6 25 yX5_isFull) := ⟨lw_in5 _ (List.mem_of_getElem? (i := 168) rfl), rfl⟩
theorem cv_X6_25 : yCV RX6 25 9 yX5_isFull cX5_isFull 1 (some .boolean) 0 := ⟨_, _, _, cl_X5, wd_330, wd_1201, wd_328, wd_329, wd_77, ⟨by decide, by decide, by decide +kernel⟩, by decide⟩
def t_X6_forget : yT := [(0, .aload_n 0, 1), (1, .getfield 14, 3), (4, .invokevirtual 29, 3), (7, .aload_n 0, 1), (8, .getfield 18, 3), (11, .invokevirtual 29, 3), (14, .return_, 1)]
theorem wd_921 : yWd (.methodLink RX6 29 yX5_clear) := ⟨lw_in4 _ (List.mem_of_getElem? (i := 128) rfl), rfl⟩
theorem cv_X6_29 : yCV RX6 29 9 yX5_clear cX5_clear 1 none 0 := ⟨_, _, _, cl_X5, wd_311, wd_921, wd_309, wd_310, wd_77, ⟨by decide, by decide, by decide +kernel⟩, by decide⟩
theorem fg_X6_18_X6 : yFL RX6 18 10 1 := ⟨_, _, _, cl_X6, by decide, wd_294⟩
def t_X6_stretch : yT := [(0, .aload_n 0, 1), (1, .getfield 14, 3), (4, .iload_n 1, 1), (5, .invokevirtual 32, 3), (8, .aload_n 0, 1), (9, .getfield 18, 3), (12, .iload_n 2, 1), (13, .invokevirtual 32, 3), (16, .aload_n 0, 1), (17, .invokevirtual 35, 3), (20, .iconst 1, 1), (21, .isub, 1), (22, .ireturn, 1)]
theorem wd_1206 : yWd (.methodLink RX6 32 yX5_add) := ⟨lw_in5 _ (List.mem_of_getElem? (i := 173) rfl), rfl⟩
theorem cv_X6_32 : yCV RX6 32 9 yX5_add cX5_add 2 none 1 := ⟨_, _, _, cl_X5, wd_326, wd_1206, wd_324, wd_325, wd_77, ⟨by decide, by decide, by decide +kernel⟩, by decide⟩
theorem wd_601 : yWd (.code yX6_count cX6_count 1 (some .int)) := ⟨lw_in3 _ (List.mem_of_getElem? (i := 48) rfl), rfl⟩
theorem wd_1207 : yWd (.methodLink RX6 35 yX6_count) := ⟨lw_in5 _ (List.mem_of_getElem? (i := 174) rfl), rfl⟩
theorem wd_82 : yWd (.initialized RX6) := ⟨lw_in1 _ (List.mem_of_getElem? (i := 9) rfl), rfl⟩
theorem wd_599 : yWd (.instanceMethod yX6_count) := ⟨lw_in3 _ (List.mem_of_getElem? (i := 46) rfl), rfl⟩
theorem wd_600 : yWd (.selects RX6 yX6_count yX6_count) := ⟨lw_in3 _ (List.mem_of_getElem? (i := 47) rfl), rfl⟩
theorem cv_X6_35 : yCV RX6 35 10 yX6_count cX6_count 1 (some .int) 0 := ⟨_, _, _, cl_X6, wd_601, wd_1207, wd_599, wd_600, wd_82, ⟨by decide, by decide, by decide +kernel⟩, by decide⟩
def t_X6_cellOf : yT := [(0, .aload_n 0, 1), (1, .getfield 14, 3), (4, .iload_n 1, 1), (5, .invokevirtual 38, 3), (8, .ireturn, 1)]
theorem wd_796 : yWd (.methodLink RX6 38 yX5_at) := ⟨lw_in4 _ (List.mem_of_getElem? (i := 3) rfl), rfl⟩
theorem cv_X6_38 : yCV RX6 38 9 yX5_at cX5_at 2 (some .int) 1 := ⟨_, _, _, cl_X5, wd_382, wd_796, wd_380, wd_381, wd_77, ⟨by decide, by decide, by decide +kernel⟩, by decide⟩
def t_X6_barOf : yT := [(0, .aload_n 0, 1), (1, .getfield 18, 3), (4, .iload_n 1, 1), (5, .invokevirtual 38, 3), (8, .ireturn, 1)]
def t_X6_ownNoise : yT := [(0, .bipush 29, 2), (2, .iload_n 2, 1), (3, .imul, 1), (4, .bipush 7, 2), (6, .aload_n 0, 1), (7, .getfield 14, 3), (10, .iload_n 1, 1), (11, .invokevirtual 38, 3), (14, .imul, 1), (15, .iadd, 1), (16, .bipush 11, 2), (18, .irem, 1), (19, .ireturn, 1)]
def t_X7_init : yT := [(0, .aload_n 0, 1), (1, .invokespecial 3, 3), (4, .aload_n 0, 1), (5, .new 9, 3), (8, .dup, 1), (9, .iconst 4, 1), (10, .invokespecial 11, 3), (13, .putfield 14, 3), (16, .aload_n 0, 1), (17, .new 9, 3), (20, .dup, 1), (21, .bipush 8, 2), (23, .invokespecial 11, 3), (26, .putfield 20, 3), (29, .aload_n 0, 1), (30, .new 9, 3), (33, .dup, 1), (34, .bipush 6, 2), (36, .invokespecial 11, 3), (39, .putfield 23, 3), (42, .aload_n 0, 1), (43, .new 9, 3), (46, .dup, 1), (47, .bipush 6, 2), (49, .invokespecial 11, 3), (52, .putfield 26, 3), (55, .return_, 1)]
theorem wd_234 : yWd (.classLink RX7 9 RX5) := ⟨lw_in1 _ (List.mem_of_getElem? (i := 161) rfl), rfl⟩
theorem nw_X7_9 : yNW RX7 9 9 2 [.null, .int 0] := by
  refine ⟨_, _, cl_X5, ?_, wd_234, wd_164, wd_77⟩
  intro ty hty j hj
  match j, hj with
  | 0, h => have e := Option.some.inj ((hty 0 h).symm.trans (tyX5_ok 0 h)); rw [e]; rfl
  | 1, h => have e := Option.some.inj ((hty 1 h).symm.trans (tyX5_ok 1 h)); rw [e]; rfl
  | j + 2, h => exact absurd h (by omega)
theorem wd_235 : yWd (.methodLink RX7 11 yX5_init) := ⟨lw_in1 _ (List.mem_of_getElem? (i := 162) rfl), rfl⟩
theorem ci_X7_11 : yCI RX7 11 yX5_init cX5_init 2 1 := ⟨wd_167, wd_235, wd_166, wd_77, ⟨by decide, by decide, by decide +kernel⟩, rfl, by decide⟩
theorem wd_236 : yWd (.fieldLink RX7 14 "NightwatchWall$Words" "words" "LNightwatchWall$Numbers;") := ⟨lw_in1 _ (List.mem_of_getElem? (i := 163) rfl), rfl⟩
theorem fp_X7_14_X7 : yFF RX7 14 11 0 (.object "NightwatchWall$Numbers") := ⟨_, _, _, cl_X7, by decide, rfl, rfl, by decide +kernel, wd_236⟩
theorem wd_237 : yWd (.fieldLink RX7 20 "NightwatchWall$Words" "oldOnes" "LNightwatchWall$Numbers;") := ⟨lw_in1 _ (List.mem_of_getElem? (i := 164) rfl), rfl⟩
theorem fp_X7_20_X7 : yFF RX7 20 11 1 (.object "NightwatchWall$Numbers") := ⟨_, _, _, cl_X7, by decide, rfl, rfl, by decide +kernel, wd_237⟩
theorem wd_238 : yWd (.fieldLink RX7 23 "NightwatchWall$Words" "strikes" "LNightwatchWall$Numbers;") := ⟨lw_in1 _ (List.mem_of_getElem? (i := 165) rfl), rfl⟩
theorem fp_X7_23_X7 : yFF RX7 23 11 2 (.object "NightwatchWall$Numbers") := ⟨_, _, _, cl_X7, by decide, rfl, rfl, by decide +kernel, wd_238⟩
theorem wd_239 : yWd (.fieldLink RX7 26 "NightwatchWall$Words" "rightHours" "LNightwatchWall$Numbers;") := ⟨lw_in1 _ (List.mem_of_getElem? (i := 166) rfl), rfl⟩
theorem fp_X7_26_X7 : yFF RX7 26 11 3 (.object "NightwatchWall$Numbers") := ⟨_, _, _, cl_X7, by decide, rfl, rfl, by decide +kernel, wd_239⟩
def t_X7_tell : yT := [(0, .aload_n 0, 1), (1, .iload_n 1, 1), (2, .putfield 29, 3), (5, .aload_n 0, 1), (6, .invokevirtual 33, 3), (9, .return_, 1)]
theorem wd_240 : yWd (.fieldLink RX7 29 "NightwatchWall$Words" "seed" "I") := ⟨lw_in1 _ (List.mem_of_getElem? (i := 167) rfl), rfl⟩
theorem fp_X7_29_X7 : yFP RX7 29 11 4 (.int) := ⟨_, _, _, cl_X7, by decide, rfl, by decide +kernel, wd_240⟩
theorem wd_307 : yWd (.code yX7_startAnew cX7_startAnew 2 none) := ⟨lw_in1 _ (List.mem_of_getElem? (i := 234) rfl), rfl⟩
theorem wd_304 : yWd (.methodLink RX7 33 yX7_startAnew) := ⟨lw_in1 _ (List.mem_of_getElem? (i := 231) rfl), rfl⟩
theorem wd_80 : yWd (.initialized RX7) := ⟨lw_in1 _ (List.mem_of_getElem? (i := 7) rfl), rfl⟩
theorem wd_305 : yWd (.instanceMethod yX7_startAnew) := ⟨lw_in1 _ (List.mem_of_getElem? (i := 232) rfl), rfl⟩
theorem wd_306 : yWd (.selects RX7 yX7_startAnew yX7_startAnew) := ⟨lw_in1 _ (List.mem_of_getElem? (i := 233) rfl), rfl⟩
theorem cv_X7_33 : yCV RX7 33 11 yX7_startAnew cX7_startAnew 2 none 0 := ⟨_, _, _, cl_X7, wd_307, wd_304, wd_305, wd_306, wd_80, ⟨by decide, by decide, by decide +kernel⟩, by decide⟩
def t_X7_startAnew : yT := [(0, .aload_n 0, 1), (1, .getfield 14, 3), (4, .invokevirtual 36, 3), (7, .aload_n 0, 1), (8, .getfield 20, 3), (11, .invokevirtual 36, 3), (14, .aload_n 0, 1), (15, .getfield 23, 3), (18, .iconst 0, 1), (19, .invokevirtual 39, 3), (22, .aload_n 0, 1), (23, .getfield 26, 3), (26, .iconst 0, 1), (27, .invokevirtual 39, 3), (30, .aload_n 0, 1), (31, .iconst 0, 1), (32, .putfield 42, 3), (35, .aload_n 0, 1), (36, .aload_n 0, 1), (37, .getfield 29, 3), (40, .putfield 45, 3), (43, .iconst 0, 1), (44, .istore_n 1, 1), (45, .iload_n 1, 1), (46, .iconst 4, 1), (47, .if_icmp .ge 31, 3), (50, .aload_n 0, 1), (51, .aload_n 0, 1), (52, .getfield 45, 3), (55, .invokestatic 48, 3), (58, .putfield 45, 3), (61, .aload_n 0, 1), (62, .getfield 14, 3), (65, .aload_n 0, 1), (66, .getfield 45, 3), (69, .invokevirtual 52, 3), (72, .iinc 1 1, 3), (75, .goto (-30), 3), (78, .return_, 1)]
theorem fg_X7_14_X7 : yFL RX7 14 11 0 := ⟨_, _, _, cl_X7, by decide, wd_236⟩
theorem wd_308 : yWd (.methodLink RX7 36 yX5_clear) := ⟨lw_in1 _ (List.mem_of_getElem? (i := 235) rfl), rfl⟩
theorem cv_X7_36 : yCV RX7 36 9 yX5_clear cX5_clear 1 none 0 := ⟨_, _, _, cl_X5, wd_311, wd_308, wd_309, wd_310, wd_77, ⟨by decide, by decide, by decide +kernel⟩, by decide⟩
theorem fg_X7_20_X7 : yFL RX7 20 11 1 := ⟨_, _, _, cl_X7, by decide, wd_237⟩
theorem fg_X7_23_X7 : yFL RX7 23 11 2 := ⟨_, _, _, cl_X7, by decide, wd_238⟩
theorem wd_315 : yWd (.code yX5_fill cX5_fill 3 none) := ⟨lw_in2 _ (List.mem_of_getElem? (i := 2) rfl), rfl⟩
theorem wd_312 : yWd (.methodLink RX7 39 yX5_fill) := ⟨lw_in1 _ (List.mem_of_getElem? (i := 239) rfl), rfl⟩
theorem wd_313 : yWd (.instanceMethod yX5_fill) := ⟨lw_in2 _ (List.mem_of_getElem? (i := 0) rfl), rfl⟩
theorem wd_314 : yWd (.selects RX5 yX5_fill yX5_fill) := ⟨lw_in2 _ (List.mem_of_getElem? (i := 1) rfl), rfl⟩
theorem cv_X7_39 : yCV RX7 39 9 yX5_fill cX5_fill 3 none 1 := ⟨_, _, _, cl_X5, wd_315, wd_312, wd_313, wd_314, wd_77, ⟨by decide, by decide, by decide +kernel⟩, by decide⟩
theorem fg_X7_26_X7 : yFL RX7 26 11 3 := ⟨_, _, _, cl_X7, by decide, wd_239⟩
theorem wd_242 : yWd (.fieldLink RX7 42 "NightwatchWall$Words" "rightAnswers" "I") := ⟨lw_in1 _ (List.mem_of_getElem? (i := 169) rfl), rfl⟩
theorem fp_X7_42_X7 : yFP RX7 42 11 6 (.int) := ⟨_, _, _, cl_X7, by decide, rfl, by decide +kernel, wd_242⟩
theorem fg_X7_29_X7 : yFL RX7 29 11 4 := ⟨_, _, _, cl_X7, by decide, wd_240⟩
theorem wd_241 : yWd (.fieldLink RX7 45 "NightwatchWall$Words" "latest" "I") := ⟨lw_in1 _ (List.mem_of_getElem? (i := 168) rfl), rfl⟩
theorem fp_X7_45_X7 : yFP RX7 45 11 5 (.int) := ⟨_, _, _, cl_X7, by decide, rfl, by decide +kernel, wd_241⟩
theorem fg_X7_45_X7 : yFL RX7 45 11 5 := ⟨_, _, _, cl_X7, by decide, wd_241⟩
theorem cs_X7_48 : yCSN RX7 48 yX8_nextOfRow "NightwatchWall" cX8_nextOfRow 1 (some .int) 1 := ⟨wd_322, (lw_in2 _ (List.mem_of_getElem? (i := 7) (by decide +kernel))), wd_321, wd_74, ⟨by decide, by decide, by decide +kernel⟩, by decide⟩
theorem wd_323 : yWd (.methodLink RX7 52 yX5_add) := ⟨lw_in2 _ (List.mem_of_getElem? (i := 10) rfl), rfl⟩
theorem cv_X7_52 : yCV RX7 52 9 yX5_add cX5_add 2 none 1 := ⟨_, _, _, cl_X5, wd_326, wd_323, wd_324, wd_325, wd_77, ⟨by decide, by decide, by decide +kernel⟩, by decide⟩
def t_X7_wordOf : yT := [(0, .aload_n 0, 1), (1, .getfield 14, 3), (4, .iload_n 1, 1), (5, .invokevirtual 55, 3), (8, .ireturn, 1)]
theorem wd_431 : yWd (.methodLink RX7 55 yX5_at) := ⟨lw_in2 _ (List.mem_of_getElem? (i := 118) rfl), rfl⟩
theorem cv_X7_55 : yCV RX7 55 9 yX5_at cX5_at 2 (some .int) 1 := ⟨_, _, _, cl_X5, wd_382, wd_431, wd_380, wd_381, wd_77, ⟨by decide, by decide, by decide +kernel⟩, by decide⟩
def t_X7_isLeakedOut : yT := [(0, .aload_n 0, 1), (1, .getfield 20, 3), (4, .invokevirtual 58, 3), (7, .ireturn, 1)]
theorem wd_1119 : yWd (.methodLink RX7 58 yX5_isFull) := ⟨lw_in5 _ (List.mem_of_getElem? (i := 86) rfl), rfl⟩
theorem cv_X7_58 : yCV RX7 58 9 yX5_isFull cX5_isFull 1 (some .boolean) 0 := ⟨_, _, _, cl_X5, wd_330, wd_1119, wd_328, wd_329, wd_77, ⟨by decide, by decide, by decide +kernel⟩, by decide⟩
def t_X7_leaks : yT := [(0, .aload_n 0, 1), (1, .getfield 20, 3), (4, .invokevirtual 62, 3), (7, .ireturn, 1)]
theorem wd_608 : yWd (.methodLink RX7 62 yX5_size) := ⟨lw_in3 _ (List.mem_of_getElem? (i := 55) rfl), rfl⟩
theorem cv_X7_62 : yCV RX7 62 9 yX5_size cX5_size 1 (some .int) 0 := ⟨_, _, _, cl_X5, wd_398, wd_608, wd_396, wd_397, wd_77, ⟨by decide, by decide, by decide +kernel⟩, by decide⟩
def t_X7_replace : yT := [(0, .aload_n 0, 1), (1, .getfield 20, 3), (4, .aload_n 0, 1), (5, .getfield 14, 3), (8, .iload_n 1, 1), (9, .invokevirtual 55, 3), (12, .invokevirtual 52, 3), (15, .aload_n 0, 1), (16, .aload_n 0, 1), (17, .getfield 45, 3), (20, .invokestatic 48, 3), (23, .putfield 45, 3), (26, .aload_n 0, 1), (27, .getfield 14, 3), (30, .iload_n 1, 1), (31, .aload_n 0, 1), (32, .getfield 45, 3), (35, .invokevirtual 66, 3), (38, .aload_n 0, 1), (39, .getfield 45, 3), (42, .ireturn, 1)]
theorem wd_1124 : yWd (.methodLink RX7 66 yX5_put) := ⟨lw_in5 _ (List.mem_of_getElem? (i := 91) rfl), rfl⟩
theorem cv_X7_66 : yCV RX7 66 9 yX5_put cX5_put 3 none 2 := ⟨_, _, _, cl_X5, wd_319, wd_1124, wd_317, wd_318, wd_77, ⟨by decide, by decide, by decide +kernel⟩, by decide⟩
def t_X7_rightAnswers : yT := [(0, .aload_n 0, 1), (1, .getfield 42, 3), (4, .ireturn, 1)]
theorem fg_X7_42_X7 : yFL RX7 42 11 6 := ⟨_, _, _, cl_X7, by decide, wd_242⟩
def t_X7_strikesOf : yT := [(0, .aload_n 0, 1), (1, .getfield 23, 3), (4, .iload_n 1, 1), (5, .invokevirtual 55, 3), (8, .ireturn, 1)]
def t_X7_hoursOf : yT := [(0, .aload_n 0, 1), (1, .getfield 26, 3), (4, .iload_n 1, 1), (5, .invokevirtual 55, 3), (8, .ireturn, 1)]
def t_X7_isBarred : yT := [(0, .aload_n 0, 1), (1, .getfield 23, 3), (4, .iload_n 1, 1), (5, .invokevirtual 55, 3), (8, .iconst 3, 1), (9, .if_icmp .lt 7, 3), (12, .iconst 1, 1), (13, .goto 4, 3), (16, .iconst 0, 1), (17, .ireturn, 1)]
def t_X7_areStrikesSound : yT := [(0, .iconst 0, 1), (1, .istore_n 1, 1), (2, .iload_n 1, 1), (3, .bipush 6, 2), (5, .if_icmp .ge 23, 3), (8, .aload_n 0, 1), (9, .getfield 23, 3), (12, .iload_n 1, 1), (13, .invokevirtual 55, 3), (16, .iconst 3, 1), (17, .if_icmp .le 5, 3), (20, .iconst 0, 1), (21, .ireturn, 1), (22, .iinc 1 1, 3), (25, .goto (-23), 3), (28, .iconst 1, 1), (29, .ireturn, 1)]
def t_X7_judge : yT := [(0, .aload_n 0, 1), (1, .iload_n 1, 1), (2, .invokevirtual 70, 3), (5, .ifCond .eq 5, 3), (8, .iconst 4, 1), (9, .ireturn, 1), (10, .aload_n 0, 1), (11, .iload_n 1, 1), (12, .iload_n 2, 1), (13, .iload_n 3, 1), (14, .invokevirtual 74, 3), (17, .istore 4, 2), (19, .iload 4, 2), (21, .ifCond .ne 36, 3), (24, .aload_n 0, 1), (25, .getfield 26, 3), (28, .iload_n 1, 1), (29, .aload_n 0, 1), (30, .getfield 26, 3), (33, .iload_n 1, 1), (34, .invokevirtual 55, 3), (37, .iconst 1, 1), (38, .iload_n 2, 1), (39, .ishl, 1), (40, .ior, 1), (41, .invokevirtual 66, 3), (44, .aload_n 0, 1), (45, .dup, 1), (46, .getfield 42, 3), (49, .iconst 1, 1), (50, .iadd, 1), (51, .putfield 42, 3), (54, .goto 21, 3), (57, .aload_n 0, 1), (58, .getfield 23, 3), (61, .iload_n 1, 1), (62, .aload_n 0, 1), (63, .getfield 23, 3), (66, .iload_n 1, 1), (67, .invokevirtual 55, 3), (70, .iconst 1, 1), (71, .iadd, 1), (72, .invokevirtual 66, 3), (75, .iload 4, 2), (77, .ireturn, 1)]
theorem wd_734 : yWd (.code yX7_isBarred cX7_isBarred 2 (some .boolean)) := ⟨lw_in3 _ (List.mem_of_getElem? (i := 181) rfl), rfl⟩
theorem wd_1136 : yWd (.methodLink RX7 70 yX7_isBarred) := ⟨lw_in5 _ (List.mem_of_getElem? (i := 103) rfl), rfl⟩
theorem wd_732 : yWd (.instanceMethod yX7_isBarred) := ⟨lw_in3 _ (List.mem_of_getElem? (i := 179) rfl), rfl⟩
theorem wd_733 : yWd (.selects RX7 yX7_isBarred yX7_isBarred) := ⟨lw_in3 _ (List.mem_of_getElem? (i := 180) rfl), rfl⟩
theorem cv_X7_70 : yCV RX7 70 11 yX7_isBarred cX7_isBarred 2 (some .boolean) 1 := ⟨_, _, _, cl_X7, wd_734, wd_1136, wd_732, wd_733, wd_80, ⟨by decide, by decide, by decide +kernel⟩, by decide⟩
theorem wd_1140 : yWd (.code yX7_verdictOn cX7_verdictOn 4 (some .int)) := ⟨lw_in5 _ (List.mem_of_getElem? (i := 107) rfl), rfl⟩
theorem wd_1137 : yWd (.methodLink RX7 74 yX7_verdictOn) := ⟨lw_in5 _ (List.mem_of_getElem? (i := 104) rfl), rfl⟩
theorem wd_1139 : yWd (.instanceMethod yX7_verdictOn) := ⟨lw_in5 _ (List.mem_of_getElem? (i := 106) rfl), rfl⟩
theorem wd_28 : yWd (.selects RX7 yX7_verdictOn yX7_verdictOn) := ⟨lw_inp2 _ (List.mem_of_getElem? (i := 12) rfl), rfl⟩
theorem cv_X7_74 : yCV RX7 74 11 yX7_verdictOn cX7_verdictOn 4 (some .int) 3 := ⟨_, _, _, cl_X7, wd_1140, wd_1137, wd_1139, wd_28, wd_80, ⟨by decide, by decide, by decide +kernel⟩, by decide⟩
def t_X7_verdictOn : yT := [(0, .iload_n 3, 1), (1, .aload_n 0, 1), (2, .getfield 14, 3), (5, .iload_n 2, 1), (6, .invokevirtual 55, 3), (9, .if_icmp .ne 24, 3), (12, .aload_n 0, 1), (13, .getfield 26, 3), (16, .iload_n 1, 1), (17, .invokevirtual 55, 3), (20, .iconst 1, 1), (21, .iload_n 2, 1), (22, .ishl, 1), (23, .iand, 1), (24, .ifCond .ne 7, 3), (27, .iconst 0, 1), (28, .goto 4, 3), (31, .iconst 1, 1), (32, .ireturn, 1), (33, .aload_n 0, 1), (34, .getfield 14, 3), (37, .iload_n 3, 1), (38, .invokevirtual 78, 3), (41, .ifCond .ne 14, 3), (44, .aload_n 0, 1), (45, .getfield 20, 3), (48, .iload_n 3, 1), (49, .invokevirtual 78, 3), (52, .ifCond .eq 7, 3), (55, .iconst 2, 1), (56, .goto 4, 3), (59, .iconst 3, 1), (60, .ireturn, 1)]
theorem wd_1144 : yWd (.code yX5_has cX5_has 2 (some .boolean)) := ⟨lw_in5 _ (List.mem_of_getElem? (i := 111) rfl), rfl⟩
theorem wd_1141 : yWd (.methodLink RX7 78 yX5_has) := ⟨lw_in5 _ (List.mem_of_getElem? (i := 108) rfl), rfl⟩
theorem wd_1142 : yWd (.instanceMethod yX5_has) := ⟨lw_in5 _ (List.mem_of_getElem? (i := 109) rfl), rfl⟩
theorem wd_1143 : yWd (.selects RX5 yX5_has yX5_has) := ⟨lw_in5 _ (List.mem_of_getElem? (i := 110) rfl), rfl⟩
theorem cv_X7_78 : yCV RX7 78 9 yX5_has cX5_has 2 (some .boolean) 1 := ⟨_, _, _, cl_X5, wd_1144, wd_1141, wd_1142, wd_1143, wd_77, ⟨by decide, by decide, by decide +kernel⟩, by decide⟩
def t_X8_init : yT := [(0, .aload_n 0, 1), (1, .invokespecial 1, 3), (4, .aload_n 0, 1), (5, .new 7, 3), (8, .dup, 1), (9, .invokespecial 9, 3), (12, .putfield 10, 3), (15, .aload_n 0, 1), (16, .new 16, 3), (19, .dup, 1), (20, .invokespecial 18, 3), (23, .putfield 19, 3), (26, .aload_n 0, 1), (27, .new 23, 3), (30, .dup, 1), (31, .invokespecial 25, 3), (34, .putfield 26, 3), (37, .aload_n 0, 1), (38, .new 30, 3), (41, .dup, 1), (42, .invokespecial 32, 3), (45, .putfield 33, 3), (48, .aload_n 0, 1), (49, .new 37, 3), (52, .dup, 1), (53, .iconst 4, 1), (54, .invokespecial 39, 3), (57, .putfield 42, 3), (60, .aload_n 0, 1), (61, .new 46, 3), (64, .dup, 1), (65, .invokespecial 48, 3), (68, .putfield 49, 3), (71, .aload_n 0, 1), (72, .new 37, 3), (75, .dup, 1), (76, .bipush 6, 2), (78, .invokespecial 39, 3), (81, .putfield 53, 3), (84, .aload_n 0, 1), (85, .new 56, 3), (88, .dup, 1), (89, .invokespecial 58, 3), (92, .putfield 59, 3), (95, .aload_n 0, 1), (96, .new 63, 3), (99, .dup, 1), (100, .invokespecial 65, 3), (103, .putfield 66, 3), (106, .aload_n 0, 1), (107, .getfield 49, 3), (110, .iconst 0, 1), (111, .invokevirtual 70, 3), (114, .aload_n 0, 1), (115, .getfield 53, 3), (118, .iconst (-1), 1), (119, .invokevirtual 73, 3), (122, .return_, 1)]
theorem wd_119 : yWd (.classLink RX8 7 RX1) := ⟨lw_in1 _ (List.mem_of_getElem? (i := 46) rfl), rfl⟩
theorem wd_120 : yWd (.instantiable RX1 10) := ⟨lw_in1 _ (List.mem_of_getElem? (i := 47) rfl), rfl⟩
theorem nw_X8_7 : yNW RX8 7 5 10 [.int 0, .int 0, .long 0, .long 0, .long 0, .long 0, .long 0, .int 0, .int 0, .null] := by
  refine ⟨_, _, cl_X1, ?_, wd_119, wd_120, wd_75⟩
  intro ty hty j hj
  match j, hj with
  | 0, h => have e := Option.some.inj ((hty 0 h).symm.trans (tyX1_ok 0 h)); rw [e]; rfl
  | 1, h => have e := Option.some.inj ((hty 1 h).symm.trans (tyX1_ok 1 h)); rw [e]; rfl
  | 2, h => have e := Option.some.inj ((hty 2 h).symm.trans (tyX1_ok 2 h)); rw [e]; rfl
  | 3, h => have e := Option.some.inj ((hty 3 h).symm.trans (tyX1_ok 3 h)); rw [e]; rfl
  | 4, h => have e := Option.some.inj ((hty 4 h).symm.trans (tyX1_ok 4 h)); rw [e]; rfl
  | 5, h => have e := Option.some.inj ((hty 5 h).symm.trans (tyX1_ok 5 h)); rw [e]; rfl
  | 6, h => have e := Option.some.inj ((hty 6 h).symm.trans (tyX1_ok 6 h)); rw [e]; rfl
  | 7, h => have e := Option.some.inj ((hty 7 h).symm.trans (tyX1_ok 7 h)); rw [e]; rfl
  | 8, h => have e := Option.some.inj ((hty 8 h).symm.trans (tyX1_ok 8 h)); rw [e]; rfl
  | 9, h => have e := Option.some.inj ((hty 9 h).symm.trans (tyX1_ok 9 h)); rw [e]; rfl
  | j + 10, h => exact absurd h (by omega)
theorem wd_123 : yWd (.code yX1_init cX1_init 1 none) := ⟨lw_in1 _ (List.mem_of_getElem? (i := 50) rfl), rfl⟩
theorem wd_122 : yWd (.instanceMethod yX1_init) := ⟨lw_in1 _ (List.mem_of_getElem? (i := 49) rfl), rfl⟩
theorem ci_X8_9 : yCIN RX8 9 yX1_init "NightwatchWall" cX1_init 1 0 := ⟨wd_123, (lw_in1 _ (List.mem_of_getElem? (i := 48) (by decide +kernel))), wd_122, wd_75, ⟨by decide, by decide, by decide +kernel⟩, rfl, by decide⟩
theorem wd_332 : yWd (.fieldLink RX8 10 "NightwatchWall" "grid" "LNightwatchWall$Grid;") := ⟨lw_in2 _ (List.mem_of_getElem? (i := 19) rfl), rfl⟩
theorem fp_X8_10_X8 : yFF RX8 10 12 0 (.object "NightwatchWall$Grid") := ⟨_, _, _, cl_X8, by decide, rfl, rfl, by decide +kernel, wd_332⟩
theorem wd_157 : yWd (.classLink RX8 16 RX4) := ⟨lw_in1 _ (List.mem_of_getElem? (i := 84) rfl), rfl⟩
theorem wd_158 : yWd (.instantiable RX4 3) := ⟨lw_in1 _ (List.mem_of_getElem? (i := 85) rfl), rfl⟩
theorem nw_X8_16 : yNW RX8 16 8 3 [.null, .null, .null] := by
  refine ⟨_, _, cl_X4, ?_, wd_157, wd_158, wd_76⟩
  intro ty hty j hj
  match j, hj with
  | 0, h => have e := Option.some.inj ((hty 0 h).symm.trans (tyX4_ok 0 h)); rw [e]; rfl
  | 1, h => have e := Option.some.inj ((hty 1 h).symm.trans (tyX4_ok 1 h)); rw [e]; rfl
  | 2, h => have e := Option.some.inj ((hty 2 h).symm.trans (tyX4_ok 2 h)); rw [e]; rfl
  | j + 3, h => exact absurd h (by omega)
theorem wd_161 : yWd (.code yX4_init cX4_init 1 none) := ⟨lw_in1 _ (List.mem_of_getElem? (i := 88) rfl), rfl⟩
theorem wd_160 : yWd (.instanceMethod yX4_init) := ⟨lw_in1 _ (List.mem_of_getElem? (i := 87) rfl), rfl⟩
theorem ci_X8_18 : yCIN RX8 18 yX4_init "NightwatchWall" cX4_init 1 0 := ⟨wd_161, (lw_in1 _ (List.mem_of_getElem? (i := 86) (by decide +kernel))), wd_160, wd_76, ⟨by decide, by decide, by decide +kernel⟩, rfl, by decide⟩
theorem wd_333 : yWd (.fieldLink RX8 19 "NightwatchWall" "lamps" "LNightwatchWall$Lamps;") := ⟨lw_in2 _ (List.mem_of_getElem? (i := 20) rfl), rfl⟩
theorem fp_X8_19_X8 : yFF RX8 19 12 1 (.object "NightwatchWall$Lamps") := ⟨_, _, _, cl_X8, by decide, rfl, rfl, by decide +kernel, wd_333⟩
theorem wd_187 : yWd (.classLink RX8 23 RX0) := ⟨lw_in1 _ (List.mem_of_getElem? (i := 114) rfl), rfl⟩
theorem wd_188 : yWd (.instantiable RX0 2) := ⟨lw_in1 _ (List.mem_of_getElem? (i := 115) rfl), rfl⟩
theorem wd_78 : yWd (.initialized RX0) := ⟨lw_in1 _ (List.mem_of_getElem? (i := 5) rfl), rfl⟩
theorem nw_X8_23 : yNW RX8 23 4 2 [.null, .null] := by
  refine ⟨_, _, cl_X0, ?_, wd_187, wd_188, wd_78⟩
  intro ty hty j hj
  match j, hj with
  | 0, h => have e := Option.some.inj ((hty 0 h).symm.trans (tyX0_ok 0 h)); rw [e]; rfl
  | 1, h => have e := Option.some.inj ((hty 1 h).symm.trans (tyX0_ok 1 h)); rw [e]; rfl
  | j + 2, h => exact absurd h (by omega)
theorem wd_191 : yWd (.code yX0_init cX0_init 1 none) := ⟨lw_in1 _ (List.mem_of_getElem? (i := 118) rfl), rfl⟩
theorem wd_190 : yWd (.instanceMethod yX0_init) := ⟨lw_in1 _ (List.mem_of_getElem? (i := 117) rfl), rfl⟩
theorem ci_X8_25 : yCIN RX8 25 yX0_init "NightwatchWall" cX0_init 1 0 := ⟨wd_191, (lw_in1 _ (List.mem_of_getElem? (i := 116) (by decide +kernel))), wd_190, wd_78, ⟨by decide, by decide, by decide +kernel⟩, rfl, by decide⟩
theorem wd_334 : yWd (.fieldLink RX8 26 "NightwatchWall" "fogs" "LNightwatchWall$Fogs;") := ⟨lw_in2 _ (List.mem_of_getElem? (i := 21) rfl), rfl⟩
theorem fp_X8_26_X8 : yFF RX8 26 12 2 (.object "NightwatchWall$Fogs") := ⟨_, _, _, cl_X8, by decide, rfl, rfl, by decide +kernel, wd_334⟩
theorem wd_202 : yWd (.classLink RX8 30 RX2) := ⟨lw_in1 _ (List.mem_of_getElem? (i := 129) rfl), rfl⟩
theorem wd_203 : yWd (.instantiable RX2 5) := ⟨lw_in1 _ (List.mem_of_getElem? (i := 130) rfl), rfl⟩
theorem nw_X8_30 : yNW RX8 30 6 5 [.null, .null, .null, .null, .null] := by
  refine ⟨_, _, cl_X2, ?_, wd_202, wd_203, wd_79⟩
  intro ty hty j hj
  match j, hj with
  | 0, h => have e := Option.some.inj ((hty 0 h).symm.trans (tyX2_ok 0 h)); rw [e]; rfl
  | 1, h => have e := Option.some.inj ((hty 1 h).symm.trans (tyX2_ok 1 h)); rw [e]; rfl
  | 2, h => have e := Option.some.inj ((hty 2 h).symm.trans (tyX2_ok 2 h)); rw [e]; rfl
  | 3, h => have e := Option.some.inj ((hty 3 h).symm.trans (tyX2_ok 3 h)); rw [e]; rfl
  | 4, h => have e := Option.some.inj ((hty 4 h).symm.trans (tyX2_ok 4 h)); rw [e]; rfl
  | j + 5, h => exact absurd h (by omega)
theorem wd_206 : yWd (.code yX2_init cX2_init 1 none) := ⟨lw_in1 _ (List.mem_of_getElem? (i := 133) rfl), rfl⟩
theorem wd_205 : yWd (.instanceMethod yX2_init) := ⟨lw_in1 _ (List.mem_of_getElem? (i := 132) rfl), rfl⟩
theorem ci_X8_32 : yCIN RX8 32 yX2_init "NightwatchWall" cX2_init 1 0 := ⟨wd_206, (lw_in1 _ (List.mem_of_getElem? (i := 131) (by decide +kernel))), wd_205, wd_79, ⟨by decide, by decide, by decide +kernel⟩, rfl, by decide⟩
theorem wd_335 : yWd (.fieldLink RX8 33 "NightwatchWall" "guards" "LNightwatchWall$Guards;") := ⟨lw_in2 _ (List.mem_of_getElem? (i := 22) rfl), rfl⟩
theorem fp_X8_33_X8 : yFF RX8 33 12 3 (.object "NightwatchWall$Guards") := ⟨_, _, _, cl_X8, by decide, rfl, rfl, by decide +kernel, wd_335⟩
theorem wd_226 : yWd (.classLink RX8 37 RX5) := ⟨lw_in1 _ (List.mem_of_getElem? (i := 153) rfl), rfl⟩
theorem nw_X8_37 : yNW RX8 37 9 2 [.null, .int 0] := by
  refine ⟨_, _, cl_X5, ?_, wd_226, wd_164, wd_77⟩
  intro ty hty j hj
  match j, hj with
  | 0, h => have e := Option.some.inj ((hty 0 h).symm.trans (tyX5_ok 0 h)); rw [e]; rfl
  | 1, h => have e := Option.some.inj ((hty 1 h).symm.trans (tyX5_ok 1 h)); rw [e]; rfl
  | j + 2, h => exact absurd h (by omega)
theorem wd_227 : yWd (.methodLink RX8 39 yX5_init) := ⟨lw_in1 _ (List.mem_of_getElem? (i := 154) rfl), rfl⟩
theorem ci_X8_39 : yCI RX8 39 yX5_init cX5_init 2 1 := ⟨wd_167, wd_227, wd_166, wd_77, ⟨by decide, by decide, by decide +kernel⟩, rfl, by decide⟩
theorem wd_336 : yWd (.fieldLink RX8 42 "NightwatchWall" "posts" "LNightwatchWall$Numbers;") := ⟨lw_in2 _ (List.mem_of_getElem? (i := 23) rfl), rfl⟩
theorem fp_X8_42_X8 : yFF RX8 42 12 4 (.object "NightwatchWall$Numbers") := ⟨_, _, _, cl_X8, by decide, rfl, rfl, by decide +kernel, wd_336⟩
theorem wd_228 : yWd (.classLink RX8 46 RX7) := ⟨lw_in1 _ (List.mem_of_getElem? (i := 155) rfl), rfl⟩
theorem wd_229 : yWd (.instantiable RX7 7) := ⟨lw_in1 _ (List.mem_of_getElem? (i := 156) rfl), rfl⟩
theorem nw_X8_46 : yNW RX8 46 11 7 [.null, .null, .null, .null, .int 0, .int 0, .int 0] := by
  refine ⟨_, _, cl_X7, ?_, wd_228, wd_229, wd_80⟩
  intro ty hty j hj
  match j, hj with
  | 0, h => have e := Option.some.inj ((hty 0 h).symm.trans (tyX7_ok 0 h)); rw [e]; rfl
  | 1, h => have e := Option.some.inj ((hty 1 h).symm.trans (tyX7_ok 1 h)); rw [e]; rfl
  | 2, h => have e := Option.some.inj ((hty 2 h).symm.trans (tyX7_ok 2 h)); rw [e]; rfl
  | 3, h => have e := Option.some.inj ((hty 3 h).symm.trans (tyX7_ok 3 h)); rw [e]; rfl
  | 4, h => have e := Option.some.inj ((hty 4 h).symm.trans (tyX7_ok 4 h)); rw [e]; rfl
  | 5, h => have e := Option.some.inj ((hty 5 h).symm.trans (tyX7_ok 5 h)); rw [e]; rfl
  | 6, h => have e := Option.some.inj ((hty 6 h).symm.trans (tyX7_ok 6 h)); rw [e]; rfl
  | j + 7, h => exact absurd h (by omega)
theorem wd_232 : yWd (.code yX7_init cX7_init 1 none) := ⟨lw_in1 _ (List.mem_of_getElem? (i := 159) rfl), rfl⟩
theorem wd_231 : yWd (.instanceMethod yX7_init) := ⟨lw_in1 _ (List.mem_of_getElem? (i := 158) rfl), rfl⟩
theorem ci_X8_48 : yCIN RX8 48 yX7_init "NightwatchWall" cX7_init 1 0 := ⟨wd_232, (lw_in1 _ (List.mem_of_getElem? (i := 157) (by decide +kernel))), wd_231, wd_80, ⟨by decide, by decide, by decide +kernel⟩, rfl, by decide⟩
theorem wd_337 : yWd (.fieldLink RX8 49 "NightwatchWall" "passwords" "LNightwatchWall$Words;") := ⟨lw_in2 _ (List.mem_of_getElem? (i := 24) rfl), rfl⟩
theorem fp_X8_49_X8 : yFF RX8 49 12 5 (.object "NightwatchWall$Words") := ⟨_, _, _, cl_X8, by decide, rfl, rfl, by decide +kernel, wd_337⟩
theorem wd_338 : yWd (.fieldLink RX8 53 "NightwatchWall" "keys" "LNightwatchWall$Numbers;") := ⟨lw_in2 _ (List.mem_of_getElem? (i := 25) rfl), rfl⟩
theorem fp_X8_53_X8 : yFF RX8 53 12 6 (.object "NightwatchWall$Numbers") := ⟨_, _, _, cl_X8, by decide, rfl, rfl, by decide +kernel, wd_338⟩
theorem wd_258 : yWd (.classLink RX8 56 RX3) := ⟨lw_in1 _ (List.mem_of_getElem? (i := 185) rfl), rfl⟩
theorem wd_259 : yWd (.instantiable RX3 6) := ⟨lw_in1 _ (List.mem_of_getElem? (i := 186) rfl), rfl⟩
theorem nw_X8_56 : yNW RX8 56 7 6 [.null, .null, .null, .null, .null, .null] := by
  refine ⟨_, _, cl_X3, ?_, wd_258, wd_259, wd_81⟩
  intro ty hty j hj
  match j, hj with
  | 0, h => have e := Option.some.inj ((hty 0 h).symm.trans (tyX3_ok 0 h)); rw [e]; rfl
  | 1, h => have e := Option.some.inj ((hty 1 h).symm.trans (tyX3_ok 1 h)); rw [e]; rfl
  | 2, h => have e := Option.some.inj ((hty 2 h).symm.trans (tyX3_ok 2 h)); rw [e]; rfl
  | 3, h => have e := Option.some.inj ((hty 3 h).symm.trans (tyX3_ok 3 h)); rw [e]; rfl
  | 4, h => have e := Option.some.inj ((hty 4 h).symm.trans (tyX3_ok 4 h)); rw [e]; rfl
  | 5, h => have e := Option.some.inj ((hty 5 h).symm.trans (tyX3_ok 5 h)); rw [e]; rfl
  | j + 6, h => exact absurd h (by omega)
theorem wd_262 : yWd (.code yX3_init cX3_init 1 none) := ⟨lw_in1 _ (List.mem_of_getElem? (i := 189) rfl), rfl⟩
theorem wd_261 : yWd (.instanceMethod yX3_init) := ⟨lw_in1 _ (List.mem_of_getElem? (i := 188) rfl), rfl⟩
theorem ci_X8_58 : yCIN RX8 58 yX3_init "NightwatchWall" cX3_init 1 0 := ⟨wd_262, (lw_in1 _ (List.mem_of_getElem? (i := 187) (by decide +kernel))), wd_261, wd_81, ⟨by decide, by decide, by decide +kernel⟩, rfl, by decide⟩
theorem wd_339 : yWd (.fieldLink RX8 59 "NightwatchWall" "intruders" "LNightwatchWall$Intruders;") := ⟨lw_in2 _ (List.mem_of_getElem? (i := 26) rfl), rfl⟩
theorem fp_X8_59_X8 : yFF RX8 59 12 7 (.object "NightwatchWall$Intruders") := ⟨_, _, _, cl_X8, by decide, rfl, rfl, by decide +kernel, wd_339⟩
theorem wd_285 : yWd (.classLink RX8 63 RX6) := ⟨lw_in1 _ (List.mem_of_getElem? (i := 212) rfl), rfl⟩
theorem wd_286 : yWd (.instantiable RX6 2) := ⟨lw_in1 _ (List.mem_of_getElem? (i := 213) rfl), rfl⟩
theorem nw_X8_63 : yNW RX8 63 10 2 [.null, .null] := by
  refine ⟨_, _, cl_X6, ?_, wd_285, wd_286, wd_82⟩
  intro ty hty j hj
  match j, hj with
  | 0, h => have e := Option.some.inj ((hty 0 h).symm.trans (tyX6_ok 0 h)); rw [e]; rfl
  | 1, h => have e := Option.some.inj ((hty 1 h).symm.trans (tyX6_ok 1 h)); rw [e]; rfl
  | j + 2, h => exact absurd h (by omega)
theorem wd_289 : yWd (.code yX6_init cX6_init 1 none) := ⟨lw_in1 _ (List.mem_of_getElem? (i := 216) rfl), rfl⟩
theorem wd_288 : yWd (.instanceMethod yX6_init) := ⟨lw_in1 _ (List.mem_of_getElem? (i := 215) rfl), rfl⟩
theorem ci_X8_65 : yCIN RX8 65 yX6_init "NightwatchWall" cX6_init 1 0 := ⟨wd_289, (lw_in1 _ (List.mem_of_getElem? (i := 214) (by decide +kernel))), wd_288, wd_82, ⟨by decide, by decide, by decide +kernel⟩, rfl, by decide⟩
theorem wd_340 : yWd (.fieldLink RX8 66 "NightwatchWall" "wires" "LNightwatchWall$Wires;") := ⟨lw_in2 _ (List.mem_of_getElem? (i := 27) rfl), rfl⟩
theorem fp_X8_66_X8 : yFF RX8 66 12 8 (.object "NightwatchWall$Wires") := ⟨_, _, _, cl_X8, by decide, rfl, rfl, by decide +kernel, wd_340⟩
theorem fg_X8_49_X8 : yFL RX8 49 12 5 := ⟨_, _, _, cl_X8, by decide, wd_337⟩
theorem wd_303 : yWd (.code yX7_tell cX7_tell 2 none) := ⟨lw_in1 _ (List.mem_of_getElem? (i := 230) rfl), rfl⟩
theorem wd_300 : yWd (.methodLink RX8 70 yX7_tell) := ⟨lw_in1 _ (List.mem_of_getElem? (i := 227) rfl), rfl⟩
theorem wd_301 : yWd (.instanceMethod yX7_tell) := ⟨lw_in1 _ (List.mem_of_getElem? (i := 228) rfl), rfl⟩
theorem wd_302 : yWd (.selects RX7 yX7_tell yX7_tell) := ⟨lw_in1 _ (List.mem_of_getElem? (i := 229) rfl), rfl⟩
theorem cv_X8_70 : yCV RX8 70 11 yX7_tell cX7_tell 2 none 1 := ⟨_, _, _, cl_X7, wd_303, wd_300, wd_301, wd_302, wd_80, ⟨by decide, by decide, by decide +kernel⟩, by decide⟩
theorem fg_X8_53_X8 : yFL RX8 53 12 6 := ⟨_, _, _, cl_X8, by decide, wd_338⟩
theorem wd_331 : yWd (.methodLink RX8 73 yX5_fill) := ⟨lw_in2 _ (List.mem_of_getElem? (i := 18) rfl), rfl⟩
theorem cv_X8_73 : yCV RX8 73 9 yX5_fill cX5_fill 3 none 1 := ⟨_, _, _, cl_X5, wd_315, wd_331, wd_313, wd_314, wd_77, ⟨by decide, by decide, by decide +kernel⟩, by decide⟩
def t_X8_base : yT := [(0, .iload_n 1, 1), (1, .iconst 3, 1), (2, .bipush 8, 2), (4, .invokestatic 76, 3), (7, .ifCond .eq 23, 3), (10, .iload_n 2, 1), (11, .iconst 3, 1), (12, .bipush 8, 2), (14, .invokestatic 76, 3), (17, .ifCond .eq 13, 3), (20, .iload_n 3, 1), (21, .iconst 0, 1), (22, .bipush 100, 2), (24, .invokestatic 76, 3), (27, .ifCond .ne 13, 3), (30, .new 80, 3), (33, .dup, 1), (34, .ldc 82, 2), (36, .invokespecial 84, 3), (39, .athrow, 1), (40, .aload_n 0, 1), (41, .getfield 10, 3), (44, .iload_n 1, 1), (45, .iload_n 2, 1), (46, .iload_n 3, 1), (47, .invokevirtual 87, 3), (50, .aload_n 0, 1), (51, .getfield 19, 3), (54, .invokevirtual 91, 3), (57, .aload_n 0, 1), (58, .getfield 26, 3), (61, .invokevirtual 94, 3), (64, .aload_n 0, 1), (65, .getfield 33, 3), (68, .invokevirtual 95, 3), (71, .aload_n 0, 1), (72, .getfield 42, 3), (75, .invokevirtual 96, 3), (78, .aload_n 0, 1), (79, .getfield 49, 3), (82, .invokevirtual 99, 3), (85, .aload_n 0, 1), (86, .getfield 53, 3), (89, .iconst (-1), 1), (90, .invokevirtual 73, 3), (93, .aload_n 0, 1), (94, .getfield 59, 3), (97, .invokevirtual 102, 3), (100, .aload_n 0, 1), (101, .getfield 66, 3), (104, .invokevirtual 103, 3), (107, .aload_n 0, 1), (108, .getfield 10, 3), (111, .invokevirtual 104, 3), (114, .invokestatic 108, 3), (117, .ireturn, 1)]
theorem wd_424 : yWd (.methodLink RX8 76 yX8_isIn) := ⟨lw_in2 _ (List.mem_of_getElem? (i := 111) rfl), rfl⟩
theorem cs_X8_76 : yCS RX8 76 yX8_isIn cX8_isIn 3 (some .boolean) 3 := ⟨wd_426, wd_424, wd_425, wd_74, ⟨by decide, by decide, by decide +kernel⟩, by decide⟩
theorem fg_X8_10_X8 : yFL RX8 10 12 0 := ⟨_, _, _, cl_X8, by decide, wd_332⟩
theorem wd_852 : yWd (.code yX1_build cX1_build 6 none) := ⟨lw_in4 _ (List.mem_of_getElem? (i := 59) rfl), rfl⟩
theorem wd_849 : yWd (.methodLink RX8 87 yX1_build) := ⟨lw_in4 _ (List.mem_of_getElem? (i := 56) rfl), rfl⟩
theorem wd_850 : yWd (.instanceMethod yX1_build) := ⟨lw_in4 _ (List.mem_of_getElem? (i := 57) rfl), rfl⟩
theorem wd_851 : yWd (.selects RX1 yX1_build yX1_build) := ⟨lw_in4 _ (List.mem_of_getElem? (i := 58) rfl), rfl⟩
theorem cv_X8_87 : yCV RX8 87 5 yX1_build cX1_build 6 none 3 := ⟨_, _, _, cl_X1, wd_852, wd_849, wd_850, wd_851, wd_75, ⟨by decide, by decide, by decide +kernel⟩, by decide⟩
theorem fg_X8_19_X8 : yFL RX8 19 12 1 := ⟨_, _, _, cl_X8, by decide, wd_333⟩
theorem wd_898 : yWd (.code yX4_forget cX4_forget 1 none) := ⟨lw_in4 _ (List.mem_of_getElem? (i := 105) rfl), rfl⟩
theorem wd_895 : yWd (.methodLink RX8 91 yX4_forget) := ⟨lw_in4 _ (List.mem_of_getElem? (i := 102) rfl), rfl⟩
theorem wd_896 : yWd (.instanceMethod yX4_forget) := ⟨lw_in4 _ (List.mem_of_getElem? (i := 103) rfl), rfl⟩
theorem wd_897 : yWd (.selects RX4 yX4_forget yX4_forget) := ⟨lw_in4 _ (List.mem_of_getElem? (i := 104) rfl), rfl⟩
theorem cv_X8_91 : yCV RX8 91 8 yX4_forget cX4_forget 1 none 0 := ⟨_, _, _, cl_X4, wd_898, wd_895, wd_896, wd_897, wd_76, ⟨by decide, by decide, by decide +kernel⟩, by decide⟩
theorem fg_X8_26_X8 : yFL RX8 26 12 2 := ⟨_, _, _, cl_X8, by decide, wd_334⟩
theorem wd_903 : yWd (.code yX0_forget cX0_forget 1 none) := ⟨lw_in4 _ (List.mem_of_getElem? (i := 110) rfl), rfl⟩
theorem wd_900 : yWd (.methodLink RX8 94 yX0_forget) := ⟨lw_in4 _ (List.mem_of_getElem? (i := 107) rfl), rfl⟩
theorem wd_901 : yWd (.instanceMethod yX0_forget) := ⟨lw_in4 _ (List.mem_of_getElem? (i := 108) rfl), rfl⟩
theorem wd_902 : yWd (.selects RX0 yX0_forget yX0_forget) := ⟨lw_in4 _ (List.mem_of_getElem? (i := 109) rfl), rfl⟩
theorem cv_X8_94 : yCV RX8 94 4 yX0_forget cX0_forget 1 none 0 := ⟨_, _, _, cl_X0, wd_903, wd_900, wd_901, wd_902, wd_78, ⟨by decide, by decide, by decide +kernel⟩, by decide⟩
theorem fg_X8_33_X8 : yFL RX8 33 12 3 := ⟨_, _, _, cl_X8, by decide, wd_335⟩
theorem wd_908 : yWd (.code yX2_forget cX2_forget 1 none) := ⟨lw_in4 _ (List.mem_of_getElem? (i := 115) rfl), rfl⟩
theorem wd_905 : yWd (.methodLink RX8 95 yX2_forget) := ⟨lw_in4 _ (List.mem_of_getElem? (i := 112) rfl), rfl⟩
theorem wd_906 : yWd (.instanceMethod yX2_forget) := ⟨lw_in4 _ (List.mem_of_getElem? (i := 113) rfl), rfl⟩
theorem wd_907 : yWd (.selects RX2 yX2_forget yX2_forget) := ⟨lw_in4 _ (List.mem_of_getElem? (i := 114) rfl), rfl⟩
theorem cv_X8_95 : yCV RX8 95 6 yX2_forget cX2_forget 1 none 0 := ⟨_, _, _, cl_X2, wd_908, wd_905, wd_906, wd_907, wd_79, ⟨by decide, by decide, by decide +kernel⟩, by decide⟩
theorem fg_X8_42_X8 : yFL RX8 42 12 4 := ⟨_, _, _, cl_X8, by decide, wd_336⟩
theorem wd_910 : yWd (.methodLink RX8 96 yX5_clear) := ⟨lw_in4 _ (List.mem_of_getElem? (i := 117) rfl), rfl⟩
theorem cv_X8_96 : yCV RX8 96 9 yX5_clear cX5_clear 1 none 0 := ⟨_, _, _, cl_X5, wd_311, wd_910, wd_309, wd_310, wd_77, ⟨by decide, by decide, by decide +kernel⟩, by decide⟩
theorem wd_911 : yWd (.methodLink RX8 99 yX7_startAnew) := ⟨lw_in4 _ (List.mem_of_getElem? (i := 118) rfl), rfl⟩
theorem cv_X8_99 : yCV RX8 99 11 yX7_startAnew cX7_startAnew 2 none 0 := ⟨_, _, _, cl_X7, wd_307, wd_911, wd_305, wd_306, wd_80, ⟨by decide, by decide, by decide +kernel⟩, by decide⟩
theorem fg_X8_59_X8 : yFL RX8 59 12 7 := ⟨_, _, _, cl_X8, by decide, wd_339⟩
theorem wd_915 : yWd (.code yX3_forget cX3_forget 1 none) := ⟨lw_in4 _ (List.mem_of_getElem? (i := 122) rfl), rfl⟩
theorem wd_912 : yWd (.methodLink RX8 102 yX3_forget) := ⟨lw_in4 _ (List.mem_of_getElem? (i := 119) rfl), rfl⟩
theorem wd_913 : yWd (.instanceMethod yX3_forget) := ⟨lw_in4 _ (List.mem_of_getElem? (i := 120) rfl), rfl⟩
theorem wd_914 : yWd (.selects RX3 yX3_forget yX3_forget) := ⟨lw_in4 _ (List.mem_of_getElem? (i := 121) rfl), rfl⟩
theorem cv_X8_102 : yCV RX8 102 7 yX3_forget cX3_forget 1 none 0 := ⟨_, _, _, cl_X3, wd_915, wd_912, wd_913, wd_914, wd_81, ⟨by decide, by decide, by decide +kernel⟩, by decide⟩
theorem fg_X8_66_X8 : yFL RX8 66 12 8 := ⟨_, _, _, cl_X8, by decide, wd_340⟩
theorem wd_920 : yWd (.code yX6_forget cX6_forget 1 none) := ⟨lw_in4 _ (List.mem_of_getElem? (i := 127) rfl), rfl⟩
theorem wd_917 : yWd (.methodLink RX8 103 yX6_forget) := ⟨lw_in4 _ (List.mem_of_getElem? (i := 124) rfl), rfl⟩
theorem wd_918 : yWd (.instanceMethod yX6_forget) := ⟨lw_in4 _ (List.mem_of_getElem? (i := 125) rfl), rfl⟩
theorem wd_919 : yWd (.selects RX6 yX6_forget yX6_forget) := ⟨lw_in4 _ (List.mem_of_getElem? (i := 126) rfl), rfl⟩
theorem cv_X8_103 : yCV RX8 103 10 yX6_forget cX6_forget 1 none 0 := ⟨_, _, _, cl_X6, wd_920, wd_917, wd_918, wd_919, wd_82, ⟨by decide, by decide, by decide +kernel⟩, by decide⟩
theorem wd_412 : yWd (.methodLink RX8 104 yX1_openCells) := ⟨lw_in2 _ (List.mem_of_getElem? (i := 99) rfl), rfl⟩
theorem cv_X8_104 : yCV RX8 104 5 yX1_openCells cX1_openCells 1 (some .long) 0 := ⟨_, _, _, cl_X1, wd_415, wd_412, wd_413, wd_414, wd_75, ⟨by decide, by decide, by decide +kernel⟩, by decide⟩
theorem wd_637 : yWd (.methodLink RX8 108 yJ13_bitCount_95d88) := ⟨lw_in3 _ (List.mem_of_getElem? (i := 84) rfl), rfl⟩
theorem cs_X8_108 : yCS RX8 108 yJ13_bitCount_95d88 cJ13_bitCount_95d88 2 (some .int) 1 := ⟨wd_639, wd_637, wd_638, wd_95, ⟨by decide, by decide, by decide +kernel⟩, by decide⟩
def t_X8_lay : yT := [(0, .aload_n 0, 1), (1, .iload_n 1, 1), (2, .invokevirtual 114, 3), (5, .iload_n 2, 1), (6, .iconst 0, 1), (7, .iconst 3, 1), (8, .invokestatic 76, 3), (11, .invokestatic 117, 3), (14, .iload_n 2, 1), (15, .iconst 1, 1), (16, .if_icmp .ne 14, 3), (19, .aload_n 0, 1), (20, .invokevirtual 121, 3), (23, .iload_n 1, 1), (24, .invokestatic 124, 3), (27, .ifCond .ne 7, 3), (30, .iconst 1, 1), (31, .goto 4, 3), (34, .iconst 0, 1), (35, .invokestatic 128, 3), (38, .aload_n 0, 1), (39, .getfield 10, 3), (42, .iload_n 1, 1), (43, .invokevirtual 131, 3), (46, .istore_n 3, 1), (47, .aload_n 0, 1), (48, .getfield 10, 3), (51, .iload_n 1, 1), (52, .iload_n 2, 1), (53, .invokevirtual 135, 3), (56, .iload_n 3, 1), (57, .ireturn, 1)]
theorem wd_668 : yWd (.code yX8_needCell cX8_needCell 2 none) := ⟨lw_in3 _ (List.mem_of_getElem? (i := 115) rfl), rfl⟩
theorem wd_665 : yWd (.methodLink RX8 114 yX8_needCell) := ⟨lw_in3 _ (List.mem_of_getElem? (i := 112) rfl), rfl⟩
theorem wd_667 : yWd (.instanceMethod yX8_needCell) := ⟨lw_in3 _ (List.mem_of_getElem? (i := 114) rfl), rfl⟩
theorem wd_11 : yWd (.selects RX8 yX8_needCell yX8_needCell) := ⟨lw_inp1 _ (List.mem_of_getElem? (i := 11) rfl), rfl⟩
theorem cv_X8_114 : yCV RX8 114 12 yX8_needCell cX8_needCell 2 none 1 := ⟨_, _, _, cl_X8, wd_668, wd_665, wd_667, wd_11, wd_74, ⟨by decide, by decide, by decide +kernel⟩, by decide⟩
theorem wd_452 : yWd (.code yX8_needLet cX8_needLet 1 none) := ⟨lw_in2 _ (List.mem_of_getElem? (i := 139) rfl), rfl⟩
theorem wd_450 : yWd (.methodLink RX8 117 yX8_needLet) := ⟨lw_in2 _ (List.mem_of_getElem? (i := 137) rfl), rfl⟩
theorem wd_451 : yWd (.static yX8_needLet) := ⟨lw_in2 _ (List.mem_of_getElem? (i := 138) rfl), rfl⟩
theorem cs_X8_117 : yCS RX8 117 yX8_needLet cX8_needLet 1 none 1 := ⟨wd_452, wd_450, wd_451, wd_74, ⟨by decide, by decide, by decide +kernel⟩, by decide⟩
theorem wd_370 : yWd (.code yX8_takenCells cX8_takenCells 1 (some .long)) := ⟨lw_in2 _ (List.mem_of_getElem? (i := 57) rfl), rfl⟩
theorem wd_367 : yWd (.methodLink RX8 121 yX8_takenCells) := ⟨lw_in2 _ (List.mem_of_getElem? (i := 54) rfl), rfl⟩
theorem wd_369 : yWd (.instanceMethod yX8_takenCells) := ⟨lw_in2 _ (List.mem_of_getElem? (i := 56) rfl), rfl⟩
theorem wd_0 : yWd (.selects RX8 yX8_takenCells yX8_takenCells) := ⟨lw_inp1 _ (List.mem_of_getElem? (i := 0) rfl), rfl⟩
theorem cv_X8_121 : yCV RX8 121 12 yX8_takenCells cX8_takenCells 1 (some .long) 0 := ⟨_, _, _, cl_X8, wd_370, wd_367, wd_369, wd_0, wd_74, ⟨by decide, by decide, by decide +kernel⟩, by decide⟩
theorem wd_594 : yWd (.methodLink RX8 124 yX8_isOf) := ⟨lw_in3 _ (List.mem_of_getElem? (i := 41) rfl), rfl⟩
theorem cs_X8_124 : yCS RX8 124 yX8_isOf cX8_isOf 3 (some .boolean) 2 := ⟨wd_596, wd_594, wd_595, wd_74, ⟨by decide, by decide, by decide +kernel⟩, by decide⟩
theorem wd_933 : yWd (.code yX8_needPossible cX8_needPossible 1 none) := ⟨lw_in4 _ (List.mem_of_getElem? (i := 140) rfl), rfl⟩
theorem wd_931 : yWd (.methodLink RX8 128 yX8_needPossible) := ⟨lw_in4 _ (List.mem_of_getElem? (i := 138) rfl), rfl⟩
theorem wd_932 : yWd (.static yX8_needPossible) := ⟨lw_in4 _ (List.mem_of_getElem? (i := 139) rfl), rfl⟩
theorem cs_X8_128 : yCS RX8 128 yX8_needPossible cX8_needPossible 1 none 1 := ⟨wd_933, wd_931, wd_932, wd_74, ⟨by decide, by decide, by decide +kernel⟩, by decide⟩
theorem wd_691 : yWd (.code yX1_kindOf cX1_kindOf 2 (some .int)) := ⟨lw_in3 _ (List.mem_of_getElem? (i := 138) rfl), rfl⟩
theorem wd_688 : yWd (.methodLink RX8 131 yX1_kindOf) := ⟨lw_in3 _ (List.mem_of_getElem? (i := 135) rfl), rfl⟩
theorem wd_689 : yWd (.instanceMethod yX1_kindOf) := ⟨lw_in3 _ (List.mem_of_getElem? (i := 136) rfl), rfl⟩
theorem wd_690 : yWd (.selects RX1 yX1_kindOf yX1_kindOf) := ⟨lw_in3 _ (List.mem_of_getElem? (i := 137) rfl), rfl⟩
theorem cv_X8_131 : yCV RX8 131 5 yX1_kindOf cX1_kindOf 2 (some .int) 1 := ⟨_, _, _, cl_X1, wd_691, wd_688, wd_689, wd_690, wd_75, ⟨by decide, by decide, by decide +kernel⟩, by decide⟩
theorem wd_953 : yWd (.code yX1_change cX1_change 3 none) := ⟨lw_in4 _ (List.mem_of_getElem? (i := 160) rfl), rfl⟩
theorem wd_950 : yWd (.methodLink RX8 135 yX1_change) := ⟨lw_in4 _ (List.mem_of_getElem? (i := 157) rfl), rfl⟩
theorem wd_951 : yWd (.instanceMethod yX1_change) := ⟨lw_in4 _ (List.mem_of_getElem? (i := 158) rfl), rfl⟩
theorem wd_952 : yWd (.selects RX1 yX1_change yX1_change) := ⟨lw_in4 _ (List.mem_of_getElem? (i := 159) rfl), rfl⟩
theorem cv_X8_135 : yCV RX8 135 5 yX1_change cX1_change 3 none 2 := ⟨_, _, _, cl_X1, wd_953, wd_950, wd_951, wd_952, wd_75, ⟨by decide, by decide, by decide +kernel⟩, by decide⟩
def t_X8_gates : yT := [(0, .iload_n 1, 1), (1, .invokestatic 139, 3), (4, .ifCond .eq 14, 3), (7, .iload_n 2, 1), (8, .invokestatic 139, 3), (11, .ifCond .eq 7, 3), (14, .iconst 1, 1), (15, .goto 4, 3), (18, .iconst 0, 1), (19, .invokestatic 117, 3), (22, .aload_n 0, 1), (23, .getfield 10, 3), (26, .iload_n 1, 1), (27, .iload_n 2, 1), (28, .invokevirtual 143, 3), (31, .aload_n 0, 1), (32, .getfield 10, 3), (35, .invokevirtual 146, 3), (38, .ireturn, 1)]
theorem wd_632 : yWd (.code yX8_isMinute cX8_isMinute 1 (some .boolean)) := ⟨lw_in3 _ (List.mem_of_getElem? (i := 79) rfl), rfl⟩
theorem wd_630 : yWd (.methodLink RX8 139 yX8_isMinute) := ⟨lw_in3 _ (List.mem_of_getElem? (i := 77) rfl), rfl⟩
theorem wd_631 : yWd (.static yX8_isMinute) := ⟨lw_in3 _ (List.mem_of_getElem? (i := 78) rfl), rfl⟩
theorem cs_X8_139 : yCS RX8 139 yX8_isMinute cX8_isMinute 1 (some .boolean) 1 := ⟨wd_632, wd_630, wd_631, wd_74, ⟨by decide, by decide, by decide +kernel⟩, by decide⟩
theorem wd_961 : yWd (.methodLink RX8 143 yX1_openGates) := ⟨lw_in4 _ (List.mem_of_getElem? (i := 168) rfl), rfl⟩
theorem cv_X8_143 : yCV RX8 143 5 yX1_openGates cX1_openGates 3 none 2 := ⟨_, _, _, cl_X1, wd_874, wd_961, wd_872, wd_873, wd_75, ⟨by decide, by decide, by decide +kernel⟩, by decide⟩
theorem wd_965 : yWd (.code yX1_gateCount cX1_gateCount 1 (some .int)) := ⟨lw_in4 _ (List.mem_of_getElem? (i := 172) rfl), rfl⟩
theorem wd_962 : yWd (.methodLink RX8 146 yX1_gateCount) := ⟨lw_in4 _ (List.mem_of_getElem? (i := 169) rfl), rfl⟩
theorem wd_963 : yWd (.instanceMethod yX1_gateCount) := ⟨lw_in4 _ (List.mem_of_getElem? (i := 170) rfl), rfl⟩
theorem wd_964 : yWd (.selects RX1 yX1_gateCount yX1_gateCount) := ⟨lw_in4 _ (List.mem_of_getElem? (i := 171) rfl), rfl⟩
theorem cv_X8_146 : yCV RX8 146 5 yX1_gateCount cX1_gateCount 1 (some .int) 0 := ⟨_, _, _, cl_X1, wd_965, wd_962, wd_963, wd_964, wd_75, ⟨by decide, by decide, by decide +kernel⟩, by decide⟩
def t_X8_lamp : yT := [(0, .aload_n 0, 1), (1, .iload_n 1, 1), (2, .invokevirtual 114, 3), (5, .iload_n 2, 1), (6, .iconst 1, 1), (7, .iconst 4, 1), (8, .invokestatic 76, 3), (11, .invokestatic 117, 3), (14, .aload_n 0, 1), (15, .getfield 19, 3), (18, .invokevirtual 150, 3), (21, .ifCond .ne 18, 3), (24, .aload_n 0, 1), (25, .getfield 10, 3), (28, .iload_n 1, 1), (29, .invokevirtual 154, 3), (32, .ifCond .ne 7, 3), (35, .iconst 1, 1), (36, .goto 4, 3), (39, .iconst 0, 1), (40, .invokestatic 128, 3), (43, .aload_n 0, 1), (44, .getfield 19, 3), (47, .iload_n 1, 1), (48, .iload_n 2, 1), (49, .invokevirtual 157, 3), (52, .ireturn, 1)]
theorem wd_977 : yWd (.code yX4_isFull cX4_isFull 1 (some .boolean)) := ⟨lw_in4 _ (List.mem_of_getElem? (i := 184) rfl), rfl⟩
theorem wd_974 : yWd (.methodLink RX8 150 yX4_isFull) := ⟨lw_in4 _ (List.mem_of_getElem? (i := 181) rfl), rfl⟩
theorem wd_975 : yWd (.instanceMethod yX4_isFull) := ⟨lw_in4 _ (List.mem_of_getElem? (i := 182) rfl), rfl⟩
theorem wd_976 : yWd (.selects RX4 yX4_isFull yX4_isFull) := ⟨lw_in4 _ (List.mem_of_getElem? (i := 183) rfl), rfl⟩
theorem cv_X8_150 : yCV RX8 150 8 yX4_isFull cX4_isFull 1 (some .boolean) 0 := ⟨_, _, _, cl_X4, wd_977, wd_974, wd_975, wd_976, wd_76, ⟨by decide, by decide, by decide +kernel⟩, by decide⟩
theorem wd_979 : yWd (.methodLink RX8 154 yX1_isWall) := ⟨lw_in4 _ (List.mem_of_getElem? (i := 186) rfl), rfl⟩
theorem cv_X8_154 : yCV RX8 154 5 yX1_isWall cX1_isWall 2 (some .boolean) 1 := ⟨_, _, _, cl_X1, wd_982, wd_979, wd_980, wd_981, wd_75, ⟨by decide, by decide, by decide +kernel⟩, by decide⟩
theorem wd_986 : yWd (.code yX4_putUp cX4_putUp 3 (some .int)) := ⟨lw_in4 _ (List.mem_of_getElem? (i := 193) rfl), rfl⟩
theorem wd_983 : yWd (.methodLink RX8 157 yX4_putUp) := ⟨lw_in4 _ (List.mem_of_getElem? (i := 190) rfl), rfl⟩
theorem wd_984 : yWd (.instanceMethod yX4_putUp) := ⟨lw_in4 _ (List.mem_of_getElem? (i := 191) rfl), rfl⟩
theorem wd_985 : yWd (.selects RX4 yX4_putUp yX4_putUp) := ⟨lw_in4 _ (List.mem_of_getElem? (i := 192) rfl), rfl⟩
theorem cv_X8_157 : yCV RX8 157 8 yX4_putUp cX4_putUp 3 (some .int) 2 := ⟨_, _, _, cl_X4, wd_986, wd_983, wd_984, wd_985, wd_76, ⟨by decide, by decide, by decide +kernel⟩, by decide⟩
def t_X8_light : yT := [(0, .iload_n 1, 1), (1, .aload_n 0, 1), (2, .getfield 19, 3), (5, .invokevirtual 161, 3), (8, .invokestatic 164, 3), (11, .aload_n 0, 1), (12, .getfield 19, 3), (15, .iload_n 1, 1), (16, .iload_n 2, 1), (17, .invokevirtual 167, 3), (20, .aload_n 0, 1), (21, .invokevirtual 171, 3), (24, .invokestatic 108, 3), (27, .ireturn, 1)]
theorem wd_525 : yWd (.methodLink RX8 161 yX4_count) := ⟨lw_in2 _ (List.mem_of_getElem? (i := 212) rfl), rfl⟩
theorem cv_X8_161 : yCV RX8 161 8 yX4_count cX4_count 1 (some .int) 0 := ⟨_, _, _, cl_X4, wd_528, wd_525, wd_526, wd_527, wd_76, ⟨by decide, by decide, by decide +kernel⟩, by decide⟩
theorem wd_671 : yWd (.code yX8_needThere cX8_needThere 2 none) := ⟨lw_in3 _ (List.mem_of_getElem? (i := 118) rfl), rfl⟩
theorem wd_669 : yWd (.methodLink RX8 164 yX8_needThere) := ⟨lw_in3 _ (List.mem_of_getElem? (i := 116) rfl), rfl⟩
theorem wd_670 : yWd (.static yX8_needThere) := ⟨lw_in3 _ (List.mem_of_getElem? (i := 117) rfl), rfl⟩
theorem cs_X8_164 : yCS RX8 164 yX8_needThere cX8_needThere 2 none 2 := ⟨wd_671, wd_669, wd_670, wd_74, ⟨by decide, by decide, by decide +kernel⟩, by decide⟩
theorem wd_999 : yWd (.code yX4_turn cX4_turn 3 none) := ⟨lw_in4 _ (List.mem_of_getElem? (i := 206) rfl), rfl⟩
theorem wd_996 : yWd (.methodLink RX8 167 yX4_turn) := ⟨lw_in4 _ (List.mem_of_getElem? (i := 203) rfl), rfl⟩
theorem wd_997 : yWd (.instanceMethod yX4_turn) := ⟨lw_in4 _ (List.mem_of_getElem? (i := 204) rfl), rfl⟩
theorem wd_998 : yWd (.selects RX4 yX4_turn yX4_turn) := ⟨lw_in4 _ (List.mem_of_getElem? (i := 205) rfl), rfl⟩
theorem cv_X8_167 : yCV RX8 167 8 yX4_turn cX4_turn 3 none 2 := ⟨_, _, _, cl_X4, wd_999, wd_996, wd_997, wd_998, wd_76, ⟨by decide, by decide, by decide +kernel⟩, by decide⟩
theorem wd_561 : yWd (.code yX8_brightCells cX8_brightCells 1 (some .long)) := ⟨lw_in3 _ (List.mem_of_getElem? (i := 8) rfl), rfl⟩
theorem wd_558 : yWd (.methodLink RX8 171 yX8_brightCells) := ⟨lw_in3 _ (List.mem_of_getElem? (i := 5) rfl), rfl⟩
theorem wd_560 : yWd (.instanceMethod yX8_brightCells) := ⟨lw_in3 _ (List.mem_of_getElem? (i := 7) rfl), rfl⟩
theorem wd_5 : yWd (.selects RX8 yX8_brightCells yX8_brightCells) := ⟨lw_inp1 _ (List.mem_of_getElem? (i := 5) rfl), rfl⟩
theorem cv_X8_171 : yCV RX8 171 12 yX8_brightCells cX8_brightCells 1 (some .long) 0 := ⟨_, _, _, cl_X8, wd_561, wd_558, wd_560, wd_5, wd_74, ⟨by decide, by decide, by decide +kernel⟩, by decide⟩
def t_X8_fog : yT := [(0, .iload_n 1, 1), (1, .invokestatic 139, 3), (4, .ifCond .eq 16, 3), (7, .iload_n 2, 1), (8, .iconst 0, 1), (9, .iconst 5, 1), (10, .invokestatic 76, 3), (13, .ifCond .eq 7, 3), (16, .iconst 1, 1), (17, .goto 4, 3), (20, .iconst 0, 1), (21, .invokestatic 117, 3), (24, .aload_n 0, 1), (25, .getfield 26, 3), (28, .invokevirtual 174, 3), (31, .ifCond .ne 7, 3), (34, .iconst 1, 1), (35, .goto 4, 3), (38, .iconst 0, 1), (39, .invokestatic 128, 3), (42, .aload_n 0, 1), (43, .getfield 26, 3), (46, .iload_n 1, 1), (47, .iload_n 2, 1), (48, .invokevirtual 175, 3), (51, .ireturn, 1)]
theorem wd_1011 : yWd (.code yX0_isFull cX0_isFull 1 (some .boolean)) := ⟨lw_in4 _ (List.mem_of_getElem? (i := 218) rfl), rfl⟩
theorem wd_1008 : yWd (.methodLink RX8 174 yX0_isFull) := ⟨lw_in4 _ (List.mem_of_getElem? (i := 215) rfl), rfl⟩
theorem wd_1009 : yWd (.instanceMethod yX0_isFull) := ⟨lw_in4 _ (List.mem_of_getElem? (i := 216) rfl), rfl⟩
theorem wd_1010 : yWd (.selects RX0 yX0_isFull yX0_isFull) := ⟨lw_in4 _ (List.mem_of_getElem? (i := 217) rfl), rfl⟩
theorem cv_X8_174 : yCV RX8 174 4 yX0_isFull cX0_isFull 1 (some .boolean) 0 := ⟨_, _, _, cl_X0, wd_1011, wd_1008, wd_1009, wd_1010, wd_78, ⟨by decide, by decide, by decide +kernel⟩, by decide⟩
theorem wd_1016 : yWd (.code yX0_tell cX0_tell 3 (some .int)) := ⟨lw_in4 _ (List.mem_of_getElem? (i := 223) rfl), rfl⟩
theorem wd_1013 : yWd (.methodLink RX8 175 yX0_tell) := ⟨lw_in4 _ (List.mem_of_getElem? (i := 220) rfl), rfl⟩
theorem wd_1014 : yWd (.instanceMethod yX0_tell) := ⟨lw_in4 _ (List.mem_of_getElem? (i := 221) rfl), rfl⟩
theorem wd_1015 : yWd (.selects RX0 yX0_tell yX0_tell) := ⟨lw_in4 _ (List.mem_of_getElem? (i := 222) rfl), rfl⟩
theorem cv_X8_175 : yCV RX8 175 4 yX0_tell cX0_tell 3 (some .int) 2 := ⟨_, _, _, cl_X0, wd_1016, wd_1013, wd_1014, wd_1015, wd_78, ⟨by decide, by decide, by decide +kernel⟩, by decide⟩
def t_X8_guard : yT := [(0, .aload_n 0, 1), (1, .iload_n 1, 1), (2, .invokevirtual 114, 3), (5, .iload_n 2, 1), (6, .invokestatic 139, 3), (9, .ifCond .eq 30, 3), (12, .iload_n 3, 1), (13, .invokestatic 139, 3), (16, .ifCond .eq 23, 3), (19, .iload_n 2, 1), (20, .iload_n 3, 1), (21, .if_icmp .gt 18, 3), (24, .iload 4, 2), (26, .iconst 1, 1), (27, .bipush 20, 2), (29, .invokestatic 76, 3), (32, .ifCond .eq 7, 3), (35, .iconst 1, 1), (36, .goto 4, 3), (39, .iconst 0, 1), (40, .invokestatic 117, 3), (43, .aload_n 0, 1), (44, .getfield 33, 3), (47, .invokevirtual 177, 3), (50, .ifCond .ne 18, 3), (53, .aload_n 0, 1), (54, .getfield 10, 3), (57, .iload_n 1, 1), (58, .invokevirtual 154, 3), (61, .ifCond .ne 7, 3), (64, .iconst 1, 1), (65, .goto 4, 3), (68, .iconst 0, 1), (69, .invokestatic 128, 3), (72, .aload_n 0, 1), (73, .getfield 33, 3), (76, .iload_n 1, 1), (77, .iload_n 2, 1), (78, .iload_n 3, 1), (79, .iload 4, 2), (81, .invokevirtual 178, 3), (84, .ireturn, 1)]
theorem wd_1028 : yWd (.code yX2_isFull cX2_isFull 1 (some .boolean)) := ⟨lw_in4 _ (List.mem_of_getElem? (i := 235) rfl), rfl⟩
theorem wd_1025 : yWd (.methodLink RX8 177 yX2_isFull) := ⟨lw_in4 _ (List.mem_of_getElem? (i := 232) rfl), rfl⟩
theorem wd_1026 : yWd (.instanceMethod yX2_isFull) := ⟨lw_in4 _ (List.mem_of_getElem? (i := 233) rfl), rfl⟩
theorem wd_1027 : yWd (.selects RX2 yX2_isFull yX2_isFull) := ⟨lw_in4 _ (List.mem_of_getElem? (i := 234) rfl), rfl⟩
theorem cv_X8_177 : yCV RX8 177 6 yX2_isFull cX2_isFull 1 (some .boolean) 0 := ⟨_, _, _, cl_X2, wd_1028, wd_1025, wd_1026, wd_1027, wd_79, ⟨by decide, by decide, by decide +kernel⟩, by decide⟩
theorem wd_1033 : yWd (.code yX2_enlist cX2_enlist 5 (some .int)) := ⟨lw_in5 _ (List.mem_of_getElem? (i := 0) rfl), rfl⟩
theorem wd_1030 : yWd (.methodLink RX8 178 yX2_enlist) := ⟨lw_in4 _ (List.mem_of_getElem? (i := 237) rfl), rfl⟩
theorem wd_1031 : yWd (.instanceMethod yX2_enlist) := ⟨lw_in4 _ (List.mem_of_getElem? (i := 238) rfl), rfl⟩
theorem wd_1032 : yWd (.selects RX2 yX2_enlist yX2_enlist) := ⟨lw_in4 _ (List.mem_of_getElem? (i := 239) rfl), rfl⟩
theorem cv_X8_178 : yCV RX8 178 6 yX2_enlist cX2_enlist 5 (some .int) 4 := ⟨_, _, _, cl_X2, wd_1033, wd_1030, wd_1031, wd_1032, wd_79, ⟨by decide, by decide, by decide +kernel⟩, by decide⟩
def t_X8_round : yT := [(0, .iload_n 1, 1), (1, .aload_n 0, 1), (2, .getfield 33, 3), (5, .invokevirtual 182, 3), (8, .invokestatic 164, 3), (11, .aload_n 0, 1), (12, .iload_n 2, 1), (13, .invokevirtual 114, 3), (16, .aload_n 0, 1), (17, .getfield 33, 3), (20, .iload_n 1, 1), (21, .invokevirtual 183, 3), (24, .ifCond .ne 18, 3), (27, .aload_n 0, 1), (28, .getfield 10, 3), (31, .iload_n 2, 1), (32, .invokevirtual 154, 3), (35, .ifCond .ne 7, 3), (38, .iconst 1, 1), (39, .goto 4, 3), (42, .iconst 0, 1), (43, .invokestatic 128, 3), (46, .aload_n 0, 1), (47, .getfield 33, 3), (50, .iload_n 1, 1), (51, .iload_n 2, 1), (52, .invokevirtual 186, 3), (55, .ireturn, 1)]
theorem wd_423 : yWd (.methodLink RX8 182 yX2_count) := ⟨lw_in2 _ (List.mem_of_getElem? (i := 110) rfl), rfl⟩
theorem cv_X8_182 : yCV RX8 182 6 yX2_count cX2_count 1 (some .int) 0 := ⟨_, _, _, cl_X2, wd_394, wd_423, wd_392, wd_393, wd_79, ⟨by decide, by decide, by decide +kernel⟩, by decide⟩
theorem wd_1050 : yWd (.code yX2_isRoundFull cX2_isRoundFull 2 (some .boolean)) := ⟨lw_in5 _ (List.mem_of_getElem? (i := 17) rfl), rfl⟩
theorem wd_1047 : yWd (.methodLink RX8 183 yX2_isRoundFull) := ⟨lw_in5 _ (List.mem_of_getElem? (i := 14) rfl), rfl⟩
theorem wd_1048 : yWd (.instanceMethod yX2_isRoundFull) := ⟨lw_in5 _ (List.mem_of_getElem? (i := 15) rfl), rfl⟩
theorem wd_1049 : yWd (.selects RX2 yX2_isRoundFull yX2_isRoundFull) := ⟨lw_in5 _ (List.mem_of_getElem? (i := 16) rfl), rfl⟩
theorem cv_X8_183 : yCV RX8 183 6 yX2_isRoundFull cX2_isRoundFull 2 (some .boolean) 1 := ⟨_, _, _, cl_X2, wd_1050, wd_1047, wd_1048, wd_1049, wd_79, ⟨by decide, by decide, by decide +kernel⟩, by decide⟩
theorem wd_1051 : yWd (.methodLink RX8 186 yX2_lengthen) := ⟨lw_in5 _ (List.mem_of_getElem? (i := 18) rfl), rfl⟩
theorem cv_X8_186 : yCV RX8 186 6 yX2_lengthen cX2_lengthen 4 (some .int) 2 := ⟨_, _, _, cl_X2, wd_1038, wd_1051, wd_1036, wd_1037, wd_79, ⟨by decide, by decide, by decide +kernel⟩, by decide⟩
def t_X8_post : yT := [(0, .aload_n 0, 1), (1, .iload_n 1, 1), (2, .invokevirtual 114, 3), (5, .aload_n 0, 1), (6, .getfield 42, 3), (9, .invokevirtual 189, 3), (12, .ifCond .ne 18, 3), (15, .aload_n 0, 1), (16, .getfield 10, 3), (19, .iload_n 1, 1), (20, .invokevirtual 154, 3), (23, .ifCond .ne 7, 3), (26, .iconst 1, 1), (27, .goto 4, 3), (30, .iconst 0, 1), (31, .invokestatic 128, 3), (34, .aload_n 0, 1), (35, .getfield 42, 3), (38, .iload_n 1, 1), (39, .invokevirtual 190, 3), (42, .aload_n 0, 1), (43, .getfield 42, 3), (46, .invokevirtual 193, 3), (49, .iconst 1, 1), (50, .isub, 1), (51, .ireturn, 1)]
theorem wd_1059 : yWd (.methodLink RX8 189 yX5_isFull) := ⟨lw_in5 _ (List.mem_of_getElem? (i := 26) rfl), rfl⟩
theorem cv_X8_189 : yCV RX8 189 9 yX5_isFull cX5_isFull 1 (some .boolean) 0 := ⟨_, _, _, cl_X5, wd_330, wd_1059, wd_328, wd_329, wd_77, ⟨by decide, by decide, by decide +kernel⟩, by decide⟩
theorem wd_1060 : yWd (.methodLink RX8 190 yX5_add) := ⟨lw_in5 _ (List.mem_of_getElem? (i := 27) rfl), rfl⟩
theorem cv_X8_190 : yCV RX8 190 9 yX5_add cX5_add 2 none 1 := ⟨_, _, _, cl_X5, wd_326, wd_1060, wd_324, wd_325, wd_77, ⟨by decide, by decide, by decide +kernel⟩, by decide⟩
theorem wd_548 : yWd (.methodLink RX8 193 yX5_size) := ⟨lw_in2 _ (List.mem_of_getElem? (i := 235) rfl), rfl⟩
theorem cv_X8_193 : yCV RX8 193 9 yX5_size cX5_size 1 (some .int) 0 := ⟨_, _, _, cl_X5, wd_398, wd_548, wd_396, wd_397, wd_77, ⟨by decide, by decide, by decide +kernel⟩, by decide⟩
def t_X8_place : yT := [(0, .iload_n 1, 1), (1, .aload_n 0, 1), (2, .getfield 33, 3), (5, .invokevirtual 182, 3), (8, .invokestatic 164, 3), (11, .iload_n 2, 1), (12, .invokestatic 139, 3), (15, .invokestatic 117, 3), (18, .aload_n 0, 1), (19, .getfield 33, 3), (22, .iload_n 1, 1), (23, .iload_n 2, 1), (24, .invokevirtual 196, 3), (27, .ireturn, 1)]
theorem wd_585 : yWd (.methodLink RX8 196 yX2_standAt) := ⟨lw_in3 _ (List.mem_of_getElem? (i := 32) rfl), rfl⟩
theorem cv_X8_196 : yCV RX8 196 6 yX2_standAt cX2_standAt 6 (some .int) 2 := ⟨_, _, _, cl_X2, wd_588, wd_585, wd_586, wd_587, wd_79, ⟨by decide, by decide, by decide +kernel⟩, by decide⟩
def t_X8_sees : yT := [(0, .iload_n 1, 1), (1, .aload_n 0, 1), (2, .getfield 33, 3), (5, .invokevirtual 182, 3), (8, .invokestatic 199, 3), (11, .aload_n 0, 1), (12, .iload_n 2, 1), (13, .invokevirtual 114, 3), (16, .iload_n 3, 1), (17, .invokestatic 139, 3), (20, .invokestatic 117, 3), (23, .aload_n 0, 1), (24, .iload_n 1, 1), (25, .iload_n 3, 1), (26, .aload_n 0, 1), (27, .invokevirtual 171, 3), (30, .invokevirtual 202, 3), (33, .iload_n 2, 1), (34, .invokestatic 124, 3), (37, .ireturn, 1)]
theorem wd_1077 : yWd (.code yX8_needNoneOrThere cX8_needNoneOrThere 2 none) := ⟨lw_in5 _ (List.mem_of_getElem? (i := 44) rfl), rfl⟩
theorem wd_1075 : yWd (.methodLink RX8 199 yX8_needNoneOrThere) := ⟨lw_in5 _ (List.mem_of_getElem? (i := 42) rfl), rfl⟩
theorem wd_1076 : yWd (.static yX8_needNoneOrThere) := ⟨lw_in5 _ (List.mem_of_getElem? (i := 43) rfl), rfl⟩
theorem cs_X8_199 : yCS RX8 199 yX8_needNoneOrThere cX8_needNoneOrThere 2 none 2 := ⟨wd_1077, wd_1075, wd_1076, wd_74, ⟨by decide, by decide, by decide +kernel⟩, by decide⟩
theorem wd_578 : yWd (.code yX8_sightOf cX8_sightOf 13 (some .long)) := ⟨lw_in3 _ (List.mem_of_getElem? (i := 25) rfl), rfl⟩
theorem wd_575 : yWd (.methodLink RX8 202 yX8_sightOf) := ⟨lw_in3 _ (List.mem_of_getElem? (i := 22) rfl), rfl⟩
theorem wd_577 : yWd (.instanceMethod yX8_sightOf) := ⟨lw_in3 _ (List.mem_of_getElem? (i := 24) rfl), rfl⟩
theorem wd_6 : yWd (.selects RX8 yX8_sightOf yX8_sightOf) := ⟨lw_inp1 _ (List.mem_of_getElem? (i := 6) rfl), rfl⟩
theorem cv_X8_202 : yCV RX8 202 12 yX8_sightOf cX8_sightOf 13 (some .long) 3 := ⟨_, _, _, cl_X8, wd_578, wd_575, wd_577, wd_6, wd_74, ⟨by decide, by decide, by decide +kernel⟩, by decide⟩
def t_X8_ofCell : yT := [(0, .aload_n 0, 1), (1, .iload_n 1, 1), (2, .invokevirtual 114, 3), (5, .iload_n 2, 1), (6, .invokestatic 139, 3), (9, .ifCond .eq 16, 3), (12, .iload_n 3, 1), (13, .iconst 0, 1), (14, .iconst 4, 1), (15, .invokestatic 76, 3), (18, .ifCond .eq 7, 3), (21, .iconst 1, 1), (22, .goto 4, 3), (25, .iconst 0, 1), (26, .invokestatic 117, 3), (29, .iload_n 3, 1), (30, .tableswitch 73 0 3 #[30, 39, 56, 63], 30), (60, .aload_n 0, 1), (61, .getfield 10, 3), (64, .iload_n 1, 1), (65, .invokevirtual 131, 3), (68, .ireturn, 1), (69, .aload_n 0, 1), (70, .invokevirtual 171, 3), (73, .iload_n 1, 1), (74, .invokestatic 124, 3), (77, .ifCond .eq 7, 3), (80, .iconst 1, 1), (81, .goto 4, 3), (84, .iconst 0, 1), (85, .ireturn, 1), (86, .aload_n 0, 1), (87, .iload_n 1, 1), (88, .iload_n 2, 1), (89, .invokevirtual 206, 3), (92, .ireturn, 1), (93, .aload_n 0, 1), (94, .getfield 33, 3), (97, .iload_n 1, 1), (98, .iload_n 2, 1), (99, .invokevirtual 209, 3), (102, .ireturn, 1), (103, .aload_n 0, 1), (104, .getfield 10, 3), (107, .iload_n 2, 1), (108, .invokevirtual 212, 3), (111, .iload_n 1, 1), (112, .invokestatic 124, 3), (115, .ifCond .eq 7, 3), (118, .iconst 1, 1), (119, .goto 4, 3), (122, .iconst 0, 1), (123, .ireturn, 1)]
theorem wd_696 : yWd (.code yX8_guardsWhoSee cX8_guardsWhoSee 7 (some .int)) := ⟨lw_in3 _ (List.mem_of_getElem? (i := 143) rfl), rfl⟩
theorem wd_693 : yWd (.methodLink RX8 206 yX8_guardsWhoSee) := ⟨lw_in3 _ (List.mem_of_getElem? (i := 140) rfl), rfl⟩
theorem wd_695 : yWd (.instanceMethod yX8_guardsWhoSee) := ⟨lw_in3 _ (List.mem_of_getElem? (i := 142) rfl), rfl⟩
theorem wd_12 : yWd (.selects RX8 yX8_guardsWhoSee yX8_guardsWhoSee) := ⟨lw_inp1 _ (List.mem_of_getElem? (i := 12) rfl), rfl⟩
theorem cv_X8_206 : yCV RX8 206 12 yX8_guardsWhoSee cX8_guardsWhoSee 7 (some .int) 2 := ⟨_, _, _, cl_X8, wd_696, wd_693, wd_695, wd_12, wd_74, ⟨by decide, by decide, by decide +kernel⟩, by decide⟩
theorem wd_700 : yWd (.code yX2_setOn cX2_setOn 5 (some .int)) := ⟨lw_in3 _ (List.mem_of_getElem? (i := 147) rfl), rfl⟩
theorem wd_697 : yWd (.methodLink RX8 209 yX2_setOn) := ⟨lw_in3 _ (List.mem_of_getElem? (i := 144) rfl), rfl⟩
theorem wd_698 : yWd (.instanceMethod yX2_setOn) := ⟨lw_in3 _ (List.mem_of_getElem? (i := 145) rfl), rfl⟩
theorem wd_699 : yWd (.selects RX2 yX2_setOn yX2_setOn) := ⟨lw_in3 _ (List.mem_of_getElem? (i := 146) rfl), rfl⟩
theorem cv_X8_209 : yCV RX8 209 6 yX2_setOn cX2_setOn 5 (some .int) 2 := ⟨_, _, _, cl_X2, wd_700, wd_697, wd_698, wd_699, wd_79, ⟨by decide, by decide, by decide +kernel⟩, by decide⟩
theorem wd_704 : yWd (.code yX1_walkable cX1_walkable 3 (some .long)) := ⟨lw_in3 _ (List.mem_of_getElem? (i := 151) rfl), rfl⟩
theorem wd_701 : yWd (.methodLink RX8 212 yX1_walkable) := ⟨lw_in3 _ (List.mem_of_getElem? (i := 148) rfl), rfl⟩
theorem wd_702 : yWd (.instanceMethod yX1_walkable) := ⟨lw_in3 _ (List.mem_of_getElem? (i := 149) rfl), rfl⟩
theorem wd_703 : yWd (.selects RX1 yX1_walkable yX1_walkable) := ⟨lw_in3 _ (List.mem_of_getElem? (i := 150) rfl), rfl⟩
theorem cv_X8_212 : yCV RX8 212 5 yX1_walkable cX1_walkable 3 (some .long) 1 := ⟨_, _, _, cl_X1, wd_704, wd_701, wd_702, wd_703, wd_75, ⟨by decide, by decide, by decide +kernel⟩, by decide⟩
def t_X8_ofMinute : yT := [(0, .iload_n 1, 1), (1, .invokestatic 139, 3), (4, .ifCond .eq 17, 3), (7, .iload_n 2, 1), (8, .iconst 0, 1), (9, .bipush 6, 2), (11, .invokestatic 76, 3), (14, .ifCond .eq 7, 3), (17, .iconst 1, 1), (18, .goto 4, 3), (21, .iconst 0, 1), (22, .invokestatic 117, 3), (25, .iload_n 2, 1), (26, .tableswitch 100 0 5 #[38, 47, 68, 77, 86, 92], 38), (64, .aload_n 0, 1), (65, .getfield 26, 3), (68, .iload_n 1, 1), (69, .invokevirtual 216, 3), (72, .ireturn, 1), (73, .aload_n 0, 1), (74, .getfield 10, 3), (77, .invokevirtual 104, 3), (80, .aload_n 0, 1), (81, .iload_n 1, 1), (82, .invokevirtual 219, 3), (85, .ldc2_w 222, 3), (88, .lxor, 1), (89, .land, 1), (90, .invokestatic 108, 3), (93, .ireturn, 1), (94, .aload_n 0, 1), (95, .getfield 33, 3), (98, .iload_n 1, 1), (99, .invokevirtual 224, 3), (102, .ireturn, 1), (103, .aload_n 0, 1), (104, .getfield 33, 3), (107, .iload_n 1, 1), (108, .invokevirtual 227, 3), (111, .ireturn, 1), (112, .aload_n 0, 1), (113, .iload_n 1, 1), (114, .invokevirtual 230, 3), (117, .ireturn, 1), (118, .aload_n 0, 1), (119, .invokevirtual 171, 3), (122, .invokestatic 108, 3), (125, .ireturn, 1), (126, .aload_n 0, 1), (127, .iload_n 1, 1), (128, .invokevirtual 233, 3), (131, .ireturn, 1)]
theorem wd_582 : yWd (.code yX0_fogAt cX0_fogAt 6 (some .int)) := ⟨lw_in3 _ (List.mem_of_getElem? (i := 29) rfl), rfl⟩
theorem wd_579 : yWd (.methodLink RX8 216 yX0_fogAt) := ⟨lw_in3 _ (List.mem_of_getElem? (i := 26) rfl), rfl⟩
theorem wd_580 : yWd (.instanceMethod yX0_fogAt) := ⟨lw_in3 _ (List.mem_of_getElem? (i := 27) rfl), rfl⟩
theorem wd_581 : yWd (.selects RX0 yX0_fogAt yX0_fogAt) := ⟨lw_in3 _ (List.mem_of_getElem? (i := 28) rfl), rfl⟩
theorem cv_X8_216 : yCV RX8 216 4 yX0_fogAt cX0_fogAt 6 (some .int) 1 := ⟨_, _, _, cl_X0, wd_582, wd_579, wd_580, wd_581, wd_78, ⟨by decide, by decide, by decide +kernel⟩, by decide⟩
theorem wd_636 : yWd (.code yX8_watchedCells cX8_watchedCells 2 (some .long)) := ⟨lw_in3 _ (List.mem_of_getElem? (i := 83) rfl), rfl⟩
theorem wd_633 : yWd (.methodLink RX8 219 yX8_watchedCells) := ⟨lw_in3 _ (List.mem_of_getElem? (i := 80) rfl), rfl⟩
theorem wd_635 : yWd (.instanceMethod yX8_watchedCells) := ⟨lw_in3 _ (List.mem_of_getElem? (i := 82) rfl), rfl⟩
theorem wd_9 : yWd (.selects RX8 yX8_watchedCells yX8_watchedCells) := ⟨lw_inp1 _ (List.mem_of_getElem? (i := 9) rfl), rfl⟩
theorem cv_X8_219 : yCV RX8 219 12 yX8_watchedCells cX8_watchedCells 2 (some .long) 1 := ⟨_, _, _, cl_X8, wd_636, wd_633, wd_635, wd_9, wd_74, ⟨by decide, by decide, by decide +kernel⟩, by decide⟩
theorem wd_421 : yWd (.constantLong RX8 222 (-1)) := ⟨lw_in2 _ (List.mem_of_getElem? (i := 108) rfl), rfl⟩
theorem ld_X8_222 : yWd (.constantLong RX8 222 (-1)) := wd_421
theorem wd_646 : yWd (.code yX2_countOnDuty cX2_countOnDuty 4 (some .int)) := ⟨lw_in3 _ (List.mem_of_getElem? (i := 93) rfl), rfl⟩
theorem wd_643 : yWd (.methodLink RX8 224 yX2_countOnDuty) := ⟨lw_in3 _ (List.mem_of_getElem? (i := 90) rfl), rfl⟩
theorem wd_644 : yWd (.instanceMethod yX2_countOnDuty) := ⟨lw_in3 _ (List.mem_of_getElem? (i := 91) rfl), rfl⟩
theorem wd_645 : yWd (.selects RX2 yX2_countOnDuty yX2_countOnDuty) := ⟨lw_in3 _ (List.mem_of_getElem? (i := 92) rfl), rfl⟩
theorem cv_X8_224 : yCV RX8 224 6 yX2_countOnDuty cX2_countOnDuty 4 (some .int) 1 := ⟨_, _, _, cl_X2, wd_646, wd_643, wd_644, wd_645, wd_79, ⟨by decide, by decide, by decide +kernel⟩, by decide⟩
theorem wd_654 : yWd (.code yX2_countTired cX2_countTired 4 (some .int)) := ⟨lw_in3 _ (List.mem_of_getElem? (i := 101) rfl), rfl⟩
theorem wd_651 : yWd (.methodLink RX8 227 yX2_countTired) := ⟨lw_in3 _ (List.mem_of_getElem? (i := 98) rfl), rfl⟩
theorem wd_652 : yWd (.instanceMethod yX2_countTired) := ⟨lw_in3 _ (List.mem_of_getElem? (i := 99) rfl), rfl⟩
theorem wd_653 : yWd (.selects RX2 yX2_countTired yX2_countTired) := ⟨lw_in3 _ (List.mem_of_getElem? (i := 100) rfl), rfl⟩
theorem cv_X8_227 : yCV RX8 227 6 yX2_countTired cX2_countTired 4 (some .int) 1 := ⟨_, _, _, cl_X2, wd_654, wd_651, wd_652, wd_653, wd_79, ⟨by decide, by decide, by decide +kernel⟩, by decide⟩
theorem wd_620 : yWd (.code yX8_countEmptyPosts cX8_countEmptyPosts 6 (some .int)) := ⟨lw_in3 _ (List.mem_of_getElem? (i := 67) rfl), rfl⟩
theorem wd_617 : yWd (.methodLink RX8 230 yX8_countEmptyPosts) := ⟨lw_in3 _ (List.mem_of_getElem? (i := 64) rfl), rfl⟩
theorem wd_619 : yWd (.instanceMethod yX8_countEmptyPosts) := ⟨lw_in3 _ (List.mem_of_getElem? (i := 66) rfl), rfl⟩
theorem wd_8 : yWd (.selects RX8 yX8_countEmptyPosts yX8_countEmptyPosts) := ⟨lw_inp1 _ (List.mem_of_getElem? (i := 8) rfl), rfl⟩
theorem cv_X8_230 : yCV RX8 230 12 yX8_countEmptyPosts cX8_countEmptyPosts 6 (some .int) 1 := ⟨_, _, _, cl_X8, wd_620, wd_617, wd_619, wd_8, wd_74, ⟨by decide, by decide, by decide +kernel⟩, by decide⟩
theorem wd_659 : yWd (.code yX8_countKeysOffDuty cX8_countKeysOffDuty 5 (some .int)) := ⟨lw_in3 _ (List.mem_of_getElem? (i := 106) rfl), rfl⟩
theorem wd_656 : yWd (.methodLink RX8 233 yX8_countKeysOffDuty) := ⟨lw_in3 _ (List.mem_of_getElem? (i := 103) rfl), rfl⟩
theorem wd_658 : yWd (.instanceMethod yX8_countKeysOffDuty) := ⟨lw_in3 _ (List.mem_of_getElem? (i := 105) rfl), rfl⟩
theorem wd_10 : yWd (.selects RX8 yX8_countKeysOffDuty yX8_countKeysOffDuty) := ⟨lw_inp1 _ (List.mem_of_getElem? (i := 10) rfl), rfl⟩
theorem cv_X8_233 : yCV RX8 233 12 yX8_countKeysOffDuty cX8_countKeysOffDuty 5 (some .int) 1 := ⟨_, _, _, cl_X8, wd_659, wd_656, wd_658, wd_10, wd_74, ⟨by decide, by decide, by decide +kernel⟩, by decide⟩
def t_X8_empty : yT := [(0, .iload_n 1, 1), (1, .aload_n 0, 1), (2, .getfield 42, 3), (5, .invokevirtual 193, 3), (8, .invokestatic 164, 3), (11, .iconst (-1), 1), (12, .istore_n 3, 1), (13, .iconst 0, 1), (14, .istore 4, 2), (16, .iconst 0, 1), (17, .istore 5, 2), (19, .iload 5, 2), (21, .sipush 240, 3), (24, .if_icmp .ge 47, 3), (27, .aload_n 0, 1), (28, .getfield 33, 3), (31, .iload 5, 2), (33, .invokevirtual 236, 3), (36, .aload_n 0, 1), (37, .getfield 42, 3), (40, .iload_n 1, 1), (41, .invokevirtual 239, 3), (44, .invokestatic 124, 3), (47, .ifCond .ne 18, 3), (50, .iload_n 3, 1), (51, .iconst (-1), 1), (52, .if_icmp .ne 8, 3), (55, .iload 5, 2), (57, .goto 4, 3), (60, .iload_n 3, 1), (61, .istore_n 3, 1), (62, .iinc 4 1, 3), (65, .iinc 5 1, 3), (68, .goto (-49), 3), (71, .iload_n 2, 1), (72, .ifCond .eq 7, 3), (75, .iload_n 3, 1), (76, .goto 5, 3), (79, .iload 4, 2), (81, .ireturn, 1)]
theorem wd_624 : yWd (.code yX2_cellsHeld cX2_cellsHeld 5 (some .long)) := ⟨lw_in3 _ (List.mem_of_getElem? (i := 71) rfl), rfl⟩
theorem wd_621 : yWd (.methodLink RX8 236 yX2_cellsHeld) := ⟨lw_in3 _ (List.mem_of_getElem? (i := 68) rfl), rfl⟩
theorem wd_622 : yWd (.instanceMethod yX2_cellsHeld) := ⟨lw_in3 _ (List.mem_of_getElem? (i := 69) rfl), rfl⟩
theorem wd_623 : yWd (.selects RX2 yX2_cellsHeld yX2_cellsHeld) := ⟨lw_in3 _ (List.mem_of_getElem? (i := 70) rfl), rfl⟩
theorem cv_X8_236 : yCV RX8 236 6 yX2_cellsHeld cX2_cellsHeld 5 (some .long) 1 := ⟨_, _, _, cl_X2, wd_624, wd_621, wd_622, wd_623, wd_79, ⟨by decide, by decide, by decide +kernel⟩, by decide⟩
theorem wd_422 : yWd (.methodLink RX8 239 yX5_at) := ⟨lw_in2 _ (List.mem_of_getElem? (i := 109) rfl), rfl⟩
theorem cv_X8_239 : yCV RX8 239 9 yX5_at cX5_at 2 (some .int) 1 := ⟨_, _, _, cl_X5, wd_382, wd_422, wd_380, wd_381, wd_77, ⟨by decide, by decide, by decide +kernel⟩, by decide⟩
def t_X8_lapse : yT := [(0, .aload_n 0, 1), (1, .iload_n 1, 1), (2, .invokevirtual 114, 3), (5, .iload_n 2, 1), (6, .invokestatic 139, 3), (9, .ifCond .eq 19, 3), (12, .iload_n 3, 1), (13, .invokestatic 139, 3), (16, .ifCond .eq 12, 3), (19, .iload_n 2, 1), (20, .iload_n 3, 1), (21, .if_icmp .gt 7, 3), (24, .iconst 1, 1), (25, .goto 4, 3), (28, .iconst 0, 1), (29, .invokestatic 117, 3), (32, .iload_n 2, 1), (33, .istore 4, 2), (35, .iload 4, 2), (37, .iload_n 3, 1), (38, .if_icmp .gt 25, 3), (41, .aload_n 0, 1), (42, .iload 4, 2), (44, .invokevirtual 219, 3), (47, .iload_n 1, 1), (48, .invokestatic 124, 3), (51, .ifCond .ne 6, 3), (54, .iload 4, 2), (56, .ireturn, 1), (57, .iinc 4 1, 3), (60, .goto (-25), 3), (63, .iconst (-1), 1), (64, .ireturn, 1)]
def t_X8_words : yT := [(0, .iload_n 1, 1), (1, .iconst 0, 1), (2, .bipush 99, 2), (4, .invokestatic 76, 3), (7, .invokestatic 117, 3), (10, .aload_n 0, 1), (11, .getfield 49, 3), (14, .iload_n 1, 1), (15, .invokevirtual 70, 3), (18, .aload_n 0, 1), (19, .getfield 49, 3), (22, .iconst 0, 1), (23, .invokevirtual 242, 3), (26, .ireturn, 1)]
theorem wd_1107 : yWd (.code yX7_wordOf cX7_wordOf 2 (some .int)) := ⟨lw_in5 _ (List.mem_of_getElem? (i := 74) rfl), rfl⟩
theorem wd_1104 : yWd (.methodLink RX8 242 yX7_wordOf) := ⟨lw_in5 _ (List.mem_of_getElem? (i := 71) rfl), rfl⟩
theorem wd_1105 : yWd (.instanceMethod yX7_wordOf) := ⟨lw_in5 _ (List.mem_of_getElem? (i := 72) rfl), rfl⟩
theorem wd_1106 : yWd (.selects RX7 yX7_wordOf yX7_wordOf) := ⟨lw_in5 _ (List.mem_of_getElem? (i := 73) rfl), rfl⟩
theorem cv_X8_242 : yCV RX8 242 11 yX7_wordOf cX7_wordOf 2 (some .int) 1 := ⟨_, _, _, cl_X7, wd_1107, wd_1104, wd_1105, wd_1106, wd_80, ⟨by decide, by decide, by decide +kernel⟩, by decide⟩
def t_X8_leak : yT := [(0, .iload_n 1, 1), (1, .iconst 0, 1), (2, .iconst 3, 1), (3, .invokestatic 76, 3), (6, .invokestatic 117, 3), (9, .aload_n 0, 1), (10, .getfield 49, 3), (13, .invokevirtual 245, 3), (16, .ifCond .ne 7, 3), (19, .iconst 1, 1), (20, .goto 4, 3), (23, .iconst 0, 1), (24, .invokestatic 128, 3), (27, .aload_n 0, 1), (28, .getfield 49, 3), (31, .iload_n 1, 1), (32, .invokevirtual 248, 3), (35, .ireturn, 1)]
theorem wd_1118 : yWd (.code yX7_isLeakedOut cX7_isLeakedOut 1 (some .boolean)) := ⟨lw_in5 _ (List.mem_of_getElem? (i := 85) rfl), rfl⟩
theorem wd_1115 : yWd (.methodLink RX8 245 yX7_isLeakedOut) := ⟨lw_in5 _ (List.mem_of_getElem? (i := 82) rfl), rfl⟩
theorem wd_1116 : yWd (.instanceMethod yX7_isLeakedOut) := ⟨lw_in5 _ (List.mem_of_getElem? (i := 83) rfl), rfl⟩
theorem wd_1117 : yWd (.selects RX7 yX7_isLeakedOut yX7_isLeakedOut) := ⟨lw_in5 _ (List.mem_of_getElem? (i := 84) rfl), rfl⟩
theorem cv_X8_245 : yCV RX8 245 11 yX7_isLeakedOut cX7_isLeakedOut 1 (some .boolean) 0 := ⟨_, _, _, cl_X7, wd_1118, wd_1115, wd_1116, wd_1117, wd_80, ⟨by decide, by decide, by decide +kernel⟩, by decide⟩
theorem wd_1123 : yWd (.code yX7_replace cX7_replace 2 (some .int)) := ⟨lw_in5 _ (List.mem_of_getElem? (i := 90) rfl), rfl⟩
theorem wd_1120 : yWd (.methodLink RX8 248 yX7_replace) := ⟨lw_in5 _ (List.mem_of_getElem? (i := 87) rfl), rfl⟩
theorem wd_1121 : yWd (.instanceMethod yX7_replace) := ⟨lw_in5 _ (List.mem_of_getElem? (i := 88) rfl), rfl⟩
theorem wd_1122 : yWd (.selects RX7 yX7_replace yX7_replace) := ⟨lw_in5 _ (List.mem_of_getElem? (i := 89) rfl), rfl⟩
theorem cv_X8_248 : yCV RX8 248 11 yX7_replace cX7_replace 2 (some .int) 1 := ⟨_, _, _, cl_X7, wd_1123, wd_1120, wd_1121, wd_1122, wd_80, ⟨by decide, by decide, by decide +kernel⟩, by decide⟩
def t_X8_answer : yT := [(0, .iload_n 1, 1), (1, .aload_n 0, 1), (2, .getfield 33, 3), (5, .invokevirtual 182, 3), (8, .invokestatic 164, 3), (11, .iload_n 2, 1), (12, .invokestatic 139, 3), (15, .invokestatic 117, 3), (18, .aload_n 0, 1), (19, .getfield 49, 3), (22, .iload_n 1, 1), (23, .iload_n 2, 1), (24, .bipush 60, 2), (26, .idiv, 1), (27, .iload_n 3, 1), (28, .invokevirtual 251, 3), (31, .ireturn, 1)]
theorem wd_1135 : yWd (.code yX7_judge cX7_judge 5 (some .int)) := ⟨lw_in5 _ (List.mem_of_getElem? (i := 102) rfl), rfl⟩
theorem wd_1132 : yWd (.methodLink RX8 251 yX7_judge) := ⟨lw_in5 _ (List.mem_of_getElem? (i := 99) rfl), rfl⟩
theorem wd_1133 : yWd (.instanceMethod yX7_judge) := ⟨lw_in5 _ (List.mem_of_getElem? (i := 100) rfl), rfl⟩
theorem wd_1134 : yWd (.selects RX7 yX7_judge yX7_judge) := ⟨lw_in5 _ (List.mem_of_getElem? (i := 101) rfl), rfl⟩
theorem cv_X8_251 : yCV RX8 251 11 yX7_judge cX7_judge 5 (some .int) 3 := ⟨_, _, _, cl_X7, wd_1135, wd_1132, wd_1133, wd_1134, wd_80, ⟨by decide, by decide, by decide +kernel⟩, by decide⟩
def t_X8_key : yT := [(0, .iload_n 1, 1), (1, .bipush 6, 2), (3, .invokestatic 164, 3), (6, .iload_n 2, 1), (7, .aload_n 0, 1), (8, .getfield 33, 3), (11, .invokevirtual 182, 3), (14, .invokestatic 199, 3), (17, .aload_n 0, 1), (18, .getfield 53, 3), (21, .iload_n 1, 1), (22, .invokevirtual 239, 3), (25, .istore_n 3, 1), (26, .aload_n 0, 1), (27, .getfield 53, 3), (30, .iload_n 1, 1), (31, .iload_n 2, 1), (32, .invokevirtual 255, 3), (35, .iload_n 3, 1), (36, .ireturn, 1)]
theorem wd_1152 : yWd (.methodLink RX8 255 yX5_put) := ⟨lw_in5 _ (List.mem_of_getElem? (i := 119) rfl), rfl⟩
theorem cv_X8_255 : yCV RX8 255 9 yX5_put cX5_put 3 none 2 := ⟨_, _, _, cl_X5, wd_319, wd_1152, wd_317, wd_318, wd_77, ⟨by decide, by decide, by decide +kernel⟩, by decide⟩
def t_X8_ofGuard : yT := [(0, .iload_n 1, 1), (1, .aload_n 0, 1), (2, .getfield 33, 3), (5, .invokevirtual 182, 3), (8, .invokestatic 164, 3), (11, .iload_n 2, 1), (12, .iconst 0, 1), (13, .bipush 8, 2), (15, .invokestatic 76, 3), (18, .invokestatic 117, 3), (21, .iload_n 2, 1), (22, .tableswitch 126 0 7 #[46, 55, 64, 73, 82, 91, 108, 117], 46), (68, .aload_n 0, 1), (69, .getfield 33, 3), (72, .iload_n 1, 1), (73, .invokevirtual 258, 3), (76, .ireturn, 1), (77, .aload_n 0, 1), (78, .getfield 33, 3), (81, .iload_n 1, 1), (82, .invokevirtual 261, 3), (85, .ireturn, 1), (86, .aload_n 0, 1), (87, .getfield 33, 3), (90, .iload_n 1, 1), (91, .invokevirtual 264, 3), (94, .ireturn, 1), (95, .aload_n 0, 1), (96, .getfield 33, 3), (99, .iload_n 1, 1), (100, .invokevirtual 267, 3), (103, .ireturn, 1), (104, .aload_n 0, 1), (105, .getfield 49, 3), (108, .iload_n 1, 1), (109, .invokevirtual 270, 3), (112, .ireturn, 1), (113, .aload_n 0, 1), (114, .getfield 49, 3), (117, .iload_n 1, 1), (118, .invokevirtual 273, 3), (121, .ifCond .eq 7, 3), (124, .iconst 1, 1), (125, .goto 4, 3), (128, .iconst 0, 1), (129, .ireturn, 1), (130, .aload_n 0, 1), (131, .getfield 53, 3), (134, .iload_n 1, 1), (135, .invokevirtual 276, 3), (138, .ireturn, 1), (139, .aload_n 0, 1), (140, .getfield 49, 3), (143, .iload_n 1, 1), (144, .invokevirtual 279, 3), (147, .ireturn, 1), (148, .aload_n 0, 1), (149, .getfield 33, 3), (152, .iload_n 1, 1), (153, .invokevirtual 282, 3), (156, .ireturn, 1)]
theorem wd_714 : yWd (.code yX2_firstOf cX2_firstOf 2 (some .int)) := ⟨lw_in3 _ (List.mem_of_getElem? (i := 161) rfl), rfl⟩
theorem wd_711 : yWd (.methodLink RX8 258 yX2_firstOf) := ⟨lw_in3 _ (List.mem_of_getElem? (i := 158) rfl), rfl⟩
theorem wd_712 : yWd (.instanceMethod yX2_firstOf) := ⟨lw_in3 _ (List.mem_of_getElem? (i := 159) rfl), rfl⟩
theorem wd_713 : yWd (.selects RX2 yX2_firstOf yX2_firstOf) := ⟨lw_in3 _ (List.mem_of_getElem? (i := 160) rfl), rfl⟩
theorem cv_X8_258 : yCV RX8 258 6 yX2_firstOf cX2_firstOf 2 (some .int) 1 := ⟨_, _, _, cl_X2, wd_714, wd_711, wd_712, wd_713, wd_79, ⟨by decide, by decide, by decide +kernel⟩, by decide⟩
theorem wd_718 : yWd (.code yX2_lastOf cX2_lastOf 2 (some .int)) := ⟨lw_in3 _ (List.mem_of_getElem? (i := 165) rfl), rfl⟩
theorem wd_715 : yWd (.methodLink RX8 261 yX2_lastOf) := ⟨lw_in3 _ (List.mem_of_getElem? (i := 162) rfl), rfl⟩
theorem wd_716 : yWd (.instanceMethod yX2_lastOf) := ⟨lw_in3 _ (List.mem_of_getElem? (i := 163) rfl), rfl⟩
theorem wd_717 : yWd (.selects RX2 yX2_lastOf yX2_lastOf) := ⟨lw_in3 _ (List.mem_of_getElem? (i := 164) rfl), rfl⟩
theorem cv_X8_261 : yCV RX8 261 6 yX2_lastOf cX2_lastOf 2 (some .int) 1 := ⟨_, _, _, cl_X2, wd_718, wd_715, wd_716, wd_717, wd_79, ⟨by decide, by decide, by decide +kernel⟩, by decide⟩
theorem wd_722 : yWd (.code yX2_stayOf cX2_stayOf 2 (some .int)) := ⟨lw_in3 _ (List.mem_of_getElem? (i := 169) rfl), rfl⟩
theorem wd_719 : yWd (.methodLink RX8 264 yX2_stayOf) := ⟨lw_in3 _ (List.mem_of_getElem? (i := 166) rfl), rfl⟩
theorem wd_720 : yWd (.instanceMethod yX2_stayOf) := ⟨lw_in3 _ (List.mem_of_getElem? (i := 167) rfl), rfl⟩
theorem wd_721 : yWd (.selects RX2 yX2_stayOf yX2_stayOf) := ⟨lw_in3 _ (List.mem_of_getElem? (i := 168) rfl), rfl⟩
theorem cv_X8_264 : yCV RX8 264 6 yX2_stayOf cX2_stayOf 2 (some .int) 1 := ⟨_, _, _, cl_X2, wd_722, wd_719, wd_720, wd_721, wd_79, ⟨by decide, by decide, by decide +kernel⟩, by decide⟩
theorem wd_726 : yWd (.code yX2_lengthOf cX2_lengthOf 2 (some .int)) := ⟨lw_in3 _ (List.mem_of_getElem? (i := 173) rfl), rfl⟩
theorem wd_723 : yWd (.methodLink RX8 267 yX2_lengthOf) := ⟨lw_in3 _ (List.mem_of_getElem? (i := 170) rfl), rfl⟩
theorem wd_724 : yWd (.instanceMethod yX2_lengthOf) := ⟨lw_in3 _ (List.mem_of_getElem? (i := 171) rfl), rfl⟩
theorem wd_725 : yWd (.selects RX2 yX2_lengthOf yX2_lengthOf) := ⟨lw_in3 _ (List.mem_of_getElem? (i := 172) rfl), rfl⟩
theorem cv_X8_267 : yCV RX8 267 6 yX2_lengthOf cX2_lengthOf 2 (some .int) 1 := ⟨_, _, _, cl_X2, wd_726, wd_723, wd_724, wd_725, wd_79, ⟨by decide, by decide, by decide +kernel⟩, by decide⟩
theorem wd_730 : yWd (.code yX7_strikesOf cX7_strikesOf 2 (some .int)) := ⟨lw_in3 _ (List.mem_of_getElem? (i := 177) rfl), rfl⟩
theorem wd_727 : yWd (.methodLink RX8 270 yX7_strikesOf) := ⟨lw_in3 _ (List.mem_of_getElem? (i := 174) rfl), rfl⟩
theorem wd_728 : yWd (.instanceMethod yX7_strikesOf) := ⟨lw_in3 _ (List.mem_of_getElem? (i := 175) rfl), rfl⟩
theorem wd_729 : yWd (.selects RX7 yX7_strikesOf yX7_strikesOf) := ⟨lw_in3 _ (List.mem_of_getElem? (i := 176) rfl), rfl⟩
theorem cv_X8_270 : yCV RX8 270 11 yX7_strikesOf cX7_strikesOf 2 (some .int) 1 := ⟨_, _, _, cl_X7, wd_730, wd_727, wd_728, wd_729, wd_80, ⟨by decide, by decide, by decide +kernel⟩, by decide⟩
theorem wd_731 : yWd (.methodLink RX8 273 yX7_isBarred) := ⟨lw_in3 _ (List.mem_of_getElem? (i := 178) rfl), rfl⟩
theorem cv_X8_273 : yCV RX8 273 11 yX7_isBarred cX7_isBarred 2 (some .boolean) 1 := ⟨_, _, _, cl_X7, wd_734, wd_731, wd_732, wd_733, wd_80, ⟨by decide, by decide, by decide +kernel⟩, by decide⟩
theorem wd_735 : yWd (.methodLink RX8 276 yX5_placesOf) := ⟨lw_in3 _ (List.mem_of_getElem? (i := 182) rfl), rfl⟩
theorem cv_X8_276 : yCV RX8 276 9 yX5_placesOf cX5_placesOf 4 (some .int) 1 := ⟨_, _, _, cl_X5, wd_541, wd_735, wd_539, wd_540, wd_77, ⟨by decide, by decide, by decide +kernel⟩, by decide⟩
theorem wd_739 : yWd (.code yX7_hoursOf cX7_hoursOf 2 (some .int)) := ⟨lw_in3 _ (List.mem_of_getElem? (i := 186) rfl), rfl⟩
theorem wd_736 : yWd (.methodLink RX8 279 yX7_hoursOf) := ⟨lw_in3 _ (List.mem_of_getElem? (i := 183) rfl), rfl⟩
theorem wd_737 : yWd (.instanceMethod yX7_hoursOf) := ⟨lw_in3 _ (List.mem_of_getElem? (i := 184) rfl), rfl⟩
theorem wd_738 : yWd (.selects RX7 yX7_hoursOf yX7_hoursOf) := ⟨lw_in3 _ (List.mem_of_getElem? (i := 185) rfl), rfl⟩
theorem cv_X8_279 : yCV RX8 279 11 yX7_hoursOf cX7_hoursOf 2 (some .int) 1 := ⟨_, _, _, cl_X7, wd_739, wd_736, wd_737, wd_738, wd_80, ⟨by decide, by decide, by decide +kernel⟩, by decide⟩
theorem wd_743 : yWd (.code yX2_tiredMinutesOf cX2_tiredMinutesOf 3 (some .int)) := ⟨lw_in3 _ (List.mem_of_getElem? (i := 190) rfl), rfl⟩
theorem wd_740 : yWd (.methodLink RX8 282 yX2_tiredMinutesOf) := ⟨lw_in3 _ (List.mem_of_getElem? (i := 187) rfl), rfl⟩
theorem wd_741 : yWd (.instanceMethod yX2_tiredMinutesOf) := ⟨lw_in3 _ (List.mem_of_getElem? (i := 188) rfl), rfl⟩
theorem wd_742 : yWd (.selects RX2 yX2_tiredMinutesOf yX2_tiredMinutesOf) := ⟨lw_in3 _ (List.mem_of_getElem? (i := 189) rfl), rfl⟩
theorem cv_X8_282 : yCV RX8 282 6 yX2_tiredMinutesOf cX2_tiredMinutesOf 3 (some .int) 1 := ⟨_, _, _, cl_X2, wd_743, wd_740, wd_741, wd_742, wd_79, ⟨by decide, by decide, by decide +kernel⟩, by decide⟩
def t_X8_intruder : yT := [(0, .aload_n 0, 1), (1, .iload_n 1, 1), (2, .invokevirtual 114, 3), (5, .iload_n 2, 1), (6, .invokestatic 139, 3), (9, .ifCond .eq 11, 3), (12, .iload_n 3, 1), (13, .ifCond .lt 7, 3), (16, .iconst 1, 1), (17, .goto 4, 3), (20, .iconst 0, 1), (21, .invokestatic 117, 3), (24, .aload_n 0, 1), (25, .getfield 59, 3), (28, .invokevirtual 285, 3), (31, .ifCond .ne 24, 3), (34, .aload_n 0, 1), (35, .getfield 59, 3), (38, .aload_n 0, 1), (39, .getfield 10, 3), (42, .iload_n 1, 1), (43, .iload_n 2, 1), (44, .iload_n 3, 1), (45, .invokevirtual 286, 3), (48, .ifCond .eq 7, 3), (51, .iconst 1, 1), (52, .goto 4, 3), (55, .iconst 0, 1), (56, .istore 4, 2), (58, .iload 4, 2), (60, .invokestatic 128, 3), (63, .aload_n 0, 1), (64, .getfield 59, 3), (67, .invokevirtual 290, 3), (70, .iconst 1, 1), (71, .isub, 1), (72, .ireturn, 1)]
theorem wd_1167 : yWd (.code yX3_isFull cX3_isFull 1 (some .boolean)) := ⟨lw_in5 _ (List.mem_of_getElem? (i := 134) rfl), rfl⟩
theorem wd_1164 : yWd (.methodLink RX8 285 yX3_isFull) := ⟨lw_in5 _ (List.mem_of_getElem? (i := 131) rfl), rfl⟩
theorem wd_1165 : yWd (.instanceMethod yX3_isFull) := ⟨lw_in5 _ (List.mem_of_getElem? (i := 132) rfl), rfl⟩
theorem wd_1166 : yWd (.selects RX3 yX3_isFull yX3_isFull) := ⟨lw_in5 _ (List.mem_of_getElem? (i := 133) rfl), rfl⟩
theorem cv_X8_285 : yCV RX8 285 7 yX3_isFull cX3_isFull 1 (some .boolean) 0 := ⟨_, _, _, cl_X3, wd_1167, wd_1164, wd_1165, wd_1166, wd_81, ⟨by decide, by decide, by decide +kernel⟩, by decide⟩
theorem wd_1172 : yWd (.code yX3_come cX3_come 6 (some .boolean)) := ⟨lw_in5 _ (List.mem_of_getElem? (i := 139) rfl), rfl⟩
theorem wd_1169 : yWd (.methodLink RX8 286 yX3_come) := ⟨lw_in5 _ (List.mem_of_getElem? (i := 136) rfl), rfl⟩
theorem wd_1170 : yWd (.instanceMethod yX3_come) := ⟨lw_in5 _ (List.mem_of_getElem? (i := 137) rfl), rfl⟩
theorem wd_1171 : yWd (.selects RX3 yX3_come yX3_come) := ⟨lw_in5 _ (List.mem_of_getElem? (i := 138) rfl), rfl⟩
theorem cv_X8_286 : yCV RX8 286 7 yX3_come cX3_come 6 (some .boolean) 4 := ⟨_, _, _, cl_X3, wd_1172, wd_1169, wd_1170, wd_1171, wd_81, ⟨by decide, by decide, by decide +kernel⟩, by decide⟩
theorem wd_549 : yWd (.methodLink RX8 290 yX3_count) := ⟨lw_in2 _ (List.mem_of_getElem? (i := 236) rfl), rfl⟩
theorem cv_X8_290 : yCV RX8 290 7 yX3_count cX3_count 1 (some .int) 0 := ⟨_, _, _, cl_X3, wd_408, wd_549, wd_406, wd_407, wd_81, ⟨by decide, by decide, by decide +kernel⟩, by decide⟩
def t_X8_wire : yT := [(0, .aload_n 0, 1), (1, .iload_n 1, 1), (2, .invokevirtual 114, 3), (5, .iload_n 2, 1), (6, .iconst 1, 1), (7, .bipush 12, 2), (9, .invokestatic 76, 3), (12, .invokestatic 117, 3), (15, .aload_n 0, 1), (16, .getfield 66, 3), (19, .invokevirtual 291, 3), (22, .ifCond .ne 7, 3), (25, .iconst 1, 1), (26, .goto 4, 3), (29, .iconst 0, 1), (30, .invokestatic 128, 3), (33, .aload_n 0, 1), (34, .getfield 66, 3), (37, .iload_n 1, 1), (38, .iload_n 2, 1), (39, .invokevirtual 292, 3), (42, .ireturn, 1)]
theorem wd_1200 : yWd (.code yX6_isFull cX6_isFull 1 (some .boolean)) := ⟨lw_in5 _ (List.mem_of_getElem? (i := 167) rfl), rfl⟩
theorem wd_1197 : yWd (.methodLink RX8 291 yX6_isFull) := ⟨lw_in5 _ (List.mem_of_getElem? (i := 164) rfl), rfl⟩
theorem wd_1198 : yWd (.instanceMethod yX6_isFull) := ⟨lw_in5 _ (List.mem_of_getElem? (i := 165) rfl), rfl⟩
theorem wd_1199 : yWd (.selects RX6 yX6_isFull yX6_isFull) := ⟨lw_in5 _ (List.mem_of_getElem? (i := 166) rfl), rfl⟩
theorem cv_X8_291 : yCV RX8 291 10 yX6_isFull cX6_isFull 1 (some .boolean) 0 := ⟨_, _, _, cl_X6, wd_1200, wd_1197, wd_1198, wd_1199, wd_82, ⟨by decide, by decide, by decide +kernel⟩, by decide⟩
theorem wd_1205 : yWd (.code yX6_stretch cX6_stretch 3 (some .int)) := ⟨lw_in5 _ (List.mem_of_getElem? (i := 172) rfl), rfl⟩
theorem wd_1202 : yWd (.methodLink RX8 292 yX6_stretch) := ⟨lw_in5 _ (List.mem_of_getElem? (i := 169) rfl), rfl⟩
theorem wd_1203 : yWd (.instanceMethod yX6_stretch) := ⟨lw_in5 _ (List.mem_of_getElem? (i := 170) rfl), rfl⟩
theorem wd_1204 : yWd (.selects RX6 yX6_stretch yX6_stretch) := ⟨lw_in5 _ (List.mem_of_getElem? (i := 171) rfl), rfl⟩
theorem cv_X8_292 : yCV RX8 292 10 yX6_stretch cX6_stretch 3 (some .int) 2 := ⟨_, _, _, cl_X6, wd_1205, wd_1202, wd_1203, wd_1204, wd_82, ⟨by decide, by decide, by decide +kernel⟩, by decide⟩
def t_X8_where : yT := [(0, .iload_n 1, 1), (1, .aload_n 0, 1), (2, .getfield 59, 3), (5, .invokevirtual 290, 3), (8, .invokestatic 164, 3), (11, .iload_n 2, 1), (12, .invokestatic 139, 3), (15, .invokestatic 117, 3), (18, .aload_n 0, 1), (19, .getfield 59, 3), (22, .iload_n 1, 1), (23, .iload_n 2, 1), (24, .invokevirtual 295, 3), (27, .ireturn, 1)]
theorem wd_571 : yWd (.methodLink RX8 295 yX3_cellAt) := ⟨lw_in3 _ (List.mem_of_getElem? (i := 18) rfl), rfl⟩
theorem cv_X8_295 : yCV RX8 295 7 yX3_cellAt cX3_cellAt 5 (some .int) 2 := ⟨_, _, _, cl_X3, wd_574, wd_571, wd_572, wd_573, wd_81, ⟨by decide, by decide, by decide +kernel⟩, by decide⟩
def t_X8_ofIntruder : yT := [(0, .iload_n 1, 1), (1, .aload_n 0, 1), (2, .getfield 59, 3), (5, .invokevirtual 290, 3), (8, .invokestatic 164, 3), (11, .iload_n 2, 1), (12, .iconst 0, 1), (13, .bipush 8, 2), (15, .invokestatic 76, 3), (18, .invokestatic 117, 3), (21, .iload_n 2, 1), (22, .tableswitch 124 0 7 #[46, 55, 64, 76, 82, 93, 104, 115], 46), (68, .aload_n 0, 1), (69, .getfield 59, 3), (72, .iload_n 1, 1), (73, .invokevirtual 298, 3), (76, .ireturn, 1), (77, .aload_n 0, 1), (78, .getfield 59, 3), (81, .iload_n 1, 1), (82, .invokevirtual 299, 3), (85, .ireturn, 1), (86, .aload_n 0, 1), (87, .getfield 59, 3), (90, .iload_n 1, 1), (91, .sipush 239, 3), (94, .invokevirtual 295, 3), (97, .ireturn, 1), (98, .aload_n 0, 1), (99, .iload_n 1, 1), (100, .invokevirtual 302, 3), (103, .ireturn, 1), (104, .aload_n 0, 1), (105, .iload_n 1, 1), (106, .aload_n 0, 1), (107, .iload_n 1, 1), (108, .invokevirtual 302, 3), (111, .invokevirtual 305, 3), (114, .ireturn, 1), (115, .aload_n 0, 1), (116, .iload_n 1, 1), (117, .aload_n 0, 1), (118, .iload_n 1, 1), (119, .invokevirtual 302, 3), (122, .invokevirtual 308, 3), (125, .ireturn, 1), (126, .aload_n 0, 1), (127, .iload_n 1, 1), (128, .aload_n 0, 1), (129, .iload_n 1, 1), (130, .invokevirtual 302, 3), (133, .invokevirtual 311, 3), (136, .ireturn, 1), (137, .aload_n 0, 1), (138, .getfield 59, 3), (141, .iload_n 1, 1), (142, .invokevirtual 314, 3), (145, .ireturn, 1), (146, .aload_n 0, 1), (147, .getfield 59, 3), (150, .iload_n 1, 1), (151, .invokevirtual 317, 3), (154, .ireturn, 1)]
theorem wd_755 : yWd (.code yX3_firstOf cX3_firstOf 2 (some .int)) := ⟨lw_in3 _ (List.mem_of_getElem? (i := 202) rfl), rfl⟩
theorem wd_752 : yWd (.methodLink RX8 298 yX3_firstOf) := ⟨lw_in3 _ (List.mem_of_getElem? (i := 199) rfl), rfl⟩
theorem wd_753 : yWd (.instanceMethod yX3_firstOf) := ⟨lw_in3 _ (List.mem_of_getElem? (i := 200) rfl), rfl⟩
theorem wd_754 : yWd (.selects RX3 yX3_firstOf yX3_firstOf) := ⟨lw_in3 _ (List.mem_of_getElem? (i := 201) rfl), rfl⟩
theorem cv_X8_298 : yCV RX8 298 7 yX3_firstOf cX3_firstOf 2 (some .int) 1 := ⟨_, _, _, cl_X3, wd_755, wd_752, wd_753, wd_754, wd_81, ⟨by decide, by decide, by decide +kernel⟩, by decide⟩
theorem wd_759 : yWd (.code yX3_movesOf cX3_movesOf 2 (some .int)) := ⟨lw_in3 _ (List.mem_of_getElem? (i := 206) rfl), rfl⟩
theorem wd_756 : yWd (.methodLink RX8 299 yX3_movesOf) := ⟨lw_in3 _ (List.mem_of_getElem? (i := 203) rfl), rfl⟩
theorem wd_757 : yWd (.instanceMethod yX3_movesOf) := ⟨lw_in3 _ (List.mem_of_getElem? (i := 204) rfl), rfl⟩
theorem wd_758 : yWd (.selects RX3 yX3_movesOf yX3_movesOf) := ⟨lw_in3 _ (List.mem_of_getElem? (i := 205) rfl), rfl⟩
theorem cv_X8_299 : yCV RX8 299 7 yX3_movesOf cX3_movesOf 2 (some .int) 1 := ⟨_, _, _, cl_X3, wd_759, wd_756, wd_757, wd_758, wd_81, ⟨by decide, by decide, by decide +kernel⟩, by decide⟩
theorem wd_557 : yWd (.code yX8_foundAt cX8_foundAt 6 (some .int)) := ⟨lw_in3 _ (List.mem_of_getElem? (i := 4) rfl), rfl⟩
theorem wd_554 : yWd (.methodLink RX8 302 yX8_foundAt) := ⟨lw_in3 _ (List.mem_of_getElem? (i := 1) rfl), rfl⟩
theorem wd_556 : yWd (.instanceMethod yX8_foundAt) := ⟨lw_in3 _ (List.mem_of_getElem? (i := 3) rfl), rfl⟩
theorem wd_4 : yWd (.selects RX8 yX8_foundAt yX8_foundAt) := ⟨lw_inp1 _ (List.mem_of_getElem? (i := 4) rfl), rfl⟩
theorem cv_X8_302 : yCV RX8 302 12 yX8_foundAt cX8_foundAt 6 (some .int) 1 := ⟨_, _, _, cl_X8, wd_557, wd_554, wd_556, wd_4, wd_74, ⟨by decide, by decide, by decide +kernel⟩, by decide⟩
theorem wd_763 : yWd (.code yX8_findersOf cX8_findersOf 3 (some .int)) := ⟨lw_in3 _ (List.mem_of_getElem? (i := 210) rfl), rfl⟩
theorem wd_760 : yWd (.methodLink RX8 305 yX8_findersOf) := ⟨lw_in3 _ (List.mem_of_getElem? (i := 207) rfl), rfl⟩
theorem wd_762 : yWd (.instanceMethod yX8_findersOf) := ⟨lw_in3 _ (List.mem_of_getElem? (i := 209) rfl), rfl⟩
theorem wd_13 : yWd (.selects RX8 yX8_findersOf yX8_findersOf) := ⟨lw_inp1 _ (List.mem_of_getElem? (i := 13) rfl), rfl⟩
theorem cv_X8_305 : yCV RX8 305 12 yX8_findersOf cX8_findersOf 3 (some .int) 2 := ⟨_, _, _, cl_X8, wd_763, wd_760, wd_762, wd_13, wd_74, ⟨by decide, by decide, by decide +kernel⟩, by decide⟩
theorem wd_767 : yWd (.code yX8_firstArrival cX8_firstArrival 6 (some .int)) := ⟨lw_in3 _ (List.mem_of_getElem? (i := 214) rfl), rfl⟩
theorem wd_764 : yWd (.methodLink RX8 308 yX8_firstArrival) := ⟨lw_in3 _ (List.mem_of_getElem? (i := 211) rfl), rfl⟩
theorem wd_766 : yWd (.instanceMethod yX8_firstArrival) := ⟨lw_in3 _ (List.mem_of_getElem? (i := 213) rfl), rfl⟩
theorem wd_14 : yWd (.selects RX8 yX8_firstArrival yX8_firstArrival) := ⟨lw_inp1 _ (List.mem_of_getElem? (i := 14) rfl), rfl⟩
theorem cv_X8_308 : yCV RX8 308 12 yX8_firstArrival cX8_firstArrival 6 (some .int) 2 := ⟨_, _, _, cl_X8, wd_767, wd_764, wd_766, wd_14, wd_74, ⟨by decide, by decide, by decide +kernel⟩, by decide⟩
theorem wd_779 : yWd (.code yX8_responder cX8_responder 5 (some .int)) := ⟨lw_in3 _ (List.mem_of_getElem? (i := 226) rfl), rfl⟩
theorem wd_776 : yWd (.methodLink RX8 311 yX8_responder) := ⟨lw_in3 _ (List.mem_of_getElem? (i := 223) rfl), rfl⟩
theorem wd_778 : yWd (.instanceMethod yX8_responder) := ⟨lw_in3 _ (List.mem_of_getElem? (i := 225) rfl), rfl⟩
theorem wd_16 : yWd (.selects RX8 yX8_responder yX8_responder) := ⟨lw_inp2 _ (List.mem_of_getElem? (i := 0) rfl), rfl⟩
theorem cv_X8_311 : yCV RX8 311 12 yX8_responder cX8_responder 5 (some .int) 2 := ⟨_, _, _, cl_X8, wd_779, wd_776, wd_778, wd_16, wd_74, ⟨by decide, by decide, by decide +kernel⟩, by decide⟩
theorem wd_783 : yWd (.code yX3_stepsOf cX3_stepsOf 2 (some .int)) := ⟨lw_in3 _ (List.mem_of_getElem? (i := 230) rfl), rfl⟩
theorem wd_780 : yWd (.methodLink RX8 314 yX3_stepsOf) := ⟨lw_in3 _ (List.mem_of_getElem? (i := 227) rfl), rfl⟩
theorem wd_781 : yWd (.instanceMethod yX3_stepsOf) := ⟨lw_in3 _ (List.mem_of_getElem? (i := 228) rfl), rfl⟩
theorem wd_782 : yWd (.selects RX3 yX3_stepsOf yX3_stepsOf) := ⟨lw_in3 _ (List.mem_of_getElem? (i := 229) rfl), rfl⟩
theorem cv_X8_314 : yCV RX8 314 7 yX3_stepsOf cX3_stepsOf 2 (some .int) 1 := ⟨_, _, _, cl_X3, wd_783, wd_780, wd_781, wd_782, wd_81, ⟨by decide, by decide, by decide +kernel⟩, by decide⟩
theorem wd_787 : yWd (.code yX3_stepMinuteOf cX3_stepMinuteOf 2 (some .int)) := ⟨lw_in3 _ (List.mem_of_getElem? (i := 234) rfl), rfl⟩
theorem wd_784 : yWd (.methodLink RX8 317 yX3_stepMinuteOf) := ⟨lw_in3 _ (List.mem_of_getElem? (i := 231) rfl), rfl⟩
theorem wd_785 : yWd (.instanceMethod yX3_stepMinuteOf) := ⟨lw_in3 _ (List.mem_of_getElem? (i := 232) rfl), rfl⟩
theorem wd_786 : yWd (.selects RX3 yX3_stepMinuteOf yX3_stepMinuteOf) := ⟨lw_in3 _ (List.mem_of_getElem? (i := 233) rfl), rfl⟩
theorem cv_X8_317 : yCV RX8 317 7 yX3_stepMinuteOf cX3_stepMinuteOf 2 (some .int) 1 := ⟨_, _, _, cl_X3, wd_787, wd_784, wd_785, wd_786, wd_81, ⟨by decide, by decide, by decide +kernel⟩, by decide⟩
def t_X8_force : yT := [(0, .iload_n 1, 1), (1, .aload_n 0, 1), (2, .getfield 59, 3), (5, .invokevirtual 290, 3), (8, .invokestatic 164, 3), (11, .iload_n 2, 1), (12, .iconst 0, 1), (13, .iconst 3, 1), (14, .invokestatic 76, 3), (17, .ifCond .eq 14, 3), (20, .iload_n 3, 1), (21, .invokestatic 139, 3), (24, .ifCond .eq 7, 3), (27, .iconst 1, 1), (28, .goto 4, 3), (31, .iconst 0, 1), (32, .invokestatic 117, 3), (35, .aload_n 0, 1), (36, .iload_n 1, 1), (37, .invokevirtual 302, 3), (40, .istore 4, 2), (42, .iload 4, 2), (44, .iconst (-1), 1), (45, .if_icmp .eq 26, 3), (48, .iload_n 3, 1), (49, .iload 4, 2), (51, .if_icmp .lt 20, 3), (54, .aload_n 0, 1), (55, .getfield 59, 3), (58, .iload_n 1, 1), (59, .iload_n 2, 1), (60, .iload_n 3, 1), (61, .invokevirtual 320, 3), (64, .ifCond .eq 7, 3), (67, .iconst 1, 1), (68, .goto 4, 3), (71, .iconst 0, 1), (72, .invokestatic 128, 3), (75, .aload_n 0, 1), (76, .getfield 59, 3), (79, .iload_n 1, 1), (80, .iload_n 3, 1), (81, .invokevirtual 323, 3), (84, .ireturn, 1)]
theorem wd_1229 : yWd (.code yX3_isNextStep cX3_isNextStep 4 (some .boolean)) := ⟨lw_in5 _ (List.mem_of_getElem? (i := 196) rfl), rfl⟩
theorem wd_1226 : yWd (.methodLink RX8 320 yX3_isNextStep) := ⟨lw_in5 _ (List.mem_of_getElem? (i := 193) rfl), rfl⟩
theorem wd_1227 : yWd (.instanceMethod yX3_isNextStep) := ⟨lw_in5 _ (List.mem_of_getElem? (i := 194) rfl), rfl⟩
theorem wd_1228 : yWd (.selects RX3 yX3_isNextStep yX3_isNextStep) := ⟨lw_in5 _ (List.mem_of_getElem? (i := 195) rfl), rfl⟩
theorem cv_X8_320 : yCV RX8 320 7 yX3_isNextStep cX3_isNextStep 4 (some .boolean) 3 := ⟨_, _, _, cl_X3, wd_1229, wd_1226, wd_1227, wd_1228, wd_81, ⟨by decide, by decide, by decide +kernel⟩, by decide⟩
theorem wd_1233 : yWd (.code yX3_addStep cX3_addStep 3 (some .int)) := ⟨lw_in5 _ (List.mem_of_getElem? (i := 200) rfl), rfl⟩
theorem wd_1230 : yWd (.methodLink RX8 323 yX3_addStep) := ⟨lw_in5 _ (List.mem_of_getElem? (i := 197) rfl), rfl⟩
theorem wd_1231 : yWd (.instanceMethod yX3_addStep) := ⟨lw_in5 _ (List.mem_of_getElem? (i := 198) rfl), rfl⟩
theorem wd_1232 : yWd (.selects RX3 yX3_addStep yX3_addStep) := ⟨lw_in5 _ (List.mem_of_getElem? (i := 199) rfl), rfl⟩
theorem cv_X8_323 : yCV RX8 323 7 yX3_addStep cX3_addStep 3 (some .int) 2 := ⟨_, _, _, cl_X3, wd_1233, wd_1230, wd_1231, wd_1232, wd_81, ⟨by decide, by decide, by decide +kernel⟩, by decide⟩
def t_X8_ofWire : yT := [(0, .iload_n 1, 1), (1, .aload_n 0, 1), (2, .getfield 66, 3), (5, .invokevirtual 326, 3), (8, .invokestatic 164, 3), (11, .iload_n 2, 1), (12, .iconst 0, 1), (13, .iconst 4, 1), (14, .invokestatic 76, 3), (17, .invokestatic 117, 3), (20, .iload_n 2, 1), (21, .tableswitch 63 0 3 #[31, 40, 49, 56], 31), (52, .aload_n 0, 1), (53, .getfield 66, 3), (56, .iload_n 1, 1), (57, .invokevirtual 327, 3), (60, .ireturn, 1), (61, .aload_n 0, 1), (62, .getfield 66, 3), (65, .iload_n 1, 1), (66, .invokevirtual 330, 3), (69, .ireturn, 1), (70, .aload_n 0, 1), (71, .iload_n 1, 1), (72, .iconst 0, 1), (73, .invokevirtual 333, 3), (76, .ireturn, 1), (77, .aload_n 0, 1), (78, .iload_n 1, 1), (79, .iconst 1, 1), (80, .invokevirtual 333, 3), (83, .ireturn, 1), (84, .aload_n 0, 1), (85, .iload_n 1, 1), (86, .invokevirtual 337, 3), (89, .ireturn, 1)]
theorem wd_598 : yWd (.methodLink RX8 326 yX6_count) := ⟨lw_in3 _ (List.mem_of_getElem? (i := 45) rfl), rfl⟩
theorem cv_X8_326 : yCV RX8 326 10 yX6_count cX6_count 1 (some .int) 0 := ⟨_, _, _, cl_X6, wd_601, wd_598, wd_599, wd_600, wd_82, ⟨by decide, by decide, by decide +kernel⟩, by decide⟩
theorem wd_795 : yWd (.code yX6_cellOf cX6_cellOf 2 (some .int)) := ⟨lw_in4 _ (List.mem_of_getElem? (i := 2) rfl), rfl⟩
theorem wd_792 : yWd (.methodLink RX8 327 yX6_cellOf) := ⟨lw_in3 _ (List.mem_of_getElem? (i := 239) rfl), rfl⟩
theorem wd_793 : yWd (.instanceMethod yX6_cellOf) := ⟨lw_in4 _ (List.mem_of_getElem? (i := 0) rfl), rfl⟩
theorem wd_794 : yWd (.selects RX6 yX6_cellOf yX6_cellOf) := ⟨lw_in4 _ (List.mem_of_getElem? (i := 1) rfl), rfl⟩
theorem cv_X8_327 : yCV RX8 327 10 yX6_cellOf cX6_cellOf 2 (some .int) 1 := ⟨_, _, _, cl_X6, wd_795, wd_792, wd_793, wd_794, wd_82, ⟨by decide, by decide, by decide +kernel⟩, by decide⟩
theorem wd_800 : yWd (.code yX6_barOf cX6_barOf 2 (some .int)) := ⟨lw_in4 _ (List.mem_of_getElem? (i := 7) rfl), rfl⟩
theorem wd_797 : yWd (.methodLink RX8 330 yX6_barOf) := ⟨lw_in4 _ (List.mem_of_getElem? (i := 4) rfl), rfl⟩
theorem wd_798 : yWd (.instanceMethod yX6_barOf) := ⟨lw_in4 _ (List.mem_of_getElem? (i := 5) rfl), rfl⟩
theorem wd_799 : yWd (.selects RX6 yX6_barOf yX6_barOf) := ⟨lw_in4 _ (List.mem_of_getElem? (i := 6) rfl), rfl⟩
theorem cv_X8_330 : yCV RX8 330 10 yX6_barOf cX6_barOf 2 (some .int) 1 := ⟨_, _, _, cl_X6, wd_800, wd_797, wd_798, wd_799, wd_82, ⟨by decide, by decide, by decide +kernel⟩, by decide⟩
theorem wd_804 : yWd (.code yX8_countRings cX8_countRings 5 (some .int)) := ⟨lw_in4 _ (List.mem_of_getElem? (i := 11) rfl), rfl⟩
theorem wd_801 : yWd (.methodLink RX8 333 yX8_countRings) := ⟨lw_in4 _ (List.mem_of_getElem? (i := 8) rfl), rfl⟩
theorem wd_803 : yWd (.instanceMethod yX8_countRings) := ⟨lw_in4 _ (List.mem_of_getElem? (i := 10) rfl), rfl⟩
theorem wd_17 : yWd (.selects RX8 yX8_countRings yX8_countRings) := ⟨lw_inp2 _ (List.mem_of_getElem? (i := 1) rfl), rfl⟩
theorem cv_X8_333 : yCV RX8 333 12 yX8_countRings cX8_countRings 5 (some .int) 2 := ⟨_, _, _, cl_X8, wd_804, wd_801, wd_803, wd_17, wd_74, ⟨by decide, by decide, by decide +kernel⟩, by decide⟩
theorem wd_825 : yWd (.code yX8_firstTrueRing cX8_firstTrueRing 3 (some .int)) := ⟨lw_in4 _ (List.mem_of_getElem? (i := 32) rfl), rfl⟩
theorem wd_822 : yWd (.methodLink RX8 337 yX8_firstTrueRing) := ⟨lw_in4 _ (List.mem_of_getElem? (i := 29) rfl), rfl⟩
theorem wd_824 : yWd (.instanceMethod yX8_firstTrueRing) := ⟨lw_in4 _ (List.mem_of_getElem? (i := 31) rfl), rfl⟩
theorem wd_20 : yWd (.selects RX8 yX8_firstTrueRing yX8_firstTrueRing) := ⟨lw_inp2 _ (List.mem_of_getElem? (i := 4) rfl), rfl⟩
theorem cv_X8_337 : yCV RX8 337 12 yX8_firstTrueRing cX8_firstTrueRing 3 (some .int) 1 := ⟨_, _, _, cl_X8, wd_825, wd_822, wd_824, wd_20, wd_74, ⟨by decide, by decide, by decide +kernel⟩, by decide⟩
def t_X8_sneak : yT := [(0, .aload_n 0, 1), (1, .iload_n 1, 1), (2, .invokevirtual 114, 3), (5, .aload_n 0, 1), (6, .iload_n 2, 1), (7, .invokevirtual 114, 3), (10, .iload_n 3, 1), (11, .invokestatic 139, 3), (14, .ifCond .eq 18, 3), (17, .iload 4, 2), (19, .iconst 0, 1), (20, .bipush 60, 2), (22, .invokestatic 76, 3), (25, .ifCond .eq 7, 3), (28, .iconst 1, 1), (29, .goto 4, 3), (32, .iconst 0, 1), (33, .invokestatic 117, 3), (36, .iload_n 1, 1), (37, .invokestatic 340, 3), (40, .aload_n 0, 1), (41, .iload_n 3, 1), (42, .invokevirtual 343, 3), (45, .land, 1), (46, .lstore 5, 2), (48, .iconst 0, 1), (49, .istore 7, 2), (51, .lload 5, 2), (53, .iload_n 2, 1), (54, .invokestatic 124, 3), (57, .ifCond .ne 46, 3), (60, .iload 7, 2), (62, .iload 4, 2), (64, .if_icmp .ge 39, 3), (67, .iload_n 3, 1), (68, .iload 7, 2), (70, .iadd, 1), (71, .sipush 239, 3), (74, .if_icmp .ge 29, 3), (77, .iinc 7 1, 3), (80, .aload_n 0, 1), (81, .getfield 10, 3), (84, .lload 5, 2), (86, .invokevirtual 346, 3), (89, .aload_n 0, 1), (90, .iload_n 3, 1), (91, .iload 7, 2), (93, .iadd, 1), (94, .invokevirtual 343, 3), (97, .land, 1), (98, .lstore 5, 2), (100, .goto (-49), 3), (103, .lload 5, 2), (105, .iload_n 2, 1), (106, .invokestatic 124, 3), (109, .ifCond .eq 8, 3), (112, .iload 7, 2), (114, .goto 4, 3), (117, .iconst (-1), 1), (118, .ireturn, 1)]
theorem wd_597 : yWd (.methodLink RX8 340 yX8_setOf) := ⟨lw_in3 _ (List.mem_of_getElem? (i := 44) rfl), rfl⟩
theorem cs_X8_340 : yCS RX8 340 yX8_setOf cX8_setOf 1 (some .long) 1 := ⟨wd_385, wd_597, wd_384, wd_74, ⟨by decide, by decide, by decide +kernel⟩, by decide⟩
theorem wd_1248 : yWd (.code yX8_unseenCells cX8_unseenCells 2 (some .long)) := ⟨lw_in5 _ (List.mem_of_getElem? (i := 215) rfl), rfl⟩
theorem wd_1245 : yWd (.methodLink RX8 343 yX8_unseenCells) := ⟨lw_in5 _ (List.mem_of_getElem? (i := 212) rfl), rfl⟩
theorem wd_1247 : yWd (.instanceMethod yX8_unseenCells) := ⟨lw_in5 _ (List.mem_of_getElem? (i := 214) rfl), rfl⟩
theorem wd_30 : yWd (.selects RX8 yX8_unseenCells yX8_unseenCells) := ⟨lw_inp2 _ (List.mem_of_getElem? (i := 14) rfl), rfl⟩
theorem cv_X8_343 : yCV RX8 343 12 yX8_unseenCells cX8_unseenCells 2 (some .long) 1 := ⟨_, _, _, cl_X8, wd_1248, wd_1245, wd_1247, wd_30, wd_74, ⟨by decide, by decide, by decide +kernel⟩, by decide⟩
theorem wd_775 : yWd (.code yX1_spread cX1_spread 7 (some .long)) := ⟨lw_in3 _ (List.mem_of_getElem? (i := 222) rfl), rfl⟩
theorem wd_772 : yWd (.methodLink RX8 346 yX1_spread) := ⟨lw_in3 _ (List.mem_of_getElem? (i := 219) rfl), rfl⟩
theorem wd_773 : yWd (.instanceMethod yX1_spread) := ⟨lw_in3 _ (List.mem_of_getElem? (i := 220) rfl), rfl⟩
theorem wd_774 : yWd (.selects RX1 yX1_spread yX1_spread) := ⟨lw_in3 _ (List.mem_of_getElem? (i := 221) rfl), rfl⟩
theorem cv_X8_346 : yCV RX8 346 5 yX1_spread cX1_spread 7 (some .long) 1 := ⟨_, _, _, cl_X1, wd_775, wd_772, wd_773, wd_774, wd_75, ⟨by decide, by decide, by decide +kernel⟩, by decide⟩
def t_X8_reach : yT := [(0, .aload_n 0, 1), (1, .iload_n 1, 1), (2, .invokevirtual 114, 3), (5, .iload_n 2, 1), (6, .invokestatic 139, 3), (9, .ifCond .eq 26, 3), (12, .iload_n 3, 1), (13, .iconst 0, 1), (14, .bipush 60, 2), (16, .invokestatic 76, 3), (19, .ifCond .eq 16, 3), (22, .iload_n 2, 1), (23, .iload_n 3, 1), (24, .iadd, 1), (25, .sipush 240, 3), (28, .if_icmp .ge 7, 3), (31, .iconst 1, 1), (32, .goto 4, 3), (35, .iconst 0, 1), (36, .invokestatic 117, 3), (39, .iload_n 1, 1), (40, .invokestatic 340, 3), (43, .aload_n 0, 1), (44, .iload_n 2, 1), (45, .invokevirtual 343, 3), (48, .land, 1), (49, .lstore 4, 2), (51, .iconst 1, 1), (52, .istore 6, 2), (54, .iload 6, 2), (56, .iload_n 3, 1), (57, .if_icmp .gt 29, 3), (60, .aload_n 0, 1), (61, .getfield 10, 3), (64, .lload 4, 2), (66, .invokevirtual 346, 3), (69, .aload_n 0, 1), (70, .iload_n 2, 1), (71, .iload 6, 2), (73, .iadd, 1), (74, .invokevirtual 343, 3), (77, .land, 1), (78, .lstore 4, 2), (80, .iinc 6 1, 3), (83, .goto (-29), 3), (86, .lload 4, 2), (88, .invokestatic 108, 3), (91, .ireturn, 1)]
def t_X8_nextLamp : yT := [(0, .iload_n 1, 1), (1, .invokestatic 139, 3), (4, .ifCond .eq 16, 3), (7, .iload_n 2, 1), (8, .iconst 1, 1), (9, .iconst 4, 1), (10, .invokestatic 76, 3), (13, .ifCond .eq 7, 3), (16, .iconst 1, 1), (17, .goto 4, 3), (20, .iconst 0, 1), (21, .invokestatic 117, 3), (24, .iconst (-1), 1), (25, .istore 4, 2), (27, .iconst (-1), 1), (28, .istore 5, 2), (30, .iconst 0, 1), (31, .istore 6, 2), (33, .iload 6, 2), (35, .aload_n 0, 1), (36, .getfield 10, 3), (39, .invokevirtual 350, 3), (42, .if_icmp .ge 50, 3), (45, .aload_n 0, 1), (46, .getfield 10, 3), (49, .iload 6, 2), (51, .invokevirtual 154, 3), (54, .ifCond .eq 7, 3), (57, .iconst (-1), 1), (58, .goto 11, 3), (61, .aload_n 0, 1), (62, .iload 6, 2), (64, .iload_n 2, 1), (65, .iload_n 1, 1), (66, .invokevirtual 353, 3), (69, .istore 7, 2), (71, .iload 7, 2), (73, .iload 5, 2), (75, .if_icmp .le 11, 3), (78, .iload 6, 2), (80, .istore 4, 2), (82, .iload 7, 2), (84, .istore 5, 2), (86, .iinc 6 1, 3), (89, .goto (-56), 3), (92, .iload_n 3, 1), (93, .ifCond .eq 8, 3), (96, .iload 4, 2), (98, .goto 5, 3), (101, .iload 5, 2), (103, .ireturn, 1)]
theorem wd_521 : yWd (.methodLink RX8 350 yX1_cells) := ⟨lw_in2 _ (List.mem_of_getElem? (i := 208) rfl), rfl⟩
theorem cv_X8_350 : yCV RX8 350 5 yX1_cells cX1_cells 1 (some .int) 0 := ⟨_, _, _, cl_X1, wd_524, wd_521, wd_522, wd_523, wd_75, ⟨by decide, by decide, by decide +kernel⟩, by decide⟩
theorem wd_1266 : yWd (.code yX8_gainOfLamp cX8_gainOfLamp 10 (some .int)) := ⟨lw_in5 _ (List.mem_of_getElem? (i := 233) rfl), rfl⟩
theorem wd_1263 : yWd (.methodLink RX8 353 yX8_gainOfLamp) := ⟨lw_in5 _ (List.mem_of_getElem? (i := 230) rfl), rfl⟩
theorem wd_1265 : yWd (.instanceMethod yX8_gainOfLamp) := ⟨lw_in5 _ (List.mem_of_getElem? (i := 232) rfl), rfl⟩
theorem wd_31 : yWd (.selects RX8 yX8_gainOfLamp yX8_gainOfLamp) := ⟨lw_inp2 _ (List.mem_of_getElem? (i := 15) rfl), rfl⟩
theorem cv_X8_353 : yCV RX8 353 12 yX8_gainOfLamp cX8_gainOfLamp 10 (some .int) 3 := ⟨_, _, _, cl_X8, wd_1266, wd_1263, wd_1265, wd_31, wd_74, ⟨by decide, by decide, by decide +kernel⟩, by decide⟩
def t_X8_many : yT := [(0, .iload_n 1, 1), (1, .iconst 0, 1), (2, .bipush 12, 2), (4, .invokestatic 76, 3), (7, .invokestatic 117, 3), (10, .iload_n 1, 1), (11, .tableswitch 155 0 11 #[61, 69, 77, 85, 93, 101, 109, 114, 122, 134, 142, 150], 61), (72, .aload_n 0, 1), (73, .getfield 10, 3), (76, .invokevirtual 350, 3), (79, .ireturn, 1), (80, .aload_n 0, 1), (81, .getfield 19, 3), (84, .invokevirtual 161, 3), (87, .ireturn, 1), (88, .aload_n 0, 1), (89, .getfield 19, 3), (92, .invokevirtual 356, 3), (95, .ireturn, 1), (96, .aload_n 0, 1), (97, .getfield 33, 3), (100, .invokevirtual 182, 3), (103, .ireturn, 1), (104, .aload_n 0, 1), (105, .getfield 42, 3), (108, .invokevirtual 193, 3), (111, .ireturn, 1), (112, .aload_n 0, 1), (113, .getfield 59, 3), (116, .invokevirtual 290, 3), (119, .ireturn, 1), (120, .aload_n 0, 1), (121, .invokevirtual 359, 3), (124, .ireturn, 1), (125, .aload_n 0, 1), (126, .getfield 66, 3), (129, .invokevirtual 326, 3), (132, .ireturn, 1), (133, .bipush 6, 2), (135, .aload_n 0, 1), (136, .getfield 53, 3), (139, .iconst (-1), 1), (140, .invokevirtual 362, 3), (143, .isub, 1), (144, .ireturn, 1), (145, .aload_n 0, 1), (146, .getfield 49, 3), (149, .invokevirtual 365, 3), (152, .ireturn, 1), (153, .aload_n 0, 1), (154, .getfield 49, 3), (157, .invokevirtual 368, 3), (160, .ireturn, 1), (161, .aload_n 0, 1), (162, .invokevirtual 371, 3), (165, .ireturn, 1), (166, .aload_n 0, 1), (167, .getfield 374, 3), (170, .ireturn, 1)]
theorem wd_533 : yWd (.code yX4_countLit cX4_countLit 1 (some .int)) := ⟨lw_in2 _ (List.mem_of_getElem? (i := 220) rfl), rfl⟩
theorem wd_530 : yWd (.methodLink RX8 356 yX4_countLit) := ⟨lw_in2 _ (List.mem_of_getElem? (i := 217) rfl), rfl⟩
theorem wd_531 : yWd (.instanceMethod yX4_countLit) := ⟨lw_in2 _ (List.mem_of_getElem? (i := 218) rfl), rfl⟩
theorem wd_532 : yWd (.selects RX4 yX4_countLit yX4_countLit) := ⟨lw_in2 _ (List.mem_of_getElem? (i := 219) rfl), rfl⟩
theorem cv_X8_356 : yCV RX8 356 8 yX4_countLit cX4_countLit 1 (some .int) 0 := ⟨_, _, _, cl_X4, wd_533, wd_530, wd_531, wd_532, wd_76, ⟨by decide, by decide, by decide +kernel⟩, by decide⟩
theorem wd_553 : yWd (.code yX8_countFound cX8_countFound 3 (some .int)) := ⟨lw_in3 _ (List.mem_of_getElem? (i := 0) rfl), rfl⟩
theorem wd_550 : yWd (.methodLink RX8 359 yX8_countFound) := ⟨lw_in2 _ (List.mem_of_getElem? (i := 237) rfl), rfl⟩
theorem wd_552 : yWd (.instanceMethod yX8_countFound) := ⟨lw_in2 _ (List.mem_of_getElem? (i := 239) rfl), rfl⟩
theorem wd_3 : yWd (.selects RX8 yX8_countFound yX8_countFound) := ⟨lw_inp1 _ (List.mem_of_getElem? (i := 3) rfl), rfl⟩
theorem cv_X8_359 : yCV RX8 359 12 yX8_countFound cX8_countFound 3 (some .int) 0 := ⟨_, _, _, cl_X8, wd_553, wd_550, wd_552, wd_3, wd_74, ⟨by decide, by decide, by decide +kernel⟩, by decide⟩
theorem wd_603 : yWd (.methodLink RX8 362 yX5_countOf) := ⟨lw_in3 _ (List.mem_of_getElem? (i := 50) rfl), rfl⟩
theorem cv_X8_362 : yCV RX8 362 9 yX5_countOf cX5_countOf 2 (some .int) 1 := ⟨_, _, _, cl_X5, wd_537, wd_603, wd_535, wd_536, wd_77, ⟨by decide, by decide, by decide +kernel⟩, by decide⟩
theorem wd_607 : yWd (.code yX7_leaks cX7_leaks 1 (some .int)) := ⟨lw_in3 _ (List.mem_of_getElem? (i := 54) rfl), rfl⟩
theorem wd_604 : yWd (.methodLink RX8 365 yX7_leaks) := ⟨lw_in3 _ (List.mem_of_getElem? (i := 51) rfl), rfl⟩
theorem wd_605 : yWd (.instanceMethod yX7_leaks) := ⟨lw_in3 _ (List.mem_of_getElem? (i := 52) rfl), rfl⟩
theorem wd_606 : yWd (.selects RX7 yX7_leaks yX7_leaks) := ⟨lw_in3 _ (List.mem_of_getElem? (i := 53) rfl), rfl⟩
theorem cv_X8_365 : yCV RX8 365 11 yX7_leaks cX7_leaks 1 (some .int) 0 := ⟨_, _, _, cl_X7, wd_607, wd_604, wd_605, wd_606, wd_80, ⟨by decide, by decide, by decide +kernel⟩, by decide⟩
theorem wd_612 : yWd (.code yX7_rightAnswers cX7_rightAnswers 1 (some .int)) := ⟨lw_in3 _ (List.mem_of_getElem? (i := 59) rfl), rfl⟩
theorem wd_609 : yWd (.methodLink RX8 368 yX7_rightAnswers) := ⟨lw_in3 _ (List.mem_of_getElem? (i := 56) rfl), rfl⟩
theorem wd_610 : yWd (.instanceMethod yX7_rightAnswers) := ⟨lw_in3 _ (List.mem_of_getElem? (i := 57) rfl), rfl⟩
theorem wd_611 : yWd (.selects RX7 yX7_rightAnswers yX7_rightAnswers) := ⟨lw_in3 _ (List.mem_of_getElem? (i := 58) rfl), rfl⟩
theorem cv_X8_368 : yCV RX8 368 11 yX7_rightAnswers cX7_rightAnswers 1 (some .int) 0 := ⟨_, _, _, cl_X7, wd_612, wd_609, wd_610, wd_611, wd_80, ⟨by decide, by decide, by decide +kernel⟩, by decide⟩
theorem wd_616 : yWd (.code yX8_countMinutesOfEmptyPosts cX8_countMinutesOfEmptyPosts 3 (some .int)) := ⟨lw_in3 _ (List.mem_of_getElem? (i := 63) rfl), rfl⟩
theorem wd_613 : yWd (.methodLink RX8 371 yX8_countMinutesOfEmptyPosts) := ⟨lw_in3 _ (List.mem_of_getElem? (i := 60) rfl), rfl⟩
theorem wd_615 : yWd (.instanceMethod yX8_countMinutesOfEmptyPosts) := ⟨lw_in3 _ (List.mem_of_getElem? (i := 62) rfl), rfl⟩
theorem wd_7 : yWd (.selects RX8 yX8_countMinutesOfEmptyPosts yX8_countMinutesOfEmptyPosts) := ⟨lw_inp1 _ (List.mem_of_getElem? (i := 7) rfl), rfl⟩
theorem cv_X8_371 : yCV RX8 371 12 yX8_countMinutesOfEmptyPosts cX8_countMinutesOfEmptyPosts 3 (some .int) 0 := ⟨_, _, _, cl_X8, wd_616, wd_613, wd_615, wd_7, wd_74, ⟨by decide, by decide, by decide +kernel⟩, by decide⟩
theorem wd_341 : yWd (.fieldLink RX8 374 "NightwatchWall" "refused" "I") := ⟨lw_in2 _ (List.mem_of_getElem? (i := 28) rfl), rfl⟩
theorem fg_X8_374_X8 : yFL RX8 374 12 9 := ⟨_, _, _, cl_X8, by decide, wd_341⟩
def t_X8_drawn : yT := [(0, .iload_n 1, 1), (1, .aload_n 0, 1), (2, .getfield 10, 3), (5, .invokevirtual 378, 3), (8, .invokestatic 164, 3), (11, .iload_n 2, 1), (12, .invokestatic 139, 3), (15, .invokestatic 117, 3), (18, .aload_n 0, 1), (19, .iload_n 2, 1), (20, .invokevirtual 219, 3), (23, .lstore_n 3, 1), (24, .new 381, 3), (27, .dup, 1), (28, .invokespecial 383, 3), (31, .astore 5, 2), (33, .iconst 0, 1), (34, .istore 6, 2), (36, .iload 6, 2), (38, .aload_n 0, 1), (39, .getfield 10, 3), (42, .invokevirtual 384, 3), (45, .if_icmp .ge 31, 3), (48, .aload 5, 2), (50, .aload_n 0, 1), (51, .aload_n 0, 1), (52, .getfield 10, 3), (55, .iload_n 1, 1), (56, .iload 6, 2), (58, .invokevirtual 387, 3), (61, .iload_n 2, 1), (62, .lload_n 3, 1), (63, .invokevirtual 389, 3), (66, .invokevirtual 393, 3), (69, .pop, 1), (70, .iinc 6 1, 3), (73, .goto (-37), 3), (76, .aload 5, 2), (78, .invokevirtual 397, 3), (81, .areturn, 1)]
theorem wd_1281 : yWd (.code yX1_high cX1_high 1 (some .int)) := ⟨lw_in6 _ (List.mem_of_getElem? (i := 8) rfl), rfl⟩
theorem wd_1278 : yWd (.methodLink RX8 378 yX1_high) := ⟨lw_in6 _ (List.mem_of_getElem? (i := 5) rfl), rfl⟩
theorem wd_1279 : yWd (.instanceMethod yX1_high) := ⟨lw_in6 _ (List.mem_of_getElem? (i := 6) rfl), rfl⟩
theorem wd_1280 : yWd (.selects RX1 yX1_high yX1_high) := ⟨lw_in6 _ (List.mem_of_getElem? (i := 7) rfl), rfl⟩
theorem cv_X8_378 : yCV RX8 378 5 yX1_high cX1_high 1 (some .int) 0 := ⟨_, _, _, cl_X1, wd_1281, wd_1278, wd_1279, wd_1280, wd_75, ⟨by decide, by decide, by decide +kernel⟩, by decide⟩
theorem wd_1282 : yWd (.classLink RX8 381 RJ4) := ⟨lw_in6 _ (List.mem_of_getElem? (i := 9) rfl), rfl⟩
theorem wd_1283 : yWd (.instantiable RJ4 4) := ⟨lw_in6 _ (List.mem_of_getElem? (i := 10) rfl), rfl⟩
theorem wd_107 : yWd (.initialized RJ4) := ⟨lw_in1 _ (List.mem_of_getElem? (i := 34) rfl), rfl⟩
theorem nw_X8_381 : yNW RX8 381 1 4 [.null, .int 0, .int 0, .int 0] := by
  refine ⟨_, _, cl_J4, ?_, wd_1282, wd_1283, wd_107⟩
  intro ty hty j hj
  match j, hj with
  | 0, h => have e := Option.some.inj ((hty 0 h).symm.trans (tyJ4_ok 0 h)); rw [e]; rfl
  | 1, h => have e := Option.some.inj ((hty 1 h).symm.trans (tyJ4_ok 1 h)); rw [e]; rfl
  | 2, h => have e := Option.some.inj ((hty 2 h).symm.trans (tyJ4_ok 2 h)); rw [e]; rfl
  | 3, h => have e := Option.some.inj ((hty 3 h).symm.trans (tyJ4_ok 3 h)); rw [e]; rfl
  | j + 4, h => exact absurd h (by omega)
theorem wd_1286 : yWd (.code yJ4_init_da8c8 cJ4_init_da8c8 1 none) := ⟨lw_in6 _ (List.mem_of_getElem? (i := 13) rfl), rfl⟩
theorem wd_1284 : yWd (.methodLink RX8 383 yJ4_init_da8c8) := ⟨lw_in6 _ (List.mem_of_getElem? (i := 11) rfl), rfl⟩
theorem wd_1285 : yWd (.instanceMethod yJ4_init_da8c8) := ⟨lw_in6 _ (List.mem_of_getElem? (i := 12) rfl), rfl⟩
theorem ci_X8_383 : yCI RX8 383 yJ4_init_da8c8 cJ4_init_da8c8 1 0 := ⟨wd_1286, wd_1284, wd_1285, wd_107, ⟨by decide, by decide, by decide +kernel⟩, rfl, by decide⟩
theorem wd_1316 : yWd (.code yX1_wide cX1_wide 1 (some .int)) := ⟨lw_in6 _ (List.mem_of_getElem? (i := 43) rfl), rfl⟩
theorem wd_1313 : yWd (.methodLink RX8 384 yX1_wide) := ⟨lw_in6 _ (List.mem_of_getElem? (i := 40) rfl), rfl⟩
theorem wd_1314 : yWd (.instanceMethod yX1_wide) := ⟨lw_in6 _ (List.mem_of_getElem? (i := 41) rfl), rfl⟩
theorem wd_1315 : yWd (.selects RX1 yX1_wide yX1_wide) := ⟨lw_in6 _ (List.mem_of_getElem? (i := 42) rfl), rfl⟩
theorem cv_X8_384 : yCV RX8 384 5 yX1_wide cX1_wide 1 (some .int) 0 := ⟨_, _, _, cl_X1, wd_1316, wd_1313, wd_1314, wd_1315, wd_75, ⟨by decide, by decide, by decide +kernel⟩, by decide⟩
theorem wd_1317 : yWd (.methodLink RX8 387 yX1_cellOf) := ⟨lw_in6 _ (List.mem_of_getElem? (i := 44) rfl), rfl⟩
theorem cv_X8_387 : yCV RX8 387 5 yX1_cellOf cX1_cellOf 4 (some .int) 2 := ⟨_, _, _, cl_X1, wd_860, wd_1317, wd_858, wd_859, wd_75, ⟨by decide, by decide, by decide +kernel⟩, by decide⟩
theorem wd_1321 : yWd (.code yX8_signOf cX8_signOf 6 (some .char)) := ⟨lw_in6 _ (List.mem_of_getElem? (i := 48) rfl), rfl⟩
theorem wd_1318 : yWd (.methodLink RX8 389 yX8_signOf) := ⟨lw_in6 _ (List.mem_of_getElem? (i := 45) rfl), rfl⟩
theorem wd_1320 : yWd (.instanceMethod yX8_signOf) := ⟨lw_in6 _ (List.mem_of_getElem? (i := 47) rfl), rfl⟩
theorem wd_32 : yWd (.selects RX8 yX8_signOf yX8_signOf) := ⟨lw_inp3 _ (List.mem_of_getElem? (i := 0) rfl), rfl⟩
theorem cv_X8_389 : yCV RX8 389 12 yX8_signOf cX8_signOf 6 (some .char) 3 := ⟨_, _, _, cl_X8, wd_1321, wd_1318, wd_1320, wd_32, wd_74, ⟨by decide, by decide, by decide +kernel⟩, by decide⟩
theorem wd_1329 : yWd (.code yJ4_append_cf468 cJ4_append_cf468 2 (some (.object "java/lang/StringBuilder"))) := ⟨lw_in6 _ (List.mem_of_getElem? (i := 56) rfl), rfl⟩
theorem wd_1326 : yWd (.methodLink RX8 393 yJ4_append_cf468) := ⟨lw_in6 _ (List.mem_of_getElem? (i := 53) rfl), rfl⟩
theorem wd_1327 : yWd (.instanceMethod yJ4_append_cf468) := ⟨lw_in6 _ (List.mem_of_getElem? (i := 54) rfl), rfl⟩
theorem wd_1328 : yWd (.selects RJ4 yJ4_append_cf468 yJ4_append_cf468) := ⟨lw_in6 _ (List.mem_of_getElem? (i := 55) rfl), rfl⟩
theorem cv_X8_393 : yCV RX8 393 1 yJ4_append_cf468 cJ4_append_cf468 2 (some (.object "java/lang/StringBuilder")) 1 := ⟨_, _, _, cl_J4, wd_1329, wd_1326, wd_1327, wd_1328, wd_107, ⟨by decide, by decide, by decide +kernel⟩, by decide⟩
theorem wd_1424 : yWd (.code yJ4_toString_0e30d cJ4_toString_0e30d 1 (some (.object "java/lang/String"))) := ⟨lw_in6 _ (List.mem_of_getElem? (i := 151) rfl), rfl⟩
theorem wd_1421 : yWd (.methodLink RX8 397 yJ4_toString_0e30d) := ⟨lw_in6 _ (List.mem_of_getElem? (i := 148) rfl), rfl⟩
theorem wd_1422 : yWd (.instanceMethod yJ4_toString_0e30d) := ⟨lw_in6 _ (List.mem_of_getElem? (i := 149) rfl), rfl⟩
theorem wd_1423 : yWd (.selects RJ4 yJ4_toString_0e30d yJ4_toString_0e30d) := ⟨lw_in6 _ (List.mem_of_getElem? (i := 150) rfl), rfl⟩
theorem cv_X8_397 : yCV RX8 397 1 yJ4_toString_0e30d cJ4_toString_0e30d 1 (some (.object "java/lang/String")) 0 := ⟨_, _, _, cl_J4, wd_1424, wd_1421, wd_1422, wd_1423, wd_107, ⟨by decide, by decide, by decide +kernel⟩, by decide⟩
def t_X8_isSound : yT := [(0, .aload_n 0, 1), (1, .invokevirtual 121, 3), (4, .aload_n 0, 1), (5, .getfield 10, 3), (8, .invokevirtual 104, 3), (11, .ldc2_w 222, 3), (14, .lxor, 1), (15, .land, 1), (16, .lconst 0, 1), (17, .lcmp, 1), (18, .ifCond .eq 5, 3), (21, .iconst 0, 1), (22, .ireturn, 1), (23, .iconst 0, 1), (24, .istore_n 1, 1), (25, .iload_n 1, 1), (26, .bipush 6, 2), (28, .if_icmp .ge 35, 3), (31, .aload_n 0, 1), (32, .getfield 53, 3), (35, .iload_n 1, 1), (36, .invokevirtual 239, 3), (39, .iconst (-1), 1), (40, .aload_n 0, 1), (41, .getfield 33, 3), (44, .invokevirtual 182, 3), (47, .iconst 1, 1), (48, .isub, 1), (49, .invokestatic 76, 3), (52, .ifCond .ne 5, 3), (55, .iconst 0, 1), (56, .ireturn, 1), (57, .iinc 1 1, 3), (60, .goto (-35), 3), (63, .aload_n 0, 1), (64, .getfield 49, 3), (67, .invokevirtual 401, 3), (70, .ifCond .eq 17, 3), (73, .aload_n 0, 1), (74, .getfield 59, 3), (77, .invokevirtual 404, 3), (80, .ifCond .eq 7, 3), (83, .iconst 1, 1), (84, .goto 4, 3), (87, .iconst 0, 1), (88, .ireturn, 1)]
theorem wd_430 : yWd (.code yX7_areStrikesSound cX7_areStrikesSound 2 (some .boolean)) := ⟨lw_in2 _ (List.mem_of_getElem? (i := 117) rfl), rfl⟩
theorem wd_427 : yWd (.methodLink RX8 401 yX7_areStrikesSound) := ⟨lw_in2 _ (List.mem_of_getElem? (i := 114) rfl), rfl⟩
theorem wd_428 : yWd (.instanceMethod yX7_areStrikesSound) := ⟨lw_in2 _ (List.mem_of_getElem? (i := 115) rfl), rfl⟩
theorem wd_429 : yWd (.selects RX7 yX7_areStrikesSound yX7_areStrikesSound) := ⟨lw_in2 _ (List.mem_of_getElem? (i := 116) rfl), rfl⟩
theorem cv_X8_401 : yCV RX8 401 11 yX7_areStrikesSound cX7_areStrikesSound 2 (some .boolean) 0 := ⟨_, _, _, cl_X7, wd_430, wd_427, wd_428, wd_429, wd_80, ⟨by decide, by decide, by decide +kernel⟩, by decide⟩
theorem wd_435 : yWd (.code yX3_areStepsSound cX3_areStepsSound 2 (some .boolean)) := ⟨lw_in2 _ (List.mem_of_getElem? (i := 122) rfl), rfl⟩
theorem wd_432 : yWd (.methodLink RX8 404 yX3_areStepsSound) := ⟨lw_in2 _ (List.mem_of_getElem? (i := 119) rfl), rfl⟩
theorem wd_433 : yWd (.instanceMethod yX3_areStepsSound) := ⟨lw_in2 _ (List.mem_of_getElem? (i := 120) rfl), rfl⟩
theorem wd_434 : yWd (.selects RX3 yX3_areStepsSound yX3_areStepsSound) := ⟨lw_in2 _ (List.mem_of_getElem? (i := 121) rfl), rfl⟩
theorem cv_X8_404 : yCV RX8 404 7 yX3_areStepsSound cX3_areStepsSound 2 (some .boolean) 0 := ⟨_, _, _, cl_X3, wd_435, wd_432, wd_433, wd_434, wd_81, ⟨by decide, by decide, by decide +kernel⟩, by decide⟩
def t_X8_knock : yT := [(0, .aload_n 0, 1), (1, .dup, 1), (2, .getfield 374, 3), (5, .iconst 1, 1), (6, .iadd, 1), (7, .putfield 374, 3), (10, .aload_n 0, 1), (11, .getfield 374, 3), (14, .ireturn, 1)]
theorem fp_X8_374_X8 : yFP RX8 374 12 9 (.int) := ⟨_, _, _, cl_X8, by decide, rfl, by decide +kernel, wd_341⟩
def t_X8_digest : yT := [(0, .ldc2_w 407, 3), (3, .lstore_n 1, 1), (4, .iconst 0, 1), (5, .istore_n 3, 1), (6, .iload_n 3, 1), (7, .bipush 12, 2), (9, .if_icmp .gt 22, 3), (12, .lload_n 1, 1), (13, .ldc2_w 409, 3), (16, .lmul, 1), (17, .aload_n 0, 1), (18, .iload_n 3, 1), (19, .invokevirtual 411, 3), (22, .i2l, 1), (23, .ladd, 1), (24, .lstore_n 1, 1), (25, .iinc 3 1, 3), (28, .goto (-22), 3), (31, .iconst 0, 1), (32, .istore_n 3, 1), (33, .iload_n 3, 1), (34, .sipush 240, 3), (37, .if_icmp .ge 40, 3), (40, .iconst 0, 1), (41, .istore 4, 2), (43, .iload 4, 2), (45, .bipush 6, 2), (47, .if_icmp .gt 24, 3), (50, .lload_n 1, 1), (51, .ldc2_w 409, 3), (54, .lmul, 1), (55, .aload_n 0, 1), (56, .iload_n 3, 1), (57, .iload 4, 2), (59, .invokevirtual 414, 3), (62, .i2l, 1), (63, .ladd, 1), (64, .lstore_n 1, 1), (65, .iinc 4 1, 3), (68, .goto (-25), 3), (71, .iinc 3 60, 3), (74, .goto (-41), 3), (77, .iconst 0, 1), (78, .istore_n 3, 1), (79, .iload_n 3, 1), (80, .aload_n 0, 1), (81, .getfield 10, 3), (84, .invokevirtual 350, 3), (87, .if_icmp .ge 41, 3), (90, .iconst 0, 1), (91, .istore 4, 2), (93, .iload 4, 2), (95, .iconst 4, 1), (96, .if_icmp .gt 26, 3), (99, .lload_n 1, 1), (100, .ldc2_w 409, 3), (103, .lmul, 1), (104, .aload_n 0, 1), (105, .iload_n 3, 1), (106, .bipush 120, 2), (108, .iload 4, 2), (110, .invokevirtual 417, 3), (113, .i2l, 1), (114, .ladd, 1), (115, .lstore_n 1, 1), (116, .iinc 4 1, 3), (119, .goto (-26), 3), (122, .iinc 3 1, 3), (125, .goto (-46), 3), (128, .iconst 0, 1), (129, .istore_n 3, 1), (130, .iload_n 3, 1), (131, .aload_n 0, 1), (132, .getfield 33, 3), (135, .invokevirtual 182, 3), (138, .if_icmp .ge 40, 3), (141, .iconst 0, 1), (142, .istore 4, 2), (144, .iload 4, 2), (146, .bipush 8, 2), (148, .if_icmp .gt 24, 3), (151, .lload_n 1, 1), (152, .ldc2_w 409, 3), (155, .lmul, 1), (156, .aload_n 0, 1), (157, .iload_n 3, 1), (158, .iload 4, 2), (160, .invokevirtual 420, 3), (163, .i2l, 1), (164, .ladd, 1), (165, .lstore_n 1, 1), (166, .iinc 4 1, 3), (169, .goto (-25), 3), (172, .iinc 3 1, 3), (175, .goto (-45), 3), (178, .iconst 0, 1), (179, .istore_n 3, 1), (180, .iload_n 3, 1), (181, .aload_n 0, 1), (182, .getfield 42, 3), (185, .invokevirtual 193, 3), (188, .if_icmp .ge 37, 3), (191, .lload_n 1, 1), (192, .ldc2_w 409, 3), (195, .lmul, 1), (196, .aload_n 0, 1), (197, .iload_n 3, 1), (198, .iconst 1, 1), (199, .invokevirtual 423, 3), (202, .i2l, 1), (203, .ladd, 1), (204, .lstore_n 1, 1), (205, .lload_n 1, 1), (206, .ldc2_w 409, 3), (209, .lmul, 1), (210, .aload_n 0, 1), (211, .iload_n 3, 1), (212, .iconst 0, 1), (213, .invokevirtual 423, 3), (216, .i2l, 1), (217, .ladd, 1), (218, .lstore_n 1, 1), (219, .iinc 3 1, 3), (222, .goto (-42), 3), (225, .iconst 0, 1), (226, .istore_n 3, 1), (227, .iload_n 3, 1), (228, .aload_n 0, 1), (229, .getfield 59, 3), (232, .invokevirtual 290, 3), (235, .if_icmp .ge 40, 3), (238, .iconst 0, 1), (239, .istore 4, 2), (241, .iload 4, 2), (243, .bipush 8, 2), (245, .if_icmp .gt 24, 3), (248, .lload_n 1, 1), (249, .ldc2_w 409, 3), (252, .lmul, 1), (253, .aload_n 0, 1), (254, .iload_n 3, 1), (255, .iload 4, 2), (257, .invokevirtual 426, 3), (260, .i2l, 1), (261, .ladd, 1), (262, .lstore_n 1, 1), (263, .iinc 4 1, 3), (266, .goto (-25), 3), (269, .iinc 3 1, 3), (272, .goto (-45), 3), (275, .iconst 0, 1), (276, .istore_n 3, 1), (277, .iload_n 3, 1), (278, .aload_n 0, 1), (279, .getfield 66, 3), (282, .invokevirtual 326, 3), (285, .if_icmp .ge 39, 3), (288, .iconst 0, 1), (289, .istore 4, 2), (291, .iload 4, 2), (293, .iconst 4, 1), (294, .if_icmp .gt 24, 3), (297, .lload_n 1, 1), (298, .ldc2_w 409, 3), (301, .lmul, 1), (302, .aload_n 0, 1), (303, .iload_n 3, 1), (304, .iload 4, 2), (306, .invokevirtual 429, 3), (309, .i2l, 1), (310, .ladd, 1), (311, .lstore_n 1, 1), (312, .iinc 4 1, 3), (315, .goto (-24), 3), (318, .iinc 3 1, 3), (321, .goto (-44), 3), (324, .lload_n 1, 1), (325, .ldc2_w 409, 3), (328, .lmul, 1), (329, .aload_n 0, 1), (330, .invokevirtual 432, 3), (333, .ifCond .eq 7, 3), (336, .iconst 1, 1), (337, .goto 4, 3), (340, .iconst 0, 1), (341, .i2l, 1), (342, .ladd, 1), (343, .lreturn, 1)]
theorem wd_444 : yWd (.constantLong RX8 407 (9241)) := ⟨lw_in2 _ (List.mem_of_getElem? (i := 131) rfl), rfl⟩
theorem ld_X8_407 : yWd (.constantLong RX8 407 (9241)) := wd_444
theorem wd_445 : yWd (.constantLong RX8 409 (31)) := ⟨lw_in2 _ (List.mem_of_getElem? (i := 132) rfl), rfl⟩
theorem ld_X8_409 : yWd (.constantLong RX8 409 (31)) := wd_445
theorem wd_449 : yWd (.code yX8_many cX8_many 2 (some .int)) := ⟨lw_in2 _ (List.mem_of_getElem? (i := 136) rfl), rfl⟩
theorem wd_446 : yWd (.methodLink RX8 411 yX8_many) := ⟨lw_in2 _ (List.mem_of_getElem? (i := 133) rfl), rfl⟩
theorem wd_447 : yWd (.instanceMethod yX8_many) := ⟨lw_in2 _ (List.mem_of_getElem? (i := 134) rfl), rfl⟩
theorem wd_448 : yWd (.selects RX8 yX8_many yX8_many) := ⟨lw_in2 _ (List.mem_of_getElem? (i := 135) rfl), rfl⟩
theorem cv_X8_411 : yCV RX8 411 12 yX8_many cX8_many 2 (some .int) 1 := ⟨_, _, _, cl_X8, wd_449, wd_446, wd_447, wd_448, wd_74, ⟨by decide, by decide, by decide +kernel⟩, by decide⟩
theorem wd_629 : yWd (.code yX8_ofMinute cX8_ofMinute 3 (some .int)) := ⟨lw_in3 _ (List.mem_of_getElem? (i := 76) rfl), rfl⟩
theorem wd_626 : yWd (.methodLink RX8 414 yX8_ofMinute) := ⟨lw_in3 _ (List.mem_of_getElem? (i := 73) rfl), rfl⟩
theorem wd_627 : yWd (.instanceMethod yX8_ofMinute) := ⟨lw_in3 _ (List.mem_of_getElem? (i := 74) rfl), rfl⟩
theorem wd_628 : yWd (.selects RX8 yX8_ofMinute yX8_ofMinute) := ⟨lw_in3 _ (List.mem_of_getElem? (i := 75) rfl), rfl⟩
theorem cv_X8_414 : yCV RX8 414 12 yX8_ofMinute cX8_ofMinute 3 (some .int) 2 := ⟨_, _, _, cl_X8, wd_629, wd_626, wd_627, wd_628, wd_74, ⟨by decide, by decide, by decide +kernel⟩, by decide⟩
theorem wd_664 : yWd (.code yX8_ofCell cX8_ofCell 4 (some .int)) := ⟨lw_in3 _ (List.mem_of_getElem? (i := 111) rfl), rfl⟩
theorem wd_661 : yWd (.methodLink RX8 417 yX8_ofCell) := ⟨lw_in3 _ (List.mem_of_getElem? (i := 108) rfl), rfl⟩
theorem wd_662 : yWd (.instanceMethod yX8_ofCell) := ⟨lw_in3 _ (List.mem_of_getElem? (i := 109) rfl), rfl⟩
theorem wd_663 : yWd (.selects RX8 yX8_ofCell yX8_ofCell) := ⟨lw_in3 _ (List.mem_of_getElem? (i := 110) rfl), rfl⟩
theorem cv_X8_417 : yCV RX8 417 12 yX8_ofCell cX8_ofCell 4 (some .int) 3 := ⟨_, _, _, cl_X8, wd_664, wd_661, wd_662, wd_663, wd_74, ⟨by decide, by decide, by decide +kernel⟩, by decide⟩
theorem wd_710 : yWd (.code yX8_ofGuard cX8_ofGuard 3 (some .int)) := ⟨lw_in3 _ (List.mem_of_getElem? (i := 157) rfl), rfl⟩
theorem wd_707 : yWd (.methodLink RX8 420 yX8_ofGuard) := ⟨lw_in3 _ (List.mem_of_getElem? (i := 154) rfl), rfl⟩
theorem wd_708 : yWd (.instanceMethod yX8_ofGuard) := ⟨lw_in3 _ (List.mem_of_getElem? (i := 155) rfl), rfl⟩
theorem wd_709 : yWd (.selects RX8 yX8_ofGuard yX8_ofGuard) := ⟨lw_in3 _ (List.mem_of_getElem? (i := 156) rfl), rfl⟩
theorem cv_X8_420 : yCV RX8 420 12 yX8_ofGuard cX8_ofGuard 3 (some .int) 2 := ⟨_, _, _, cl_X8, wd_710, wd_707, wd_708, wd_709, wd_74, ⟨by decide, by decide, by decide +kernel⟩, by decide⟩
theorem wd_747 : yWd (.code yX8_empty cX8_empty 6 (some .int)) := ⟨lw_in3 _ (List.mem_of_getElem? (i := 194) rfl), rfl⟩
theorem wd_744 : yWd (.methodLink RX8 423 yX8_empty) := ⟨lw_in3 _ (List.mem_of_getElem? (i := 191) rfl), rfl⟩
theorem wd_745 : yWd (.instanceMethod yX8_empty) := ⟨lw_in3 _ (List.mem_of_getElem? (i := 192) rfl), rfl⟩
theorem wd_746 : yWd (.selects RX8 yX8_empty yX8_empty) := ⟨lw_in3 _ (List.mem_of_getElem? (i := 193) rfl), rfl⟩
theorem cv_X8_423 : yCV RX8 423 12 yX8_empty cX8_empty 6 (some .int) 2 := ⟨_, _, _, cl_X8, wd_747, wd_744, wd_745, wd_746, wd_74, ⟨by decide, by decide, by decide +kernel⟩, by decide⟩
theorem wd_751 : yWd (.code yX8_ofIntruder cX8_ofIntruder 3 (some .int)) := ⟨lw_in3 _ (List.mem_of_getElem? (i := 198) rfl), rfl⟩
theorem wd_748 : yWd (.methodLink RX8 426 yX8_ofIntruder) := ⟨lw_in3 _ (List.mem_of_getElem? (i := 195) rfl), rfl⟩
theorem wd_749 : yWd (.instanceMethod yX8_ofIntruder) := ⟨lw_in3 _ (List.mem_of_getElem? (i := 196) rfl), rfl⟩
theorem wd_750 : yWd (.selects RX8 yX8_ofIntruder yX8_ofIntruder) := ⟨lw_in3 _ (List.mem_of_getElem? (i := 197) rfl), rfl⟩
theorem cv_X8_426 : yCV RX8 426 12 yX8_ofIntruder cX8_ofIntruder 3 (some .int) 2 := ⟨_, _, _, cl_X8, wd_751, wd_748, wd_749, wd_750, wd_74, ⟨by decide, by decide, by decide +kernel⟩, by decide⟩
theorem wd_791 : yWd (.code yX8_ofWire cX8_ofWire 3 (some .int)) := ⟨lw_in3 _ (List.mem_of_getElem? (i := 238) rfl), rfl⟩
theorem wd_788 : yWd (.methodLink RX8 429 yX8_ofWire) := ⟨lw_in3 _ (List.mem_of_getElem? (i := 235) rfl), rfl⟩
theorem wd_789 : yWd (.instanceMethod yX8_ofWire) := ⟨lw_in3 _ (List.mem_of_getElem? (i := 236) rfl), rfl⟩
theorem wd_790 : yWd (.selects RX8 yX8_ofWire yX8_ofWire) := ⟨lw_in3 _ (List.mem_of_getElem? (i := 237) rfl), rfl⟩
theorem cv_X8_429 : yCV RX8 429 12 yX8_ofWire cX8_ofWire 3 (some .int) 2 := ⟨_, _, _, cl_X8, wd_791, wd_788, wd_789, wd_790, wd_74, ⟨by decide, by decide, by decide +kernel⟩, by decide⟩
theorem wd_366 : yWd (.code yX8_isSound cX8_isSound 2 (some .boolean)) := ⟨lw_in2 _ (List.mem_of_getElem? (i := 53) rfl), rfl⟩
theorem wd_826 : yWd (.methodLink RX8 432 yX8_isSound) := ⟨lw_in4 _ (List.mem_of_getElem? (i := 33) rfl), rfl⟩
theorem wd_364 : yWd (.instanceMethod yX8_isSound) := ⟨lw_in2 _ (List.mem_of_getElem? (i := 51) rfl), rfl⟩
theorem wd_365 : yWd (.selects RX8 yX8_isSound yX8_isSound) := ⟨lw_in2 _ (List.mem_of_getElem? (i := 52) rfl), rfl⟩
theorem cv_X8_432 : yCV RX8 432 12 yX8_isSound cX8_isSound 2 (some .boolean) 0 := ⟨_, _, _, cl_X8, wd_366, wd_826, wd_364, wd_365, wd_74, ⟨by decide, by decide, by decide +kernel⟩, by decide⟩
def t_X8_needCell : yT := [(0, .iload_n 1, 1), (1, .aload_n 0, 1), (2, .getfield 10, 3), (5, .invokevirtual 350, 3), (8, .invokestatic 164, 3), (11, .return_, 1)]
def t_X8_needThere : yT := [(0, .iload_n 0, 1), (1, .iconst 0, 1), (2, .iload_n 1, 1), (3, .iconst 1, 1), (4, .isub, 1), (5, .invokestatic 76, 3), (8, .ifCond .ne 14, 3), (11, .new 435, 3), (14, .dup, 1), (15, .ldc_w 437, 3), (18, .invokespecial 439, 3), (21, .athrow, 1), (22, .return_, 1)]
def t_X8_needNoneOrThere : yT := [(0, .iload_n 0, 1), (1, .iconst (-1), 1), (2, .if_icmp .eq 8, 3), (5, .iload_n 0, 1), (6, .iload_n 1, 1), (7, .invokestatic 164, 3), (10, .return_, 1)]
def t_X8_needLet : yT := [(0, .iload_n 0, 1), (1, .ifCond .ne 14, 3), (4, .new 80, 3), (7, .dup, 1), (8, .ldc_w 440, 3), (11, .invokespecial 84, 3), (14, .athrow, 1), (15, .return_, 1)]
def t_X8_needPossible : yT := [(0, .iload_n 0, 1), (1, .ifCond .ne 14, 3), (4, .new 442, 3), (7, .dup, 1), (8, .ldc_w 444, 3), (11, .invokespecial 446, 3), (14, .athrow, 1), (15, .return_, 1)]
def t_X8_isMinute : yT := [(0, .iload_n 0, 1), (1, .iconst 0, 1), (2, .sipush 239, 3), (5, .invokestatic 76, 3), (8, .ireturn, 1)]
def t_X8_isIn : yT := [(0, .iload_n 0, 1), (1, .iload_n 1, 1), (2, .if_icmp .lt 12, 3), (5, .iload_n 0, 1), (6, .iload_n 2, 1), (7, .if_icmp .gt 7, 3), (10, .iconst 1, 1), (11, .goto 4, 3), (14, .iconst 0, 1), (15, .ireturn, 1)]
def t_X8_setOf : yT := [(0, .iload_n 0, 1), (1, .ifCond .lt 15, 3), (4, .iload_n 0, 1), (5, .bipush 64, 2), (7, .if_icmp .ge 9, 3), (10, .lconst 1, 1), (11, .iload_n 0, 1), (12, .lshl, 1), (13, .goto 4, 3), (16, .lconst 0, 1), (17, .lreturn, 1)]
def t_X8_isOf : yT := [(0, .lload_n 0, 1), (1, .iload_n 2, 1), (2, .invokestatic 340, 3), (5, .land, 1), (6, .lconst 0, 1), (7, .lcmp, 1), (8, .ifCond .eq 7, 3), (11, .iconst 1, 1), (12, .goto 4, 3), (15, .iconst 0, 1), (16, .ireturn, 1)]
def t_X8_nextOfRow : yT := [(0, .bipush 23, 2), (2, .iload_n 0, 1), (3, .imul, 1), (4, .bipush 15, 2), (6, .iadd, 1), (7, .bipush 97, 2), (9, .irem, 1), (10, .ireturn, 1)]
def t_X8_brightCells : yT := [(0, .aload_n 0, 1), (1, .getfield 19, 3), (4, .aload_n 0, 1), (5, .getfield 10, 3), (8, .invokevirtual 447, 3), (11, .lreturn, 1)]
theorem wd_565 : yWd (.code yX4_brightCells cX4_brightCells 5 (some .long)) := ⟨lw_in3 _ (List.mem_of_getElem? (i := 12) rfl), rfl⟩
theorem wd_562 : yWd (.methodLink RX8 447 yX4_brightCells) := ⟨lw_in3 _ (List.mem_of_getElem? (i := 9) rfl), rfl⟩
theorem wd_563 : yWd (.instanceMethod yX4_brightCells) := ⟨lw_in3 _ (List.mem_of_getElem? (i := 10) rfl), rfl⟩
theorem wd_564 : yWd (.selects RX4 yX4_brightCells yX4_brightCells) := ⟨lw_in3 _ (List.mem_of_getElem? (i := 11) rfl), rfl⟩
theorem cv_X8_447 : yCV RX8 447 8 yX4_brightCells cX4_brightCells 5 (some .long) 1 := ⟨_, _, _, cl_X4, wd_565, wd_562, wd_563, wd_564, wd_76, ⟨by decide, by decide, by decide +kernel⟩, by decide⟩
def t_X8_watchedCells : yT := [(0, .aload_n 0, 1), (1, .iconst (-1), 1), (2, .iload_n 1, 1), (3, .aload_n 0, 1), (4, .invokevirtual 171, 3), (7, .invokevirtual 202, 3), (10, .lreturn, 1)]
def t_X8_sightOf : yT := [(0, .aload_n 0, 1), (1, .getfield 26, 3), (4, .iload_n 2, 1), (5, .invokevirtual 216, 3), (8, .istore 5, 2), (10, .iload_n 1, 1), (11, .iconst (-1), 1), (12, .if_icmp .ne 7, 3), (15, .iconst 0, 1), (16, .goto 4, 3), (19, .iload_n 1, 1), (20, .istore 6, 2), (22, .iload_n 1, 1), (23, .iconst (-1), 1), (24, .if_icmp .ne 15, 3), (27, .aload_n 0, 1), (28, .getfield 33, 3), (31, .invokevirtual 182, 3), (34, .iconst 1, 1), (35, .isub, 1), (36, .goto 4, 3), (39, .iload_n 1, 1), (40, .istore 7, 2), (42, .lconst 0, 1), (43, .lstore 8, 2), (45, .iload 6, 2), (47, .istore 10, 2), (49, .iload 10, 2), (51, .iload 7, 2), (53, .if_icmp .gt 88, 3), (56, .aload_n 0, 1), (57, .getfield 33, 3), (60, .iload 10, 2), (62, .iload_n 2, 1), (63, .invokevirtual 196, 3), (66, .istore 11, 2), (68, .aload_n 0, 1), (69, .getfield 33, 3), (72, .iload 10, 2), (74, .iload_n 2, 1), (75, .invokevirtual 450, 3), (78, .ifCond .eq 7, 3), (81, .iconst 1, 1), (82, .goto 4, 3), (85, .iconst 0, 1), (86, .istore 12, 2), (88, .lload 8, 2), (90, .aload_n 0, 1), (91, .getfield 10, 3), (94, .iload 11, 2), (96, .iconst 2, 1), (97, .iload 5, 2), (99, .iconst 2, 1), (100, .idiv, 1), (101, .isub, 1), (102, .iload 12, 2), (104, .isub, 1), (105, .invokevirtual 454, 3), (108, .lor, 1), (109, .lstore 8, 2), (111, .lload 8, 2), (113, .aload_n 0, 1), (114, .getfield 10, 3), (117, .iload 11, 2), (119, .bipush 7, 2), (121, .iload 5, 2), (123, .isub, 1), (124, .iload 12, 2), (126, .isub, 1), (127, .invokevirtual 454, 3), (130, .lload_n 3, 1), (131, .land, 1), (132, .lor, 1), (133, .lstore 8, 2), (135, .iinc 10 1, 3), (138, .goto (-89), 3), (141, .lload 8, 2), (143, .lreturn, 1)]
theorem wd_589 : yWd (.methodLink RX8 450 yX2_isTired) := ⟨lw_in3 _ (List.mem_of_getElem? (i := 36) rfl), rfl⟩
theorem cv_X8_450 : yCV RX8 450 6 yX2_isTired cX2_isTired 3 (some .boolean) 2 := ⟨_, _, _, cl_X2, wd_592, wd_589, wd_590, wd_591, wd_79, ⟨by decide, by decide, by decide +kernel⟩, by decide⟩
theorem wd_593 : yWd (.methodLink RX8 454 yX1_viewOf) := ⟨lw_in3 _ (List.mem_of_getElem? (i := 40) rfl), rfl⟩
theorem cv_X8_454 : yCV RX8 454 5 yX1_viewOf cX1_viewOf 5 (some .long) 2 := ⟨_, _, _, cl_X1, wd_570, wd_593, wd_568, wd_569, wd_75, ⟨by decide, by decide, by decide +kernel⟩, by decide⟩
def t_X8_guardsWhoSee : yT := [(0, .aload_n 0, 1), (1, .invokevirtual 171, 3), (4, .lstore_n 3, 1), (5, .iconst 0, 1), (6, .istore 5, 2), (8, .iconst 0, 1), (9, .istore 6, 2), (11, .iload 6, 2), (13, .aload_n 0, 1), (14, .getfield 33, 3), (17, .invokevirtual 182, 3), (20, .if_icmp .ge 33, 3), (23, .aload_n 0, 1), (24, .iload 6, 2), (26, .iload_n 2, 1), (27, .lload_n 3, 1), (28, .invokevirtual 202, 3), (31, .iload_n 1, 1), (32, .invokestatic 124, 3), (35, .ifCond .eq 12, 3), (38, .iload 5, 2), (40, .iconst 1, 1), (41, .iload 6, 2), (43, .ishl, 1), (44, .ior, 1), (45, .istore 5, 2), (47, .iinc 6 1, 3), (50, .goto (-39), 3), (53, .iload 5, 2), (55, .ireturn, 1)]
def t_X8_unseenCells : yT := [(0, .aload_n 0, 1), (1, .getfield 10, 3), (4, .iload_n 1, 1), (5, .invokevirtual 212, 3), (8, .aload_n 0, 1), (9, .iload_n 1, 1), (10, .invokevirtual 219, 3), (13, .ldc2_w 222, 3), (16, .lxor, 1), (17, .land, 1), (18, .lreturn, 1)]
def t_X8_gainOfLamp : yT := [(0, .aload_n 0, 1), (1, .invokevirtual 171, 3), (4, .lstore 4, 2), (6, .aload_n 0, 1), (7, .iconst (-1), 1), (8, .iload_n 3, 1), (9, .lload 4, 2), (11, .invokevirtual 202, 3), (14, .lstore 6, 2), (16, .aload_n 0, 1), (17, .iconst (-1), 1), (18, .iload_n 3, 1), (19, .lload 4, 2), (21, .aload_n 0, 1), (22, .getfield 10, 3), (25, .iload_n 1, 1), (26, .iload_n 2, 1), (27, .invokevirtual 454, 3), (30, .lor, 1), (31, .invokevirtual 202, 3), (34, .lstore 8, 2), (36, .lload 8, 2), (38, .lload 6, 2), (40, .ldc2_w 222, 3), (43, .lxor, 1), (44, .land, 1), (45, .aload_n 0, 1), (46, .getfield 10, 3), (49, .invokevirtual 104, 3), (52, .land, 1), (53, .invokestatic 108, 3), (56, .ireturn, 1)]
def t_X8_signOf : yT := [(0, .aload_n 0, 1), (1, .getfield 33, 3), (4, .iload_n 1, 1), (5, .iload_n 2, 1), (6, .invokevirtual 458, 3), (9, .istore 5, 2), (11, .iload 5, 2), (13, .iconst (-1), 1), (14, .if_icmp .eq 10, 3), (17, .bipush 48, 2), (19, .iload 5, 2), (21, .iadd, 1), (22, .i2c, 1), (23, .ireturn, 1), (24, .aload_n 0, 1), (25, .getfield 10, 3), (28, .iload_n 1, 1), (29, .invokevirtual 131, 3), (32, .tableswitch 37 1 3 #[28, 31, 34], 28), (60, .bipush 35, 2), (62, .ireturn, 1), (63, .bipush 37, 2), (65, .ireturn, 1), (66, .bipush 43, 2), (68, .ireturn, 1), (69, .lload_n 3, 1), (70, .iload_n 1, 1), (71, .invokestatic 124, 3), (74, .ifCond .eq 8, 3), (77, .bipush 58, 2), (79, .goto 5, 3), (82, .bipush 46, 2), (84, .ireturn, 1)]
theorem wd_1325 : yWd (.code yX2_firstOn cX2_firstOn 4 (some .int)) := ⟨lw_in6 _ (List.mem_of_getElem? (i := 52) rfl), rfl⟩
theorem wd_1322 : yWd (.methodLink RX8 458 yX2_firstOn) := ⟨lw_in6 _ (List.mem_of_getElem? (i := 49) rfl), rfl⟩
theorem wd_1323 : yWd (.instanceMethod yX2_firstOn) := ⟨lw_in6 _ (List.mem_of_getElem? (i := 50) rfl), rfl⟩
theorem wd_1324 : yWd (.selects RX2 yX2_firstOn yX2_firstOn) := ⟨lw_in6 _ (List.mem_of_getElem? (i := 51) rfl), rfl⟩
theorem cv_X8_458 : yCV RX8 458 6 yX2_firstOn cX2_firstOn 4 (some .int) 2 := ⟨_, _, _, cl_X2, wd_1325, wd_1322, wd_1323, wd_1324, wd_79, ⟨by decide, by decide, by decide +kernel⟩, by decide⟩
def t_X8_takenCells : yT := [(0, .aload_n 0, 1), (1, .getfield 19, 3), (4, .invokevirtual 461, 3), (7, .aload_n 0, 1), (8, .getfield 42, 3), (11, .invokevirtual 463, 3), (14, .lor, 1), (15, .aload_n 0, 1), (16, .getfield 33, 3), (19, .invokevirtual 466, 3), (22, .lor, 1), (23, .aload_n 0, 1), (24, .getfield 59, 3), (27, .invokevirtual 469, 3), (30, .lor, 1), (31, .lreturn, 1)]
theorem wd_374 : yWd (.code yX4_cells cX4_cells 1 (some .long)) := ⟨lw_in2 _ (List.mem_of_getElem? (i := 61) rfl), rfl⟩
theorem wd_371 : yWd (.methodLink RX8 461 yX4_cells) := ⟨lw_in2 _ (List.mem_of_getElem? (i := 58) rfl), rfl⟩
theorem wd_372 : yWd (.instanceMethod yX4_cells) := ⟨lw_in2 _ (List.mem_of_getElem? (i := 59) rfl), rfl⟩
theorem wd_373 : yWd (.selects RX4 yX4_cells yX4_cells) := ⟨lw_in2 _ (List.mem_of_getElem? (i := 60) rfl), rfl⟩
theorem cv_X8_461 : yCV RX8 461 8 yX4_cells cX4_cells 1 (some .long) 0 := ⟨_, _, _, cl_X4, wd_374, wd_371, wd_372, wd_373, wd_76, ⟨by decide, by decide, by decide +kernel⟩, by decide⟩
theorem wd_386 : yWd (.methodLink RX8 463 yX5_asCells) := ⟨lw_in2 _ (List.mem_of_getElem? (i := 73) rfl), rfl⟩
theorem cv_X8_463 : yCV RX8 463 9 yX5_asCells cX5_asCells 4 (some .long) 0 := ⟨_, _, _, cl_X5, wd_378, wd_386, wd_376, wd_377, wd_77, ⟨by decide, by decide, by decide +kernel⟩, by decide⟩
theorem wd_390 : yWd (.code yX2_roundCells cX2_roundCells 5 (some .long)) := ⟨lw_in2 _ (List.mem_of_getElem? (i := 77) rfl), rfl⟩
theorem wd_387 : yWd (.methodLink RX8 466 yX2_roundCells) := ⟨lw_in2 _ (List.mem_of_getElem? (i := 74) rfl), rfl⟩
theorem wd_388 : yWd (.instanceMethod yX2_roundCells) := ⟨lw_in2 _ (List.mem_of_getElem? (i := 75) rfl), rfl⟩
theorem wd_389 : yWd (.selects RX2 yX2_roundCells yX2_roundCells) := ⟨lw_in2 _ (List.mem_of_getElem? (i := 76) rfl), rfl⟩
theorem cv_X8_466 : yCV RX8 466 6 yX2_roundCells cX2_roundCells 5 (some .long) 0 := ⟨_, _, _, cl_X2, wd_390, wd_387, wd_388, wd_389, wd_79, ⟨by decide, by decide, by decide +kernel⟩, by decide⟩
theorem wd_404 : yWd (.code yX3_wayCells cX3_wayCells 5 (some .long)) := ⟨lw_in2 _ (List.mem_of_getElem? (i := 91) rfl), rfl⟩
theorem wd_401 : yWd (.methodLink RX8 469 yX3_wayCells) := ⟨lw_in2 _ (List.mem_of_getElem? (i := 88) rfl), rfl⟩
theorem wd_402 : yWd (.instanceMethod yX3_wayCells) := ⟨lw_in2 _ (List.mem_of_getElem? (i := 89) rfl), rfl⟩
theorem wd_403 : yWd (.selects RX3 yX3_wayCells yX3_wayCells) := ⟨lw_in2 _ (List.mem_of_getElem? (i := 90) rfl), rfl⟩
theorem cv_X8_469 : yCV RX8 469 7 yX3_wayCells cX3_wayCells 5 (some .long) 0 := ⟨_, _, _, cl_X3, wd_404, wd_401, wd_402, wd_403, wd_81, ⟨by decide, by decide, by decide +kernel⟩, by decide⟩
def t_X8_countEmptyPosts : yT := [(0, .aload_n 0, 1), (1, .getfield 33, 3), (4, .iload_n 1, 1), (5, .invokevirtual 236, 3), (8, .lstore_n 2, 1), (9, .iconst 0, 1), (10, .istore 4, 2), (12, .iconst 0, 1), (13, .istore 5, 2), (15, .iload 5, 2), (17, .aload_n 0, 1), (18, .getfield 42, 3), (21, .invokevirtual 193, 3), (24, .if_icmp .ge 28, 3), (27, .lload_n 2, 1), (28, .aload_n 0, 1), (29, .getfield 42, 3), (32, .iload 5, 2), (34, .invokevirtual 239, 3), (37, .invokestatic 124, 3), (40, .ifCond .ne 6, 3), (43, .iinc 4 1, 3), (46, .iinc 5 1, 3), (49, .goto (-34), 3), (52, .iload 4, 2), (54, .ireturn, 1)]
def t_X8_countMinutesOfEmptyPosts : yT := [(0, .iconst 0, 1), (1, .istore_n 1, 1), (2, .iconst 0, 1), (3, .istore_n 2, 1), (4, .iload_n 2, 1), (5, .sipush 240, 3), (8, .if_icmp .ge 20, 3), (11, .aload_n 0, 1), (12, .iload_n 2, 1), (13, .invokevirtual 230, 3), (16, .ifCond .le 6, 3), (19, .iinc 1 1, 3), (22, .iinc 2 1, 3), (25, .goto (-21), 3), (28, .iload_n 1, 1), (29, .ireturn, 1)]
def t_X8_countKeysOffDuty : yT := [(0, .iconst 0, 1), (1, .istore_n 2, 1), (2, .iconst 0, 1), (3, .istore_n 3, 1), (4, .iload_n 3, 1), (5, .bipush 6, 2), (7, .if_icmp .ge 41, 3), (10, .aload_n 0, 1), (11, .getfield 53, 3), (14, .iload_n 3, 1), (15, .invokevirtual 239, 3), (18, .istore 4, 2), (20, .iload 4, 2), (22, .iconst (-1), 1), (23, .if_icmp .eq 19, 3), (26, .aload_n 0, 1), (27, .getfield 33, 3), (30, .iload 4, 2), (32, .iload_n 1, 1), (33, .invokevirtual 472, 3), (36, .ifCond .ne 6, 3), (39, .iinc 2 1, 3), (42, .iinc 3 1, 3), (45, .goto (-41), 3), (48, .iload_n 2, 1), (49, .ireturn, 1)]
theorem wd_660 : yWd (.methodLink RX8 472 yX2_isOnDuty) := ⟨lw_in3 _ (List.mem_of_getElem? (i := 107) rfl), rfl⟩
theorem cv_X8_472 : yCV RX8 472 6 yX2_isOnDuty cX2_isOnDuty 3 (some .boolean) 2 := ⟨_, _, _, cl_X2, wd_650, wd_660, wd_648, wd_649, wd_79, ⟨by decide, by decide, by decide +kernel⟩, by decide⟩
def t_X8_foundAt : yT := [(0, .aload_n 0, 1), (1, .invokevirtual 171, 3), (4, .lstore_n 2, 1), (5, .iconst 0, 1), (6, .istore 4, 2), (8, .iload 4, 2), (10, .sipush 240, 3), (13, .if_icmp .ge 46, 3), (16, .aload_n 0, 1), (17, .getfield 59, 3), (20, .iload_n 1, 1), (21, .iload 4, 2), (23, .invokevirtual 295, 3), (26, .istore 5, 2), (28, .iload 5, 2), (30, .iconst (-1), 1), (31, .if_icmp .eq 22, 3), (34, .aload_n 0, 1), (35, .iconst (-1), 1), (36, .iload 4, 2), (38, .lload_n 2, 1), (39, .invokevirtual 202, 3), (42, .iload 5, 2), (44, .invokestatic 124, 3), (47, .ifCond .eq 6, 3), (50, .iload 4, 2), (52, .ireturn, 1), (53, .iinc 4 1, 3), (56, .goto (-48), 3), (59, .iconst (-1), 1), (60, .ireturn, 1)]
def t_X8_countFound : yT := [(0, .iconst 0, 1), (1, .istore_n 1, 1), (2, .iconst 0, 1), (3, .istore_n 2, 1), (4, .iload_n 2, 1), (5, .aload_n 0, 1), (6, .getfield 59, 3), (9, .invokevirtual 290, 3), (12, .if_icmp .ge 21, 3), (15, .aload_n 0, 1), (16, .iload_n 2, 1), (17, .invokevirtual 302, 3), (20, .iconst (-1), 1), (21, .if_icmp .eq 6, 3), (24, .iinc 1 1, 3), (27, .iinc 2 1, 3), (30, .goto (-26), 3), (33, .iload_n 1, 1), (34, .ireturn, 1)]
def t_X8_findersOf : yT := [(0, .iload_n 2, 1), (1, .iconst (-1), 1), (2, .if_icmp .ne 7, 3), (5, .iconst 0, 1), (6, .goto 17, 3), (9, .aload_n 0, 1), (10, .aload_n 0, 1), (11, .getfield 59, 3), (14, .iload_n 1, 1), (15, .iload_n 2, 1), (16, .invokevirtual 295, 3), (19, .iload_n 2, 1), (20, .invokevirtual 206, 3), (23, .ireturn, 1)]
def t_X8_firstArrival : yT := [(0, .iconst (-1), 1), (1, .istore_n 3, 1), (2, .iconst 0, 1), (3, .istore 4, 2), (5, .iload 4, 2), (7, .aload_n 0, 1), (8, .getfield 33, 3), (11, .invokevirtual 182, 3), (14, .if_icmp .ge 39, 3), (17, .aload_n 0, 1), (18, .iload 4, 2), (20, .iload_n 1, 1), (21, .iload_n 2, 1), (22, .invokevirtual 475, 3), (25, .istore 5, 2), (27, .iload 5, 2), (29, .iconst (-1), 1), (30, .if_icmp .eq 17, 3), (33, .iload_n 3, 1), (34, .iconst (-1), 1), (35, .if_icmp .eq 9, 3), (38, .iload 5, 2), (40, .iload_n 3, 1), (41, .if_icmp .ge 6, 3), (44, .iload 5, 2), (46, .istore_n 3, 1), (47, .iinc 4 1, 3), (50, .goto (-45), 3), (53, .iload_n 3, 1), (54, .ireturn, 1)]
theorem wd_771 : yWd (.code yX8_arrival cX8_arrival 7 (some .int)) := ⟨lw_in3 _ (List.mem_of_getElem? (i := 218) rfl), rfl⟩
theorem wd_768 : yWd (.methodLink RX8 475 yX8_arrival) := ⟨lw_in3 _ (List.mem_of_getElem? (i := 215) rfl), rfl⟩
theorem wd_770 : yWd (.instanceMethod yX8_arrival) := ⟨lw_in3 _ (List.mem_of_getElem? (i := 217) rfl), rfl⟩
theorem wd_15 : yWd (.selects RX8 yX8_arrival yX8_arrival) := ⟨lw_inp1 _ (List.mem_of_getElem? (i := 15) rfl), rfl⟩
theorem cv_X8_475 : yCV RX8 475 12 yX8_arrival cX8_arrival 7 (some .int) 3 := ⟨_, _, _, cl_X8, wd_771, wd_768, wd_770, wd_15, wd_74, ⟨by decide, by decide, by decide +kernel⟩, by decide⟩
def t_X8_responder : yT := [(0, .aload_n 0, 1), (1, .iload_n 1, 1), (2, .iload_n 2, 1), (3, .invokevirtual 308, 3), (6, .istore_n 3, 1), (7, .iconst 0, 1), (8, .istore 4, 2), (10, .iload 4, 2), (12, .aload_n 0, 1), (13, .getfield 33, 3), (16, .invokevirtual 182, 3), (19, .if_icmp .ge 29, 3), (22, .iload_n 3, 1), (23, .iconst (-1), 1), (24, .if_icmp .eq 18, 3), (27, .aload_n 0, 1), (28, .iload 4, 2), (30, .iload_n 1, 1), (31, .iload_n 2, 1), (32, .invokevirtual 475, 3), (35, .iload_n 3, 1), (36, .if_icmp .ne 6, 3), (39, .iload 4, 2), (41, .ireturn, 1), (42, .iinc 4 1, 3), (45, .goto (-35), 3), (48, .iconst (-1), 1), (49, .ireturn, 1)]
def t_X8_arrival : yT := [(0, .iload_n 3, 1), (1, .iconst (-1), 1), (2, .if_icmp .ne 7, 3), (5, .lconst 0, 1), (6, .goto 15, 3), (9, .aload_n 0, 1), (10, .getfield 33, 3), (13, .iload_n 1, 1), (14, .iload_n 3, 1), (15, .invokevirtual 196, 3), (18, .invokestatic 340, 3), (21, .lstore 4, 2), (23, .iload_n 3, 1), (24, .istore 6, 2), (26, .lload 4, 2), (28, .lconst 0, 1), (29, .lcmp, 1), (30, .ifCond .eq 57, 3), (33, .iload 6, 2), (35, .sipush 240, 3), (38, .if_icmp .ge 49, 3), (41, .lload 4, 2), (43, .aload_n 0, 1), (44, .getfield 59, 3), (47, .iload_n 2, 1), (48, .iload 6, 2), (50, .invokevirtual 295, 3), (53, .invokestatic 124, 3), (56, .ifCond .eq 6, 3), (59, .iload 6, 2), (61, .ireturn, 1), (62, .aload_n 0, 1), (63, .getfield 10, 3), (66, .lload 4, 2), (68, .invokevirtual 346, 3), (71, .aload_n 0, 1), (72, .getfield 10, 3), (75, .invokevirtual 104, 3), (78, .land, 1), (79, .lstore 4, 2), (81, .iinc 6 1, 3), (84, .goto (-58), 3), (87, .iconst (-1), 1), (88, .ireturn, 1)]
def t_X8_rings : yT := [(0, .aload_n 0, 1), (1, .getfield 59, 3), (4, .aload_n 0, 1), (5, .getfield 66, 3), (8, .iload_n 1, 1), (9, .invokevirtual 327, 3), (12, .iload_n 2, 1), (13, .invokevirtual 478, 3), (16, .istore_n 3, 1), (17, .aload_n 0, 1), (18, .getfield 66, 3), (21, .iload_n 1, 1), (22, .iload_n 2, 1), (23, .invokevirtual 481, 3), (26, .iconst 5, 1), (27, .iload_n 3, 1), (28, .imul, 1), (29, .iadd, 1), (30, .aload_n 0, 1), (31, .getfield 66, 3), (34, .iload_n 1, 1), (35, .invokevirtual 330, 3), (38, .if_icmp .lt 7, 3), (41, .iconst 1, 1), (42, .goto 4, 3), (45, .iconst 0, 1), (46, .ireturn, 1)]
theorem wd_812 : yWd (.code yX3_countOn cX3_countOn 5 (some .int)) := ⟨lw_in4 _ (List.mem_of_getElem? (i := 19) rfl), rfl⟩
theorem wd_809 : yWd (.methodLink RX8 478 yX3_countOn) := ⟨lw_in4 _ (List.mem_of_getElem? (i := 16) rfl), rfl⟩
theorem wd_810 : yWd (.instanceMethod yX3_countOn) := ⟨lw_in4 _ (List.mem_of_getElem? (i := 17) rfl), rfl⟩
theorem wd_811 : yWd (.selects RX3 yX3_countOn yX3_countOn) := ⟨lw_in4 _ (List.mem_of_getElem? (i := 18) rfl), rfl⟩
theorem cv_X8_478 : yCV RX8 478 7 yX3_countOn cX3_countOn 5 (some .int) 2 := ⟨_, _, _, cl_X3, wd_812, wd_809, wd_810, wd_811, wd_81, ⟨by decide, by decide, by decide +kernel⟩, by decide⟩
theorem wd_817 : yWd (.code yX6_ownNoise cX6_ownNoise 3 (some .int)) := ⟨lw_in4 _ (List.mem_of_getElem? (i := 24) rfl), rfl⟩
theorem wd_814 : yWd (.methodLink RX8 481 yX6_ownNoise) := ⟨lw_in4 _ (List.mem_of_getElem? (i := 21) rfl), rfl⟩
theorem wd_815 : yWd (.instanceMethod yX6_ownNoise) := ⟨lw_in4 _ (List.mem_of_getElem? (i := 22) rfl), rfl⟩
theorem wd_816 : yWd (.selects RX6 yX6_ownNoise yX6_ownNoise) := ⟨lw_in4 _ (List.mem_of_getElem? (i := 23) rfl), rfl⟩
theorem cv_X8_481 : yCV RX8 481 10 yX6_ownNoise cX6_ownNoise 3 (some .int) 2 := ⟨_, _, _, cl_X6, wd_817, wd_814, wd_815, wd_816, wd_82, ⟨by decide, by decide, by decide +kernel⟩, by decide⟩
def t_X8_isIntruded : yT := [(0, .aload_n 0, 1), (1, .getfield 59, 3), (4, .aload_n 0, 1), (5, .getfield 66, 3), (8, .iload_n 1, 1), (9, .invokevirtual 327, 3), (12, .iload_n 2, 1), (13, .invokevirtual 478, 3), (16, .ifCond .le 7, 3), (19, .iconst 1, 1), (20, .goto 4, 3), (23, .iconst 0, 1), (24, .ireturn, 1)]
def t_X8_countRings : yT := [(0, .iconst 0, 1), (1, .istore_n 3, 1), (2, .iconst 0, 1), (3, .istore 4, 2), (5, .iload 4, 2), (7, .sipush 240, 3), (10, .if_icmp .ge 36, 3), (13, .aload_n 0, 1), (14, .iload_n 1, 1), (15, .iload 4, 2), (17, .invokevirtual 484, 3), (20, .ifCond .eq 20, 3), (23, .iload_n 2, 1), (24, .ifCond .eq 13, 3), (27, .aload_n 0, 1), (28, .iload_n 1, 1), (29, .iload 4, 2), (31, .invokevirtual 487, 3), (34, .ifCond .ne 6, 3), (37, .iinc 3 1, 3), (40, .iinc 4 1, 3), (43, .goto (-38), 3), (46, .iload_n 3, 1), (47, .ireturn, 1)]
theorem wd_808 : yWd (.code yX8_rings cX8_rings 4 (some .boolean)) := ⟨lw_in4 _ (List.mem_of_getElem? (i := 15) rfl), rfl⟩
theorem wd_805 : yWd (.methodLink RX8 484 yX8_rings) := ⟨lw_in4 _ (List.mem_of_getElem? (i := 12) rfl), rfl⟩
theorem wd_807 : yWd (.instanceMethod yX8_rings) := ⟨lw_in4 _ (List.mem_of_getElem? (i := 14) rfl), rfl⟩
theorem wd_18 : yWd (.selects RX8 yX8_rings yX8_rings) := ⟨lw_inp2 _ (List.mem_of_getElem? (i := 2) rfl), rfl⟩
theorem cv_X8_484 : yCV RX8 484 12 yX8_rings cX8_rings 4 (some .boolean) 2 := ⟨_, _, _, cl_X8, wd_808, wd_805, wd_807, wd_18, wd_74, ⟨by decide, by decide, by decide +kernel⟩, by decide⟩
theorem wd_821 : yWd (.code yX8_isIntruded cX8_isIntruded 3 (some .boolean)) := ⟨lw_in4 _ (List.mem_of_getElem? (i := 28) rfl), rfl⟩
theorem wd_818 : yWd (.methodLink RX8 487 yX8_isIntruded) := ⟨lw_in4 _ (List.mem_of_getElem? (i := 25) rfl), rfl⟩
theorem wd_820 : yWd (.instanceMethod yX8_isIntruded) := ⟨lw_in4 _ (List.mem_of_getElem? (i := 27) rfl), rfl⟩
theorem wd_19 : yWd (.selects RX8 yX8_isIntruded yX8_isIntruded) := ⟨lw_inp2 _ (List.mem_of_getElem? (i := 3) rfl), rfl⟩
theorem cv_X8_487 : yCV RX8 487 12 yX8_isIntruded cX8_isIntruded 3 (some .boolean) 2 := ⟨_, _, _, cl_X8, wd_821, wd_818, wd_820, wd_19, wd_74, ⟨by decide, by decide, by decide +kernel⟩, by decide⟩
def t_X8_firstTrueRing : yT := [(0, .iconst 0, 1), (1, .istore_n 2, 1), (2, .iload_n 2, 1), (3, .sipush 240, 3), (6, .if_icmp .ge 29, 3), (9, .aload_n 0, 1), (10, .iload_n 1, 1), (11, .iload_n 2, 1), (12, .invokevirtual 487, 3), (15, .ifCond .eq 14, 3), (18, .aload_n 0, 1), (19, .iload_n 1, 1), (20, .iload_n 2, 1), (21, .invokevirtual 484, 3), (24, .ifCond .eq 5, 3), (27, .iload_n 2, 1), (28, .ireturn, 1), (29, .iinc 2 1, 3), (32, .goto (-30), 3), (35, .iconst (-1), 1), (36, .ireturn, 1)]
