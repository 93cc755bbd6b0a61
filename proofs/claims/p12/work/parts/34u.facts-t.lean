/-! ===== facts of more methods ===== -/
def K_X12_thrown : yK := (yX12_thrown.cls, yX12_thrown.name, cX12_thrown, 1, (some .int), [])
def t_X12_thrown : yT := [(0, .aload_n 0, 1), (1, .getfield 51, 3), (4, .ireturn, 1)]
theorem tq_X12_thrown : yTok (yK.cc K_X12_thrown) t_X12_thrown := (ychk_ok _ _ 0 rfl (by decide +kernel))
theorem fg_X12_51_X12 : yFL RX12 51 16 0 := ⟨_, _, _, cl_X12, by decide, wd_1626⟩
