set_option maxRecDepth 100000 in
theorem zf_X0_init : zi_mf zi_mt 0 2 yX0_init cX0_init 3 none 3 58 := ⟨⟨_, rfl⟩, zl_875, zl_268, ⟨by decide, by decide⟩, by decide +kernel, by decide⟩
set_option maxRecDepth 100000 in
theorem zf_X1_init : zi_mf zi_mt 4 0 yX1_init cX1_init 1 none 4 36 := ⟨⟨_, rfl⟩, zl_879, zl_256, ⟨by decide, by decide⟩, by decide +kernel, by decide⟩
set_option maxRecDepth 100000 in
theorem zf_X1_clear : zi_mf zi_mt 5 0 yX1_clear cX1_clear 1 none 0 0 := ⟨⟨_, rfl⟩, zl_880, zl_256, ⟨by decide, by decide⟩, by decide +kernel, by decide⟩
set_option maxRecDepth 100000 in
theorem zf_X1_settle : zi_mf zi_mt 17 2 yX1_settle cX1_settle 3 none 0 0 := ⟨⟨_, rfl⟩, zl_892, zl_256, ⟨by decide, by decide⟩, by decide +kernel, by decide⟩
set_option maxRecDepth 100000 in
theorem zf_X1_raise : zi_mf zi_mt 18 1 yX1_raise cX1_raise 4 none 0 0 := ⟨⟨_, rfl⟩, zl_893, zl_256, ⟨by decide, by decide⟩, by decide +kernel, by decide⟩
set_option maxRecDepth 100000 in
theorem zf_X2_init : zi_mf zi_mt 19 1 yX2_init cX2_init 2 none 2 50 := ⟨⟨_, rfl⟩, zl_894, zl_6, ⟨by decide, by decide⟩, by decide +kernel, by decide⟩
set_option maxRecDepth 100000 in
theorem zf_X2_trace : zi_mf zi_mt 21 0 yX2_trace cX2_trace 2 none 0 0 := ⟨⟨_, rfl⟩, zl_896, zl_6, ⟨by decide, by decide⟩, by decide +kernel, by decide⟩
set_option maxRecDepth 100000 in
theorem zf_X2_lowestNextTo : zi_mf zi_mt 22 1 yX2_lowestNextTo cX2_lowestNextTo 6 (some .int) 0 0 := ⟨⟨_, rfl⟩, zl_897, zl_6, ⟨by decide, by decide⟩, by decide +kernel, by decide⟩
set_option maxRecDepth 100000 in
theorem zf_X3_init : zi_mf zi_mt 29 0 yX3_init cX3_init 1 none 2 103 := ⟨⟨_, rfl⟩, zl_904, zl_289, ⟨by decide, by decide⟩, by decide +kernel, by decide⟩
set_option maxRecDepth 100000 in
theorem zf_X3_join : zi_mf zi_mt 33 0 yX3_join cX3_join 4 none 0 0 := ⟨⟨_, rfl⟩, zl_908, zl_289, ⟨by decide, by decide⟩, by decide +kernel, by decide⟩
set_option maxRecDepth 100000 in
theorem zf_X4_init : zi_mf zi_mt 35 0 yX4_init cX4_init 1 none 5 1491 := ⟨⟨_, rfl⟩, zl_910, zl_274, ⟨by decide, by decide⟩, by decide +kernel, by decide⟩
set_option maxRecDepth 100000 in
theorem zf_X5_init : zi_mf zi_mt 42 0 yX5_init cX5_init 1 none 3 168 := ⟨⟨_, rfl⟩, zl_917, zl_251, ⟨by decide, by decide⟩, by decide +kernel, by decide⟩
set_option maxRecDepth 100000 in
theorem zf_X6_init : zi_mf zi_mt 50 0 yX6_init cX6_init 1 none 1 320 := ⟨⟨_, rfl⟩, zl_925, zl_262, ⟨by decide, by decide⟩, by decide +kernel, by decide⟩
set_option maxRecDepth 100000 in
theorem zf_X7_init : zi_mf zi_mt 62 1 yX7_init cX7_init 2 none 6 75 := ⟨⟨_, rfl⟩, zl_937, zl_283, ⟨by decide, by decide⟩, by decide +kernel, by decide⟩
set_option maxRecDepth 100000 in
theorem zf_X8_init : zi_mf zi_mt 66 0 yX8_init cX8_init 1 none 61 4224 := ⟨⟨_, rfl⟩, zl_941, zl_659, ⟨by decide, by decide⟩, by decide +kernel, by decide⟩
set_option maxRecDepth 100000 in
theorem zf_X8_has : zi_mf zi_mt 90 2 yX8_has cX8_has 2 (some .boolean) 0 0 := ⟨⟨_, rfl⟩, zl_965, zl_659, ⟨by decide, by decide⟩, by decide +kernel, by decide⟩
set_option maxRecDepth 100000 in
theorem zf_X9_init : zi_mf zi_mt 116 0 yX9_init cX9_init 2 none 22 2537 := ⟨⟨_, rfl⟩, zl_991, zl_654, ⟨by decide, by decide⟩, by decide +kernel, by decide⟩
set_option maxRecDepth 100000 in
theorem zf_X9_firstDraft : zi_mf zi_mt 119 0 yX9_firstDraft cX9_firstDraft 2 none 0 0 := ⟨⟨_, rfl⟩, zl_994, zl_654, ⟨by decide, by decide⟩, by decide +kernel, by decide⟩
set_option maxRecDepth 100000 in
theorem zf_X9_keepDraft : zi_mf zi_mt 120 0 yX9_keepDraft cX9_keepDraft 2 none 0 0 := ⟨⟨_, rfl⟩, zl_995, zl_654, ⟨by decide, by decide⟩, by decide +kernel, by decide⟩
set_option maxRecDepth 100000 in
theorem zf_J7_fill_53178 : zi_mf zi_mt 221 2 yJ7_fill_53178 cJ7_fill_53178 4 none 0 0 := ⟨⟨_, rfl⟩, zl_1087, zl_1088, ⟨by decide, by decide⟩, by decide +kernel, by decide⟩
