set_option maxRecDepth 100000 in
theorem zg_X0_init : zi_okt zi_mt yX0_init cX0_init 3 none 0 zt_X0_init := zo_t zx_X0_init_0 (zo_t zx_X0_init_16 (zo_tz))
set_option maxRecDepth 100000 in
theorem zg_X1_init : zi_okt zi_mt yX1_init cX1_init 1 none 0 zt_X1_init := zo_t zx_X1_init_0 (zo_t zx_X1_init_16 (zo_t zx_X1_init_32 (zo_tz)))
set_option maxRecDepth 100000 in
theorem zg_X1_clear : zi_okt zi_mt yX1_clear cX1_clear 1 none 0 zt_X1_clear := zo_t zx_X1_clear_0 (zo_t zx_X1_clear_16 (zo_t zx_X1_clear_32 (zo_t zx_X1_clear_48 (zo_tz))))
set_option maxRecDepth 100000 in
theorem zg_X1_settle : zi_okt zi_mt yX1_settle cX1_settle 3 none 0 zt_X1_settle := zo_t zx_X1_settle_0 (zo_t zx_X1_settle_16 (zo_t zx_X1_settle_32 (zo_t zx_X1_settle_48 (zo_t zx_X1_settle_64 (zo_t zx_X1_settle_80 (zo_t zx_X1_settle_96 (zo_t zx_X1_settle_112 (zo_t zx_X1_settle_128 (zo_tz)))))))))
set_option maxRecDepth 100000 in
theorem zg_X1_raise : zi_okt zi_mt yX1_raise cX1_raise 4 none 0 zt_X1_raise := zo_t zx_X1_raise_0 (zo_t zx_X1_raise_16 (zo_t zx_X1_raise_32 (zo_t zx_X1_raise_48 (zo_tz))))
set_option maxRecDepth 100000 in
theorem zg_X2_init : zi_okt zi_mt yX2_init cX2_init 2 none 0 zt_X2_init := zo_t zx_X2_init_0 (zo_t zx_X2_init_16 (zo_tz))
set_option maxRecDepth 100000 in
theorem zg_X2_trace : zi_okt zi_mt yX2_trace cX2_trace 2 none 0 zt_X2_trace := zo_t zx_X2_trace_0 (zo_t zx_X2_trace_16 (zo_t zx_X2_trace_32 (zo_t zx_X2_trace_48 (zo_t zx_X2_trace_64 (zo_tz)))))
set_option maxRecDepth 100000 in
theorem zg_X2_lowestNextTo : zi_okt zi_mt yX2_lowestNextTo cX2_lowestNextTo 6 (some .int) 0 zt_X2_lowestNextTo := zo_t zx_X2_lowestNextTo_0 (zo_t zx_X2_lowestNextTo_16 (zo_t zx_X2_lowestNextTo_32 (zo_t zx_X2_lowestNextTo_48 (zo_t zx_X2_lowestNextTo_64 (zo_t zx_X2_lowestNextTo_80 (zo_t zx_X2_lowestNextTo_96 (zo_tz)))))))
set_option maxRecDepth 100000 in
theorem zg_X3_init : zi_okt zi_mt yX3_init cX3_init 1 none 0 zt_X3_init := zo_t zx_X3_init_0 (zo_t zx_X3_init_16 (zo_tz))
set_option maxRecDepth 100000 in
theorem zg_X3_join : zi_okt zi_mt yX3_join cX3_join 4 none 0 zt_X3_join := zo_t zx_X3_join_0 (zo_t zx_X3_join_16 (zo_t zx_X3_join_32 (zo_t zx_X3_join_48 (zo_t zx_X3_join_64 (zo_t zx_X3_join_80 (zo_t zx_X3_join_96 (zo_t zx_X3_join_112 (zo_t zx_X3_join_128 (zo_tz)))))))))
set_option maxRecDepth 100000 in
theorem zg_X4_init : zi_okt zi_mt yX4_init cX4_init 1 none 0 zt_X4_init := zo_t zx_X4_init_0 (zo_t zx_X4_init_16 (zo_t zx_X4_init_32 (zo_tz)))
set_option maxRecDepth 100000 in
theorem zg_X5_init : zi_okt zi_mt yX5_init cX5_init 1 none 0 zt_X5_init := zo_t zx_X5_init_0 (zo_t zx_X5_init_16 (zo_t zx_X5_init_32 (zo_tz)))
set_option maxRecDepth 100000 in
theorem zg_X6_init : zi_okt zi_mt yX6_init cX6_init 1 none 0 zt_X6_init := zo_t zx_X6_init_0 (zo_tz)
set_option maxRecDepth 100000 in
theorem zg_X7_init : zi_okt zi_mt yX7_init cX7_init 2 none 0 zt_X7_init := zo_t zx_X7_init_0 (zo_t zx_X7_init_16 (zo_t zx_X7_init_32 (zo_tz)))
set_option maxRecDepth 100000 in
theorem zg_X8_init : zi_okt zi_mt yX8_init cX8_init 1 none 0 zt_X8_init := zo_t zx_X8_init_0 (zo_t zx_X8_init_16 (zo_t zx_X8_init_32 (zo_t zx_X8_init_48 (zo_t zx_X8_init_64 (zo_t zx_X8_init_80 (zo_t zx_X8_init_96 (zo_t zx_X8_init_112 (zo_t zx_X8_init_128 (zo_t zx_X8_init_144 (zo_t zx_X8_init_160 (zo_t zx_X8_init_176 (zo_t zx_X8_init_192 (zo_tz)))))))))))))
set_option maxRecDepth 100000 in
theorem zg_X8_has : zi_okt zi_mt yX8_has cX8_has 2 (some .boolean) 0 zt_X8_has := zo_t zx_X8_has_0 (zo_tz)
set_option maxRecDepth 100000 in
theorem zg_X9_init : zi_okt zi_mt yX9_init cX9_init 2 none 0 zt_X9_init := zo_t zx_X9_init_0 (zo_t zx_X9_init_16 (zo_t zx_X9_init_32 (zo_t zx_X9_init_48 (zo_t zx_X9_init_64 (zo_t zx_X9_init_80 (zo_t zx_X9_init_96 (zo_t zx_X9_init_112 (zo_t zx_X9_init_128 (zo_t zx_X9_init_144 (zo_t zx_X9_init_160 (zo_t zx_X9_init_176 (zo_t zx_X9_init_192 (zo_tz)))))))))))))
set_option maxRecDepth 100000 in
theorem zg_X9_firstDraft : zi_okt zi_mt yX9_firstDraft cX9_firstDraft 2 none 0 zt_X9_firstDraft := zo_t zx_X9_firstDraft_0 (zo_t zx_X9_firstDraft_16 (zo_t zx_X9_firstDraft_32 (zo_t zx_X9_firstDraft_48 (zo_t zx_X9_firstDraft_64 (zo_t zx_X9_firstDraft_80 (zo_t zx_X9_firstDraft_96 (zo_t zx_X9_firstDraft_112 (zo_tz))))))))
set_option maxRecDepth 100000 in
theorem zg_X9_keepDraft : zi_okt zi_mt yX9_keepDraft cX9_keepDraft 2 none 0 zt_X9_keepDraft := zo_t zx_X9_keepDraft_0 (zo_t zx_X9_keepDraft_16 (zo_t zx_X9_keepDraft_32 (zo_t zx_X9_keepDraft_48 (zo_t zx_X9_keepDraft_64 (zo_t zx_X9_keepDraft_80 (zo_t zx_X9_keepDraft_96 (zo_t zx_X9_keepDraft_112 (zo_t zx_X9_keepDraft_128 (zo_t zx_X9_keepDraft_144 (zo_t zx_X9_keepDraft_160 (zo_t zx_X9_keepDraft_176 (zo_tz))))))))))))
set_option maxRecDepth 100000 in
theorem zg_J7_fill_53178 : zi_okt zi_mt yJ7_fill_53178 cJ7_fill_53178 4 none 0 zt_J7_fill_53178 := zo_t zx_J7_fill_53178_0 (zo_t zx_J7_fill_53178_16 (zo_tz))
set_option maxRecDepth 100000 in
theorem zg_L_law : zi_okt zi_mt yL_law cL_law 4 (some .boolean) 0 zt_L_law := zo_t zx_L_law_0 (zo_t zx_L_law_16 (zo_tz))
set_option maxRecDepth 100000 in
theorem zh_X0_init : zi_mok zi_mt zm_X0_init := ⟨(zi_tab zg_X0_init).1, (zi_tab zg_X0_init).2, by decide⟩
set_option maxRecDepth 100000 in
theorem zh_X1_init : zi_mok zi_mt zm_X1_init := ⟨(zi_tab zg_X1_init).1, (zi_tab zg_X1_init).2, by decide⟩
set_option maxRecDepth 100000 in
theorem zh_X1_clear : zi_mok zi_mt zm_X1_clear := ⟨(zi_tab zg_X1_clear).1, (zi_tab zg_X1_clear).2, by decide⟩
set_option maxRecDepth 100000 in
theorem zh_X1_settle : zi_mok zi_mt zm_X1_settle := ⟨(zi_tab zg_X1_settle).1, (zi_tab zg_X1_settle).2, by decide⟩
set_option maxRecDepth 100000 in
theorem zh_X1_raise : zi_mok zi_mt zm_X1_raise := ⟨(zi_tab zg_X1_raise).1, (zi_tab zg_X1_raise).2, by decide⟩
set_option maxRecDepth 100000 in
theorem zh_X2_init : zi_mok zi_mt zm_X2_init := ⟨(zi_tab zg_X2_init).1, (zi_tab zg_X2_init).2, by decide⟩
set_option maxRecDepth 100000 in
theorem zh_X2_trace : zi_mok zi_mt zm_X2_trace := ⟨(zi_tab zg_X2_trace).1, (zi_tab zg_X2_trace).2, by decide⟩
set_option maxRecDepth 100000 in
theorem zh_X2_lowestNextTo : zi_mok zi_mt zm_X2_lowestNextTo := ⟨(zi_tab zg_X2_lowestNextTo).1, (zi_tab zg_X2_lowestNextTo).2, by decide⟩
set_option maxRecDepth 100000 in
theorem zh_X3_init : zi_mok zi_mt zm_X3_init := ⟨(zi_tab zg_X3_init).1, (zi_tab zg_X3_init).2, by decide⟩
set_option maxRecDepth 100000 in
theorem zh_X3_join : zi_mok zi_mt zm_X3_join := ⟨(zi_tab zg_X3_join).1, (zi_tab zg_X3_join).2, by decide⟩
set_option maxRecDepth 100000 in
theorem zh_X4_init : zi_mok zi_mt zm_X4_init := ⟨(zi_tab zg_X4_init).1, (zi_tab zg_X4_init).2, by decide⟩
set_option maxRecDepth 100000 in
theorem zh_X5_init : zi_mok zi_mt zm_X5_init := ⟨(zi_tab zg_X5_init).1, (zi_tab zg_X5_init).2, by decide⟩
set_option maxRecDepth 100000 in
theorem zh_X6_init : zi_mok zi_mt zm_X6_init := ⟨(zi_tab zg_X6_init).1, (zi_tab zg_X6_init).2, by decide⟩
set_option maxRecDepth 100000 in
theorem zh_X7_init : zi_mok zi_mt zm_X7_init := ⟨(zi_tab zg_X7_init).1, (zi_tab zg_X7_init).2, by decide⟩
set_option maxRecDepth 100000 in
theorem zh_X8_init : zi_mok zi_mt zm_X8_init := ⟨(zi_tab zg_X8_init).1, (zi_tab zg_X8_init).2, by decide⟩
set_option maxRecDepth 100000 in
theorem zh_X8_has : zi_mok zi_mt zm_X8_has := ⟨(zi_tab zg_X8_has).1, (zi_tab zg_X8_has).2, by decide⟩
set_option maxRecDepth 100000 in
theorem zh_X9_init : zi_mok zi_mt zm_X9_init := ⟨(zi_tab zg_X9_init).1, (zi_tab zg_X9_init).2, by decide⟩
set_option maxRecDepth 100000 in
theorem zh_X9_firstDraft : zi_mok zi_mt zm_X9_firstDraft := ⟨(zi_tab zg_X9_firstDraft).1, (zi_tab zg_X9_firstDraft).2, by decide⟩
set_option maxRecDepth 100000 in
theorem zh_X9_keepDraft : zi_mok zi_mt zm_X9_keepDraft := ⟨(zi_tab zg_X9_keepDraft).1, (zi_tab zg_X9_keepDraft).2, by decide⟩
set_option maxRecDepth 100000 in
theorem zh_J7_fill_53178 : zi_mok zi_mt zm_J7_fill_53178 := ⟨(zi_tab zg_J7_fill_53178).1, (zi_tab zg_J7_fill_53178).2, by decide⟩
set_option maxRecDepth 100000 in
theorem zj_208 : zi_pm (zi_mok zi_mt) zi_ml_208 := zp_n (zp_n (zp_n (zp_n (zp_n (zp_n (zp_n (zp_n (zp_n (zp_n (zp_n (zp_n (zp_n (zp_c zh_J7_fill_53178 (zp_n (zp_n (zp_z))))))))))))))))
set_option maxRecDepth 100000 in
theorem zj_192 : zi_pm (zi_mok zi_mt) zi_ml_192 := zp_n (zp_n (zp_n (zp_n (zp_n (zp_n (zp_n (zp_n (zp_n (zp_n (zp_n (zp_n (zp_n (zp_n (zp_n (zp_n (zp_z))))))))))))))))
set_option maxRecDepth 100000 in
theorem zj_176 : zi_pm (zi_mok zi_mt) zi_ml_176 := zp_n (zp_n (zp_n (zp_n (zp_n (zp_n (zp_n (zp_n (zp_n (zp_n (zp_n (zp_n (zp_n (zp_n (zp_n (zp_n (zp_z))))))))))))))))
set_option maxRecDepth 100000 in
theorem zj_160 : zi_pm (zi_mok zi_mt) zi_ml_160 := zp_n (zp_n (zp_n (zp_n (zp_n (zp_n (zp_n (zp_n (zp_n (zp_n (zp_n (zp_n (zp_n (zp_n (zp_n (zp_n (zp_z))))))))))))))))
set_option maxRecDepth 100000 in
theorem zj_144 : zi_pm (zi_mok zi_mt) zi_ml_144 := zp_n (zp_n (zp_n (zp_n (zp_n (zp_n (zp_n (zp_n (zp_n (zp_n (zp_n (zp_n (zp_n (zp_n (zp_n (zp_n (zp_z))))))))))))))))
set_option maxRecDepth 100000 in
theorem zj_128 : zi_pm (zi_mok zi_mt) zi_ml_128 := zp_n (zp_n (zp_n (zp_n (zp_n (zp_n (zp_n (zp_n (zp_n (zp_n (zp_n (zp_n (zp_n (zp_n (zp_n (zp_n (zp_z))))))))))))))))
set_option maxRecDepth 100000 in
theorem zj_112 : zi_pm (zi_mok zi_mt) zi_ml_112 := zp_n (zp_n (zp_n (zp_n (zp_c zh_X9_init (zp_n (zp_n (zp_c zh_X9_firstDraft (zp_c zh_X9_keepDraft (zp_n (zp_n (zp_n (zp_n (zp_n (zp_n (zp_n (zp_z))))))))))))))))
set_option maxRecDepth 100000 in
theorem zj_96 : zi_pm (zi_mok zi_mt) zi_ml_96 := zp_n (zp_n (zp_n (zp_n (zp_n (zp_n (zp_n (zp_n (zp_n (zp_n (zp_n (zp_n (zp_n (zp_n (zp_n (zp_n (zp_z))))))))))))))))
set_option maxRecDepth 100000 in
theorem zj_80 : zi_pm (zi_mok zi_mt) zi_ml_80 := zp_n (zp_n (zp_n (zp_n (zp_n (zp_n (zp_n (zp_n (zp_n (zp_n (zp_c zh_X8_has (zp_n (zp_n (zp_n (zp_n (zp_n (zp_z))))))))))))))))
set_option maxRecDepth 100000 in
theorem zj_64 : zi_pm (zi_mok zi_mt) zi_ml_64 := zp_n (zp_n (zp_c zh_X8_init (zp_n (zp_n (zp_n (zp_n (zp_n (zp_n (zp_n (zp_n (zp_n (zp_n (zp_n (zp_n (zp_n (zp_z))))))))))))))))
set_option maxRecDepth 100000 in
theorem zj_48 : zi_pm (zi_mok zi_mt) zi_ml_48 := zp_n (zp_n (zp_c zh_X6_init (zp_n (zp_n (zp_n (zp_n (zp_n (zp_n (zp_n (zp_n (zp_n (zp_n (zp_n (zp_c zh_X7_init (zp_n (zp_z))))))))))))))))
set_option maxRecDepth 100000 in
theorem zj_32 : zi_pm (zi_mok zi_mt) zi_ml_32 := zp_n (zp_c zh_X3_join (zp_n (zp_c zh_X4_init (zp_n (zp_n (zp_n (zp_n (zp_n (zp_n (zp_c zh_X5_init (zp_n (zp_n (zp_n (zp_n (zp_n (zp_z))))))))))))))))
set_option maxRecDepth 100000 in
theorem zj_16 : zi_pm (zi_mok zi_mt) zi_ml_16 := zp_n (zp_c zh_X1_settle (zp_c zh_X1_raise (zp_c zh_X2_init (zp_n (zp_c zh_X2_trace (zp_c zh_X2_lowestNextTo (zp_n (zp_n (zp_n (zp_n (zp_n (zp_n (zp_c zh_X3_init (zp_n (zp_n (zp_z))))))))))))))))
set_option maxRecDepth 100000 in
theorem zj_0 : zi_pm (zi_mok zi_mt) zi_ml_0 := zp_c zh_X0_init (zp_n (zp_n (zp_n (zp_c zh_X1_init (zp_c zh_X1_clear (zp_n (zp_n (zp_n (zp_n (zp_n (zp_n (zp_n (zp_n (zp_n (zp_n (zp_z))))))))))))))))
set_option maxRecDepth 100000 in
theorem zj_all : ∀ (j : Nat) (M : zi_M), zi_mt j = some M → zi_mok zi_mt M := zi_mtl_ok (zp_t zj_0 (zp_t zj_16 (zp_t zj_32 (zp_t zj_48 (zp_t zj_64 (zp_t zj_80 (zp_t zj_96 (zp_t zj_112 (zp_t zj_128 (zp_t zj_144 (zp_t zj_160 (zp_t zj_176 (zp_t zj_192 (zp_t zj_208 (zp_tz)))))))))))))))
