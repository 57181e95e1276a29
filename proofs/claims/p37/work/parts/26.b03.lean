set_option maxRecDepth 100000 in
theorem cd_X7_gain_15 : decode cX7_gain 15 = .ok (zi_rop (some .int), 1) := (dq_172 (by decide +kernel))
set_option maxRecDepth 100000 in
theorem cb_X7_gain_16 : ci_ok yX7_gain cX7_gain 3 16 (ci_seq (ci_load 2 0 17) 17 (ci_seq (ci_getf 7 1 20) 20 (ci_seq (ci_load 0 1 21) 21 (ci_seq (ci_ald .int 22) 22 (ci_seq (ci_load 2 0 23) 23 (ci_seq (ci_getf 7 0 26) 26 (ci_seq (ci_getf 2 0 29) 29 (ci_seq (ci_getf 3 0 32) 32 (ci_seq (ci_load 0 1 33) 33 (ci_seq (ci_ald .int 34) 34 (ci_seq (ci_load 0 2 35) 35 (ci_bin (fun a b => a &&& b) 36)))))))))))) := cq_ok (cr_aload_n (k := 0) (dq_42 (by decide +kernel)) rfl rfl) (cq_ok (cr_getf (idx := 9) zc_7 (by decide) zl_226 (dq_180 (a := 0) (b := 9) (by decide +kernel) rfl) rfl) (cq_ok (cr_iload_n (k := 1) (dq_27 (by decide +kernel)) rfl rfl) (cq_ok (cr_ald (ins := .iaload) rfl (dq_46 (by decide +kernel)) (Or.inl ⟨rfl, rfl⟩)) (cq_ok (cr_aload_n (k := 0) (dq_42 (by decide +kernel)) rfl rfl) (cq_ok (cr_getf (idx := 26) zc_7 (by decide) zl_221 (dq_180 (a := 0) (b := 26) (by decide +kernel) rfl) rfl) (cq_ok (cr_getf (idx := 50) zc_2 (by decide) zl_234 (dq_180 (a := 0) (b := 50) (by decide +kernel) rfl) rfl) (cq_ok (cr_getf (idx := 60) zc_3 (by decide) zl_236 (dq_180 (a := 0) (b := 60) (by decide +kernel) rfl) rfl) (cq_ok (cr_iload_n (k := 1) (dq_27 (by decide +kernel)) rfl rfl) (cq_ok (cr_ald (ins := .iaload) rfl (dq_46 (by decide +kernel)) (Or.inl ⟨rfl, rfl⟩)) (cq_ok (cr_iload_n (k := 2) (dq_28 (by decide +kernel)) rfl rfl) (cr_iand (dq_126 (by decide +kernel)) rfl)))))))))))
set_option maxRecDepth 100000 in
theorem cl_X7_gain_36 : ci_calls yX7_gain cX7_gain 3 36 yJ6_bitCount_0f7a4 1 none := cr_callS (idx := 63) zl_1085 zl_1086 ⟨by decide, by decide⟩ hp_J6_bitCount_0f7a4 zl_104 (Or.inl zl_235) (dq_184 (a := 0) (b := 63) (by decide +kernel) rfl)
set_option maxRecDepth 100000 in
theorem cb_X7_gain_39 : ci_ok yX7_gain cX7_gain 3 39 (ci_bin (fun a b => a * b) 40) := cr_imul (dq_104 (by decide +kernel)) rfl
set_option maxRecDepth 100000 in
theorem cd_X7_gain_40 : decode cX7_gain 40 = .ok (zi_rop (some .int), 1) := (dq_172 (by decide +kernel))
set_option maxRecDepth 100000 in
theorem cb_X7_agrees_0 : ci_ok yX7_agrees cX7_agrees 4 0 (ci_seq (ci_push (.int 0) 1) 1 (ci_store 0 2 2)) := cq_ok (cr_iconst2 (n := 0) (dq_3 (by decide +kernel)) (by decide +kernel) rfl) (cr_istore_n (k := 2) (dq_61 (by decide +kernel)) rfl (by decide) rfl)
set_option maxRecDepth 100000 in
theorem cb_X7_agrees_2 : ci_ok yX7_agrees cX7_agrees 4 2 (ci_seq (ci_load 0 2 3) 3 (ci_seq (ci_load 2 0 4) 4 (ci_seq (ci_getf 7 6 7) 7 (ci_ic (fun x y => decide (y ≤ x)) 69 10)))) := cq_ok (cr_iload_n (k := 2) (dq_28 (by decide +kernel)) rfl rfl) (cq_ok (cr_aload_n (k := 0) (dq_42 (by decide +kernel)) rfl rfl) (cq_ok (cr_getf (idx := 47) zc_7 (by decide) zl_228 (dq_180 (a := 0) (b := 47) (by decide +kernel) rfl) rfl) (cr_ic_ge (off := 62) (dq_162 (a := 0) (b := 62) (by decide +kernel) rfl) (by decide) rfl)))
set_option maxRecDepth 100000 in
theorem cb_X7_agrees_10 : ci_ok yX7_agrees cX7_agrees 4 10 (ci_seq (ci_load 0 2 11) 11 (ci_seq (ci_push (.int 8) 13) 13 (ci_ic (fun x y => decide (y ≤ x)) 69 16))) := cq_ok (cr_iload_n (k := 2) (dq_28 (by decide +kernel)) rfl rfl) (cq_ok (cr_bipush (n := 8) (dq_16 (a := 8) (by decide +kernel) rfl) (by decide +kernel) rfl) (cr_ic_ge (off := 56) (dq_162 (a := 0) (b := 56) (by decide +kernel) rfl) (by decide) rfl))
set_option maxRecDepth 100000 in
theorem cb_X7_agrees_16 : ci_ok yX7_agrees cX7_agrees 4 16 (ci_seq (ci_load 2 0 17) 17 (ci_seq (ci_getf 7 3 20) 20 (ci_seq (ci_load 0 2 21) 21 (ci_seq (ci_ald .int 22) 22 (ci_if (fun x => decide (x < 0)) 29 25))))) := cq_ok (cr_aload_n (k := 0) (dq_42 (by decide +kernel)) rfl rfl) (cq_ok (cr_getf (idx := 18) zc_7 (by decide) zl_224 (dq_180 (a := 0) (b := 18) (by decide +kernel) rfl) rfl) (cq_ok (cr_iload_n (k := 2) (dq_28 (by decide +kernel)) rfl rfl) (cq_ok (cr_ald (ins := .iaload) rfl (dq_46 (by decide +kernel)) (Or.inl ⟨rfl, rfl⟩)) (cr_if_lt (off := 7) (dq_155 (a := 0) (b := 7) (by decide +kernel) rfl) (by decide) rfl))))
set_option maxRecDepth 100000 in
theorem cb_X7_agrees_25 : ci_ok yX7_agrees cX7_agrees 4 25 (ci_seq (ci_push (.int 1) 26) 26 (ci_go 30)) := cq_ok (cr_iconst2 (n := 1) (dq_4 (by decide +kernel)) (by decide +kernel) rfl) (cr_goto (off := 4) (dq_167 (a := 0) (b := 4) (by decide +kernel) rfl) (by decide))
set_option maxRecDepth 100000 in
theorem cb_X7_agrees_29 : ci_ok yX7_agrees cX7_agrees 4 29 (ci_push (.int 0) 30) := cr_iconst2 (n := 0) (dq_3 (by decide +kernel)) (by decide +kernel) rfl
set_option maxRecDepth 100000 in
theorem cb_X7_agrees_30 : ci_ok yX7_agrees cX7_agrees 4 30 (ci_seq (ci_store 0 3 31) 31 (ci_seq (ci_load 0 1 32) 32 (ci_seq (ci_load 0 3 33) 33 (ci_if (fun x => decide (x = 0)) 45 36)))) := cq_ok (cr_istore_n (k := 3) (dq_62 (by decide +kernel)) rfl (by decide) rfl) (cq_ok (cr_iload_n (k := 1) (dq_27 (by decide +kernel)) rfl rfl) (cq_ok (cr_iload_n (k := 3) (dq_29 (by decide +kernel)) rfl rfl) (cr_if_eq (off := 12) (dq_153 (a := 0) (b := 12) (by decide +kernel) rfl) (by decide) rfl)))
set_option maxRecDepth 100000 in
theorem cb_X7_agrees_36 : ci_ok yX7_agrees cX7_agrees 4 36 (ci_seq (ci_load 2 0 37) 37 (ci_seq (ci_getf 7 3 40) 40 (ci_seq (ci_load 0 2 41) 41 (ci_seq (ci_ald .int 42) 42 (ci_go 54))))) := cq_ok (cr_aload_n (k := 0) (dq_42 (by decide +kernel)) rfl rfl) (cq_ok (cr_getf (idx := 18) zc_7 (by decide) zl_224 (dq_180 (a := 0) (b := 18) (by decide +kernel) rfl) rfl) (cq_ok (cr_iload_n (k := 2) (dq_28 (by decide +kernel)) rfl rfl) (cq_ok (cr_ald (ins := .iaload) rfl (dq_46 (by decide +kernel)) (Or.inl ⟨rfl, rfl⟩)) (cr_goto (off := 12) (dq_167 (a := 0) (b := 12) (by decide +kernel) rfl) (by decide)))))
set_option maxRecDepth 100000 in
theorem cb_X7_agrees_45 : ci_ok yX7_agrees cX7_agrees 4 45 (ci_seq (ci_load 2 0 46) 46 (ci_seq (ci_getf 7 3 49) 49 (ci_seq (ci_load 0 2 50) 50 (ci_seq (ci_ald .int 51) 51 (ci_seq (ci_push (.int 25) 53) 53 (ci_bin (fun a b => a + b) 54)))))) := cq_ok (cr_aload_n (k := 0) (dq_42 (by decide +kernel)) rfl rfl) (cq_ok (cr_getf (idx := 18) zc_7 (by decide) zl_224 (dq_180 (a := 0) (b := 18) (by decide +kernel) rfl) rfl) (cq_ok (cr_iload_n (k := 2) (dq_28 (by decide +kernel)) rfl rfl) (cq_ok (cr_ald (ins := .iaload) rfl (dq_46 (by decide +kernel)) (Or.inl ⟨rfl, rfl⟩)) (cq_ok (cr_bipush (n := 25) (dq_16 (a := 25) (by decide +kernel) rfl) (by decide +kernel) rfl) (cr_iadd (dq_96 (by decide +kernel)) rfl)))))
set_option maxRecDepth 100000 in
theorem cl_X7_agrees_54 : ci_calls yX7_agrees cX7_agrees 4 54 yX8_has 2 none := cr_callS (idx := 69) zl_965 zl_659 ⟨by decide, by decide⟩ hp_X8_has zl_17 (Or.inr ⟨_, zl_237⟩) (dq_184 (a := 0) (b := 69) (by decide +kernel) rfl)
set_option maxRecDepth 100000 in
theorem cb_X7_agrees_57 : ci_ok yX7_agrees cX7_agrees 4 57 (ci_seq (ci_load 0 3 58) 58 (ci_ic (fun x y => decide (x = y)) 63 61)) := cq_ok (cr_iload_n (k := 3) (dq_29 (by decide +kernel)) rfl rfl) (cr_ic_eq (off := 5) (dq_159 (a := 0) (b := 5) (by decide +kernel) rfl) (by decide) rfl)
set_option maxRecDepth 100000 in
theorem cb_X7_agrees_61 : ci_ok yX7_agrees cX7_agrees 4 61 (ci_push (.int 0) 62) := cr_iconst2 (n := 0) (dq_3 (by decide +kernel)) (by decide +kernel) rfl
set_option maxRecDepth 100000 in
theorem cd_X7_agrees_62 : decode cX7_agrees 62 = .ok (zi_rop (some .boolean), 1) := (dq_172 (by decide +kernel))
set_option maxRecDepth 100000 in
theorem cb_X7_agrees_63 : ci_ok yX7_agrees cX7_agrees 4 63 (ci_seq (ci_inc 2 1 66) 66 (ci_go 2)) := cq_ok (ci_inc_ok (by decide) (dq_132 (a := 2) (b := 1) (by decide +kernel) rfl) rfl) (cr_goto (off := -64) (dq_167 (a := 255) (b := 192) (by decide +kernel) rfl) (by decide))
set_option maxRecDepth 100000 in
theorem cb_X7_agrees_69 : ci_ok yX7_agrees cX7_agrees 4 69 (ci_push (.int 1) 70) := cr_iconst2 (n := 1) (dq_4 (by decide +kernel)) (by decide +kernel) rfl
set_option maxRecDepth 100000 in
theorem cd_X7_agrees_70 : decode cX7_agrees 70 = .ok (zi_rop (some .boolean), 1) := (dq_172 (by decide +kernel))
set_option maxRecDepth 100000 in
theorem cb_X8_feed_0 : ci_ok yX8_feed cX8_feed 3 0 (ci_seq (ci_load 2 0 1) 1 (ci_seq (ci_getf 8 7 4) 4 (ci_load 1 1 5))) := cq_ok (cr_aload_n (k := 0) (dq_42 (by decide +kernel)) rfl rfl) (cq_ok (cr_getf (idx := 57) zc_8 (by decide) zl_257 (dq_180 (a := 0) (b := 57) (by decide +kernel) rfl) rfl) (cr_lload_n (k := 1) (dq_31 (by decide +kernel)) rfl rfl))
set_option maxRecDepth 100000 in
theorem cl_X8_feed_5 : ci_calls yX8_feed cX8_feed 3 5 yX6_append 2 (some 6) := cr_callV (idx := 86) zl_926 ⟨by decide, by decide⟩ hp_X6_append zc_6 zl_292 zl_293 (Or.inl zl_291) (dq_182 (a := 0) (b := 86) (by decide +kernel) rfl)
set_option maxRecDepth 100000 in
theorem cb_X8_feed_8 : ci_ok yX8_feed cX8_feed 3 8 (ci_if (fun x => decide (x = 0)) 21 11) := cr_if_eq (off := 13) (dq_153 (a := 0) (b := 13) (by decide +kernel) rfl) (by decide) rfl
set_option maxRecDepth 100000 in
theorem cb_X8_feed_11 : ci_ok yX8_feed cX8_feed 3 11 (ci_seq (ci_load 2 0 12) 12 (ci_seq (ci_getf 8 7 15) 15 (ci_seq (ci_getf 6 1 18) 18 (ci_go 23)))) := cq_ok (cr_aload_n (k := 0) (dq_42 (by decide +kernel)) rfl rfl) (cq_ok (cr_getf (idx := 57) zc_8 (by decide) zl_257 (dq_180 (a := 0) (b := 57) (by decide +kernel) rfl) rfl) (cq_ok (cr_getf (idx := 90) zc_6 (by decide) zl_294 (dq_180 (a := 0) (b := 90) (by decide +kernel) rfl) rfl) (cr_goto (off := 5) (dq_167 (a := 0) (b := 5) (by decide +kernel) rfl) (by decide))))
set_option maxRecDepth 100000 in
theorem cb_X8_feed_21 : ci_ok yX8_feed cX8_feed 3 21 (ci_push (.int (-3)) 23) := cr_bipush (n := -3) (dq_16 (a := 253) (by decide +kernel) rfl) (by decide +kernel) rfl
set_option maxRecDepth 100000 in
theorem cd_X8_feed_23 : decode cX8_feed 23 = .ok (zi_rop (some .int), 1) := (dq_172 (by decide +kernel))
set_option maxRecDepth 100000 in
theorem cb_X8_end_0 : ci_ok yX8_end cX8_end 3 0 (ci_seq (ci_load 0 1 1) 1 (ci_if (fun x => decide (x < 0)) 15 4)) := cq_ok (cr_iload_n (k := 1) (dq_27 (by decide +kernel)) rfl rfl) (cr_if_lt (off := 14) (dq_155 (a := 0) (b := 14) (by decide +kernel) rfl) (by decide) rfl)
set_option maxRecDepth 100000 in
theorem cb_X8_end_4 : ci_ok yX8_end cX8_end 3 4 (ci_seq (ci_load 0 1 5) 5 (ci_seq (ci_load 2 0 6) 6 (ci_seq (ci_getf 8 7 9) 9 (ci_seq (ci_getf 6 1 12) 12 (ci_ic (fun x y => decide (x ≤ y)) 17 15))))) := cq_ok (cr_iload_n (k := 1) (dq_27 (by decide +kernel)) rfl rfl) (cq_ok (cr_aload_n (k := 0) (dq_42 (by decide +kernel)) rfl rfl) (cq_ok (cr_getf (idx := 57) zc_8 (by decide) zl_257 (dq_180 (a := 0) (b := 57) (by decide +kernel) rfl) rfl) (cq_ok (cr_getf (idx := 90) zc_6 (by decide) zl_294 (dq_180 (a := 0) (b := 90) (by decide +kernel) rfl) rfl) (cr_ic_le (off := 5) (dq_164 (a := 0) (b := 5) (by decide +kernel) rfl) (by decide) rfl))))
set_option maxRecDepth 100000 in
theorem cb_X8_end_15 : ci_ok yX8_end cX8_end 3 15 (ci_push (.int (-1)) 16) := cr_iconst2 (n := -1) (dq_2 (by decide +kernel)) (by decide +kernel) rfl
set_option maxRecDepth 100000 in
theorem cd_X8_end_16 : decode cX8_end 16 = .ok (zi_rop (some .int), 1) := (dq_172 (by decide +kernel))
set_option maxRecDepth 100000 in
theorem cb_X8_end_17 : ci_ok yX8_end cX8_end 3 17 (ci_seq (ci_load 2 0 18) 18 (ci_seq (ci_getf 8 7 21) 21 (ci_seq (ci_getf 6 1 24) 24 (ci_seq (ci_store 0 2 25) 25 (ci_seq (ci_load 2 0 26) 26 (ci_seq (ci_getf 8 7 29) 29 (ci_seq (ci_load 0 1 30) 30 (ci_seq (ci_putf 6 1 .int 33) 33 (ci_load 0 2 34))))))))) := cq_ok (cr_aload_n (k := 0) (dq_42 (by decide +kernel)) rfl rfl) (cq_ok (cr_getf (idx := 57) zc_8 (by decide) zl_257 (dq_180 (a := 0) (b := 57) (by decide +kernel) rfl) rfl) (cq_ok (cr_getf (idx := 90) zc_6 (by decide) zl_294 (dq_180 (a := 0) (b := 90) (by decide +kernel) rfl) rfl) (cq_ok (cr_istore_n (k := 2) (dq_61 (by decide +kernel)) rfl (by decide) rfl) (cq_ok (cr_aload_n (k := 0) (dq_42 (by decide +kernel)) rfl rfl) (cq_ok (cr_getf (idx := 57) zc_8 (by decide) zl_257 (dq_180 (a := 0) (b := 57) (by decide +kernel) rfl) rfl) (cq_ok (cr_iload_n (k := 1) (dq_27 (by decide +kernel)) rfl rfl) (cq_ok (cr_putf (idx := 90) zc_6 (by decide) (by decide +kernel) rfl zl_294 (dq_181 (a := 0) (b := 90) (by decide +kernel) rfl) rfl) (cr_iload_n (k := 2) (dq_28 (by decide +kernel)) rfl rfl))))))))
set_option maxRecDepth 100000 in
theorem cd_X8_end_34 : decode cX8_end 34 = .ok (zi_rop (some .int), 1) := (dq_172 (by decide +kernel))
set_option maxRecDepth 100000 in
theorem cb_X8_text_0 : ci_ok yX8_text cX8_text 2 0 (ci_seq (ci_load 2 0 1) 1 (ci_seq (ci_getf 8 8 4) 4 (ci_seq (ci_load 2 0 5) 5 (ci_getf 8 7 8)))) := cq_ok (cr_aload_n (k := 0) (dq_42 (by decide +kernel)) rfl rfl) (cq_ok (cr_getf (idx := 64) zc_8 (by decide) zl_243 (dq_180 (a := 0) (b := 64) (by decide +kernel) rfl) rfl) (cq_ok (cr_aload_n (k := 0) (dq_42 (by decide +kernel)) rfl rfl) (cr_getf (idx := 57) zc_8 (by decide) zl_257 (dq_180 (a := 0) (b := 57) (by decide +kernel) rfl) rfl)))
set_option maxRecDepth 100000 in
theorem cl_X8_text_8 : ci_calls yX8_text cX8_text 2 8 yX1_take 2 (some 1) := cr_callV (idx := 94) zl_881 ⟨by decide, by decide⟩ hp_X1_take zc_1 zl_298 zl_299 (Or.inl zl_297) (dq_182 (a := 0) (b := 94) (by decide +kernel) rfl)
set_option maxRecDepth 100000 in
theorem cb_X8_text_11 : ci_ok yX8_text cX8_text 2 11 (ci_seq (ci_store 0 1 12) 12 (ci_seq (ci_load 2 0 13) 13 (ci_seq (ci_load 2 0 14) 14 (ci_seq (ci_getf 8 7 17) 17 (ci_seq (ci_getf 6 6 20) 20 (ci_seq (ci_putf 8 12 .int 23) 23 (ci_seq (ci_load 2 0 24) 24 (ci_seq (ci_getf 8 7 27) 27 (ci_seq (ci_push (.int 0) 28) 28 (ci_seq (ci_putf 6 1 .int 31) 31 (ci_seq (ci_load 2 0 32) 32 (ci_seq (ci_getf 8 12 35) 35 (ci_if (fun x => decide (x = 0)) 49 38))))))))))))) := cq_ok (cr_istore_n (k := 1) (dq_60 (by decide +kernel)) rfl (by decide) rfl) (cq_ok (cr_aload_n (k := 0) (dq_42 (by decide +kernel)) rfl rfl) (cq_ok (cr_aload_n (k := 0) (dq_42 (by decide +kernel)) rfl rfl) (cq_ok (cr_getf (idx := 57) zc_8 (by decide) zl_257 (dq_180 (a := 0) (b := 57) (by decide +kernel) rfl) rfl) (cq_ok (cr_getf (idx := 98) zc_6 (by decide) zl_296 (dq_180 (a := 0) (b := 98) (by decide +kernel) rfl) rfl) (cq_ok (cr_putf (idx := 101) zc_8 (by decide) (by decide +kernel) rfl zl_295 (dq_181 (a := 0) (b := 101) (by decide +kernel) rfl) rfl) (cq_ok (cr_aload_n (k := 0) (dq_42 (by decide +kernel)) rfl rfl) (cq_ok (cr_getf (idx := 57) zc_8 (by decide) zl_257 (dq_180 (a := 0) (b := 57) (by decide +kernel) rfl) rfl) (cq_ok (cr_iconst2 (n := 0) (dq_3 (by decide +kernel)) (by decide +kernel) rfl) (cq_ok (cr_putf (idx := 90) zc_6 (by decide) (by decide +kernel) rfl zl_294 (dq_181 (a := 0) (b := 90) (by decide +kernel) rfl) rfl) (cq_ok (cr_aload_n (k := 0) (dq_42 (by decide +kernel)) rfl rfl) (cq_ok (cr_getf (idx := 101) zc_8 (by decide) zl_295 (dq_180 (a := 0) (b := 101) (by decide +kernel) rfl) rfl) (cr_if_eq (off := 14) (dq_153 (a := 0) (b := 14) (by decide +kernel) rfl) (by decide) rfl))))))))))))
set_option maxRecDepth 100000 in
theorem cb_X8_text_38 : ci_ok yX8_text cX8_text 2 38 (ci_seq (ci_push (.int (-10)) 40) 40 (ci_seq (ci_load 2 0 41) 41 (ci_seq (ci_getf 8 7 44) 44 (ci_seq (ci_getf 6 7 47) 47 (ci_bin (fun a b => a - b) 48))))) := cq_ok (cr_bipush (n := -10) (dq_16 (a := 246) (by decide +kernel) rfl) (by decide +kernel) rfl) (cq_ok (cr_aload_n (k := 0) (dq_42 (by decide +kernel)) rfl rfl) (cq_ok (cr_getf (idx := 57) zc_8 (by decide) zl_257 (dq_180 (a := 0) (b := 57) (by decide +kernel) rfl) rfl) (cq_ok (cr_getf (idx := 104) zc_6 (by decide) zl_300 (dq_180 (a := 0) (b := 104) (by decide +kernel) rfl) rfl) (cr_isub (dq_100 (by decide +kernel)) rfl))))
set_option maxRecDepth 100000 in
theorem cd_X8_text_48 : decode cX8_text 48 = .ok (zi_rop (some .int), 1) := (dq_172 (by decide +kernel))
set_option maxRecDepth 100000 in
theorem cb_X8_text_49 : ci_ok yX8_text cX8_text 2 49 (ci_seq (ci_load 2 0 50) 50 (ci_seq (ci_getf 8 8 53) 53 (ci_seq (ci_load 2 0 54) 54 (ci_seq (ci_getf 8 0 57) 57 (ci_seq (ci_load 2 0 58) 58 (ci_getf 8 1 61)))))) := cq_ok (cr_aload_n (k := 0) (dq_42 (by decide +kernel)) rfl rfl) (cq_ok (cr_getf (idx := 64) zc_8 (by decide) zl_243 (dq_180 (a := 0) (b := 64) (by decide +kernel) rfl) rfl) (cq_ok (cr_aload_n (k := 0) (dq_42 (by decide +kernel)) rfl rfl) (cq_ok (cr_getf (idx := 10) zc_8 (by decide) zl_242 (dq_180 (a := 0) (b := 10) (by decide +kernel) rfl) rfl) (cq_ok (cr_aload_n (k := 0) (dq_42 (by decide +kernel)) rfl rfl) (cr_getf (idx := 21) zc_8 (by decide) zl_241 (dq_180 (a := 0) (b := 21) (by decide +kernel) rfl) rfl)))))
set_option maxRecDepth 100000 in
theorem cl_X8_text_61 : ci_calls yX8_text cX8_text 2 61 yX1_settle 3 (some 1) := cr_callV (idx := 82) zl_892 ⟨by decide, by decide⟩ hp_X1_settle zc_1 zl_239 zl_240 (Or.inl zl_238) (dq_182 (a := 0) (b := 82) (by decide +kernel) rfl)
set_option maxRecDepth 100000 in
theorem cb_X8_text_64 : ci_ok yX8_text cX8_text 2 64 (ci_seq (ci_load 2 0 65) 65 (ci_seq (ci_getf 8 5 68) 68 (ci_seq (ci_push (.int 0) 69) 69 (ci_seq (ci_putf 4 6 .boolean 72) 72 (ci_seq (ci_load 2 0 73) 73 (ci_seq (ci_push (.int 0) 74) 74 (ci_seq (ci_putf 8 11 .int 77) 77 (ci_load 0 1 78)))))))) := cq_ok (cr_aload_n (k := 0) (dq_42 (by decide +kernel)) rfl rfl) (cq_ok (cr_getf (idx := 41) zc_8 (by decide) zl_269 (dq_180 (a := 0) (b := 41) (by decide +kernel) rfl) rfl) (cq_ok (cr_iconst2 (n := 0) (dq_3 (by decide +kernel)) (by decide +kernel) rfl) (cq_ok (cr_putf (idx := 107) zc_4 (by decide) (by decide +kernel) rfl zl_302 (dq_181 (a := 0) (b := 107) (by decide +kernel) rfl) rfl) (cq_ok (cr_aload_n (k := 0) (dq_42 (by decide +kernel)) rfl rfl) (cq_ok (cr_iconst2 (n := 0) (dq_3 (by decide +kernel)) (by decide +kernel) rfl) (cq_ok (cr_putf (idx := 111) zc_8 (by decide) (by decide +kernel) rfl zl_301 (dq_181 (a := 0) (b := 111) (by decide +kernel) rfl) rfl) (cr_iload_n (k := 1) (dq_27 (by decide +kernel)) rfl rfl)))))))
set_option maxRecDepth 100000 in
theorem cd_X8_text_78 : decode cX8_text 78 = .ok (zi_rop (some .int), 1) := (dq_172 (by decide +kernel))
set_option maxRecDepth 100000 in
theorem cb_X8_fault_0 : ci_ok yX8_fault cX8_fault 1 0 (ci_seq (ci_load 2 0 1) 1 (ci_getf 8 12 4)) := cq_ok (cr_aload_n (k := 0) (dq_42 (by decide +kernel)) rfl rfl) (cr_getf (idx := 101) zc_8 (by decide) zl_295 (dq_180 (a := 0) (b := 101) (by decide +kernel) rfl) rfl)
set_option maxRecDepth 100000 in
theorem cd_X8_fault_4 : decode cX8_fault 4 = .ok (zi_rop (some .int), 1) := (dq_172 (by decide +kernel))
set_option maxRecDepth 100000 in
theorem cb_X8_rule_0 : ci_ok yX8_rule cX8_rule 2 0 (ci_seq (ci_load 0 1 1) 1 (ci_tsw 0 6 [44, 52, 60, 71, 79, 90, 109] 117)) := cq_ok (cr_iload_n (k := 1) (dq_27 (by decide +kernel)) rfl rfl) (cr_tsw (dflt := 116) (lo := 0) (hi := 6) (offs := #[43, 51, 59, 70, 78, 89, 108]) (len := 43) (by decide +kernel) (by decide) (by decide +kernel))
set_option maxRecDepth 100000 in
theorem cb_X8_rule_44 : ci_ok yX8_rule cX8_rule 2 44 (ci_seq (ci_load 2 0 45) 45 (ci_seq (ci_getf 8 0 48) 48 (ci_getf 3 2 51))) := cq_ok (cr_aload_n (k := 0) (dq_42 (by decide +kernel)) rfl rfl) (cq_ok (cr_getf (idx := 10) zc_8 (by decide) zl_242 (dq_180 (a := 0) (b := 10) (by decide +kernel) rfl) rfl) (cr_getf (idx := 114) zc_3 (by decide) zl_303 (dq_180 (a := 0) (b := 114) (by decide +kernel) rfl) rfl))
set_option maxRecDepth 100000 in
theorem cd_X8_rule_51 : decode cX8_rule 51 = .ok (zi_rop (some .int), 1) := (dq_172 (by decide +kernel))
set_option maxRecDepth 100000 in
theorem cb_X8_rule_52 : ci_ok yX8_rule cX8_rule 2 52 (ci_seq (ci_load 2 0 53) 53 (ci_seq (ci_getf 8 0 56) 56 (ci_getf 3 3 59))) := cq_ok (cr_aload_n (k := 0) (dq_42 (by decide +kernel)) rfl rfl) (cq_ok (cr_getf (idx := 10) zc_8 (by decide) zl_242 (dq_180 (a := 0) (b := 10) (by decide +kernel) rfl) rfl) (cr_getf (idx := 117) zc_3 (by decide) zl_304 (dq_180 (a := 0) (b := 117) (by decide +kernel) rfl) rfl))
set_option maxRecDepth 100000 in
theorem cd_X8_rule_59 : decode cX8_rule 59 = .ok (zi_rop (some .int), 1) := (dq_172 (by decide +kernel))
set_option maxRecDepth 100000 in
theorem cb_X8_rule_60 : ci_ok yX8_rule cX8_rule 2 60 (ci_seq (ci_load 2 0 61) 61 (ci_seq (ci_getf 8 1 64) 64 (ci_seq (ci_getf 7 0 67) 67 (ci_getf 2 5 70)))) := cq_ok (cr_aload_n (k := 0) (dq_42 (by decide +kernel)) rfl rfl) (cq_ok (cr_getf (idx := 21) zc_8 (by decide) zl_241 (dq_180 (a := 0) (b := 21) (by decide +kernel) rfl) rfl) (cq_ok (cr_getf (idx := 120) zc_7 (by decide) zl_306 (dq_180 (a := 0) (b := 120) (by decide +kernel) rfl) rfl) (cr_getf (idx := 123) zc_2 (by decide) zl_305 (dq_180 (a := 0) (b := 123) (by decide +kernel) rfl) rfl)))
set_option maxRecDepth 100000 in
theorem cd_X8_rule_70 : decode cX8_rule 70 = .ok (zi_rop (some .int), 1) := (dq_172 (by decide +kernel))
set_option maxRecDepth 100000 in
theorem cb_X8_rule_71 : ci_ok yX8_rule cX8_rule 2 71 (ci_seq (ci_load 2 0 72) 72 (ci_seq (ci_getf 8 0 75) 75 (ci_getf 3 4 78))) := cq_ok (cr_aload_n (k := 0) (dq_42 (by decide +kernel)) rfl rfl) (cq_ok (cr_getf (idx := 10) zc_8 (by decide) zl_242 (dq_180 (a := 0) (b := 10) (by decide +kernel) rfl) rfl) (cr_getf (idx := 126) zc_3 (by decide) zl_307 (dq_180 (a := 0) (b := 126) (by decide +kernel) rfl) rfl))
set_option maxRecDepth 100000 in
theorem cd_X8_rule_78 : decode cX8_rule 78 = .ok (zi_rop (some .int), 1) := (dq_172 (by decide +kernel))
set_option maxRecDepth 100000 in
theorem cb_X8_rule_79 : ci_ok yX8_rule cX8_rule 2 79 (ci_seq (ci_load 2 0 80) 80 (ci_seq (ci_getf 8 1 83) 83 (ci_seq (ci_getf 7 0 86) 86 (ci_getf 2 6 89)))) := cq_ok (cr_aload_n (k := 0) (dq_42 (by decide +kernel)) rfl rfl) (cq_ok (cr_getf (idx := 21) zc_8 (by decide) zl_241 (dq_180 (a := 0) (b := 21) (by decide +kernel) rfl) rfl) (cq_ok (cr_getf (idx := 120) zc_7 (by decide) zl_306 (dq_180 (a := 0) (b := 120) (by decide +kernel) rfl) rfl) (cr_getf (idx := 129) zc_2 (by decide) zl_308 (dq_180 (a := 0) (b := 129) (by decide +kernel) rfl) rfl)))
set_option maxRecDepth 100000 in
theorem cd_X8_rule_89 : decode cX8_rule 89 = .ok (zi_rop (some .int), 1) := (dq_172 (by decide +kernel))
set_option maxRecDepth 100000 in
theorem cb_X8_rule_90 : ci_ok yX8_rule cX8_rule 2 90 (ci_seq (ci_load 2 0 91) 91 (ci_seq (ci_getf 8 1 94) 94 (ci_seq (ci_getf 7 0 97) 97 (ci_seq (ci_getf 2 7 100) 100 (ci_if (fun x => decide (x = 0)) 107 103))))) := cq_ok (cr_aload_n (k := 0) (dq_42 (by decide +kernel)) rfl rfl) (cq_ok (cr_getf (idx := 21) zc_8 (by decide) zl_241 (dq_180 (a := 0) (b := 21) (by decide +kernel) rfl) rfl) (cq_ok (cr_getf (idx := 120) zc_7 (by decide) zl_306 (dq_180 (a := 0) (b := 120) (by decide +kernel) rfl) rfl) (cq_ok (cr_getf (idx := 132) zc_2 (by decide) zl_309 (dq_180 (a := 0) (b := 132) (by decide +kernel) rfl) rfl) (cr_if_eq (off := 7) (dq_153 (a := 0) (b := 7) (by decide +kernel) rfl) (by decide) rfl))))
set_option maxRecDepth 100000 in
theorem cb_X8_rule_103 : ci_ok yX8_rule cX8_rule 2 103 (ci_seq (ci_push (.int 1) 104) 104 (ci_go 108)) := cq_ok (cr_iconst2 (n := 1) (dq_4 (by decide +kernel)) (by decide +kernel) rfl) (cr_goto (off := 4) (dq_167 (a := 0) (b := 4) (by decide +kernel) rfl) (by decide))
set_option maxRecDepth 100000 in
theorem cb_X8_rule_107 : ci_ok yX8_rule cX8_rule 2 107 (ci_push (.int 0) 108) := cr_iconst2 (n := 0) (dq_3 (by decide +kernel)) (by decide +kernel) rfl
set_option maxRecDepth 100000 in
theorem cd_X8_rule_108 : decode cX8_rule 108 = .ok (zi_rop (some .int), 1) := (dq_172 (by decide +kernel))
set_option maxRecDepth 100000 in
theorem cb_X8_rule_109 : ci_ok yX8_rule cX8_rule 2 109 (ci_seq (ci_load 2 0 110) 110 (ci_seq (ci_getf 8 1 113) 113 (ci_getf 7 4 116))) := cq_ok (cr_aload_n (k := 0) (dq_42 (by decide +kernel)) rfl rfl) (cq_ok (cr_getf (idx := 21) zc_8 (by decide) zl_241 (dq_180 (a := 0) (b := 21) (by decide +kernel) rfl) rfl) (cr_getf (idx := 135) zc_7 (by decide) zl_310 (dq_180 (a := 0) (b := 135) (by decide +kernel) rfl) rfl))
set_option maxRecDepth 100000 in
theorem cd_X8_rule_116 : decode cX8_rule 116 = .ok (zi_rop (some .int), 1) := (dq_172 (by decide +kernel))
set_option maxRecDepth 100000 in
theorem cb_X8_rule_117 : ci_ok yX8_rule cX8_rule 2 117 (ci_push (.int (-1)) 118) := cr_iconst2 (n := -1) (dq_2 (by decide +kernel)) (by decide +kernel) rfl
set_option maxRecDepth 100000 in
theorem cd_X8_rule_118 : decode cX8_rule 118 = .ok (zi_rop (some .int), 1) := (dq_172 (by decide +kernel))
set_option maxRecDepth 100000 in
theorem cb_X8_cell_0 : ci_ok yX8_cell cX8_cell 3 0 (ci_seq (ci_load 2 0 1) 1 (ci_seq (ci_getf 8 0 4) 4 (ci_load 0 1 5))) := cq_ok (cr_aload_n (k := 0) (dq_42 (by decide +kernel)) rfl rfl) (cq_ok (cr_getf (idx := 10) zc_8 (by decide) zl_242 (dq_180 (a := 0) (b := 10) (by decide +kernel) rfl) rfl) (cr_iload_n (k := 1) (dq_27 (by decide +kernel)) rfl rfl))
set_option maxRecDepth 100000 in
theorem cl_X8_cell_5 : ci_calls yX8_cell cX8_cell 3 5 yX3_hasCell 2 (some 3) := cr_callV (idx := 138) zl_905 ⟨by decide, by decide⟩ hp_X3_hasCell zc_3 zl_312 zl_313 (Or.inl zl_311) (dq_182 (a := 0) (b := 138) (by decide +kernel) rfl)
set_option maxRecDepth 100000 in
theorem cb_X8_cell_8 : ci_ok yX8_cell cX8_cell 3 8 (ci_if (fun x => decide (x = 0)) 20 11) := cr_if_eq (off := 12) (dq_153 (a := 0) (b := 12) (by decide +kernel) rfl) (by decide) rfl
set_option maxRecDepth 100000 in
theorem cb_X8_cell_11 : ci_ok yX8_cell cX8_cell 3 11 (ci_seq (ci_load 0 2 12) 12 (ci_if (fun x => decide (x < 0)) 20 15)) := cq_ok (cr_iload_n (k := 2) (dq_28 (by decide +kernel)) rfl rfl) (cr_if_lt (off := 8) (dq_155 (a := 0) (b := 8) (by decide +kernel) rfl) (by decide) rfl)
set_option maxRecDepth 100000 in
theorem cb_X8_cell_15 : ci_ok yX8_cell cX8_cell 3 15 (ci_seq (ci_load 0 2 16) 16 (ci_seq (ci_push (.int 1) 17) 17 (ci_ic (fun x y => decide (x ≤ y)) 22 20))) := cq_ok (cr_iload_n (k := 2) (dq_28 (by decide +kernel)) rfl rfl) (cq_ok (cr_iconst2 (n := 1) (dq_4 (by decide +kernel)) (by decide +kernel) rfl) (cr_ic_le (off := 5) (dq_164 (a := 0) (b := 5) (by decide +kernel) rfl) (by decide) rfl))
set_option maxRecDepth 100000 in
theorem cb_X8_cell_20 : ci_ok yX8_cell cX8_cell 3 20 (ci_push (.int (-1)) 21) := cr_iconst2 (n := -1) (dq_2 (by decide +kernel)) (by decide +kernel) rfl
set_option maxRecDepth 100000 in
theorem cd_X8_cell_21 : decode cX8_cell 21 = .ok (zi_rop (some .int), 1) := (dq_172 (by decide +kernel))
set_option maxRecDepth 100000 in
theorem cb_X8_cell_22 : ci_ok yX8_cell cX8_cell 3 22 (ci_seq (ci_load 0 2 23) 23 (ci_if (fun x => !decide (x = 0)) 41 26)) := cq_ok (cr_iload_n (k := 2) (dq_28 (by decide +kernel)) rfl rfl) (cr_if_ne (off := 18) (dq_154 (a := 0) (b := 18) (by decide +kernel) rfl) (by decide) rfl)
set_option maxRecDepth 100000 in
theorem cb_X8_cell_26 : ci_ok yX8_cell cX8_cell 3 26 (ci_seq (ci_load 2 0 27) 27 (ci_seq (ci_getf 8 1 30) 30 (ci_seq (ci_getf 7 0 33) 33 (ci_seq (ci_getf 2 1 36) 36 (ci_seq (ci_load 0 1 37) 37 (ci_seq (ci_ald .int 38) 38 (ci_go 49))))))) := cq_ok (cr_aload_n (k := 0) (dq_42 (by decide +kernel)) rfl rfl) (cq_ok (cr_getf (idx := 21) zc_8 (by decide) zl_241 (dq_180 (a := 0) (b := 21) (by decide +kernel) rfl) rfl) (cq_ok (cr_getf (idx := 120) zc_7 (by decide) zl_306 (dq_180 (a := 0) (b := 120) (by decide +kernel) rfl) rfl) (cq_ok (cr_getf (idx := 142) zc_2 (by decide) zl_314 (dq_180 (a := 0) (b := 142) (by decide +kernel) rfl) rfl) (cq_ok (cr_iload_n (k := 1) (dq_27 (by decide +kernel)) rfl rfl) (cq_ok (cr_ald (ins := .iaload) rfl (dq_46 (by decide +kernel)) (Or.inl ⟨rfl, rfl⟩)) (cr_goto (off := 11) (dq_167 (a := 0) (b := 11) (by decide +kernel) rfl) (by decide)))))))
set_option maxRecDepth 100000 in
theorem cb_X8_cell_41 : ci_ok yX8_cell cX8_cell 3 41 (ci_seq (ci_load 2 0 42) 42 (ci_seq (ci_getf 8 0 45) 45 (ci_load 0 1 46))) := cq_ok (cr_aload_n (k := 0) (dq_42 (by decide +kernel)) rfl rfl) (cq_ok (cr_getf (idx := 10) zc_8 (by decide) zl_242 (dq_180 (a := 0) (b := 10) (by decide +kernel) rfl) rfl) (cr_iload_n (k := 1) (dq_27 (by decide +kernel)) rfl rfl))
set_option maxRecDepth 100000 in
theorem cl_X8_cell_46 : ci_calls yX8_cell cX8_cell 3 46 yX3_ownerOf 2 (some 3) := cr_callV (idx := 145) zl_907 ⟨by decide, by decide⟩ hp_X3_ownerOf zc_3 zl_316 zl_317 (Or.inl zl_315) (dq_182 (a := 0) (b := 145) (by decide +kernel) rfl)
set_option maxRecDepth 100000 in
theorem cd_X8_cell_49 : decode cX8_cell 49 = .ok (zi_rop (some .int), 1) := (dq_172 (by decide +kernel))
set_option maxRecDepth 100000 in
theorem cb_X8_farm_0 : ci_ok yX8_farm cX8_farm 3 0 (ci_seq (ci_load 2 0 1) 1 (ci_seq (ci_getf 8 0 4) 4 (ci_load 0 1 5))) := cq_ok (cr_aload_n (k := 0) (dq_42 (by decide +kernel)) rfl rfl) (cq_ok (cr_getf (idx := 10) zc_8 (by decide) zl_242 (dq_180 (a := 0) (b := 10) (by decide +kernel) rfl) rfl) (cr_iload_n (k := 1) (dq_27 (by decide +kernel)) rfl rfl))
set_option maxRecDepth 100000 in
theorem cl_X8_farm_5 : ci_calls yX8_farm cX8_farm 3 5 yX3_hasFarm 2 (some 3) := cr_callV (idx := 149) zl_906 ⟨by decide, by decide⟩ hp_X3_hasFarm zc_3 zl_147 zl_148 (Or.inl zl_318) (dq_182 (a := 0) (b := 149) (by decide +kernel) rfl)
set_option maxRecDepth 100000 in
theorem cb_X8_farm_8 : ci_ok yX8_farm cX8_farm 3 8 (ci_if (fun x => !decide (x = 0)) 13 11) := cr_if_ne (off := 5) (dq_154 (a := 0) (b := 5) (by decide +kernel) rfl) (by decide) rfl
set_option maxRecDepth 100000 in
theorem cb_X8_farm_11 : ci_ok yX8_farm cX8_farm 3 11 (ci_push (.int (-1)) 12) := cr_iconst2 (n := -1) (dq_2 (by decide +kernel)) (by decide +kernel) rfl
set_option maxRecDepth 100000 in
theorem cd_X8_farm_12 : decode cX8_farm 12 = .ok (zi_rop (some .int), 1) := (dq_172 (by decide +kernel))
set_option maxRecDepth 100000 in
theorem cb_X8_farm_13 : ci_ok yX8_farm cX8_farm 3 13 (ci_seq (ci_load 0 2 14) 14 (ci_tsw 0 3 [44, 54, 64, 83] 95)) := cq_ok (cr_iload_n (k := 2) (dq_28 (by decide +kernel)) rfl rfl) (cr_tsw (dflt := 81) (lo := 0) (hi := 3) (offs := #[30, 40, 50, 69]) (len := 30) (by decide +kernel) (by decide) (by decide +kernel))
set_option maxRecDepth 100000 in
theorem cb_X8_farm_44 : ci_ok yX8_farm cX8_farm 3 44 (ci_seq (ci_load 2 0 45) 45 (ci_seq (ci_getf 8 1 48) 48 (ci_seq (ci_getf 7 1 51) 51 (ci_seq (ci_load 0 1 52) 52 (ci_ald .int 53))))) := cq_ok (cr_aload_n (k := 0) (dq_42 (by decide +kernel)) rfl rfl) (cq_ok (cr_getf (idx := 21) zc_8 (by decide) zl_241 (dq_180 (a := 0) (b := 21) (by decide +kernel) rfl) rfl) (cq_ok (cr_getf (idx := 152) zc_7 (by decide) zl_319 (dq_180 (a := 0) (b := 152) (by decide +kernel) rfl) rfl) (cq_ok (cr_iload_n (k := 1) (dq_27 (by decide +kernel)) rfl rfl) (cr_ald (ins := .iaload) rfl (dq_46 (by decide +kernel)) (Or.inl ⟨rfl, rfl⟩)))))
set_option maxRecDepth 100000 in
theorem cd_X8_farm_53 : decode cX8_farm 53 = .ok (zi_rop (some .int), 1) := (dq_172 (by decide +kernel))
set_option maxRecDepth 100000 in
theorem cb_X8_farm_54 : ci_ok yX8_farm cX8_farm 3 54 (ci_seq (ci_load 2 0 55) 55 (ci_seq (ci_getf 8 0 58) 58 (ci_seq (ci_getf 3 0 61) 61 (ci_seq (ci_load 0 1 62) 62 (ci_ald .int 63))))) := cq_ok (cr_aload_n (k := 0) (dq_42 (by decide +kernel)) rfl rfl) (cq_ok (cr_getf (idx := 10) zc_8 (by decide) zl_242 (dq_180 (a := 0) (b := 10) (by decide +kernel) rfl) rfl) (cq_ok (cr_getf (idx := 155) zc_3 (by decide) zl_320 (dq_180 (a := 0) (b := 155) (by decide +kernel) rfl) rfl) (cq_ok (cr_iload_n (k := 1) (dq_27 (by decide +kernel)) rfl rfl) (cr_ald (ins := .iaload) rfl (dq_46 (by decide +kernel)) (Or.inl ⟨rfl, rfl⟩)))))
set_option maxRecDepth 100000 in
theorem cd_X8_farm_63 : decode cX8_farm 63 = .ok (zi_rop (some .int), 1) := (dq_172 (by decide +kernel))
set_option maxRecDepth 100000 in
theorem cb_X8_farm_64 : ci_ok yX8_farm cX8_farm 3 64 (ci_seq (ci_load 2 0 65) 65 (ci_seq (ci_getf 8 1 68) 68 (ci_seq (ci_load 0 1 69) 69 (ci_seq (ci_load 2 0 70) 70 (ci_seq (ci_getf 8 1 73) 73 (ci_seq (ci_getf 7 0 76) 76 (ci_getf 2 4 79))))))) := cq_ok (cr_aload_n (k := 0) (dq_42 (by decide +kernel)) rfl rfl) (cq_ok (cr_getf (idx := 21) zc_8 (by decide) zl_241 (dq_180 (a := 0) (b := 21) (by decide +kernel) rfl) rfl) (cq_ok (cr_iload_n (k := 1) (dq_27 (by decide +kernel)) rfl rfl) (cq_ok (cr_aload_n (k := 0) (dq_42 (by decide +kernel)) rfl rfl) (cq_ok (cr_getf (idx := 21) zc_8 (by decide) zl_241 (dq_180 (a := 0) (b := 21) (by decide +kernel) rfl) rfl) (cq_ok (cr_getf (idx := 120) zc_7 (by decide) zl_306 (dq_180 (a := 0) (b := 120) (by decide +kernel) rfl) rfl) (cr_getf (idx := 158) zc_2 (by decide) zl_322 (dq_180 (a := 0) (b := 158) (by decide +kernel) rfl) rfl))))))
set_option maxRecDepth 100000 in
theorem cl_X8_farm_79 : ci_calls yX8_farm cX8_farm 3 79 yX7_gain 3 (some 7) := cr_callV (idx := 161) zl_939 ⟨by decide, by decide⟩ hp_X7_gain zc_7 zl_187 zl_188 (Or.inl zl_321) (dq_182 (a := 0) (b := 161) (by decide +kernel) rfl)
set_option maxRecDepth 100000 in
theorem cd_X8_farm_82 : decode cX8_farm 82 = .ok (zi_rop (some .int), 1) := (dq_172 (by decide +kernel))
set_option maxRecDepth 100000 in
theorem cb_X8_farm_83 : ci_ok yX8_farm cX8_farm 3 83 (ci_seq (ci_load 2 0 84) 84 (ci_seq (ci_getf 8 1 87) 87 (ci_seq (ci_getf 7 0 90) 90 (ci_load 0 1 91)))) := cq_ok (cr_aload_n (k := 0) (dq_42 (by decide +kernel)) rfl rfl) (cq_ok (cr_getf (idx := 21) zc_8 (by decide) zl_241 (dq_180 (a := 0) (b := 21) (by decide +kernel) rfl) rfl) (cq_ok (cr_getf (idx := 120) zc_7 (by decide) zl_306 (dq_180 (a := 0) (b := 120) (by decide +kernel) rfl) rfl) (cr_iload_n (k := 1) (dq_27 (by decide +kernel)) rfl rfl)))
set_option maxRecDepth 100000 in
theorem cl_X8_farm_91 : ci_calls yX8_farm cX8_farm 3 91 yX2_cuttable 2 (some 2) := cr_callV (idx := 165) zl_898 ⟨by decide, by decide⟩ hp_X2_cuttable zc_2 zl_20 zl_21 (Or.inl zl_323) (dq_182 (a := 0) (b := 165) (by decide +kernel) rfl)
set_option maxRecDepth 100000 in
theorem cd_X8_farm_94 : decode cX8_farm 94 = .ok (zi_rop (some .int), 1) := (dq_172 (by decide +kernel))
set_option maxRecDepth 100000 in
theorem cb_X8_farm_95 : ci_ok yX8_farm cX8_farm 3 95 (ci_push (.int (-1)) 96) := cr_iconst2 (n := -1) (dq_2 (by decide +kernel)) (by decide +kernel) rfl
set_option maxRecDepth 100000 in
theorem cd_X8_farm_96 : decode cX8_farm 96 = .ok (zi_rop (some .int), 1) := (dq_172 (by decide +kernel))
set_option maxRecDepth 100000 in
theorem cb_X8_bed_0 : ci_ok yX8_bed cX8_bed 2 0 (ci_seq (ci_load 0 1 1) 1 (ci_if (fun x => decide (0 ≤ x)) 6 4)) := cq_ok (cr_iload_n (k := 1) (dq_27 (by decide +kernel)) rfl rfl) (cr_if_ge (off := 5) (dq_156 (a := 0) (b := 5) (by decide +kernel) rfl) (by decide) rfl)
set_option maxRecDepth 100000 in
theorem cb_X8_bed_4 : ci_ok yX8_bed cX8_bed 2 4 (ci_push (.int (-1)) 5) := cr_iconst2 (n := -1) (dq_2 (by decide +kernel)) (by decide +kernel) rfl
set_option maxRecDepth 100000 in
theorem cd_X8_bed_5 : decode cX8_bed 5 = .ok (zi_rop (some .int), 1) := (dq_172 (by decide +kernel))
set_option maxRecDepth 100000 in
theorem cb_X8_bed_6 : ci_ok yX8_bed cX8_bed 2 6 (ci_seq (ci_load 0 1 7) 7 (ci_seq (ci_load 2 0 8) 8 (ci_seq (ci_getf 8 1 11) 11 (ci_seq (ci_getf 7 0 14) 14 (ci_seq (ci_getf 2 3 17) 17 (ci_ic (fun x y => decide (y ≤ x)) 35 20)))))) := cq_ok (cr_iload_n (k := 1) (dq_27 (by decide +kernel)) rfl rfl) (cq_ok (cr_aload_n (k := 0) (dq_42 (by decide +kernel)) rfl rfl) (cq_ok (cr_getf (idx := 21) zc_8 (by decide) zl_241 (dq_180 (a := 0) (b := 21) (by decide +kernel) rfl) rfl) (cq_ok (cr_getf (idx := 120) zc_7 (by decide) zl_306 (dq_180 (a := 0) (b := 120) (by decide +kernel) rfl) rfl) (cq_ok (cr_getf (idx := 168) zc_2 (by decide) zl_324 (dq_180 (a := 0) (b := 168) (by decide +kernel) rfl) rfl) (cr_ic_ge (off := 18) (dq_162 (a := 0) (b := 18) (by decide +kernel) rfl) (by decide) rfl)))))
set_option maxRecDepth 100000 in
theorem cb_X8_bed_20 : ci_ok yX8_bed cX8_bed 2 20 (ci_seq (ci_load 2 0 21) 21 (ci_seq (ci_getf 8 1 24) 24 (ci_seq (ci_getf 7 0 27) 27 (ci_seq (ci_getf 2 2 30) 30 (ci_seq (ci_load 0 1 31) 31 (ci_seq (ci_ald .int 32) 32 (ci_go 37))))))) := cq_ok (cr_aload_n (k := 0) (dq_42 (by decide +kernel)) rfl rfl) (cq_ok (cr_getf (idx := 21) zc_8 (by decide) zl_241 (dq_180 (a := 0) (b := 21) (by decide +kernel) rfl) rfl) (cq_ok (cr_getf (idx := 120) zc_7 (by decide) zl_306 (dq_180 (a := 0) (b := 120) (by decide +kernel) rfl) rfl) (cq_ok (cr_getf (idx := 169) zc_2 (by decide) zl_325 (dq_180 (a := 0) (b := 169) (by decide +kernel) rfl) rfl) (cq_ok (cr_iload_n (k := 1) (dq_27 (by decide +kernel)) rfl rfl) (cq_ok (cr_ald (ins := .iaload) rfl (dq_46 (by decide +kernel)) (Or.inl ⟨rfl, rfl⟩)) (cr_goto (off := 5) (dq_167 (a := 0) (b := 5) (by decide +kernel) rfl) (by decide)))))))
set_option maxRecDepth 100000 in
theorem cb_X8_bed_35 : ci_ok yX8_bed cX8_bed 2 35 (ci_push (.int (-4)) 37) := cr_bipush (n := -4) (dq_16 (a := 252) (by decide +kernel) rfl) (by decide +kernel) rfl
set_option maxRecDepth 100000 in
theorem cd_X8_bed_37 : decode cX8_bed 37 = .ok (zi_rop (some .int), 1) := (dq_172 (by decide +kernel))
set_option maxRecDepth 100000 in
theorem cb_X8_dam_0 : ci_ok yX8_dam cX8_dam 4 0 (ci_seq (ci_load 2 0 1) 1 (ci_seq (ci_getf 8 0 4) 4 (ci_load 0 1 5))) := cq_ok (cr_aload_n (k := 0) (dq_42 (by decide +kernel)) rfl rfl) (cq_ok (cr_getf (idx := 10) zc_8 (by decide) zl_242 (dq_180 (a := 0) (b := 10) (by decide +kernel) rfl) rfl) (cr_iload_n (k := 1) (dq_27 (by decide +kernel)) rfl rfl))
set_option maxRecDepth 100000 in
theorem cl_X8_dam_5 : ci_calls yX8_dam cX8_dam 4 5 yX3_hasCell 2 (some 3) := cr_callV (idx := 138) zl_905 ⟨by decide, by decide⟩ hp_X3_hasCell zc_3 zl_312 zl_313 (Or.inl zl_311) (dq_182 (a := 0) (b := 138) (by decide +kernel) rfl)
set_option maxRecDepth 100000 in
theorem cb_X8_dam_8 : ci_ok yX8_dam cX8_dam 4 8 (ci_if (fun x => decide (x = 0)) 21 11) := cr_if_eq (off := 13) (dq_153 (a := 0) (b := 13) (by decide +kernel) rfl) (by decide) rfl
set_option maxRecDepth 100000 in
theorem cb_X8_dam_11 : ci_ok yX8_dam cX8_dam 4 11 (ci_seq (ci_load 0 2 12) 12 (ci_if (fun x => decide (x < 0)) 21 15)) := cq_ok (cr_iload_n (k := 2) (dq_28 (by decide +kernel)) rfl rfl) (cr_if_lt (off := 9) (dq_155 (a := 0) (b := 9) (by decide +kernel) rfl) (by decide) rfl)
set_option maxRecDepth 100000 in
theorem cb_X8_dam_15 : ci_ok yX8_dam cX8_dam 4 15 (ci_seq (ci_load 0 2 16) 16 (ci_seq (ci_push (.int 99) 18) 18 (ci_ic (fun x y => decide (x ≤ y)) 23 21))) := cq_ok (cr_iload_n (k := 2) (dq_28 (by decide +kernel)) rfl rfl) (cq_ok (cr_bipush (n := 99) (dq_16 (a := 99) (by decide +kernel) rfl) (by decide +kernel) rfl) (cr_ic_le (off := 5) (dq_164 (a := 0) (b := 5) (by decide +kernel) rfl) (by decide) rfl))
set_option maxRecDepth 100000 in
theorem cb_X8_dam_21 : ci_ok yX8_dam cX8_dam 4 21 (ci_push (.int (-1)) 22) := cr_iconst2 (n := -1) (dq_2 (by decide +kernel)) (by decide +kernel) rfl
set_option maxRecDepth 100000 in
theorem cd_X8_dam_22 : decode cX8_dam 22 = .ok (zi_rop (some .int), 1) := (dq_172 (by decide +kernel))
set_option maxRecDepth 100000 in
theorem cb_X8_dam_23 : ci_ok yX8_dam cX8_dam 4 23 (ci_seq (ci_load 2 0 24) 24 (ci_seq (ci_getf 8 1 27) 27 (ci_seq (ci_getf 7 0 30) 30 (ci_seq (ci_getf 2 1 33) 33 (ci_seq (ci_load 0 1 34) 34 (ci_seq (ci_ald .int 35) 35 (ci_seq (ci_store 0 3 36) 36 (ci_seq (ci_load 2 0 37) 37 (ci_seq (ci_getf 8 1 40) 40 (ci_seq (ci_getf 7 0 43) 43 (ci_seq (ci_getf 2 1 46) 46 (ci_seq (ci_load 0 1 47) 47 (ci_seq (ci_load 0 2 48) 48 (ci_seq (ci_ast .int 49) 49 (ci_load 2 0 50))))))))))))))) := cq_ok (cr_aload_n (k := 0) (dq_42 (by decide +kernel)) rfl rfl) (cq_ok (cr_getf (idx := 21) zc_8 (by decide) zl_241 (dq_180 (a := 0) (b := 21) (by decide +kernel) rfl) rfl) (cq_ok (cr_getf (idx := 120) zc_7 (by decide) zl_306 (dq_180 (a := 0) (b := 120) (by decide +kernel) rfl) rfl) (cq_ok (cr_getf (idx := 142) zc_2 (by decide) zl_314 (dq_180 (a := 0) (b := 142) (by decide +kernel) rfl) rfl) (cq_ok (cr_iload_n (k := 1) (dq_27 (by decide +kernel)) rfl rfl) (cq_ok (cr_ald (ins := .iaload) rfl (dq_46 (by decide +kernel)) (Or.inl ⟨rfl, rfl⟩)) (cq_ok (cr_istore_n (k := 3) (dq_62 (by decide +kernel)) rfl (by decide) rfl) (cq_ok (cr_aload_n (k := 0) (dq_42 (by decide +kernel)) rfl rfl) (cq_ok (cr_getf (idx := 21) zc_8 (by decide) zl_241 (dq_180 (a := 0) (b := 21) (by decide +kernel) rfl) rfl) (cq_ok (cr_getf (idx := 120) zc_7 (by decide) zl_306 (dq_180 (a := 0) (b := 120) (by decide +kernel) rfl) rfl) (cq_ok (cr_getf (idx := 142) zc_2 (by decide) zl_314 (dq_180 (a := 0) (b := 142) (by decide +kernel) rfl) rfl) (cq_ok (cr_iload_n (k := 1) (dq_27 (by decide +kernel)) rfl rfl) (cq_ok (cr_iload_n (k := 2) (dq_28 (by decide +kernel)) rfl rfl) (cq_ok (cr_ast (ins := .iastore) rfl (dq_79 (by decide +kernel)) (Or.inl ⟨rfl, rfl⟩)) (cr_aload_n (k := 0) (dq_42 (by decide +kernel)) rfl rfl))))))))))))))
set_option maxRecDepth 100000 in
theorem cl_X8_dam_50 : ci_calls yX8_dam cX8_dam 4 50 yX8_retrace 1 (some 8) := cr_callV (idx := 172) zl_955 ⟨by decide, by decide⟩ hp_X8_retrace zc_8 zl_327 zl_328 (Or.inl zl_326) (dq_182 (a := 0) (b := 172) (by decide +kernel) rfl)
set_option maxRecDepth 100000 in
theorem cb_X8_dam_53 : ci_ok yX8_dam cX8_dam 4 53 (ci_load 0 3 54) := cr_iload_n (k := 3) (dq_29 (by decide +kernel)) rfl rfl
set_option maxRecDepth 100000 in
theorem cd_X8_dam_54 : decode cX8_dam 54 = .ok (zi_rop (some .int), 1) := (dq_172 (by decide +kernel))
set_option maxRecDepth 100000 in
theorem cb_X8_move_0 : ci_ok yX8_move cX8_move 3 0 (ci_seq (ci_load 2 0 1) 1 (ci_seq (ci_getf 8 0 4) 4 (ci_load 0 1 5))) := cq_ok (cr_aload_n (k := 0) (dq_42 (by decide +kernel)) rfl rfl) (cq_ok (cr_getf (idx := 10) zc_8 (by decide) zl_242 (dq_180 (a := 0) (b := 10) (by decide +kernel) rfl) rfl) (cr_iload_n (k := 1) (dq_27 (by decide +kernel)) rfl rfl))
set_option maxRecDepth 100000 in
theorem cl_X8_move_5 : ci_calls yX8_move cX8_move 3 5 yX3_hasCell 2 (some 3) := cr_callV (idx := 138) zl_905 ⟨by decide, by decide⟩ hp_X3_hasCell zc_3 zl_312 zl_313 (Or.inl zl_311) (dq_182 (a := 0) (b := 138) (by decide +kernel) rfl)
set_option maxRecDepth 100000 in
theorem cb_X8_move_8 : ci_ok yX8_move cX8_move 3 8 (ci_if (fun x => !decide (x = 0)) 13 11) := cr_if_ne (off := 5) (dq_154 (a := 0) (b := 5) (by decide +kernel) rfl) (by decide) rfl
set_option maxRecDepth 100000 in
theorem cb_X8_move_11 : ci_ok yX8_move cX8_move 3 11 (ci_push (.int (-1)) 12) := cr_iconst2 (n := -1) (dq_2 (by decide +kernel)) (by decide +kernel) rfl
set_option maxRecDepth 100000 in
theorem cd_X8_move_12 : decode cX8_move 12 = .ok (zi_rop (some .int), 1) := (dq_172 (by decide +kernel))
set_option maxRecDepth 100000 in
theorem cb_X8_move_13 : ci_ok yX8_move cX8_move 3 13 (ci_seq (ci_load 2 0 14) 14 (ci_seq (ci_getf 8 1 17) 17 (ci_seq (ci_getf 7 0 20) 20 (ci_seq (ci_getf 2 5 23) 23 (ci_seq (ci_store 0 2 24) 24 (ci_seq (ci_load 2 0 25) 25 (ci_seq (ci_getf 8 1 28) 28 (ci_seq (ci_getf 7 0 31) 31 (ci_seq (ci_load 0 1 32) 32 (ci_seq (ci_putf 2 5 .int 35) 35 (ci_load 2 0 36))))))))))) := cq_ok (cr_aload_n (k := 0) (dq_42 (by decide +kernel)) rfl rfl) (cq_ok (cr_getf (idx := 21) zc_8 (by decide) zl_241 (dq_180 (a := 0) (b := 21) (by decide +kernel) rfl) rfl) (cq_ok (cr_getf (idx := 120) zc_7 (by decide) zl_306 (dq_180 (a := 0) (b := 120) (by decide +kernel) rfl) rfl) (cq_ok (cr_getf (idx := 123) zc_2 (by decide) zl_305 (dq_180 (a := 0) (b := 123) (by decide +kernel) rfl) rfl) (cq_ok (cr_istore_n (k := 2) (dq_61 (by decide +kernel)) rfl (by decide) rfl) (cq_ok (cr_aload_n (k := 0) (dq_42 (by decide +kernel)) rfl rfl) (cq_ok (cr_getf (idx := 21) zc_8 (by decide) zl_241 (dq_180 (a := 0) (b := 21) (by decide +kernel) rfl) rfl) (cq_ok (cr_getf (idx := 120) zc_7 (by decide) zl_306 (dq_180 (a := 0) (b := 120) (by decide +kernel) rfl) rfl) (cq_ok (cr_iload_n (k := 1) (dq_27 (by decide +kernel)) rfl rfl) (cq_ok (cr_putf (idx := 123) zc_2 (by decide) (by decide +kernel) rfl zl_305 (dq_181 (a := 0) (b := 123) (by decide +kernel) rfl) rfl) (cr_aload_n (k := 0) (dq_42 (by decide +kernel)) rfl rfl))))))))))
set_option maxRecDepth 100000 in
theorem cl_X8_move_36 : ci_calls yX8_move cX8_move 3 36 yX8_retrace 1 (some 8) := cr_callV (idx := 172) zl_955 ⟨by decide, by decide⟩ hp_X8_retrace zc_8 zl_327 zl_328 (Or.inl zl_326) (dq_182 (a := 0) (b := 172) (by decide +kernel) rfl)
set_option maxRecDepth 100000 in
theorem cb_X8_move_39 : ci_ok yX8_move cX8_move 3 39 (ci_load 0 2 40) := cr_iload_n (k := 2) (dq_28 (by decide +kernel)) rfl rfl
set_option maxRecDepth 100000 in
theorem cd_X8_move_40 : decode cX8_move 40 = .ok (zi_rop (some .int), 1) := (dq_172 (by decide +kernel))
set_option maxRecDepth 100000 in
theorem cb_X8_law_0 : ci_ok yX8_law cX8_law 3 0 (ci_seq (ci_load 0 1 1) 1 (ci_if (fun x => decide (x < 0)) 9 4)) := cq_ok (cr_iload_n (k := 1) (dq_27 (by decide +kernel)) rfl rfl) (cr_if_lt (off := 8) (dq_155 (a := 0) (b := 8) (by decide +kernel) rfl) (by decide) rfl)
set_option maxRecDepth 100000 in
theorem cb_X8_law_4 : ci_ok yX8_law cX8_law 3 4 (ci_seq (ci_load 0 1 5) 5 (ci_seq (ci_push (.int 3) 6) 6 (ci_ic (fun x y => decide (x < y)) 11 9))) := cq_ok (cr_iload_n (k := 1) (dq_27 (by decide +kernel)) rfl rfl) (cq_ok (cr_iconst2 (n := 3) (dq_6 (by decide +kernel)) (by decide +kernel) rfl) (cr_ic_lt (off := 5) (dq_161 (a := 0) (b := 5) (by decide +kernel) rfl) (by decide) rfl))
set_option maxRecDepth 100000 in
theorem cb_X8_law_9 : ci_ok yX8_law cX8_law 3 9 (ci_push (.int (-1)) 10) := cr_iconst2 (n := -1) (dq_2 (by decide +kernel)) (by decide +kernel) rfl
set_option maxRecDepth 100000 in
theorem cd_X8_law_10 : decode cX8_law 10 = .ok (zi_rop (some .int), 1) := (dq_172 (by decide +kernel))
set_option maxRecDepth 100000 in
theorem cb_X8_law_11 : ci_ok yX8_law cX8_law 3 11 (ci_seq (ci_load 2 0 12) 12 (ci_seq (ci_getf 8 1 15) 15 (ci_seq (ci_getf 7 0 18) 18 (ci_seq (ci_getf 2 6 21) 21 (ci_seq (ci_store 0 2 22) 22 (ci_seq (ci_load 2 0 23) 23 (ci_seq (ci_getf 8 1 26) 26 (ci_seq (ci_getf 7 0 29) 29 (ci_seq (ci_load 0 1 30) 30 (ci_seq (ci_putf 2 6 .int 33) 33 (ci_seq (ci_load 2 0 34) 34 (ci_seq (ci_getf 8 5 37) 37 (ci_seq (ci_push (.int 0) 38) 38 (ci_seq (ci_putf 4 6 .boolean 41) 41 (ci_load 0 2 42))))))))))))))) := cq_ok (cr_aload_n (k := 0) (dq_42 (by decide +kernel)) rfl rfl) (cq_ok (cr_getf (idx := 21) zc_8 (by decide) zl_241 (dq_180 (a := 0) (b := 21) (by decide +kernel) rfl) rfl) (cq_ok (cr_getf (idx := 120) zc_7 (by decide) zl_306 (dq_180 (a := 0) (b := 120) (by decide +kernel) rfl) rfl) (cq_ok (cr_getf (idx := 129) zc_2 (by decide) zl_308 (dq_180 (a := 0) (b := 129) (by decide +kernel) rfl) rfl) (cq_ok (cr_istore_n (k := 2) (dq_61 (by decide +kernel)) rfl (by decide) rfl) (cq_ok (cr_aload_n (k := 0) (dq_42 (by decide +kernel)) rfl rfl) (cq_ok (cr_getf (idx := 21) zc_8 (by decide) zl_241 (dq_180 (a := 0) (b := 21) (by decide +kernel) rfl) rfl) (cq_ok (cr_getf (idx := 120) zc_7 (by decide) zl_306 (dq_180 (a := 0) (b := 120) (by decide +kernel) rfl) rfl) (cq_ok (cr_iload_n (k := 1) (dq_27 (by decide +kernel)) rfl rfl) (cq_ok (cr_putf (idx := 129) zc_2 (by decide) (by decide +kernel) rfl zl_308 (dq_181 (a := 0) (b := 129) (by decide +kernel) rfl) rfl) (cq_ok (cr_aload_n (k := 0) (dq_42 (by decide +kernel)) rfl rfl) (cq_ok (cr_getf (idx := 41) zc_8 (by decide) zl_269 (dq_180 (a := 0) (b := 41) (by decide +kernel) rfl) rfl) (cq_ok (cr_iconst2 (n := 0) (dq_3 (by decide +kernel)) (by decide +kernel) rfl) (cq_ok (cr_putf (idx := 107) zc_4 (by decide) (by decide +kernel) rfl zl_302 (dq_181 (a := 0) (b := 107) (by decide +kernel) rfl) rfl) (cr_iload_n (k := 2) (dq_28 (by decide +kernel)) rfl rfl))))))))))))))
set_option maxRecDepth 100000 in
theorem cd_X8_law_42 : decode cX8_law 42 = .ok (zi_rop (some .int), 1) := (dq_172 (by decide +kernel))
set_option maxRecDepth 100000 in
theorem cb_X8_silt_0 : ci_ok yX8_silt cX8_silt 3 0 (ci_seq (ci_load 2 0 1) 1 (ci_seq (ci_getf 8 1 4) 4 (ci_seq (ci_getf 7 0 7) 7 (ci_seq (ci_getf 2 7 10) 10 (ci_if (fun x => decide (x = 0)) 17 13))))) := cq_ok (cr_aload_n (k := 0) (dq_42 (by decide +kernel)) rfl rfl) (cq_ok (cr_getf (idx := 21) zc_8 (by decide) zl_241 (dq_180 (a := 0) (b := 21) (by decide +kernel) rfl) rfl) (cq_ok (cr_getf (idx := 120) zc_7 (by decide) zl_306 (dq_180 (a := 0) (b := 120) (by decide +kernel) rfl) rfl) (cq_ok (cr_getf (idx := 132) zc_2 (by decide) zl_309 (dq_180 (a := 0) (b := 132) (by decide +kernel) rfl) rfl) (cr_if_eq (off := 7) (dq_153 (a := 0) (b := 7) (by decide +kernel) rfl) (by decide) rfl))))
set_option maxRecDepth 100000 in
theorem cb_X8_silt_13 : ci_ok yX8_silt cX8_silt 3 13 (ci_seq (ci_push (.int 1) 14) 14 (ci_go 18)) := cq_ok (cr_iconst2 (n := 1) (dq_4 (by decide +kernel)) (by decide +kernel) rfl) (cr_goto (off := 4) (dq_167 (a := 0) (b := 4) (by decide +kernel) rfl) (by decide))
set_option maxRecDepth 100000 in
theorem cb_X8_silt_17 : ci_ok yX8_silt cX8_silt 3 17 (ci_push (.int 0) 18) := cr_iconst2 (n := 0) (dq_3 (by decide +kernel)) (by decide +kernel) rfl
set_option maxRecDepth 100000 in
theorem cb_X8_silt_18 : ci_ok yX8_silt cX8_silt 3 18 (ci_seq (ci_store 0 2 19) 19 (ci_seq (ci_load 2 0 20) 20 (ci_seq (ci_getf 8 1 23) 23 (ci_seq (ci_getf 7 0 26) 26 (ci_seq (ci_load 0 1 27) 27 (ci_seq (ci_putf 2 7 .boolean 30) 30 (ci_seq (ci_load 2 0 31) 31 (ci_seq (ci_getf 8 5 34) 34 (ci_seq (ci_push (.int 0) 35) 35 (ci_seq (ci_putf 4 6 .boolean 38) 38 (ci_load 0 2 39))))))))))) := cq_ok (cr_istore_n (k := 2) (dq_61 (by decide +kernel)) rfl (by decide) rfl) (cq_ok (cr_aload_n (k := 0) (dq_42 (by decide +kernel)) rfl rfl) (cq_ok (cr_getf (idx := 21) zc_8 (by decide) zl_241 (dq_180 (a := 0) (b := 21) (by decide +kernel) rfl) rfl) (cq_ok (cr_getf (idx := 120) zc_7 (by decide) zl_306 (dq_180 (a := 0) (b := 120) (by decide +kernel) rfl) rfl) (cq_ok (cr_iload_n (k := 1) (dq_27 (by decide +kernel)) rfl rfl) (cq_ok (cr_putf (idx := 132) zc_2 (by decide) (by decide +kernel) rfl zl_309 (dq_181 (a := 0) (b := 132) (by decide +kernel) rfl) rfl) (cq_ok (cr_aload_n (k := 0) (dq_42 (by decide +kernel)) rfl rfl) (cq_ok (cr_getf (idx := 41) zc_8 (by decide) zl_269 (dq_180 (a := 0) (b := 41) (by decide +kernel) rfl) rfl) (cq_ok (cr_iconst2 (n := 0) (dq_3 (by decide +kernel)) (by decide +kernel) rfl) (cq_ok (cr_putf (idx := 107) zc_4 (by decide) (by decide +kernel) rfl zl_302 (dq_181 (a := 0) (b := 107) (by decide +kernel) rfl) rfl) (cr_iload_n (k := 2) (dq_28 (by decide +kernel)) rfl rfl))))))))))
set_option maxRecDepth 100000 in
theorem cd_X8_silt_39 : decode cX8_silt 39 = .ok (zi_rop (some .int), 1) := (dq_172 (by decide +kernel))
set_option maxRecDepth 100000 in
theorem cb_X8_price_0 : ci_ok yX8_price cX8_price 4 0 (ci_seq (ci_load 2 0 1) 1 (ci_seq (ci_getf 8 0 4) 4 (ci_load 0 1 5))) := cq_ok (cr_aload_n (k := 0) (dq_42 (by decide +kernel)) rfl rfl) (cq_ok (cr_getf (idx := 10) zc_8 (by decide) zl_242 (dq_180 (a := 0) (b := 10) (by decide +kernel) rfl) rfl) (cr_iload_n (k := 1) (dq_27 (by decide +kernel)) rfl rfl))
set_option maxRecDepth 100000 in
theorem cl_X8_price_5 : ci_calls yX8_price cX8_price 4 5 yX3_hasFarm 2 (some 3) := cr_callV (idx := 149) zl_906 ⟨by decide, by decide⟩ hp_X3_hasFarm zc_3 zl_147 zl_148 (Or.inl zl_318) (dq_182 (a := 0) (b := 149) (by decide +kernel) rfl)
set_option maxRecDepth 100000 in
theorem cb_X8_price_8 : ci_ok yX8_price cX8_price 4 8 (ci_if (fun x => decide (x = 0)) 22 11) := cr_if_eq (off := 14) (dq_153 (a := 0) (b := 14) (by decide +kernel) rfl) (by decide) rfl
set_option maxRecDepth 100000 in
theorem cb_X8_price_11 : ci_ok yX8_price cX8_price 4 11 (ci_seq (ci_load 0 2 12) 12 (ci_seq (ci_push (.int 1) 13) 13 (ci_ic (fun x y => decide (x < y)) 22 16))) := cq_ok (cr_iload_n (k := 2) (dq_28 (by decide +kernel)) rfl rfl) (cq_ok (cr_iconst2 (n := 1) (dq_4 (by decide +kernel)) (by decide +kernel) rfl) (cr_ic_lt (off := 9) (dq_161 (a := 0) (b := 9) (by decide +kernel) rfl) (by decide) rfl))
set_option maxRecDepth 100000 in
theorem cb_X8_price_16 : ci_ok yX8_price cX8_price 4 16 (ci_seq (ci_load 0 2 17) 17 (ci_seq (ci_push (.int 9) 19) 19 (ci_ic (fun x y => decide (x ≤ y)) 24 22))) := cq_ok (cr_iload_n (k := 2) (dq_28 (by decide +kernel)) rfl rfl) (cq_ok (cr_bipush (n := 9) (dq_16 (a := 9) (by decide +kernel) rfl) (by decide +kernel) rfl) (cr_ic_le (off := 5) (dq_164 (a := 0) (b := 5) (by decide +kernel) rfl) (by decide) rfl))
set_option maxRecDepth 100000 in
theorem cb_X8_price_22 : ci_ok yX8_price cX8_price 4 22 (ci_push (.int (-1)) 23) := cr_iconst2 (n := -1) (dq_2 (by decide +kernel)) (by decide +kernel) rfl
set_option maxRecDepth 100000 in
theorem cd_X8_price_23 : decode cX8_price 23 = .ok (zi_rop (some .int), 1) := (dq_172 (by decide +kernel))
set_option maxRecDepth 100000 in
theorem cb_X8_price_24 : ci_ok yX8_price cX8_price 4 24 (ci_seq (ci_load 2 0 25) 25 (ci_seq (ci_getf 8 1 28) 28 (ci_seq (ci_getf 7 1 31) 31 (ci_seq (ci_load 0 1 32) 32 (ci_seq (ci_ald .int 33) 33 (ci_seq (ci_store 0 3 34) 34 (ci_seq (ci_load 2 0 35) 35 (ci_seq (ci_getf 8 1 38) 38 (ci_seq (ci_getf 7 1 41) 41 (ci_seq (ci_load 0 1 42) 42 (ci_seq (ci_load 0 2 43) 43 (ci_seq (ci_ast .int 44) 44 (ci_load 0 3 45))))))))))))) := cq_ok (cr_aload_n (k := 0) (dq_42 (by decide +kernel)) rfl rfl) (cq_ok (cr_getf (idx := 21) zc_8 (by decide) zl_241 (dq_180 (a := 0) (b := 21) (by decide +kernel) rfl) rfl) (cq_ok (cr_getf (idx := 152) zc_7 (by decide) zl_319 (dq_180 (a := 0) (b := 152) (by decide +kernel) rfl) rfl) (cq_ok (cr_iload_n (k := 1) (dq_27 (by decide +kernel)) rfl rfl) (cq_ok (cr_ald (ins := .iaload) rfl (dq_46 (by decide +kernel)) (Or.inl ⟨rfl, rfl⟩)) (cq_ok (cr_istore_n (k := 3) (dq_62 (by decide +kernel)) rfl (by decide) rfl) (cq_ok (cr_aload_n (k := 0) (dq_42 (by decide +kernel)) rfl rfl) (cq_ok (cr_getf (idx := 21) zc_8 (by decide) zl_241 (dq_180 (a := 0) (b := 21) (by decide +kernel) rfl) rfl) (cq_ok (cr_getf (idx := 152) zc_7 (by decide) zl_319 (dq_180 (a := 0) (b := 152) (by decide +kernel) rfl) rfl) (cq_ok (cr_iload_n (k := 1) (dq_27 (by decide +kernel)) rfl rfl) (cq_ok (cr_iload_n (k := 2) (dq_28 (by decide +kernel)) rfl rfl) (cq_ok (cr_ast (ins := .iastore) rfl (dq_79 (by decide +kernel)) (Or.inl ⟨rfl, rfl⟩)) (cr_iload_n (k := 3) (dq_29 (by decide +kernel)) rfl rfl))))))))))))
set_option maxRecDepth 100000 in
theorem cd_X8_price_45 : decode cX8_price 45 = .ok (zi_rop (some .int), 1) := (dq_172 (by decide +kernel))
set_option maxRecDepth 100000 in
theorem cb_X8_retrace_0 : ci_ok yX8_retrace cX8_retrace 1 0 (ci_seq (ci_load 2 0 1) 1 (ci_seq (ci_getf 8 1 4) 4 (ci_getf 7 0 7))) := cq_ok (cr_aload_n (k := 0) (dq_42 (by decide +kernel)) rfl rfl) (cq_ok (cr_getf (idx := 21) zc_8 (by decide) zl_241 (dq_180 (a := 0) (b := 21) (by decide +kernel) rfl) rfl) (cr_getf (idx := 120) zc_7 (by decide) zl_306 (dq_180 (a := 0) (b := 120) (by decide +kernel) rfl) rfl))
set_option maxRecDepth 100000 in
theorem cl_X8_retrace_7 : ci_calls yX8_retrace cX8_retrace 1 7 yX2_trace 1 (some 2) := cr_callV (idx := 175) zl_896 ⟨by decide, by decide⟩ hp_X2_trace zc_2 zl_128 zl_129 (Or.inl zl_329) (dq_182 (a := 0) (b := 175) (by decide +kernel) rfl)
set_option maxRecDepth 100000 in
theorem cb_X8_retrace_10 : ci_ok yX8_retrace cX8_retrace 1 10 (ci_seq (ci_load 2 0 11) 11 (ci_seq (ci_getf 8 5 14) 14 (ci_seq (ci_push (.int 0) 15) 15 (ci_putf 4 6 .boolean 18)))) := cq_ok (cr_aload_n (k := 0) (dq_42 (by decide +kernel)) rfl rfl) (cq_ok (cr_getf (idx := 41) zc_8 (by decide) zl_269 (dq_180 (a := 0) (b := 41) (by decide +kernel) rfl) rfl) (cq_ok (cr_iconst2 (n := 0) (dq_3 (by decide +kernel)) (by decide +kernel) rfl) (cr_putf (idx := 107) zc_4 (by decide) (by decide +kernel) rfl zl_302 (dq_181 (a := 0) (b := 107) (by decide +kernel) rfl) rfl)))
set_option maxRecDepth 100000 in
theorem cd_X8_retrace_18 : decode cX8_retrace 18 = .ok (zi_rop none, 1) := (dq_177 (by decide +kernel))
set_option maxRecDepth 100000 in
theorem cb_X8_year_0 : ci_ok yX8_year cX8_year 3 0 (ci_seq (ci_load 2 0 1) 1 (ci_seq (ci_getf 8 1 4) 4 (ci_seq (ci_getf 7 0 7) 7 (ci_seq (ci_load 0 1 8) 8 (ci_seq (ci_load 2 0 9) 9 (ci_seq (ci_getf 8 1 12) 12 (ci_getf 7 4 15))))))) := cq_ok (cr_aload_n (k := 0) (dq_42 (by decide +kernel)) rfl rfl) (cq_ok (cr_getf (idx := 21) zc_8 (by decide) zl_241 (dq_180 (a := 0) (b := 21) (by decide +kernel) rfl) rfl) (cq_ok (cr_getf (idx := 120) zc_7 (by decide) zl_306 (dq_180 (a := 0) (b := 120) (by decide +kernel) rfl) rfl) (cq_ok (cr_iload_n (k := 1) (dq_27 (by decide +kernel)) rfl rfl) (cq_ok (cr_aload_n (k := 0) (dq_42 (by decide +kernel)) rfl rfl) (cq_ok (cr_getf (idx := 21) zc_8 (by decide) zl_241 (dq_180 (a := 0) (b := 21) (by decide +kernel) rfl) rfl) (cr_getf (idx := 135) zc_7 (by decide) zl_310 (dq_180 (a := 0) (b := 135) (by decide +kernel) rfl) rfl))))))
set_option maxRecDepth 100000 in
theorem cl_X8_year_15 : ci_calls yX8_year cX8_year 3 15 yX8_refusal 3 none := cr_callS (idx := 178) zl_961 zl_659 ⟨by decide, by decide⟩ hp_X8_refusal zl_331 (Or.inl zl_330) (dq_184 (a := 0) (b := 178) (by decide +kernel) rfl)
set_option maxRecDepth 100000 in
theorem cb_X8_year_18 : ci_ok yX8_year cX8_year 3 18 (ci_seq (ci_store 0 2 19) 19 (ci_seq (ci_load 0 2 20) 20 (ci_if (fun x => decide (x = 0)) 25 23))) := cq_ok (cr_istore_n (k := 2) (dq_61 (by decide +kernel)) rfl (by decide) rfl) (cq_ok (cr_iload_n (k := 2) (dq_28 (by decide +kernel)) rfl rfl) (cr_if_eq (off := 5) (dq_153 (a := 0) (b := 5) (by decide +kernel) rfl) (by decide) rfl))
set_option maxRecDepth 100000 in
theorem cb_X8_year_23 : ci_ok yX8_year cX8_year 3 23 (ci_load 0 2 24) := cr_iload_n (k := 2) (dq_28 (by decide +kernel)) rfl rfl
set_option maxRecDepth 100000 in
theorem cd_X8_year_24 : decode cX8_year 24 = .ok (zi_rop (some .int), 1) := (dq_172 (by decide +kernel))
set_option maxRecDepth 100000 in
theorem cb_X8_year_25 : ci_ok yX8_year cX8_year 3 25 (ci_seq (ci_load 2 0 26) 26 (ci_seq (ci_getf 8 1 29) 29 (ci_seq (ci_getf 7 0 32) 32 (ci_load 0 1 33)))) := cq_ok (cr_aload_n (k := 0) (dq_42 (by decide +kernel)) rfl rfl) (cq_ok (cr_getf (idx := 21) zc_8 (by decide) zl_241 (dq_180 (a := 0) (b := 21) (by decide +kernel) rfl) rfl) (cq_ok (cr_getf (idx := 120) zc_7 (by decide) zl_306 (dq_180 (a := 0) (b := 120) (by decide +kernel) rfl) rfl) (cr_iload_n (k := 1) (dq_27 (by decide +kernel)) rfl rfl)))
set_option maxRecDepth 100000 in
theorem cl_X8_year_33 : ci_calls yX8_year cX8_year 3 33 yX2_pass 2 (some 2) := cr_callV (idx := 182) zl_902 ⟨by decide, by decide⟩ hp_X2_pass zc_2 zl_23 zl_24 (Or.inl zl_332) (dq_182 (a := 0) (b := 182) (by decide +kernel) rfl)
set_option maxRecDepth 100000 in
theorem cb_X8_year_36 : ci_ok yX8_year cX8_year 3 36 (ci_seq (ci_load 2 0 37) 37 (ci_seq (ci_getf 8 1 40) 40 (ci_seq (ci_dup 41) 41 (ci_seq (ci_getf 7 4 44) 44 (ci_seq (ci_push (.int 1) 45) 45 (ci_seq (ci_bin (fun a b => a + b) 46) 46 (ci_seq (ci_putf 7 4 .int 49) 49 (ci_seq (ci_load 2 0 50) 50 (ci_seq (ci_getf 8 5 53) 53 (ci_seq (ci_push (.int 0) 54) 54 (ci_seq (ci_putf 4 6 .boolean 57) 57 (ci_seq (ci_load 2 0 58) 58 (ci_seq (ci_getf 8 1 61) 61 (ci_seq (ci_getf 7 0 64) 64 (ci_getf 2 3 67))))))))))))))) := cq_ok (cr_aload_n (k := 0) (dq_42 (by decide +kernel)) rfl rfl) (cq_ok (cr_getf (idx := 21) zc_8 (by decide) zl_241 (dq_180 (a := 0) (b := 21) (by decide +kernel) rfl) rfl) (cq_ok (cr_dup (dq_89 (by decide +kernel)) rfl) (cq_ok (cr_getf (idx := 135) zc_7 (by decide) zl_310 (dq_180 (a := 0) (b := 135) (by decide +kernel) rfl) rfl) (cq_ok (cr_iconst2 (n := 1) (dq_4 (by decide +kernel)) (by decide +kernel) rfl) (cq_ok (cr_iadd (dq_96 (by decide +kernel)) rfl) (cq_ok (cr_putf (idx := 135) zc_7 (by decide) (by decide +kernel) rfl zl_310 (dq_181 (a := 0) (b := 135) (by decide +kernel) rfl) rfl) (cq_ok (cr_aload_n (k := 0) (dq_42 (by decide +kernel)) rfl rfl) (cq_ok (cr_getf (idx := 41) zc_8 (by decide) zl_269 (dq_180 (a := 0) (b := 41) (by decide +kernel) rfl) rfl) (cq_ok (cr_iconst2 (n := 0) (dq_3 (by decide +kernel)) (by decide +kernel) rfl) (cq_ok (cr_putf (idx := 107) zc_4 (by decide) (by decide +kernel) rfl zl_302 (dq_181 (a := 0) (b := 107) (by decide +kernel) rfl) rfl) (cq_ok (cr_aload_n (k := 0) (dq_42 (by decide +kernel)) rfl rfl) (cq_ok (cr_getf (idx := 21) zc_8 (by decide) zl_241 (dq_180 (a := 0) (b := 21) (by decide +kernel) rfl) rfl) (cq_ok (cr_getf (idx := 120) zc_7 (by decide) zl_306 (dq_180 (a := 0) (b := 120) (by decide +kernel) rfl) rfl) (cr_getf (idx := 168) zc_2 (by decide) zl_324 (dq_180 (a := 0) (b := 168) (by decide +kernel) rfl) rfl))))))))))))))
set_option maxRecDepth 100000 in
theorem cd_X8_year_67 : decode cX8_year 67 = .ok (zi_rop (some .int), 1) := (dq_172 (by decide +kernel))
set_option maxRecDepth 100000 in
theorem cb_X8_would_0 : ci_ok yX8_would cX8_would 3 0 (ci_load 0 1 1) := cr_iload_n (k := 1) (dq_27 (by decide +kernel)) rfl rfl
set_option maxRecDepth 100000 in
theorem cl_X8_would_1 : ci_calls yX8_would cX8_would 3 1 yX8_isNumber 1 none := cr_callS (idx := 186) zl_962 zl_659 ⟨by decide, by decide⟩ hp_X8_isNumber zl_334 (Or.inl zl_333) (dq_184 (a := 0) (b := 186) (by decide +kernel) rfl)
set_option maxRecDepth 100000 in
theorem cb_X8_would_4 : ci_ok yX8_would cX8_would 3 4 (ci_if (fun x => decide (x = 0)) 18 7) := cr_if_eq (off := 14) (dq_153 (a := 0) (b := 14) (by decide +kernel) rfl) (by decide) rfl
set_option maxRecDepth 100000 in
theorem cb_X8_would_7 : ci_ok yX8_would cX8_would 3 7 (ci_seq (ci_load 2 0 8) 8 (ci_seq (ci_getf 8 0 11) 11 (ci_load 0 2 12))) := cq_ok (cr_aload_n (k := 0) (dq_42 (by decide +kernel)) rfl rfl) (cq_ok (cr_getf (idx := 10) zc_8 (by decide) zl_242 (dq_180 (a := 0) (b := 10) (by decide +kernel) rfl) rfl) (cr_iload_n (k := 2) (dq_28 (by decide +kernel)) rfl rfl))
set_option maxRecDepth 100000 in
theorem cl_X8_would_12 : ci_calls yX8_would cX8_would 3 12 yX3_hasFarm 2 (some 3) := cr_callV (idx := 149) zl_906 ⟨by decide, by decide⟩ hp_X3_hasFarm zc_3 zl_147 zl_148 (Or.inl zl_318) (dq_182 (a := 0) (b := 149) (by decide +kernel) rfl)
set_option maxRecDepth 100000 in
theorem cb_X8_would_15 : ci_ok yX8_would cX8_would 3 15 (ci_if (fun x => !decide (x = 0)) 20 18) := cr_if_ne (off := 5) (dq_154 (a := 0) (b := 5) (by decide +kernel) rfl) (by decide) rfl
set_option maxRecDepth 100000 in
theorem cb_X8_would_18 : ci_ok yX8_would cX8_would 3 18 (ci_push (.int (-1)) 19) := cr_iconst2 (n := -1) (dq_2 (by decide +kernel)) (by decide +kernel) rfl
set_option maxRecDepth 100000 in
theorem cd_X8_would_19 : decode cX8_would 19 = .ok (zi_rop (some .int), 1) := (dq_172 (by decide +kernel))
set_option maxRecDepth 100000 in
theorem cb_X8_would_20 : ci_ok yX8_would cX8_would 3 20 (ci_seq (ci_load 2 0 21) 21 (ci_seq (ci_getf 8 1 24) 24 (ci_seq (ci_getf 7 0 27) 27 (ci_load 0 1 28)))) := cq_ok (cr_aload_n (k := 0) (dq_42 (by decide +kernel)) rfl rfl) (cq_ok (cr_getf (idx := 21) zc_8 (by decide) zl_241 (dq_180 (a := 0) (b := 21) (by decide +kernel) rfl) rfl) (cq_ok (cr_getf (idx := 120) zc_7 (by decide) zl_306 (dq_180 (a := 0) (b := 120) (by decide +kernel) rfl) rfl) (cr_iload_n (k := 1) (dq_27 (by decide +kernel)) rfl rfl)))
set_option maxRecDepth 100000 in
theorem cl_X8_would_28 : ci_calls yX8_would cX8_would 3 28 yX2_refused 2 (some 2) := cr_callV (idx := 189) zl_899 ⟨by decide, by decide⟩ hp_X2_refused zc_2 zl_336 zl_337 (Or.inl zl_335) (dq_182 (a := 0) (b := 189) (by decide +kernel) rfl)
set_option maxRecDepth 100000 in
theorem cb_X8_would_31 : ci_ok yX8_would cX8_would 3 31 (ci_if (fun x => decide (x < 0)) 37 34) := cr_if_lt (off := 6) (dq_155 (a := 0) (b := 6) (by decide +kernel) rfl) (by decide) rfl
set_option maxRecDepth 100000 in
theorem cb_X8_would_34 : ci_ok yX8_would cX8_would 3 34 (ci_push (.int (-2)) 36) := cr_bipush (n := -2) (dq_16 (a := 254) (by decide +kernel) rfl) (by decide +kernel) rfl
set_option maxRecDepth 100000 in
theorem cd_X8_would_36 : decode cX8_would 36 = .ok (zi_rop (some .int), 1) := (dq_172 (by decide +kernel))
set_option maxRecDepth 100000 in
theorem cb_X8_would_37 : ci_ok yX8_would cX8_would 3 37 (ci_seq (ci_load 2 0 38) 38 (ci_seq (ci_getf 8 4 41) 41 (ci_seq (ci_load 2 0 42) 42 (ci_seq (ci_getf 8 1 45) 45 (ci_getf 7 0 48))))) := cq_ok (cr_aload_n (k := 0) (dq_42 (by decide +kernel)) rfl rfl) (cq_ok (cr_getf (idx := 34) zc_8 (by decide) zl_275 (dq_180 (a := 0) (b := 34) (by decide +kernel) rfl) rfl) (cq_ok (cr_aload_n (k := 0) (dq_42 (by decide +kernel)) rfl rfl) (cq_ok (cr_getf (idx := 21) zc_8 (by decide) zl_241 (dq_180 (a := 0) (b := 21) (by decide +kernel) rfl) rfl) (cr_getf (idx := 120) zc_7 (by decide) zl_306 (dq_180 (a := 0) (b := 120) (by decide +kernel) rfl) rfl))))
set_option maxRecDepth 100000 in
theorem cl_X8_would_48 : ci_calls yX8_would cX8_would 3 48 yX2_copy 2 (some 2) := cr_callV (idx := 192) zl_895 ⟨by decide, by decide⟩ hp_X2_copy zc_2 zl_11 zl_12 (Or.inl zl_338) (dq_182 (a := 0) (b := 192) (by decide +kernel) rfl)
set_option maxRecDepth 100000 in
theorem cb_X8_would_51 : ci_ok yX8_would cX8_would 3 51 (ci_seq (ci_load 2 0 52) 52 (ci_seq (ci_getf 8 4 55) 55 (ci_load 0 1 56))) := cq_ok (cr_aload_n (k := 0) (dq_42 (by decide +kernel)) rfl rfl) (cq_ok (cr_getf (idx := 34) zc_8 (by decide) zl_275 (dq_180 (a := 0) (b := 34) (by decide +kernel) rfl) rfl) (cr_iload_n (k := 1) (dq_27 (by decide +kernel)) rfl rfl))
set_option maxRecDepth 100000 in
theorem cl_X8_would_56 : ci_calls yX8_would cX8_would 3 56 yX2_pass 2 (some 2) := cr_callV (idx := 182) zl_902 ⟨by decide, by decide⟩ hp_X2_pass zc_2 zl_23 zl_24 (Or.inl zl_332) (dq_182 (a := 0) (b := 182) (by decide +kernel) rfl)
set_option maxRecDepth 100000 in
theorem cb_X8_would_59 : ci_ok yX8_would cX8_would 3 59 (ci_seq (ci_load 2 0 60) 60 (ci_seq (ci_getf 8 1 63) 63 (ci_seq (ci_load 0 2 64) 64 (ci_seq (ci_load 2 0 65) 65 (ci_seq (ci_getf 8 4 68) 68 (ci_getf 2 4 71)))))) := cq_ok (cr_aload_n (k := 0) (dq_42 (by decide +kernel)) rfl rfl) (cq_ok (cr_getf (idx := 21) zc_8 (by decide) zl_241 (dq_180 (a := 0) (b := 21) (by decide +kernel) rfl) rfl) (cq_ok (cr_iload_n (k := 2) (dq_28 (by decide +kernel)) rfl rfl) (cq_ok (cr_aload_n (k := 0) (dq_42 (by decide +kernel)) rfl rfl) (cq_ok (cr_getf (idx := 34) zc_8 (by decide) zl_275 (dq_180 (a := 0) (b := 34) (by decide +kernel) rfl) rfl) (cr_getf (idx := 158) zc_2 (by decide) zl_322 (dq_180 (a := 0) (b := 158) (by decide +kernel) rfl) rfl)))))
set_option maxRecDepth 100000 in
theorem cl_X8_would_71 : ci_calls yX8_would cX8_would 3 71 yX7_gain 3 (some 7) := cr_callV (idx := 161) zl_939 ⟨by decide, by decide⟩ hp_X7_gain zc_7 zl_187 zl_188 (Or.inl zl_321) (dq_182 (a := 0) (b := 161) (by decide +kernel) rfl)
set_option maxRecDepth 100000 in
theorem cd_X8_would_74 : decode cX8_would 74 = .ok (zi_rop (some .int), 1) := (dq_172 (by decide +kernel))
set_option maxRecDepth 100000 in
theorem cb_X8_tell_0 : ci_ok yX8_tell cX8_tell 2 0 (ci_load 0 1 1) := cr_iload_n (k := 1) (dq_27 (by decide +kernel)) rfl rfl
set_option maxRecDepth 100000 in
theorem cl_X8_tell_1 : ci_calls yX8_tell cX8_tell 2 1 yX8_isNumber 1 none := cr_callS (idx := 186) zl_962 zl_659 ⟨by decide, by decide⟩ hp_X8_isNumber zl_334 (Or.inl zl_333) (dq_184 (a := 0) (b := 186) (by decide +kernel) rfl)
set_option maxRecDepth 100000 in
theorem cb_X8_tell_4 : ci_ok yX8_tell cX8_tell 2 4 (ci_if (fun x => !decide (x = 0)) 9 7) := cr_if_ne (off := 5) (dq_154 (a := 0) (b := 5) (by decide +kernel) rfl) (by decide) rfl
set_option maxRecDepth 100000 in
theorem cb_X8_tell_7 : ci_ok yX8_tell cX8_tell 2 7 (ci_push (.int (-1)) 8) := cr_iconst2 (n := -1) (dq_2 (by decide +kernel)) (by decide +kernel) rfl
set_option maxRecDepth 100000 in
theorem cd_X8_tell_8 : decode cX8_tell 8 = .ok (zi_rop (some .int), 1) := (dq_172 (by decide +kernel))
set_option maxRecDepth 100000 in
theorem cb_X8_tell_9 : ci_ok yX8_tell cX8_tell 2 9 (ci_seq (ci_load 2 0 10) 10 (ci_seq (ci_getf 8 1 13) 13 (ci_seq (ci_getf 7 5 16) 16 (ci_seq (ci_push (.int 6) 18) 18 (ci_ic (fun x y => decide (x < y)) 24 21))))) := cq_ok (cr_aload_n (k := 0) (dq_42 (by decide +kernel)) rfl rfl) (cq_ok (cr_getf (idx := 21) zc_8 (by decide) zl_241 (dq_180 (a := 0) (b := 21) (by decide +kernel) rfl) rfl) (cq_ok (cr_getf (idx := 196) zc_7 (by decide) zl_339 (dq_180 (a := 0) (b := 196) (by decide +kernel) rfl) rfl) (cq_ok (cr_bipush (n := 6) (dq_16 (a := 6) (by decide +kernel) rfl) (by decide +kernel) rfl) (cr_ic_lt (off := 6) (dq_161 (a := 0) (b := 6) (by decide +kernel) rfl) (by decide) rfl))))
set_option maxRecDepth 100000 in
theorem cb_X8_tell_21 : ci_ok yX8_tell cX8_tell 2 21 (ci_push (.int (-3)) 23) := cr_bipush (n := -3) (dq_16 (a := 253) (by decide +kernel) rfl) (by decide +kernel) rfl
set_option maxRecDepth 100000 in
theorem cd_X8_tell_23 : decode cX8_tell 23 = .ok (zi_rop (some .int), 1) := (dq_172 (by decide +kernel))
set_option maxRecDepth 100000 in
theorem cb_X8_tell_24 : ci_ok yX8_tell cX8_tell 2 24 (ci_seq (ci_load 2 0 25) 25 (ci_seq (ci_getf 8 1 28) 28 (ci_seq (ci_getf 7 2 31) 31 (ci_seq (ci_load 2 0 32) 32 (ci_seq (ci_getf 8 1 35) 35 (ci_seq (ci_getf 7 5 38) 38 (ci_seq (ci_load 0 1 39) 39 (ci_seq (ci_ast .int 40) 40 (ci_seq (ci_load 2 0 41) 41 (ci_seq (ci_getf 8 1 44) 44 (ci_seq (ci_dup 45) 45 (ci_seq (ci_getf 7 5 48) 48 (ci_seq (ci_push (.int 1) 49) 49 (ci_seq (ci_bin (fun a b => a + b) 50) 50 (ci_seq (ci_putf 7 5 .int 53) 53 (ci_seq (ci_load 2 0 54) 54 (ci_seq (ci_getf 8 1 57) 57 (ci_getf 7 5 60)))))))))))))))))) := cq_ok (cr_aload_n (k := 0) (dq_42 (by decide +kernel)) rfl rfl) (cq_ok (cr_getf (idx := 21) zc_8 (by decide) zl_241 (dq_180 (a := 0) (b := 21) (by decide +kernel) rfl) rfl) (cq_ok (cr_getf (idx := 199) zc_7 (by decide) zl_340 (dq_180 (a := 0) (b := 199) (by decide +kernel) rfl) rfl) (cq_ok (cr_aload_n (k := 0) (dq_42 (by decide +kernel)) rfl rfl) (cq_ok (cr_getf (idx := 21) zc_8 (by decide) zl_241 (dq_180 (a := 0) (b := 21) (by decide +kernel) rfl) rfl) (cq_ok (cr_getf (idx := 196) zc_7 (by decide) zl_339 (dq_180 (a := 0) (b := 196) (by decide +kernel) rfl) rfl) (cq_ok (cr_iload_n (k := 1) (dq_27 (by decide +kernel)) rfl rfl) (cq_ok (cr_ast (ins := .iastore) rfl (dq_79 (by decide +kernel)) (Or.inl ⟨rfl, rfl⟩)) (cq_ok (cr_aload_n (k := 0) (dq_42 (by decide +kernel)) rfl rfl) (cq_ok (cr_getf (idx := 21) zc_8 (by decide) zl_241 (dq_180 (a := 0) (b := 21) (by decide +kernel) rfl) rfl) (cq_ok (cr_dup (dq_89 (by decide +kernel)) rfl) (cq_ok (cr_getf (idx := 196) zc_7 (by decide) zl_339 (dq_180 (a := 0) (b := 196) (by decide +kernel) rfl) rfl) (cq_ok (cr_iconst2 (n := 1) (dq_4 (by decide +kernel)) (by decide +kernel) rfl) (cq_ok (cr_iadd (dq_96 (by decide +kernel)) rfl) (cq_ok (cr_putf (idx := 196) zc_7 (by decide) (by decide +kernel) rfl zl_339 (dq_181 (a := 0) (b := 196) (by decide +kernel) rfl) rfl) (cq_ok (cr_aload_n (k := 0) (dq_42 (by decide +kernel)) rfl rfl) (cq_ok (cr_getf (idx := 21) zc_8 (by decide) zl_241 (dq_180 (a := 0) (b := 21) (by decide +kernel) rfl) rfl) (cr_getf (idx := 196) zc_7 (by decide) zl_339 (dq_180 (a := 0) (b := 196) (by decide +kernel) rfl) rfl)))))))))))))))))
set_option maxRecDepth 100000 in
theorem cd_X8_tell_60 : decode cX8_tell 60 = .ok (zi_rop (some .int), 1) := (dq_172 (by decide +kernel))
set_option maxRecDepth 100000 in
theorem cb_X8_drop_0 : ci_ok yX8_drop cX8_drop 3 0 (ci_seq (ci_load 0 1 1) 1 (ci_if (fun x => decide (x < 0)) 15 4)) := cq_ok (cr_iload_n (k := 1) (dq_27 (by decide +kernel)) rfl rfl) (cr_if_lt (off := 14) (dq_155 (a := 0) (b := 14) (by decide +kernel) rfl) (by decide) rfl)
set_option maxRecDepth 100000 in
theorem cb_X8_drop_4 : ci_ok yX8_drop cX8_drop 3 4 (ci_seq (ci_load 0 1 5) 5 (ci_seq (ci_load 2 0 6) 6 (ci_seq (ci_getf 8 1 9) 9 (ci_seq (ci_getf 7 5 12) 12 (ci_ic (fun x y => decide (x ≤ y)) 17 15))))) := cq_ok (cr_iload_n (k := 1) (dq_27 (by decide +kernel)) rfl rfl) (cq_ok (cr_aload_n (k := 0) (dq_42 (by decide +kernel)) rfl rfl) (cq_ok (cr_getf (idx := 21) zc_8 (by decide) zl_241 (dq_180 (a := 0) (b := 21) (by decide +kernel) rfl) rfl) (cq_ok (cr_getf (idx := 196) zc_7 (by decide) zl_339 (dq_180 (a := 0) (b := 196) (by decide +kernel) rfl) rfl) (cr_ic_le (off := 5) (dq_164 (a := 0) (b := 5) (by decide +kernel) rfl) (by decide) rfl))))
set_option maxRecDepth 100000 in
theorem cb_X8_drop_15 : ci_ok yX8_drop cX8_drop 3 15 (ci_push (.int (-1)) 16) := cr_iconst2 (n := -1) (dq_2 (by decide +kernel)) (by decide +kernel) rfl
set_option maxRecDepth 100000 in
theorem cd_X8_drop_16 : decode cX8_drop 16 = .ok (zi_rop (some .int), 1) := (dq_172 (by decide +kernel))
set_option maxRecDepth 100000 in
theorem cb_X8_drop_17 : ci_ok yX8_drop cX8_drop 3 17 (ci_seq (ci_load 2 0 18) 18 (ci_seq (ci_getf 8 1 21) 21 (ci_seq (ci_getf 7 5 24) 24 (ci_seq (ci_store 0 2 25) 25 (ci_seq (ci_load 2 0 26) 26 (ci_seq (ci_getf 8 1 29) 29 (ci_seq (ci_load 0 1 30) 30 (ci_seq (ci_putf 7 5 .int 33) 33 (ci_load 0 2 34))))))))) := cq_ok (cr_aload_n (k := 0) (dq_42 (by decide +kernel)) rfl rfl) (cq_ok (cr_getf (idx := 21) zc_8 (by decide) zl_241 (dq_180 (a := 0) (b := 21) (by decide +kernel) rfl) rfl) (cq_ok (cr_getf (idx := 196) zc_7 (by decide) zl_339 (dq_180 (a := 0) (b := 196) (by decide +kernel) rfl) rfl) (cq_ok (cr_istore_n (k := 2) (dq_61 (by decide +kernel)) rfl (by decide) rfl) (cq_ok (cr_aload_n (k := 0) (dq_42 (by decide +kernel)) rfl rfl) (cq_ok (cr_getf (idx := 21) zc_8 (by decide) zl_241 (dq_180 (a := 0) (b := 21) (by decide +kernel) rfl) rfl) (cq_ok (cr_iload_n (k := 1) (dq_27 (by decide +kernel)) rfl rfl) (cq_ok (cr_putf (idx := 196) zc_7 (by decide) (by decide +kernel) rfl zl_339 (dq_181 (a := 0) (b := 196) (by decide +kernel) rfl) rfl) (cr_iload_n (k := 2) (dq_28 (by decide +kernel)) rfl rfl))))))))
set_option maxRecDepth 100000 in
theorem cd_X8_drop_34 : decode cX8_drop 34 = .ok (zi_rop (some .int), 1) := (dq_172 (by decide +kernel))
set_option maxRecDepth 100000 in
theorem cb_X8_judge_0 : ci_ok yX8_judge cX8_judge 4 0 (ci_seq (ci_load 0 1 1) 1 (ci_if (fun x => decide (x < 0)) 9 4)) := cq_ok (cr_iload_n (k := 1) (dq_27 (by decide +kernel)) rfl rfl) (cr_if_lt (off := 8) (dq_155 (a := 0) (b := 8) (by decide +kernel) rfl) (by decide) rfl)
set_option maxRecDepth 100000 in
theorem cb_X8_judge_4 : ci_ok yX8_judge cX8_judge 4 4 (ci_seq (ci_load 0 1 5) 5 (ci_seq (ci_push (.int 1) 6) 6 (ci_ic (fun x y => decide (x ≤ y)) 11 9))) := cq_ok (cr_iload_n (k := 1) (dq_27 (by decide +kernel)) rfl rfl) (cq_ok (cr_iconst2 (n := 1) (dq_4 (by decide +kernel)) (by decide +kernel) rfl) (cr_ic_le (off := 5) (dq_164 (a := 0) (b := 5) (by decide +kernel) rfl) (by decide) rfl))
set_option maxRecDepth 100000 in
theorem cb_X8_judge_9 : ci_ok yX8_judge cX8_judge 4 9 (ci_push (.int (-1)) 10) := cr_iconst2 (n := -1) (dq_2 (by decide +kernel)) (by decide +kernel) rfl
set_option maxRecDepth 100000 in
theorem cd_X8_judge_10 : decode cX8_judge 10 = .ok (zi_rop (some .int), 1) := (dq_172 (by decide +kernel))
set_option maxRecDepth 100000 in
theorem cb_X8_judge_11 : ci_ok yX8_judge cX8_judge 4 11 (ci_seq (ci_load 2 0 12) 12 (ci_seq (ci_getf 8 4 15) 15 (ci_seq (ci_load 2 0 16) 16 (ci_seq (ci_getf 8 1 19) 19 (ci_getf 7 0 22))))) := cq_ok (cr_aload_n (k := 0) (dq_42 (by decide +kernel)) rfl rfl) (cq_ok (cr_getf (idx := 34) zc_8 (by decide) zl_275 (dq_180 (a := 0) (b := 34) (by decide +kernel) rfl) rfl) (cq_ok (cr_aload_n (k := 0) (dq_42 (by decide +kernel)) rfl rfl) (cq_ok (cr_getf (idx := 21) zc_8 (by decide) zl_241 (dq_180 (a := 0) (b := 21) (by decide +kernel) rfl) rfl) (cr_getf (idx := 120) zc_7 (by decide) zl_306 (dq_180 (a := 0) (b := 120) (by decide +kernel) rfl) rfl))))
set_option maxRecDepth 100000 in
theorem cl_X8_judge_22 : ci_calls yX8_judge cX8_judge 4 22 yX2_copy 2 (some 2) := cr_callV (idx := 192) zl_895 ⟨by decide, by decide⟩ hp_X2_copy zc_2 zl_11 zl_12 (Or.inl zl_338) (dq_182 (a := 0) (b := 192) (by decide +kernel) rfl)
set_option maxRecDepth 100000 in
theorem cb_X8_judge_25 : ci_ok yX8_judge cX8_judge 4 25 (ci_seq (ci_push (.int 0) 26) 26 (ci_store 0 2 27)) := cq_ok (cr_iconst2 (n := 0) (dq_3 (by decide +kernel)) (by decide +kernel) rfl) (cr_istore_n (k := 2) (dq_61 (by decide +kernel)) rfl (by decide) rfl)
set_option maxRecDepth 100000 in
theorem cb_X8_judge_27 : ci_ok yX8_judge cX8_judge 4 27 (ci_seq (ci_load 0 2 28) 28 (ci_seq (ci_load 2 0 29) 29 (ci_seq (ci_getf 8 1 32) 32 (ci_seq (ci_getf 7 5 35) 35 (ci_ic (fun x y => decide (y ≤ x)) 113 38))))) := cq_ok (cr_iload_n (k := 2) (dq_28 (by decide +kernel)) rfl rfl) (cq_ok (cr_aload_n (k := 0) (dq_42 (by decide +kernel)) rfl rfl) (cq_ok (cr_getf (idx := 21) zc_8 (by decide) zl_241 (dq_180 (a := 0) (b := 21) (by decide +kernel) rfl) rfl) (cq_ok (cr_getf (idx := 196) zc_7 (by decide) zl_339 (dq_180 (a := 0) (b := 196) (by decide +kernel) rfl) rfl) (cr_ic_ge (off := 78) (dq_162 (a := 0) (b := 78) (by decide +kernel) rfl) (by decide) rfl))))
set_option maxRecDepth 100000 in
theorem cb_X8_judge_38 : ci_ok yX8_judge cX8_judge 4 38 (ci_seq (ci_load 0 2 39) 39 (ci_seq (ci_push (.int 6) 41) 41 (ci_ic (fun x y => decide (y ≤ x)) 113 44))) := cq_ok (cr_iload_n (k := 2) (dq_28 (by decide +kernel)) rfl rfl) (cq_ok (cr_bipush (n := 6) (dq_16 (a := 6) (by decide +kernel) rfl) (by decide +kernel) rfl) (cr_ic_ge (off := 72) (dq_162 (a := 0) (b := 72) (by decide +kernel) rfl) (by decide) rfl))
set_option maxRecDepth 100000 in
theorem cb_X8_judge_44 : ci_ok yX8_judge cX8_judge 4 44 (ci_seq (ci_load 2 0 45) 45 (ci_seq (ci_getf 8 4 48) 48 (ci_seq (ci_load 2 0 49) 49 (ci_seq (ci_getf 8 1 52) 52 (ci_seq (ci_getf 7 2 55) 55 (ci_seq (ci_load 0 2 56) 56 (ci_ald .int 57))))))) := cq_ok (cr_aload_n (k := 0) (dq_42 (by decide +kernel)) rfl rfl) (cq_ok (cr_getf (idx := 34) zc_8 (by decide) zl_275 (dq_180 (a := 0) (b := 34) (by decide +kernel) rfl) rfl) (cq_ok (cr_aload_n (k := 0) (dq_42 (by decide +kernel)) rfl rfl) (cq_ok (cr_getf (idx := 21) zc_8 (by decide) zl_241 (dq_180 (a := 0) (b := 21) (by decide +kernel) rfl) rfl) (cq_ok (cr_getf (idx := 199) zc_7 (by decide) zl_340 (dq_180 (a := 0) (b := 199) (by decide +kernel) rfl) rfl) (cq_ok (cr_iload_n (k := 2) (dq_28 (by decide +kernel)) rfl rfl) (cr_ald (ins := .iaload) rfl (dq_46 (by decide +kernel)) (Or.inl ⟨rfl, rfl⟩)))))))
set_option maxRecDepth 100000 in
theorem cl_X8_judge_57 : ci_calls yX8_judge cX8_judge 4 57 yX2_refused 2 (some 2) := cr_callV (idx := 189) zl_899 ⟨by decide, by decide⟩ hp_X2_refused zc_2 zl_336 zl_337 (Or.inl zl_335) (dq_182 (a := 0) (b := 189) (by decide +kernel) rfl)
set_option maxRecDepth 100000 in
theorem cb_X8_judge_60 : ci_ok yX8_judge cX8_judge 4 60 (ci_seq (ci_store 0 3 61) 61 (ci_seq (ci_load 0 3 62) 62 (ci_if (fun x => decide (x < 0)) 91 65))) := cq_ok (cr_istore_n (k := 3) (dq_62 (by decide +kernel)) rfl (by decide) rfl) (cq_ok (cr_iload_n (k := 3) (dq_29 (by decide +kernel)) rfl rfl) (cr_if_lt (off := 29) (dq_155 (a := 0) (b := 29) (by decide +kernel) rfl) (by decide) rfl))
set_option maxRecDepth 100000 in
theorem cb_X8_judge_65 : ci_ok yX8_judge cX8_judge 4 65 (ci_seq (ci_load 0 1 66) 66 (ci_if (fun x => !decide (x = 0)) 73 69)) := cq_ok (cr_iload_n (k := 1) (dq_27 (by decide +kernel)) rfl rfl) (cr_if_ne (off := 7) (dq_154 (a := 0) (b := 7) (by decide +kernel) rfl) (by decide) rfl)
set_option maxRecDepth 100000 in
theorem cb_X8_judge_69 : ci_ok yX8_judge cX8_judge 4 69 (ci_seq (ci_load 0 2 70) 70 (ci_go 90)) := cq_ok (cr_iload_n (k := 2) (dq_28 (by decide +kernel)) rfl rfl) (cr_goto (off := 20) (dq_167 (a := 0) (b := 20) (by decide +kernel) rfl) (by decide))
set_option maxRecDepth 100000 in
theorem cb_X8_judge_73 : ci_ok yX8_judge cX8_judge 4 73 (ci_seq (ci_load 2 0 74) 74 (ci_seq (ci_getf 8 0 77) 77 (ci_load 0 3 78))) := cq_ok (cr_aload_n (k := 0) (dq_42 (by decide +kernel)) rfl rfl) (cq_ok (cr_getf (idx := 10) zc_8 (by decide) zl_242 (dq_180 (a := 0) (b := 10) (by decide +kernel) rfl) rfl) (cr_iload_n (k := 3) (dq_29 (by decide +kernel)) rfl rfl))
set_option maxRecDepth 100000 in
theorem cl_X8_judge_78 : ci_calls yX8_judge cX8_judge 4 78 yX3_hasFarm 2 (some 3) := cr_callV (idx := 149) zl_906 ⟨by decide, by decide⟩ hp_X3_hasFarm zc_3 zl_147 zl_148 (Or.inl zl_318) (dq_182 (a := 0) (b := 149) (by decide +kernel) rfl)
set_option maxRecDepth 100000 in
theorem cb_X8_judge_81 : ci_ok yX8_judge cX8_judge 4 81 (ci_if (fun x => decide (x = 0)) 88 84) := cr_if_eq (off := 7) (dq_153 (a := 0) (b := 7) (by decide +kernel) rfl) (by decide) rfl
set_option maxRecDepth 100000 in
theorem cb_X8_judge_84 : ci_ok yX8_judge cX8_judge 4 84 (ci_seq (ci_load 0 3 85) 85 (ci_go 90)) := cq_ok (cr_iload_n (k := 3) (dq_29 (by decide +kernel)) rfl rfl) (cr_goto (off := 5) (dq_167 (a := 0) (b := 5) (by decide +kernel) rfl) (by decide))
set_option maxRecDepth 100000 in
theorem cb_X8_judge_88 : ci_ok yX8_judge cX8_judge 4 88 (ci_push (.int (-4)) 90) := cr_bipush (n := -4) (dq_16 (a := 252) (by decide +kernel) rfl) (by decide +kernel) rfl
set_option maxRecDepth 100000 in
theorem cd_X8_judge_90 : decode cX8_judge 90 = .ok (zi_rop (some .int), 1) := (dq_172 (by decide +kernel))
set_option maxRecDepth 100000 in
theorem cb_X8_judge_91 : ci_ok yX8_judge cX8_judge 4 91 (ci_seq (ci_load 2 0 92) 92 (ci_seq (ci_getf 8 4 95) 95 (ci_seq (ci_load 2 0 96) 96 (ci_seq (ci_getf 8 1 99) 99 (ci_seq (ci_getf 7 2 102) 102 (ci_seq (ci_load 0 2 103) 103 (ci_ald .int 104))))))) := cq_ok (cr_aload_n (k := 0) (dq_42 (by decide +kernel)) rfl rfl) (cq_ok (cr_getf (idx := 34) zc_8 (by decide) zl_275 (dq_180 (a := 0) (b := 34) (by decide +kernel) rfl) rfl) (cq_ok (cr_aload_n (k := 0) (dq_42 (by decide +kernel)) rfl rfl) (cq_ok (cr_getf (idx := 21) zc_8 (by decide) zl_241 (dq_180 (a := 0) (b := 21) (by decide +kernel) rfl) rfl) (cq_ok (cr_getf (idx := 199) zc_7 (by decide) zl_340 (dq_180 (a := 0) (b := 199) (by decide +kernel) rfl) rfl) (cq_ok (cr_iload_n (k := 2) (dq_28 (by decide +kernel)) rfl rfl) (cr_ald (ins := .iaload) rfl (dq_46 (by decide +kernel)) (Or.inl ⟨rfl, rfl⟩)))))))
set_option maxRecDepth 100000 in
theorem cl_X8_judge_104 : ci_calls yX8_judge cX8_judge 4 104 yX2_pass 2 (some 2) := cr_callV (idx := 182) zl_902 ⟨by decide, by decide⟩ hp_X2_pass zc_2 zl_23 zl_24 (Or.inl zl_332) (dq_182 (a := 0) (b := 182) (by decide +kernel) rfl)
set_option maxRecDepth 100000 in
theorem cb_X8_judge_107 : ci_ok yX8_judge cX8_judge 4 107 (ci_seq (ci_inc 2 1 110) 110 (ci_go 27)) := cq_ok (ci_inc_ok (by decide) (dq_132 (a := 2) (b := 1) (by decide +kernel) rfl) rfl) (cr_goto (off := -83) (dq_167 (a := 255) (b := 173) (by decide +kernel) rfl) (by decide))
set_option maxRecDepth 100000 in
theorem cb_X8_judge_113 : ci_ok yX8_judge cX8_judge 4 113 (ci_push (.int (-4)) 115) := cr_bipush (n := -4) (dq_16 (a := 252) (by decide +kernel) rfl) (by decide +kernel) rfl
set_option maxRecDepth 100000 in
theorem cd_X8_judge_115 : decode cX8_judge 115 = .ok (zi_rop (some .int), 1) := (dq_172 (by decide +kernel))
set_option maxRecDepth 100000 in
theorem cb_X8_refusal_0 : ci_ok yX8_refusal cX8_refusal 3 0 (ci_load 0 1 1) := cr_iload_n (k := 1) (dq_27 (by decide +kernel)) rfl rfl
set_option maxRecDepth 100000 in
theorem cl_X8_refusal_1 : ci_calls yX8_refusal cX8_refusal 3 1 yX8_isNumber 1 none := cr_callS (idx := 186) zl_962 zl_659 ⟨by decide, by decide⟩ hp_X8_isNumber zl_334 (Or.inl zl_333) (dq_184 (a := 0) (b := 186) (by decide +kernel) rfl)
set_option maxRecDepth 100000 in
theorem cb_X8_refusal_4 : ci_ok yX8_refusal cX8_refusal 3 4 (ci_if (fun x => !decide (x = 0)) 9 7) := cr_if_ne (off := 5) (dq_154 (a := 0) (b := 5) (by decide +kernel) rfl) (by decide) rfl
set_option maxRecDepth 100000 in
theorem cb_X8_refusal_7 : ci_ok yX8_refusal cX8_refusal 3 7 (ci_push (.int (-1)) 8) := cr_iconst2 (n := -1) (dq_2 (by decide +kernel)) (by decide +kernel) rfl
set_option maxRecDepth 100000 in
theorem cd_X8_refusal_8 : decode cX8_refusal 8 = .ok (zi_rop (some .int), 1) := (dq_172 (by decide +kernel))
set_option maxRecDepth 100000 in
theorem cb_X8_refusal_9 : ci_ok yX8_refusal cX8_refusal 3 9 (ci_seq (ci_load 2 0 10) 10 (ci_load 0 1 11)) := cq_ok (cr_aload_n (k := 0) (dq_42 (by decide +kernel)) rfl rfl) (cr_iload_n (k := 1) (dq_27 (by decide +kernel)) rfl rfl)
