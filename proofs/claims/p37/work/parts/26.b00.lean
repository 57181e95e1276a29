set_option maxRecDepth 100000 in
theorem cb_X0_fewest_0 : ci_ok yX0_fewest cX0_fewest 5 0 (ci_seq (ci_load 2 0 1) 1 (ci_seq (ci_getf 0 0 4) 4 (ci_load 2 1 5))) := cq_ok (cr_aload_n (k := 0) (dq_42 (by decide +kernel)) rfl rfl) (cq_ok (cr_getf (idx := 14) zc_0 (by decide) zl_1 (dq_180 (a := 0) (b := 14) (by decide +kernel) rfl) rfl) (cr_aload_n (k := 1) (dq_43 (by decide +kernel)) rfl rfl))
set_option maxRecDepth 100000 in
theorem cl_X0_fewest_5 : ci_calls yX0_fewest cX0_fewest 5 5 yX2_copy 2 (some 2) := cr_callV (idx := 24) zl_895 ⟨by decide, by decide⟩ hp_X2_copy zc_2 zl_11 zl_12 (Or.inl zl_10) (dq_182 (a := 0) (b := 24) (by decide +kernel) rfl)
set_option maxRecDepth 100000 in
theorem cb_X0_fewest_8 : ci_ok yX0_fewest cX0_fewest 5 8 (ci_seq (ci_push (.int 0) 9) 9 (ci_store 0 4 11)) := cq_ok (cr_iconst2 (n := 0) (dq_3 (by decide +kernel)) (by decide +kernel) rfl) (cr_istore (dq_54 (by decide +kernel)) (by decide) rfl)
set_option maxRecDepth 100000 in
theorem cb_X0_fewest_11 : ci_ok yX0_fewest cX0_fewest 5 11 (ci_seq (ci_load 0 4 13) 13 (ci_seq (ci_push (.int 3) 14) 14 (ci_ic (fun x y => decide (y < x)) 37 17))) := cq_ok (cr_iload (dq_21 (by decide +kernel)) rfl) (cq_ok (cr_iconst2 (n := 3) (dq_6 (by decide +kernel)) (by decide +kernel) rfl) (cr_ic_gt (off := 23) (dq_163 (a := 0) (b := 23) (by decide +kernel) rfl) (by decide) rfl))
set_option maxRecDepth 100000 in
theorem cb_X0_fewest_17 : ci_ok yX0_fewest cX0_fewest 5 17 (ci_seq (ci_load 2 0 18) 18 (ci_seq (ci_load 0 2 19) 19 (ci_seq (ci_load 0 3 20) 20 (ci_load 0 4 22)))) := cq_ok (cr_aload_n (k := 0) (dq_42 (by decide +kernel)) rfl rfl) (cq_ok (cr_iload_n (k := 2) (dq_28 (by decide +kernel)) rfl rfl) (cq_ok (cr_iload_n (k := 3) (dq_29 (by decide +kernel)) rfl rfl) (cr_iload (dq_21 (by decide +kernel)) rfl)))
set_option maxRecDepth 100000 in
theorem cl_X0_fewest_22 : ci_calls yX0_fewest cX0_fewest 5 22 yX0_brings 4 (some 0) := cr_callV (idx := 28) zl_877 ⟨by decide, by decide⟩ hp_X0_brings zc_0 zl_14 zl_15 (Or.inl zl_13) (dq_182 (a := 0) (b := 28) (by decide +kernel) rfl)
set_option maxRecDepth 100000 in
theorem cb_X0_fewest_25 : ci_ok yX0_fewest cX0_fewest 5 25 (ci_if (fun x => decide (x = 0)) 31 28) := cr_if_eq (off := 6) (dq_153 (a := 0) (b := 6) (by decide +kernel) rfl) (by decide) rfl
set_option maxRecDepth 100000 in
theorem cb_X0_fewest_28 : ci_ok yX0_fewest cX0_fewest 5 28 (ci_load 0 4 30) := cr_iload (dq_21 (by decide +kernel)) rfl
set_option maxRecDepth 100000 in
theorem cd_X0_fewest_30 : decode cX0_fewest 30 = .ok (zi_rop (some .int), 1) := (dq_172 (by decide +kernel))
set_option maxRecDepth 100000 in
theorem cb_X0_fewest_31 : ci_ok yX0_fewest cX0_fewest 5 31 (ci_seq (ci_inc 4 1 34) 34 (ci_go 11)) := cq_ok (ci_inc_ok (by decide) (dq_132 (a := 4) (b := 1) (by decide +kernel) rfl) rfl) (cr_goto (off := -23) (dq_167 (a := 255) (b := 233) (by decide +kernel) rfl) (by decide))
set_option maxRecDepth 100000 in
theorem cb_X0_fewest_37 : ci_ok yX0_fewest cX0_fewest 5 37 (ci_push (.int (-1)) 38) := cr_iconst2 (n := -1) (dq_2 (by decide +kernel)) (by decide +kernel) rfl
set_option maxRecDepth 100000 in
theorem cd_X0_fewest_38 : decode cX0_fewest 38 = .ok (zi_rop (some .int), 1) := (dq_172 (by decide +kernel))
set_option maxRecDepth 100000 in
theorem cb_X0_brings_0 : ci_ok yX0_brings cX0_brings 6 0 (ci_seq (ci_load 0 3 1) 1 (ci_if (fun x => decide (x ≤ 0)) 11 4)) := cq_ok (cr_iload_n (k := 3) (dq_29 (by decide +kernel)) rfl rfl) (cr_if_le (off := 10) (dq_158 (a := 0) (b := 10) (by decide +kernel) rfl) (by decide) rfl)
set_option maxRecDepth 100000 in
theorem cb_X0_brings_4 : ci_ok yX0_brings cX0_brings 6 4 (ci_seq (ci_load 2 0 5) 5 (ci_seq (ci_getf 0 1 8) 8 (ci_null 11 23))) := cq_ok (cr_aload_n (k := 0) (dq_42 (by decide +kernel)) rfl rfl) (cq_ok (cr_getf (idx := 20) zc_0 (by decide) zl_0 (dq_180 (a := 0) (b := 20) (by decide +kernel) rfl) rfl) (cr_ifnonnull (off := 15) (dq_199 (a := 0) (b := 15) (by decide +kernel) rfl) (by decide) rfl))
set_option maxRecDepth 100000 in
theorem cb_X0_brings_11 : ci_ok yX0_brings cX0_brings 6 11 (ci_seq (ci_load 2 0 12) 12 (ci_seq (ci_getf 0 0 15) 15 (ci_seq (ci_getf 2 4 18) 18 (ci_load 0 2 19)))) := cq_ok (cr_aload_n (k := 0) (dq_42 (by decide +kernel)) rfl rfl) (cq_ok (cr_getf (idx := 14) zc_0 (by decide) zl_1 (dq_180 (a := 0) (b := 14) (by decide +kernel) rfl) rfl) (cq_ok (cr_getf (idx := 32) zc_2 (by decide) zl_18 (dq_180 (a := 0) (b := 32) (by decide +kernel) rfl) rfl) (cr_iload_n (k := 2) (dq_28 (by decide +kernel)) rfl rfl)))
set_option maxRecDepth 100000 in
theorem cl_X0_brings_19 : ci_calls yX0_brings cX0_brings 6 19 yX8_has 2 none := cr_callS (idx := 36) zl_965 zl_659 ⟨by decide, by decide⟩ hp_X8_has zl_17 (Or.inr ⟨_, zl_16⟩) (dq_184 (a := 0) (b := 36) (by decide +kernel) rfl)
set_option maxRecDepth 100000 in
theorem cd_X0_brings_22 : decode cX0_brings 22 = .ok (zi_rop (some .boolean), 1) := (dq_172 (by decide +kernel))
set_option maxRecDepth 100000 in
theorem cb_X0_brings_23 : ci_ok yX0_brings cX0_brings 6 23 (ci_seq (ci_load 2 0 24) 24 (ci_seq (ci_getf 0 0 27) 27 (ci_load 0 1 28))) := cq_ok (cr_aload_n (k := 0) (dq_42 (by decide +kernel)) rfl rfl) (cq_ok (cr_getf (idx := 14) zc_0 (by decide) zl_1 (dq_180 (a := 0) (b := 14) (by decide +kernel) rfl) rfl) (cr_iload_n (k := 1) (dq_27 (by decide +kernel)) rfl rfl))
set_option maxRecDepth 100000 in
theorem cl_X0_brings_28 : ci_calls yX0_brings cX0_brings 6 28 yX2_cuttable 2 (some 2) := cr_callV (idx := 40) zl_898 ⟨by decide, by decide⟩ hp_X2_cuttable zc_2 zl_20 zl_21 (Or.inl zl_19) (dq_182 (a := 0) (b := 40) (by decide +kernel) rfl)
set_option maxRecDepth 100000 in
theorem cb_X0_brings_31 : ci_ok yX0_brings cX0_brings 6 31 (ci_seq (ci_store 0 4 33) 33 (ci_seq (ci_push (.int 0) 34) 34 (ci_store 0 5 36))) := cq_ok (cr_istore (dq_54 (by decide +kernel)) (by decide) rfl) (cq_ok (cr_iconst2 (n := 0) (dq_3 (by decide +kernel)) (by decide +kernel) rfl) (cr_istore (dq_54 (by decide +kernel)) (by decide) rfl))
set_option maxRecDepth 100000 in
theorem cb_X0_brings_36 : ci_ok yX0_brings cX0_brings 6 36 (ci_seq (ci_load 0 5 38) 38 (ci_seq (ci_push (.int 25) 40) 40 (ci_ic (fun x y => decide (y < x)) 131 43))) := cq_ok (cr_iload (dq_21 (by decide +kernel)) rfl) (cq_ok (cr_bipush (n := 25) (dq_16 (a := 25) (by decide +kernel) rfl) (by decide +kernel) rfl) (cr_ic_gt (off := 91) (dq_163 (a := 0) (b := 91) (by decide +kernel) rfl) (by decide) rfl))
set_option maxRecDepth 100000 in
theorem cb_X0_brings_43 : ci_ok yX0_brings cX0_brings 6 43 (ci_seq (ci_load 0 5 45) 45 (ci_if (fun x => decide (x = 0)) 60 48)) := cq_ok (cr_iload (dq_21 (by decide +kernel)) rfl) (cr_if_eq (off := 15) (dq_153 (a := 0) (b := 15) (by decide +kernel) rfl) (by decide) rfl)
set_option maxRecDepth 100000 in
theorem cb_X0_brings_48 : ci_ok yX0_brings cX0_brings 6 48 (ci_seq (ci_load 0 4 50) 50 (ci_seq (ci_load 0 5 52) 52 (ci_seq (ci_push (.int 1) 53) 53 (ci_bin (fun a b => a - b) 54)))) := cq_ok (cr_iload (dq_21 (by decide +kernel)) rfl) (cq_ok (cr_iload (dq_21 (by decide +kernel)) rfl) (cq_ok (cr_iconst2 (n := 1) (dq_4 (by decide +kernel)) (by decide +kernel) rfl) (cr_isub (dq_100 (by decide +kernel)) rfl)))
set_option maxRecDepth 100000 in
theorem cl_X0_brings_54 : ci_calls yX0_brings cX0_brings 6 54 yX8_has 2 none := cr_callS (idx := 36) zl_965 zl_659 ⟨by decide, by decide⟩ hp_X8_has zl_17 (Or.inr ⟨_, zl_16⟩) (dq_184 (a := 0) (b := 36) (by decide +kernel) rfl)
set_option maxRecDepth 100000 in
theorem cb_X0_brings_57 : ci_ok yX0_brings cX0_brings 6 57 (ci_if (fun x => decide (x = 0)) 125 60) := cr_if_eq (off := 68) (dq_153 (a := 0) (b := 68) (by decide +kernel) rfl) (by decide) rfl
set_option maxRecDepth 100000 in
theorem cb_X0_brings_60 : ci_ok yX0_brings cX0_brings 6 60 (ci_seq (ci_load 2 0 61) 61 (ci_seq (ci_load 0 5 63) 63 (ci_if (fun x => !decide (x = 0)) 71 66))) := cq_ok (cr_aload_n (k := 0) (dq_42 (by decide +kernel)) rfl rfl) (cq_ok (cr_iload (dq_21 (by decide +kernel)) rfl) (cr_if_ne (off := 8) (dq_154 (a := 0) (b := 8) (by decide +kernel) rfl) (by decide) rfl))
set_option maxRecDepth 100000 in
theorem cb_X0_brings_66 : ci_ok yX0_brings cX0_brings 6 66 (ci_seq (ci_push (.int 25) 68) 68 (ci_go 75)) := cq_ok (cr_bipush (n := 25) (dq_16 (a := 25) (by decide +kernel) rfl) (by decide +kernel) rfl) (cr_goto (off := 7) (dq_167 (a := 0) (b := 7) (by decide +kernel) rfl) (by decide))
set_option maxRecDepth 100000 in
theorem cb_X0_brings_71 : ci_ok yX0_brings cX0_brings 6 71 (ci_seq (ci_load 0 5 73) 73 (ci_seq (ci_push (.int 1) 74) 74 (ci_bin (fun a b => a - b) 75))) := cq_ok (cr_iload (dq_21 (by decide +kernel)) rfl) (cq_ok (cr_iconst2 (n := 1) (dq_4 (by decide +kernel)) (by decide +kernel) rfl) (cr_isub (dq_100 (by decide +kernel)) rfl))
set_option maxRecDepth 100000 in
theorem cb_X0_brings_75 : ci_ok yX0_brings cX0_brings 6 75 (ci_seq (ci_putf 0 2 .int 78) 78 (ci_seq (ci_load 2 0 79) 79 (ci_seq (ci_getf 0 1 82) 82 (ci_seq (ci_getf 0 0 85) 85 (ci_seq (ci_load 2 0 86) 86 (ci_getf 0 0 89)))))) := cq_ok (cr_putf (idx := 44) zc_0 (by decide) (by decide +kernel) rfl zl_27 (dq_181 (a := 0) (b := 44) (by decide +kernel) rfl) rfl) (cq_ok (cr_aload_n (k := 0) (dq_42 (by decide +kernel)) rfl rfl) (cq_ok (cr_getf (idx := 20) zc_0 (by decide) zl_0 (dq_180 (a := 0) (b := 20) (by decide +kernel) rfl) rfl) (cq_ok (cr_getf (idx := 14) zc_0 (by decide) zl_1 (dq_180 (a := 0) (b := 14) (by decide +kernel) rfl) rfl) (cq_ok (cr_aload_n (k := 0) (dq_42 (by decide +kernel)) rfl rfl) (cr_getf (idx := 14) zc_0 (by decide) zl_1 (dq_180 (a := 0) (b := 14) (by decide +kernel) rfl) rfl)))))
set_option maxRecDepth 100000 in
theorem cl_X0_brings_89 : ci_calls yX0_brings cX0_brings 6 89 yX2_copy 2 (some 2) := cr_callV (idx := 24) zl_895 ⟨by decide, by decide⟩ hp_X2_copy zc_2 zl_11 zl_12 (Or.inl zl_10) (dq_182 (a := 0) (b := 24) (by decide +kernel) rfl)
set_option maxRecDepth 100000 in
theorem cb_X0_brings_92 : ci_ok yX0_brings cX0_brings 6 92 (ci_seq (ci_load 2 0 93) 93 (ci_seq (ci_getf 0 1 96) 96 (ci_seq (ci_getf 0 0 99) 99 (ci_seq (ci_load 0 5 101) 101 (ci_load 0 1 102))))) := cq_ok (cr_aload_n (k := 0) (dq_42 (by decide +kernel)) rfl rfl) (cq_ok (cr_getf (idx := 20) zc_0 (by decide) zl_0 (dq_180 (a := 0) (b := 20) (by decide +kernel) rfl) rfl) (cq_ok (cr_getf (idx := 14) zc_0 (by decide) zl_1 (dq_180 (a := 0) (b := 14) (by decide +kernel) rfl) rfl) (cq_ok (cr_iload (dq_21 (by decide +kernel)) rfl) (cr_iload_n (k := 1) (dq_27 (by decide +kernel)) rfl rfl))))
set_option maxRecDepth 100000 in
theorem cl_X0_brings_102 : ci_calls yX0_brings cX0_brings 6 102 yX8_numberOf 2 none := cr_callS (idx := 47) zl_964 zl_659 ⟨by decide, by decide⟩ hp_X8_numberOf zl_26 (Or.inr ⟨_, zl_25⟩) (dq_184 (a := 0) (b := 47) (by decide +kernel) rfl)
set_option maxRecDepth 100000 in
theorem cl_X0_brings_105 : ci_calls yX0_brings cX0_brings 6 105 yX2_pass 2 (some 2) := cr_callV (idx := 51) zl_902 ⟨by decide, by decide⟩ hp_X2_pass zc_2 zl_23 zl_24 (Or.inl zl_22) (dq_182 (a := 0) (b := 51) (by decide +kernel) rfl)
set_option maxRecDepth 100000 in
theorem cb_X0_brings_108 : ci_ok yX0_brings cX0_brings 6 108 (ci_seq (ci_load 2 0 109) 109 (ci_seq (ci_getf 0 1 112) 112 (ci_seq (ci_load 0 1 113) 113 (ci_seq (ci_load 0 2 114) 114 (ci_seq (ci_load 0 3 115) 115 (ci_seq (ci_push (.int 1) 116) 116 (ci_bin (fun a b => a - b) 117))))))) := cq_ok (cr_aload_n (k := 0) (dq_42 (by decide +kernel)) rfl rfl) (cq_ok (cr_getf (idx := 20) zc_0 (by decide) zl_0 (dq_180 (a := 0) (b := 20) (by decide +kernel) rfl) rfl) (cq_ok (cr_iload_n (k := 1) (dq_27 (by decide +kernel)) rfl rfl) (cq_ok (cr_iload_n (k := 2) (dq_28 (by decide +kernel)) rfl rfl) (cq_ok (cr_iload_n (k := 3) (dq_29 (by decide +kernel)) rfl rfl) (cq_ok (cr_iconst2 (n := 1) (dq_4 (by decide +kernel)) (by decide +kernel) rfl) (cr_isub (dq_100 (by decide +kernel)) rfl))))))
set_option maxRecDepth 100000 in
theorem cl_X0_brings_117 : ci_calls yX0_brings cX0_brings 6 117 yX0_brings 4 (some 0) := cr_callV (idx := 28) zl_877 ⟨by decide, by decide⟩ hp_X0_brings zc_0 zl_14 zl_15 (Or.inl zl_13) (dq_182 (a := 0) (b := 28) (by decide +kernel) rfl)
set_option maxRecDepth 100000 in
theorem cb_X0_brings_120 : ci_ok yX0_brings cX0_brings 6 120 (ci_if (fun x => decide (x = 0)) 125 123) := cr_if_eq (off := 5) (dq_153 (a := 0) (b := 5) (by decide +kernel) rfl) (by decide) rfl
set_option maxRecDepth 100000 in
theorem cb_X0_brings_123 : ci_ok yX0_brings cX0_brings 6 123 (ci_push (.int 1) 124) := cr_iconst2 (n := 1) (dq_4 (by decide +kernel)) (by decide +kernel) rfl
set_option maxRecDepth 100000 in
theorem cd_X0_brings_124 : decode cX0_brings 124 = .ok (zi_rop (some .boolean), 1) := (dq_172 (by decide +kernel))
set_option maxRecDepth 100000 in
theorem cb_X0_brings_125 : ci_ok yX0_brings cX0_brings 6 125 (ci_seq (ci_inc 5 1 128) 128 (ci_go 36)) := cq_ok (ci_inc_ok (by decide) (dq_132 (a := 5) (b := 1) (by decide +kernel) rfl) rfl) (cr_goto (off := -92) (dq_167 (a := 255) (b := 164) (by decide +kernel) rfl) (by decide))
set_option maxRecDepth 100000 in
theorem cb_X0_brings_131 : ci_ok yX0_brings cX0_brings 6 131 (ci_push (.int 0) 132) := cr_iconst2 (n := 0) (dq_3 (by decide +kernel)) (by decide +kernel) rfl
set_option maxRecDepth 100000 in
theorem cd_X0_brings_132 : decode cX0_brings 132 = .ok (zi_rop (some .boolean), 1) := (dq_172 (by decide +kernel))
set_option maxRecDepth 100000 in
theorem cb_X0_cutOf_0 : ci_ok yX0_cutOf cX0_cutOf 4 0 (ci_seq (ci_load 2 0 1) 1 (ci_seq (ci_store 2 2 2) 2 (ci_seq (ci_push (.int 0) 3) 3 (ci_store 0 3 4)))) := cq_ok (cr_aload_n (k := 0) (dq_42 (by decide +kernel)) rfl rfl) (cq_ok (cr_astore_n (k := 2) (dq_77 (by decide +kernel)) rfl (by decide) rfl) (cq_ok (cr_iconst2 (n := 0) (dq_3 (by decide +kernel)) (by decide +kernel) rfl) (cr_istore_n (k := 3) (dq_62 (by decide +kernel)) rfl (by decide) rfl)))
set_option maxRecDepth 100000 in
theorem cb_X0_cutOf_4 : ci_ok yX0_cutOf cX0_cutOf 4 4 (ci_seq (ci_load 0 3 5) 5 (ci_seq (ci_load 0 1 6) 6 (ci_ic (fun x y => decide (y ≤ x)) 27 9))) := cq_ok (cr_iload_n (k := 3) (dq_29 (by decide +kernel)) rfl rfl) (cq_ok (cr_iload_n (k := 1) (dq_27 (by decide +kernel)) rfl rfl) (cr_ic_ge (off := 21) (dq_162 (a := 0) (b := 21) (by decide +kernel) rfl) (by decide) rfl))
set_option maxRecDepth 100000 in
theorem cb_X0_cutOf_9 : ci_ok yX0_cutOf cX0_cutOf 4 9 (ci_seq (ci_load 2 2 10) 10 (ci_seq (ci_getf 0 1 13) 13 (ci_null 27 16))) := cq_ok (cr_aload_n (k := 2) (dq_44 (by decide +kernel)) rfl rfl) (cq_ok (cr_getf (idx := 20) zc_0 (by decide) zl_0 (dq_180 (a := 0) (b := 20) (by decide +kernel) rfl) rfl) (cr_ifnull (off := 14) (dq_198 (a := 0) (b := 14) (by decide +kernel) rfl) (by decide) rfl))
set_option maxRecDepth 100000 in
theorem cb_X0_cutOf_16 : ci_ok yX0_cutOf cX0_cutOf 4 16 (ci_seq (ci_load 2 2 17) 17 (ci_seq (ci_getf 0 1 20) 20 (ci_seq (ci_store 2 2 21) 21 (ci_seq (ci_inc 3 1 24) 24 (ci_go 4))))) := cq_ok (cr_aload_n (k := 2) (dq_44 (by decide +kernel)) rfl rfl) (cq_ok (cr_getf (idx := 20) zc_0 (by decide) zl_0 (dq_180 (a := 0) (b := 20) (by decide +kernel) rfl) rfl) (cq_ok (cr_astore_n (k := 2) (dq_77 (by decide +kernel)) rfl (by decide) rfl) (cq_ok (ci_inc_ok (by decide) (dq_132 (a := 3) (b := 1) (by decide +kernel) rfl) rfl) (cr_goto (off := -20) (dq_167 (a := 255) (b := 236) (by decide +kernel) rfl) (by decide)))))
set_option maxRecDepth 100000 in
theorem cb_X0_cutOf_27 : ci_ok yX0_cutOf cX0_cutOf 4 27 (ci_seq (ci_load 2 2 28) 28 (ci_getf 0 2 31)) := cq_ok (cr_aload_n (k := 2) (dq_44 (by decide +kernel)) rfl rfl) (cr_getf (idx := 44) zc_0 (by decide) zl_27 (dq_180 (a := 0) (b := 44) (by decide +kernel) rfl) rfl)
set_option maxRecDepth 100000 in
theorem cd_X0_cutOf_31 : decode cX0_cutOf 31 = .ok (zi_rop (some .int), 1) := (dq_172 (by decide +kernel))
set_option maxRecDepth 100000 in
theorem cb_X1_clear_0 : ci_ok yX1_clear cX1_clear 1 0 (ci_seq (ci_load 2 0 1) 1 (ci_seq (ci_getf 1 0 4) 4 (ci_push (.int 0) 5))) := cq_ok (cr_aload_n (k := 0) (dq_42 (by decide +kernel)) rfl rfl) (cq_ok (cr_getf (idx := 9) zc_1 (by decide) zl_32 (dq_180 (a := 0) (b := 9) (by decide +kernel) rfl) rfl) (cr_iconst2 (n := 0) (dq_3 (by decide +kernel)) (by decide +kernel) rfl))
set_option maxRecDepth 100000 in
theorem cl_X1_clear_5 : ci_calls yX1_clear cX1_clear 1 5 yJ7_fill_53178 2 none := cr_callS (idx := 24) zl_1087 zl_1088 ⟨by decide, by decide⟩ hp_J7_fill_53178 zl_41 (Or.inl zl_40) (dq_184 (a := 0) (b := 24) (by decide +kernel) rfl)
set_option maxRecDepth 100000 in
theorem cb_X1_clear_8 : ci_ok yX1_clear cX1_clear 1 8 (ci_seq (ci_load 2 0 9) 9 (ci_seq (ci_getf 1 1 12) 12 (ci_push (.int 0) 13))) := cq_ok (cr_aload_n (k := 0) (dq_42 (by decide +kernel)) rfl rfl) (cq_ok (cr_getf (idx := 15) zc_1 (by decide) zl_31 (dq_180 (a := 0) (b := 15) (by decide +kernel) rfl) rfl) (cr_iconst2 (n := 0) (dq_3 (by decide +kernel)) (by decide +kernel) rfl))
set_option maxRecDepth 100000 in
theorem cl_X1_clear_13 : ci_calls yX1_clear cX1_clear 1 13 yJ7_fill_53178 2 none := cr_callS (idx := 24) zl_1087 zl_1088 ⟨by decide, by decide⟩ hp_J7_fill_53178 zl_41 (Or.inl zl_40) (dq_184 (a := 0) (b := 24) (by decide +kernel) rfl)
set_option maxRecDepth 100000 in
theorem cb_X1_clear_16 : ci_ok yX1_clear cX1_clear 1 16 (ci_seq (ci_load 2 0 17) 17 (ci_seq (ci_getf 1 2 20) 20 (ci_push (.int 0) 21))) := cq_ok (cr_aload_n (k := 0) (dq_42 (by decide +kernel)) rfl rfl) (cq_ok (cr_getf (idx := 18) zc_1 (by decide) zl_30 (dq_180 (a := 0) (b := 18) (by decide +kernel) rfl) rfl) (cr_iconst2 (n := 0) (dq_3 (by decide +kernel)) (by decide +kernel) rfl))
set_option maxRecDepth 100000 in
theorem cl_X1_clear_21 : ci_calls yX1_clear cX1_clear 1 21 yJ7_fill_53178 2 none := cr_callS (idx := 24) zl_1087 zl_1088 ⟨by decide, by decide⟩ hp_J7_fill_53178 zl_41 (Or.inl zl_40) (dq_184 (a := 0) (b := 24) (by decide +kernel) rfl)
set_option maxRecDepth 100000 in
theorem cb_X1_clear_24 : ci_ok yX1_clear cX1_clear 1 24 (ci_seq (ci_load 2 0 25) 25 (ci_seq (ci_getf 1 3 28) 28 (ci_push (.int 0) 29))) := cq_ok (cr_aload_n (k := 0) (dq_42 (by decide +kernel)) rfl rfl) (cq_ok (cr_getf (idx := 21) zc_1 (by decide) zl_28 (dq_180 (a := 0) (b := 21) (by decide +kernel) rfl) rfl) (cr_iconst2 (n := 0) (dq_3 (by decide +kernel)) (by decide +kernel) rfl))
set_option maxRecDepth 100000 in
theorem cl_X1_clear_29 : ci_calls yX1_clear cX1_clear 1 29 yJ7_fill_53178 2 none := cr_callS (idx := 24) zl_1087 zl_1088 ⟨by decide, by decide⟩ hp_J7_fill_53178 zl_41 (Or.inl zl_40) (dq_184 (a := 0) (b := 24) (by decide +kernel) rfl)
set_option maxRecDepth 100000 in
theorem cb_X1_clear_32 : ci_ok yX1_clear cX1_clear 1 32 (ci_seq (ci_load 2 0 33) 33 (ci_seq (ci_push (.int 3) 34) 34 (ci_seq (ci_putf 1 4 .int 37) 37 (ci_seq (ci_load 2 0 38) 38 (ci_seq (ci_push (.int 3) 39) 39 (ci_seq (ci_putf 1 5 .int 42) 42 (ci_seq (ci_load 2 0 43) 43 (ci_seq (ci_push (.int 0) 44) 44 (ci_seq (ci_putf 1 6 .int 47) 47 (ci_seq (ci_load 2 0 48) 48 (ci_seq (ci_push (.int 0) 49) 49 (ci_seq (ci_putf 1 7 .int 52) 52 (ci_seq (ci_load 2 0 53) 53 (ci_seq (ci_push (.int 0) 54) 54 (ci_seq (ci_putf 1 8 .int 57) 57 (ci_seq (ci_load 2 0 58) 58 (ci_seq (ci_push (.int 0) 59) 59 (ci_putf 1 9 .int 62)))))))))))))))))) := cq_ok (cr_aload_n (k := 0) (dq_42 (by decide +kernel)) rfl rfl) (cq_ok (cr_iconst2 (n := 3) (dq_6 (by decide +kernel)) (by decide +kernel) rfl) (cq_ok (cr_putf (idx := 30) zc_1 (by decide) (by decide +kernel) rfl zl_39 (dq_181 (a := 0) (b := 30) (by decide +kernel) rfl) rfl) (cq_ok (cr_aload_n (k := 0) (dq_42 (by decide +kernel)) rfl rfl) (cq_ok (cr_iconst2 (n := 3) (dq_6 (by decide +kernel)) (by decide +kernel) rfl) (cq_ok (cr_putf (idx := 34) zc_1 (by decide) (by decide +kernel) rfl zl_38 (dq_181 (a := 0) (b := 34) (by decide +kernel) rfl) rfl) (cq_ok (cr_aload_n (k := 0) (dq_42 (by decide +kernel)) rfl rfl) (cq_ok (cr_iconst2 (n := 0) (dq_3 (by decide +kernel)) (by decide +kernel) rfl) (cq_ok (cr_putf (idx := 37) zc_1 (by decide) (by decide +kernel) rfl zl_37 (dq_181 (a := 0) (b := 37) (by decide +kernel) rfl) rfl) (cq_ok (cr_aload_n (k := 0) (dq_42 (by decide +kernel)) rfl rfl) (cq_ok (cr_iconst2 (n := 0) (dq_3 (by decide +kernel)) (by decide +kernel) rfl) (cq_ok (cr_putf (idx := 40) zc_1 (by decide) (by decide +kernel) rfl zl_36 (dq_181 (a := 0) (b := 40) (by decide +kernel) rfl) rfl) (cq_ok (cr_aload_n (k := 0) (dq_42 (by decide +kernel)) rfl rfl) (cq_ok (cr_iconst2 (n := 0) (dq_3 (by decide +kernel)) (by decide +kernel) rfl) (cq_ok (cr_putf (idx := 43) zc_1 (by decide) (by decide +kernel) rfl zl_35 (dq_181 (a := 0) (b := 43) (by decide +kernel) rfl) rfl) (cq_ok (cr_aload_n (k := 0) (dq_42 (by decide +kernel)) rfl rfl) (cq_ok (cr_iconst2 (n := 0) (dq_3 (by decide +kernel)) (by decide +kernel) rfl) (cr_putf (idx := 46) zc_1 (by decide) (by decide +kernel) rfl zl_34 (dq_181 (a := 0) (b := 46) (by decide +kernel) rfl) rfl)))))))))))))))))
set_option maxRecDepth 100000 in
theorem cd_X1_clear_62 : decode cX1_clear 62 = .ok (zi_rop none, 1) := (dq_177 (by decide +kernel))
set_option maxRecDepth 100000 in
theorem cb_X1_take_0 : ci_ok yX1_take cX1_take 4 0 (ci_load 2 0 1) := cr_aload_n (k := 0) (dq_42 (by decide +kernel)) rfl rfl
set_option maxRecDepth 100000 in
theorem cl_X1_take_1 : ci_calls yX1_take cX1_take 4 1 yX1_clear 1 (some 1) := cr_callV (idx := 49) zl_880 ⟨by decide, by decide⟩ hp_X1_clear zc_1 zl_46 zl_47 (Or.inl zl_45) (dq_182 (a := 0) (b := 49) (by decide +kernel) rfl)
set_option maxRecDepth 100000 in
theorem cb_X1_take_4 : ci_ok yX1_take cX1_take 4 4 (ci_load 2 1 5) := cr_aload_n (k := 1) (dq_43 (by decide +kernel)) rfl rfl
set_option maxRecDepth 100000 in
theorem cl_X1_take_5 : ci_calls yX1_take cX1_take 4 5 yX6_rewind 1 (some 6) := cr_callV (idx := 52) zl_927 ⟨by decide, by decide⟩ hp_X6_rewind zc_6 zl_43 zl_44 (Or.inl zl_42) (dq_182 (a := 0) (b := 52) (by decide +kernel) rfl)
set_option maxRecDepth 100000 in
theorem cb_X1_take_8 : ci_ok yX1_take cX1_take 4 8 (ci_seq (ci_push (.int 0) 9) 9 (ci_seq (ci_store 0 2 10) 10 (ci_seq (ci_push (.int 0) 11) 11 (ci_store 0 3 12)))) := cq_ok (cr_iconst2 (n := 0) (dq_3 (by decide +kernel)) (by decide +kernel) rfl) (cq_ok (cr_istore_n (k := 2) (dq_61 (by decide +kernel)) rfl (by decide) rfl) (cq_ok (cr_iconst2 (n := 0) (dq_3 (by decide +kernel)) (by decide +kernel) rfl) (cr_istore_n (k := 3) (dq_62 (by decide +kernel)) rfl (by decide) rfl)))
set_option maxRecDepth 100000 in
theorem cb_X1_take_12 : ci_ok yX1_take cX1_take 4 12 (ci_seq (ci_load 0 3 13) 13 (ci_seq (ci_push (.int 320) 16) 16 (ci_ic (fun x y => decide (y < x)) 70 19))) := cq_ok (cr_iload_n (k := 3) (dq_29 (by decide +kernel)) rfl rfl) (cq_ok (cr_sipush (n := 320) (dq_17 (a := 1) (b := 64) (by decide +kernel) rfl) (by decide +kernel) rfl) (cr_ic_gt (off := 54) (dq_163 (a := 0) (b := 54) (by decide +kernel) rfl) (by decide) rfl))
set_option maxRecDepth 100000 in
theorem cb_X1_take_19 : ci_ok yX1_take cX1_take 4 19 (ci_load 2 1 20) := cr_aload_n (k := 1) (dq_43 (by decide +kernel)) rfl rfl
set_option maxRecDepth 100000 in
theorem cl_X1_take_20 : ci_calls yX1_take cX1_take 4 20 yX6_next 1 (some 6) := cr_callV (idx := 57) zl_930 ⟨by decide, by decide⟩ hp_X6_next zc_6 zl_50 zl_51 (Or.inl zl_49) (dq_182 (a := 0) (b := 57) (by decide +kernel) rfl)
set_option maxRecDepth 100000 in
theorem cb_X1_take_23 : ci_ok yX1_take cX1_take 4 23 (ci_seq (ci_load 2 1 24) 24 (ci_seq (ci_getf 6 6 27) 27 (ci_if (fun x => !decide (x = 0)) 40 30))) := cq_ok (cr_aload_n (k := 1) (dq_43 (by decide +kernel)) rfl rfl) (cq_ok (cr_getf (idx := 60) zc_6 (by decide) zl_48 (dq_180 (a := 0) (b := 60) (by decide +kernel) rfl) rfl) (cr_if_ne (off := 13) (dq_154 (a := 0) (b := 13) (by decide +kernel) rfl) (by decide) rfl))
set_option maxRecDepth 100000 in
theorem cb_X1_take_30 : ci_ok yX1_take cX1_take 4 30 (ci_seq (ci_load 2 1 31) 31 (ci_seq (ci_getf 6 3 34) 34 (ci_if (fun x => !decide (x = 0)) 40 37))) := cq_ok (cr_aload_n (k := 1) (dq_43 (by decide +kernel)) rfl rfl) (cq_ok (cr_getf (idx := 63) zc_6 (by decide) zl_52 (dq_180 (a := 0) (b := 63) (by decide +kernel) rfl) rfl) (cr_if_ne (off := 6) (dq_154 (a := 0) (b := 6) (by decide +kernel) rfl) (by decide) rfl))
set_option maxRecDepth 100000 in
theorem cb_X1_take_37 : ci_ok yX1_take cX1_take 4 37 (ci_go 70) := cr_goto (off := 33) (dq_167 (a := 0) (b := 33) (by decide +kernel) rfl) (by decide)
set_option maxRecDepth 100000 in
theorem cb_X1_take_40 : ci_ok yX1_take cX1_take 4 40 (ci_seq (ci_load 2 1 41) 41 (ci_seq (ci_getf 6 6 44) 44 (ci_if (fun x => !decide (x = 0)) 52 47))) := cq_ok (cr_aload_n (k := 1) (dq_43 (by decide +kernel)) rfl rfl) (cq_ok (cr_getf (idx := 60) zc_6 (by decide) zl_48 (dq_180 (a := 0) (b := 60) (by decide +kernel) rfl) rfl) (cr_if_ne (off := 8) (dq_154 (a := 0) (b := 8) (by decide +kernel) rfl) (by decide) rfl))
set_option maxRecDepth 100000 in
theorem cb_X1_take_47 : ci_ok yX1_take cX1_take 4 47 (ci_seq (ci_load 2 0 48) 48 (ci_load 2 1 49)) := cq_ok (cr_aload_n (k := 0) (dq_42 (by decide +kernel)) rfl rfl) (cr_aload_n (k := 1) (dq_43 (by decide +kernel)) rfl rfl)
set_option maxRecDepth 100000 in
theorem cl_X1_take_49 : ci_calls yX1_take cX1_take 4 49 yX1_takeLine 2 (some 1) := cr_callV (idx := 66) zl_882 ⟨by decide, by decide⟩ hp_X1_takeLine zc_1 zl_54 zl_55 (Or.inl zl_53) (dq_182 (a := 0) (b := 66) (by decide +kernel) rfl)
set_option maxRecDepth 100000 in
theorem cb_X1_take_52 : ci_ok yX1_take cX1_take 4 52 (ci_seq (ci_load 2 1 53) 53 (ci_seq (ci_getf 6 6 56) 56 (ci_if (fun x => decide (x = 0)) 61 59))) := cq_ok (cr_aload_n (k := 1) (dq_43 (by decide +kernel)) rfl rfl) (cq_ok (cr_getf (idx := 60) zc_6 (by decide) zl_48 (dq_180 (a := 0) (b := 60) (by decide +kernel) rfl) rfl) (cr_if_eq (off := 5) (dq_153 (a := 0) (b := 5) (by decide +kernel) rfl) (by decide) rfl))
set_option maxRecDepth 100000 in
theorem cb_X1_take_59 : ci_ok yX1_take cX1_take 4 59 (ci_push (.int 0) 60) := cr_iconst2 (n := 0) (dq_3 (by decide +kernel)) (by decide +kernel) rfl
set_option maxRecDepth 100000 in
theorem cd_X1_take_60 : decode cX1_take 60 = .ok (zi_rop (some .int), 1) := (dq_172 (by decide +kernel))
set_option maxRecDepth 100000 in
theorem cb_X1_take_61 : ci_ok yX1_take cX1_take 4 61 (ci_seq (ci_inc 2 1 64) 64 (ci_seq (ci_inc 3 1 67) 67 (ci_go 12))) := cq_ok (ci_inc_ok (by decide) (dq_132 (a := 2) (b := 1) (by decide +kernel) rfl) rfl) (cq_ok (ci_inc_ok (by decide) (dq_132 (a := 3) (b := 1) (by decide +kernel) rfl) rfl) (cr_goto (off := -55) (dq_167 (a := 255) (b := 201) (by decide +kernel) rfl) (by decide)))
set_option maxRecDepth 100000 in
theorem cb_X1_take_70 : ci_ok yX1_take cX1_take 4 70 (ci_load 2 0 71) := cr_aload_n (k := 0) (dq_42 (by decide +kernel)) rfl rfl
set_option maxRecDepth 100000 in
theorem cl_X1_take_71 : ci_calls yX1_take cX1_take 4 71 yX1_isWhole 1 (some 1) := cr_callV (idx := 70) zl_891 ⟨by decide, by decide⟩ hp_X1_isWhole zc_1 zl_57 zl_58 (Or.inl zl_56) (dq_182 (a := 0) (b := 70) (by decide +kernel) rfl)
set_option maxRecDepth 100000 in
theorem cb_X1_take_74 : ci_ok yX1_take cX1_take 4 74 (ci_if (fun x => !decide (x = 0)) 83 77) := cr_if_ne (off := 9) (dq_154 (a := 0) (b := 9) (by decide +kernel) rfl) (by decide) rfl
set_option maxRecDepth 100000 in
theorem cb_X1_take_77 : ci_ok yX1_take cX1_take 4 77 (ci_seq (ci_load 2 1 78) 78 (ci_push (.int 6) 80)) := cq_ok (cr_aload_n (k := 1) (dq_43 (by decide +kernel)) rfl rfl) (cr_bipush (n := 6) (dq_16 (a := 6) (by decide +kernel) rfl) (by decide +kernel) rfl)
set_option maxRecDepth 100000 in
theorem cl_X1_take_80 : ci_calls yX1_take cX1_take 4 80 yX6_failBehindAll 2 (some 6) := cr_callV (idx := 74) zl_929 ⟨by decide, by decide⟩ hp_X6_failBehindAll zc_6 zl_60 zl_61 (Or.inl zl_59) (dq_182 (a := 0) (b := 74) (by decide +kernel) rfl)
set_option maxRecDepth 100000 in
theorem cb_X1_take_83 : ci_ok yX1_take cX1_take 4 83 (ci_load 0 2 84) := cr_iload_n (k := 2) (dq_28 (by decide +kernel)) rfl rfl
set_option maxRecDepth 100000 in
theorem cd_X1_take_84 : decode cX1_take 84 = .ok (zi_rop (some .int), 1) := (dq_172 (by decide +kernel))
set_option maxRecDepth 100000 in
theorem cb_X1_takeLine_0 : ci_ok yX1_takeLine cX1_takeLine 2 0 (ci_load 2 1 1) := cr_aload_n (k := 1) (dq_43 (by decide +kernel)) rfl rfl
set_option maxRecDepth 100000 in
theorem cl_X1_takeLine_3 : ci_calls yX1_takeLine cX1_takeLine 2 3 yX6_says 2 (some 6) := cr_callV (idx := 80) zl_933 ⟨by decide, by decide⟩ hp_X6_says zc_6 zl_63 zl_64 (Or.inl zl_62) (dq_182 (a := 0) (b := 80) (by decide +kernel) rfl)
set_option maxRecDepth 100000 in
theorem cb_X1_takeLine_6 : ci_ok yX1_takeLine cX1_takeLine 2 6 (ci_if (fun x => decide (x = 0)) 17 9) := cr_if_eq (off := 11) (dq_153 (a := 0) (b := 11) (by decide +kernel) rfl) (by decide) rfl
set_option maxRecDepth 100000 in
theorem cb_X1_takeLine_9 : ci_ok yX1_takeLine cX1_takeLine 2 9 (ci_seq (ci_load 2 0 10) 10 (ci_load 2 1 11)) := cq_ok (cr_aload_n (k := 0) (dq_42 (by decide +kernel)) rfl rfl) (cr_aload_n (k := 1) (dq_43 (by decide +kernel)) rfl rfl)
set_option maxRecDepth 100000 in
theorem cl_X1_takeLine_11 : ci_calls yX1_takeLine cX1_takeLine 2 11 yX1_takePlain 2 (some 1) := cr_callV (idx := 84) zl_884 ⟨by decide, by decide⟩ hp_X1_takePlain zc_1 zl_66 zl_67 (Or.inl zl_65) (dq_182 (a := 0) (b := 84) (by decide +kernel) rfl)
set_option maxRecDepth 100000 in
theorem cb_X1_takeLine_14 : ci_ok yX1_takeLine cX1_takeLine 2 14 (ci_go 124) := cr_goto (off := 110) (dq_167 (a := 0) (b := 110) (by decide +kernel) rfl) (by decide)
set_option maxRecDepth 100000 in
theorem cb_X1_takeLine_17 : ci_ok yX1_takeLine cX1_takeLine 2 17 (ci_load 2 1 18) := cr_aload_n (k := 1) (dq_43 (by decide +kernel)) rfl rfl
set_option maxRecDepth 100000 in
theorem cl_X1_takeLine_20 : ci_calls yX1_takeLine cX1_takeLine 2 20 yX6_says 2 (some 6) := cr_callV (idx := 80) zl_933 ⟨by decide, by decide⟩ hp_X6_says zc_6 zl_63 zl_64 (Or.inl zl_62) (dq_182 (a := 0) (b := 80) (by decide +kernel) rfl)
set_option maxRecDepth 100000 in
theorem cb_X1_takeLine_23 : ci_ok yX1_takeLine cX1_takeLine 2 23 (ci_if (fun x => decide (x = 0)) 34 26) := cr_if_eq (off := 11) (dq_153 (a := 0) (b := 11) (by decide +kernel) rfl) (by decide) rfl
set_option maxRecDepth 100000 in
theorem cb_X1_takeLine_26 : ci_ok yX1_takeLine cX1_takeLine 2 26 (ci_seq (ci_load 2 0 27) 27 (ci_load 2 1 28)) := cq_ok (cr_aload_n (k := 0) (dq_42 (by decide +kernel)) rfl rfl) (cr_aload_n (k := 1) (dq_43 (by decide +kernel)) rfl rfl)
set_option maxRecDepth 100000 in
theorem cl_X1_takeLine_28 : ci_calls yX1_takeLine cX1_takeLine 2 28 yX1_takeRow 2 (some 1) := cr_callV (idx := 89) zl_885 ⟨by decide, by decide⟩ hp_X1_takeRow zc_1 zl_69 zl_70 (Or.inl zl_68) (dq_182 (a := 0) (b := 89) (by decide +kernel) rfl)
set_option maxRecDepth 100000 in
theorem cb_X1_takeLine_31 : ci_ok yX1_takeLine cX1_takeLine 2 31 (ci_go 124) := cr_goto (off := 93) (dq_167 (a := 0) (b := 93) (by decide +kernel) rfl) (by decide)
set_option maxRecDepth 100000 in
theorem cb_X1_takeLine_34 : ci_ok yX1_takeLine cX1_takeLine 2 34 (ci_load 2 1 35) := cr_aload_n (k := 1) (dq_43 (by decide +kernel)) rfl rfl
set_option maxRecDepth 100000 in
theorem cl_X1_takeLine_37 : ci_calls yX1_takeLine cX1_takeLine 2 37 yX6_says 2 (some 6) := cr_callV (idx := 80) zl_933 ⟨by decide, by decide⟩ hp_X6_says zc_6 zl_63 zl_64 (Or.inl zl_62) (dq_182 (a := 0) (b := 80) (by decide +kernel) rfl)
set_option maxRecDepth 100000 in
theorem cb_X1_takeLine_40 : ci_ok yX1_takeLine cX1_takeLine 2 40 (ci_if (fun x => decide (x = 0)) 51 43) := cr_if_eq (off := 11) (dq_153 (a := 0) (b := 11) (by decide +kernel) rfl) (by decide) rfl
set_option maxRecDepth 100000 in
theorem cb_X1_takeLine_43 : ci_ok yX1_takeLine cX1_takeLine 2 43 (ci_seq (ci_load 2 0 44) 44 (ci_load 2 1 45)) := cq_ok (cr_aload_n (k := 0) (dq_42 (by decide +kernel)) rfl rfl) (cr_aload_n (k := 1) (dq_43 (by decide +kernel)) rfl rfl)
set_option maxRecDepth 100000 in
theorem cl_X1_takeLine_45 : ci_calls yX1_takeLine cX1_takeLine 2 45 yX1_takeSpring 2 (some 1) := cr_callV (idx := 93) zl_886 ⟨by decide, by decide⟩ hp_X1_takeSpring zc_1 zl_72 zl_73 (Or.inl zl_71) (dq_182 (a := 0) (b := 93) (by decide +kernel) rfl)
set_option maxRecDepth 100000 in
theorem cb_X1_takeLine_48 : ci_ok yX1_takeLine cX1_takeLine 2 48 (ci_go 124) := cr_goto (off := 76) (dq_167 (a := 0) (b := 76) (by decide +kernel) rfl) (by decide)
set_option maxRecDepth 100000 in
theorem cb_X1_takeLine_51 : ci_ok yX1_takeLine cX1_takeLine 2 51 (ci_load 2 1 52) := cr_aload_n (k := 1) (dq_43 (by decide +kernel)) rfl rfl
set_option maxRecDepth 100000 in
theorem cl_X1_takeLine_54 : ci_calls yX1_takeLine cX1_takeLine 2 54 yX6_says 2 (some 6) := cr_callV (idx := 80) zl_933 ⟨by decide, by decide⟩ hp_X6_says zc_6 zl_63 zl_64 (Or.inl zl_62) (dq_182 (a := 0) (b := 80) (by decide +kernel) rfl)
set_option maxRecDepth 100000 in
theorem cb_X1_takeLine_57 : ci_ok yX1_takeLine cX1_takeLine 2 57 (ci_if (fun x => decide (x = 0)) 68 60) := cr_if_eq (off := 11) (dq_153 (a := 0) (b := 11) (by decide +kernel) rfl) (by decide) rfl
set_option maxRecDepth 100000 in
theorem cb_X1_takeLine_60 : ci_ok yX1_takeLine cX1_takeLine 2 60 (ci_seq (ci_load 2 0 61) 61 (ci_load 2 1 62)) := cq_ok (cr_aload_n (k := 0) (dq_42 (by decide +kernel)) rfl rfl) (cr_aload_n (k := 1) (dq_43 (by decide +kernel)) rfl rfl)
set_option maxRecDepth 100000 in
theorem cl_X1_takeLine_62 : ci_calls yX1_takeLine cX1_takeLine 2 62 yX1_takeFarm 2 (some 1) := cr_callV (idx := 98) zl_887 ⟨by decide, by decide⟩ hp_X1_takeFarm zc_1 zl_75 zl_76 (Or.inl zl_74) (dq_182 (a := 0) (b := 98) (by decide +kernel) rfl)
set_option maxRecDepth 100000 in
theorem cb_X1_takeLine_65 : ci_ok yX1_takeLine cX1_takeLine 2 65 (ci_go 124) := cr_goto (off := 59) (dq_167 (a := 0) (b := 59) (by decide +kernel) rfl) (by decide)
set_option maxRecDepth 100000 in
theorem cb_X1_takeLine_68 : ci_ok yX1_takeLine cX1_takeLine 2 68 (ci_load 2 1 69) := cr_aload_n (k := 1) (dq_43 (by decide +kernel)) rfl rfl
set_option maxRecDepth 100000 in
theorem cl_X1_takeLine_71 : ci_calls yX1_takeLine cX1_takeLine 2 71 yX6_says 2 (some 6) := cr_callV (idx := 80) zl_933 ⟨by decide, by decide⟩ hp_X6_says zc_6 zl_63 zl_64 (Or.inl zl_62) (dq_182 (a := 0) (b := 80) (by decide +kernel) rfl)
set_option maxRecDepth 100000 in
theorem cb_X1_takeLine_74 : ci_ok yX1_takeLine cX1_takeLine 2 74 (ci_if (fun x => decide (x = 0)) 85 77) := cr_if_eq (off := 11) (dq_153 (a := 0) (b := 11) (by decide +kernel) rfl) (by decide) rfl
set_option maxRecDepth 100000 in
theorem cb_X1_takeLine_77 : ci_ok yX1_takeLine cX1_takeLine 2 77 (ci_seq (ci_load 2 0 78) 78 (ci_load 2 1 79)) := cq_ok (cr_aload_n (k := 0) (dq_42 (by decide +kernel)) rfl rfl) (cr_aload_n (k := 1) (dq_43 (by decide +kernel)) rfl rfl)
set_option maxRecDepth 100000 in
theorem cl_X1_takeLine_79 : ci_calls yX1_takeLine cX1_takeLine 2 79 yX1_takeGround 2 (some 1) := cr_callV (idx := 102) zl_888 ⟨by decide, by decide⟩ hp_X1_takeGround zc_1 zl_78 zl_79 (Or.inl zl_77) (dq_182 (a := 0) (b := 102) (by decide +kernel) rfl)
set_option maxRecDepth 100000 in
theorem cb_X1_takeLine_82 : ci_ok yX1_takeLine cX1_takeLine 2 82 (ci_go 124) := cr_goto (off := 42) (dq_167 (a := 0) (b := 42) (by decide +kernel) rfl) (by decide)
set_option maxRecDepth 100000 in
theorem cb_X1_takeLine_85 : ci_ok yX1_takeLine cX1_takeLine 2 85 (ci_load 2 1 86) := cr_aload_n (k := 1) (dq_43 (by decide +kernel)) rfl rfl
set_option maxRecDepth 100000 in
theorem cl_X1_takeLine_88 : ci_calls yX1_takeLine cX1_takeLine 2 88 yX6_says 2 (some 6) := cr_callV (idx := 80) zl_933 ⟨by decide, by decide⟩ hp_X6_says zc_6 zl_63 zl_64 (Or.inl zl_62) (dq_182 (a := 0) (b := 80) (by decide +kernel) rfl)
set_option maxRecDepth 100000 in
theorem cb_X1_takeLine_91 : ci_ok yX1_takeLine cX1_takeLine 2 91 (ci_if (fun x => decide (x = 0)) 102 94) := cr_if_eq (off := 11) (dq_153 (a := 0) (b := 11) (by decide +kernel) rfl) (by decide) rfl
set_option maxRecDepth 100000 in
theorem cb_X1_takeLine_94 : ci_ok yX1_takeLine cX1_takeLine 2 94 (ci_seq (ci_load 2 0 95) 95 (ci_load 2 1 96)) := cq_ok (cr_aload_n (k := 0) (dq_42 (by decide +kernel)) rfl rfl) (cr_aload_n (k := 1) (dq_43 (by decide +kernel)) rfl rfl)
set_option maxRecDepth 100000 in
theorem cl_X1_takeLine_96 : ci_calls yX1_takeLine cX1_takeLine 2 96 yX1_takeLaw 2 (some 1) := cr_callV (idx := 106) zl_889 ⟨by decide, by decide⟩ hp_X1_takeLaw zc_1 zl_81 zl_82 (Or.inl zl_80) (dq_182 (a := 0) (b := 106) (by decide +kernel) rfl)
set_option maxRecDepth 100000 in
theorem cb_X1_takeLine_99 : ci_ok yX1_takeLine cX1_takeLine 2 99 (ci_go 124) := cr_goto (off := 25) (dq_167 (a := 0) (b := 25) (by decide +kernel) rfl) (by decide)
set_option maxRecDepth 100000 in
theorem cb_X1_takeLine_102 : ci_ok yX1_takeLine cX1_takeLine 2 102 (ci_load 2 1 103) := cr_aload_n (k := 1) (dq_43 (by decide +kernel)) rfl rfl
set_option maxRecDepth 100000 in
theorem cl_X1_takeLine_105 : ci_calls yX1_takeLine cX1_takeLine 2 105 yX6_says 2 (some 6) := cr_callV (idx := 80) zl_933 ⟨by decide, by decide⟩ hp_X6_says zc_6 zl_63 zl_64 (Or.inl zl_62) (dq_182 (a := 0) (b := 80) (by decide +kernel) rfl)
set_option maxRecDepth 100000 in
theorem cb_X1_takeLine_108 : ci_ok yX1_takeLine cX1_takeLine 2 108 (ci_if (fun x => decide (x = 0)) 119 111) := cr_if_eq (off := 11) (dq_153 (a := 0) (b := 11) (by decide +kernel) rfl) (by decide) rfl
set_option maxRecDepth 100000 in
theorem cb_X1_takeLine_111 : ci_ok yX1_takeLine cX1_takeLine 2 111 (ci_seq (ci_load 2 0 112) 112 (ci_load 2 1 113)) := cq_ok (cr_aload_n (k := 0) (dq_42 (by decide +kernel)) rfl rfl) (cr_aload_n (k := 1) (dq_43 (by decide +kernel)) rfl rfl)
set_option maxRecDepth 100000 in
theorem cl_X1_takeLine_113 : ci_calls yX1_takeLine cX1_takeLine 2 113 yX1_takeSilt 2 (some 1) := cr_callV (idx := 111) zl_890 ⟨by decide, by decide⟩ hp_X1_takeSilt zc_1 zl_84 zl_85 (Or.inl zl_83) (dq_182 (a := 0) (b := 111) (by decide +kernel) rfl)
set_option maxRecDepth 100000 in
theorem cb_X1_takeLine_116 : ci_ok yX1_takeLine cX1_takeLine 2 116 (ci_go 124) := cr_goto (off := 8) (dq_167 (a := 0) (b := 8) (by decide +kernel) rfl) (by decide)
set_option maxRecDepth 100000 in
theorem cb_X1_takeLine_119 : ci_ok yX1_takeLine cX1_takeLine 2 119 (ci_seq (ci_load 2 1 120) 120 (ci_push (.int 2) 121)) := cq_ok (cr_aload_n (k := 1) (dq_43 (by decide +kernel)) rfl rfl) (cr_iconst2 (n := 2) (dq_5 (by decide +kernel)) (by decide +kernel) rfl)
set_option maxRecDepth 100000 in
theorem cl_X1_takeLine_121 : ci_calls yX1_takeLine cX1_takeLine 2 121 yX6_fail 2 (some 6) := cr_callV (idx := 114) zl_928 ⟨by decide, by decide⟩ hp_X6_fail zc_6 zl_87 zl_88 (Or.inl zl_86) (dq_182 (a := 0) (b := 114) (by decide +kernel) rfl)
set_option maxRecDepth 100000 in
theorem cd_X1_takeLine_124 : decode cX1_takeLine 124 = .ok (zi_rop none, 1) := (dq_177 (by decide +kernel))
set_option maxRecDepth 100000 in
theorem cb_X1_comesOnce_0 : ci_ok yX1_comesOnce cX1_comesOnce 3 0 (ci_seq (ci_load 2 0 1) 1 (ci_seq (ci_getf 1 9 4) 4 (ci_seq (ci_load 0 2 5) 5 (ci_seq (ci_bin (fun a b => a &&& b) 6) 6 (ci_if (fun x => decide (x = 0)) 16 9))))) := cq_ok (cr_aload_n (k := 0) (dq_42 (by decide +kernel)) rfl rfl) (cq_ok (cr_getf (idx := 46) zc_1 (by decide) zl_34 (dq_180 (a := 0) (b := 46) (by decide +kernel) rfl) rfl) (cq_ok (cr_iload_n (k := 2) (dq_28 (by decide +kernel)) rfl rfl) (cq_ok (cr_iand (dq_126 (by decide +kernel)) rfl) (cr_if_eq (off := 10) (dq_153 (a := 0) (b := 10) (by decide +kernel) rfl) (by decide) rfl))))
set_option maxRecDepth 100000 in
theorem cb_X1_comesOnce_9 : ci_ok yX1_comesOnce cX1_comesOnce 3 9 (ci_seq (ci_load 2 1 10) 10 (ci_push (.int 4) 11)) := cq_ok (cr_aload_n (k := 1) (dq_43 (by decide +kernel)) rfl rfl) (cr_iconst2 (n := 4) (dq_7 (by decide +kernel)) (by decide +kernel) rfl)
set_option maxRecDepth 100000 in
theorem cl_X1_comesOnce_11 : ci_calls yX1_comesOnce cX1_comesOnce 3 11 yX6_fail 2 (some 6) := cr_callV (idx := 114) zl_928 ⟨by decide, by decide⟩ hp_X6_fail zc_6 zl_87 zl_88 (Or.inl zl_86) (dq_182 (a := 0) (b := 114) (by decide +kernel) rfl)
set_option maxRecDepth 100000 in
theorem cb_X1_comesOnce_14 : ci_ok yX1_comesOnce cX1_comesOnce 3 14 (ci_push (.int 0) 15) := cr_iconst2 (n := 0) (dq_3 (by decide +kernel)) (by decide +kernel) rfl
set_option maxRecDepth 100000 in
theorem cd_X1_comesOnce_15 : decode cX1_comesOnce 15 = .ok (zi_rop (some .boolean), 1) := (dq_172 (by decide +kernel))
set_option maxRecDepth 100000 in
theorem cb_X1_comesOnce_16 : ci_ok yX1_comesOnce cX1_comesOnce 3 16 (ci_seq (ci_load 2 0 17) 17 (ci_seq (ci_dup 18) 18 (ci_seq (ci_getf 1 9 21) 21 (ci_seq (ci_load 0 2 22) 22 (ci_seq (ci_bin (fun a b => a ||| b) 23) 23 (ci_seq (ci_putf 1 9 .int 26) 26 (ci_push (.int 1) 27))))))) := cq_ok (cr_aload_n (k := 0) (dq_42 (by decide +kernel)) rfl rfl) (cq_ok (cr_dup (dq_89 (by decide +kernel)) rfl) (cq_ok (cr_getf (idx := 46) zc_1 (by decide) zl_34 (dq_180 (a := 0) (b := 46) (by decide +kernel) rfl) rfl) (cq_ok (cr_iload_n (k := 2) (dq_28 (by decide +kernel)) rfl rfl) (cq_ok (cr_ior (dq_128 (by decide +kernel)) rfl) (cq_ok (cr_putf (idx := 46) zc_1 (by decide) (by decide +kernel) rfl zl_34 (dq_181 (a := 0) (b := 46) (by decide +kernel) rfl) rfl) (cr_iconst2 (n := 1) (dq_4 (by decide +kernel)) (by decide +kernel) rfl))))))
set_option maxRecDepth 100000 in
theorem cd_X1_comesOnce_27 : decode cX1_comesOnce 27 = .ok (zi_rop (some .boolean), 1) := (dq_172 (by decide +kernel))
set_option maxRecDepth 100000 in
theorem cb_X1_takePlain_0 : ci_ok yX1_takePlain cX1_takePlain 2 0 (ci_seq (ci_load 2 0 1) 1 (ci_seq (ci_load 2 1 2) 2 (ci_push (.int 1) 3))) := cq_ok (cr_aload_n (k := 0) (dq_42 (by decide +kernel)) rfl rfl) (cq_ok (cr_aload_n (k := 1) (dq_43 (by decide +kernel)) rfl rfl) (cr_iconst2 (n := 1) (dq_4 (by decide +kernel)) (by decide +kernel) rfl))
set_option maxRecDepth 100000 in
theorem cl_X1_takePlain_3 : ci_calls yX1_takePlain cX1_takePlain 2 3 yX1_comesOnce 3 (some 1) := cr_callV (idx := 117) zl_883 ⟨by decide, by decide⟩ hp_X1_comesOnce zc_1 zl_90 zl_91 (Or.inl zl_89) (dq_182 (a := 0) (b := 117) (by decide +kernel) rfl)
set_option maxRecDepth 100000 in
theorem cb_X1_takePlain_6 : ci_ok yX1_takePlain cX1_takePlain 2 6 (ci_if (fun x => decide (x = 0)) 18 9) := cr_if_eq (off := 12) (dq_153 (a := 0) (b := 12) (by decide +kernel) rfl) (by decide) rfl
set_option maxRecDepth 100000 in
theorem cb_X1_takePlain_9 : ci_ok yX1_takePlain cX1_takePlain 2 9 (ci_seq (ci_load 2 1 10) 10 (ci_seq (ci_push (.int 2) 11) 11 (ci_push (.int 5) 12))) := cq_ok (cr_aload_n (k := 1) (dq_43 (by decide +kernel)) rfl rfl) (cq_ok (cr_iconst2 (n := 2) (dq_5 (by decide +kernel)) (by decide +kernel) rfl) (cr_iconst2 (n := 5) (dq_8 (by decide +kernel)) (by decide +kernel) rfl))
set_option maxRecDepth 100000 in
theorem cl_X1_takePlain_12 : ci_calls yX1_takePlain cX1_takePlain 2 12 yX6_nextNumber 3 (some 6) := cr_callV (idx := 121) zl_935 ⟨by decide, by decide⟩ hp_X6_nextNumber zc_6 zl_93 zl_94 (Or.inl zl_92) (dq_182 (a := 0) (b := 121) (by decide +kernel) rfl)
set_option maxRecDepth 100000 in
theorem cb_X1_takePlain_15 : ci_ok yX1_takePlain cX1_takePlain 2 15 (ci_if (fun x => !decide (x = 0)) 19 18) := cr_if_ne (off := 4) (dq_154 (a := 0) (b := 4) (by decide +kernel) rfl) (by decide) rfl
set_option maxRecDepth 100000 in
theorem cd_X1_takePlain_18 : decode cX1_takePlain 18 = .ok (zi_rop none, 1) := (dq_177 (by decide +kernel))
set_option maxRecDepth 100000 in
theorem cb_X1_takePlain_19 : ci_ok yX1_takePlain cX1_takePlain 2 19 (ci_seq (ci_load 2 0 20) 20 (ci_seq (ci_load 2 1 21) 21 (ci_seq (ci_getf 6 5 24) 24 (ci_seq (ci_putf 1 4 .int 27) 27 (ci_seq (ci_load 2 1 28) 28 (ci_seq (ci_push (.int 2) 29) 29 (ci_push (.int 5) 30))))))) := cq_ok (cr_aload_n (k := 0) (dq_42 (by decide +kernel)) rfl rfl) (cq_ok (cr_aload_n (k := 1) (dq_43 (by decide +kernel)) rfl rfl) (cq_ok (cr_getf (idx := 125) zc_6 (by decide) zl_95 (dq_180 (a := 0) (b := 125) (by decide +kernel) rfl) rfl) (cq_ok (cr_putf (idx := 30) zc_1 (by decide) (by decide +kernel) rfl zl_39 (dq_181 (a := 0) (b := 30) (by decide +kernel) rfl) rfl) (cq_ok (cr_aload_n (k := 1) (dq_43 (by decide +kernel)) rfl rfl) (cq_ok (cr_iconst2 (n := 2) (dq_5 (by decide +kernel)) (by decide +kernel) rfl) (cr_iconst2 (n := 5) (dq_8 (by decide +kernel)) (by decide +kernel) rfl))))))
set_option maxRecDepth 100000 in
theorem cl_X1_takePlain_30 : ci_calls yX1_takePlain cX1_takePlain 2 30 yX6_nextNumber 3 (some 6) := cr_callV (idx := 121) zl_935 ⟨by decide, by decide⟩ hp_X6_nextNumber zc_6 zl_93 zl_94 (Or.inl zl_92) (dq_182 (a := 0) (b := 121) (by decide +kernel) rfl)
set_option maxRecDepth 100000 in
theorem cb_X1_takePlain_33 : ci_ok yX1_takePlain cX1_takePlain 2 33 (ci_if (fun x => !decide (x = 0)) 37 36) := cr_if_ne (off := 4) (dq_154 (a := 0) (b := 4) (by decide +kernel) rfl) (by decide) rfl
set_option maxRecDepth 100000 in
theorem cd_X1_takePlain_36 : decode cX1_takePlain 36 = .ok (zi_rop none, 1) := (dq_177 (by decide +kernel))
set_option maxRecDepth 100000 in
theorem cb_X1_takePlain_37 : ci_ok yX1_takePlain cX1_takePlain 2 37 (ci_seq (ci_load 2 0 38) 38 (ci_seq (ci_load 2 1 39) 39 (ci_seq (ci_getf 6 5 42) 42 (ci_seq (ci_putf 1 5 .int 45) 45 (ci_load 2 1 46))))) := cq_ok (cr_aload_n (k := 0) (dq_42 (by decide +kernel)) rfl rfl) (cq_ok (cr_aload_n (k := 1) (dq_43 (by decide +kernel)) rfl rfl) (cq_ok (cr_getf (idx := 125) zc_6 (by decide) zl_95 (dq_180 (a := 0) (b := 125) (by decide +kernel) rfl) rfl) (cq_ok (cr_putf (idx := 34) zc_1 (by decide) (by decide +kernel) rfl zl_38 (dq_181 (a := 0) (b := 34) (by decide +kernel) rfl) rfl) (cr_aload_n (k := 1) (dq_43 (by decide +kernel)) rfl rfl))))
set_option maxRecDepth 100000 in
theorem cl_X1_takePlain_46 : ci_calls yX1_takePlain cX1_takePlain 2 46 yX6_nextStop 1 (some 6) := cr_callV (idx := 128) zl_936 ⟨by decide, by decide⟩ hp_X6_nextStop zc_6 zl_97 zl_98 (Or.inl zl_96) (dq_182 (a := 0) (b := 128) (by decide +kernel) rfl)
set_option maxRecDepth 100000 in
theorem cd_X1_takePlain_49 : decode cX1_takePlain 49 = .ok (zi_rop none, 1) := (dq_177 (by decide +kernel))
set_option maxRecDepth 100000 in
theorem cb_X1_takeRow_0 : ci_ok yX1_takeRow cX1_takeRow 4 0 (ci_seq (ci_load 2 1 1) 1 (ci_seq (ci_push (.int 0) 2) 2 (ci_push (.int 4) 3))) := cq_ok (cr_aload_n (k := 1) (dq_43 (by decide +kernel)) rfl rfl) (cq_ok (cr_iconst2 (n := 0) (dq_3 (by decide +kernel)) (by decide +kernel) rfl) (cr_iconst2 (n := 4) (dq_7 (by decide +kernel)) (by decide +kernel) rfl))
set_option maxRecDepth 100000 in
theorem cl_X1_takeRow_3 : ci_calls yX1_takeRow cX1_takeRow 4 3 yX6_nextNumber 3 (some 6) := cr_callV (idx := 121) zl_935 ⟨by decide, by decide⟩ hp_X6_nextNumber zc_6 zl_93 zl_94 (Or.inl zl_92) (dq_182 (a := 0) (b := 121) (by decide +kernel) rfl)
set_option maxRecDepth 100000 in
theorem cb_X1_takeRow_6 : ci_ok yX1_takeRow cX1_takeRow 4 6 (ci_if (fun x => !decide (x = 0)) 10 9) := cr_if_ne (off := 4) (dq_154 (a := 0) (b := 4) (by decide +kernel) rfl) (by decide) rfl
set_option maxRecDepth 100000 in
theorem cd_X1_takeRow_9 : decode cX1_takeRow 9 = .ok (zi_rop none, 1) := (dq_177 (by decide +kernel))
set_option maxRecDepth 100000 in
theorem cb_X1_takeRow_10 : ci_ok yX1_takeRow cX1_takeRow 4 10 (ci_seq (ci_load 2 1 11) 11 (ci_seq (ci_getf 6 5 14) 14 (ci_seq (ci_store 0 2 15) 15 (ci_seq (ci_load 2 0 16) 16 (ci_seq (ci_getf 1 1 19) 19 (ci_seq (ci_load 0 2 20) 20 (ci_seq (ci_ald .int 21) 21 (ci_if (fun x => decide (x = 0)) 30 24)))))))) := cq_ok (cr_aload_n (k := 1) (dq_43 (by decide +kernel)) rfl rfl) (cq_ok (cr_getf (idx := 125) zc_6 (by decide) zl_95 (dq_180 (a := 0) (b := 125) (by decide +kernel) rfl) rfl) (cq_ok (cr_istore_n (k := 2) (dq_61 (by decide +kernel)) rfl (by decide) rfl) (cq_ok (cr_aload_n (k := 0) (dq_42 (by decide +kernel)) rfl rfl) (cq_ok (cr_getf (idx := 15) zc_1 (by decide) zl_31 (dq_180 (a := 0) (b := 15) (by decide +kernel) rfl) rfl) (cq_ok (cr_iload_n (k := 2) (dq_28 (by decide +kernel)) rfl rfl) (cq_ok (cr_ald (ins := .iaload) rfl (dq_46 (by decide +kernel)) (Or.inl ⟨rfl, rfl⟩)) (cr_if_eq (off := 9) (dq_153 (a := 0) (b := 9) (by decide +kernel) rfl) (by decide) rfl)))))))
set_option maxRecDepth 100000 in
theorem cb_X1_takeRow_24 : ci_ok yX1_takeRow cX1_takeRow 4 24 (ci_seq (ci_load 2 1 25) 25 (ci_push (.int 4) 26)) := cq_ok (cr_aload_n (k := 1) (dq_43 (by decide +kernel)) rfl rfl) (cr_iconst2 (n := 4) (dq_7 (by decide +kernel)) (by decide +kernel) rfl)
set_option maxRecDepth 100000 in
theorem cl_X1_takeRow_26 : ci_calls yX1_takeRow cX1_takeRow 4 26 yX6_fail 2 (some 6) := cr_callV (idx := 114) zl_928 ⟨by decide, by decide⟩ hp_X6_fail zc_6 zl_87 zl_88 (Or.inl zl_86) (dq_182 (a := 0) (b := 114) (by decide +kernel) rfl)
set_option maxRecDepth 100000 in
theorem cd_X1_takeRow_29 : decode cX1_takeRow 29 = .ok (zi_rop none, 1) := (dq_177 (by decide +kernel))
set_option maxRecDepth 100000 in
theorem cb_X1_takeRow_30 : ci_ok yX1_takeRow cX1_takeRow 4 30 (ci_seq (ci_push (.int 0) 31) 31 (ci_store 0 3 32)) := cq_ok (cr_iconst2 (n := 0) (dq_3 (by decide +kernel)) (by decide +kernel) rfl) (cr_istore_n (k := 3) (dq_62 (by decide +kernel)) rfl (by decide) rfl)
set_option maxRecDepth 100000 in
theorem cb_X1_takeRow_32 : ci_ok yX1_takeRow cX1_takeRow 4 32 (ci_seq (ci_load 0 3 33) 33 (ci_seq (ci_push (.int 5) 34) 34 (ci_ic (fun x y => decide (y < x)) 112 37))) := cq_ok (cr_iload_n (k := 3) (dq_29 (by decide +kernel)) rfl rfl) (cq_ok (cr_iconst2 (n := 5) (dq_8 (by decide +kernel)) (by decide +kernel) rfl) (cr_ic_gt (off := 78) (dq_163 (a := 0) (b := 78) (by decide +kernel) rfl) (by decide) rfl))
set_option maxRecDepth 100000 in
theorem cb_X1_takeRow_37 : ci_ok yX1_takeRow cX1_takeRow 4 37 (ci_load 2 1 38) := cr_aload_n (k := 1) (dq_43 (by decide +kernel)) rfl rfl
set_option maxRecDepth 100000 in
theorem cl_X1_takeRow_38 : ci_calls yX1_takeRow cX1_takeRow 4 38 yX6_next 1 (some 6) := cr_callV (idx := 57) zl_930 ⟨by decide, by decide⟩ hp_X6_next zc_6 zl_50 zl_51 (Or.inl zl_49) (dq_182 (a := 0) (b := 57) (by decide +kernel) rfl)
set_option maxRecDepth 100000 in
theorem cb_X1_takeRow_41 : ci_ok yX1_takeRow cX1_takeRow 4 41 (ci_seq (ci_load 0 3 42) 42 (ci_if (fun x => decide (x ≤ 0)) 61 45)) := cq_ok (cr_iload_n (k := 3) (dq_29 (by decide +kernel)) rfl rfl) (cr_if_le (off := 19) (dq_158 (a := 0) (b := 19) (by decide +kernel) rfl) (by decide) rfl)
set_option maxRecDepth 100000 in
theorem cb_X1_takeRow_45 : ci_ok yX1_takeRow cX1_takeRow 4 45 (ci_seq (ci_load 2 1 46) 46 (ci_seq (ci_getf 6 6 49) 49 (ci_if (fun x => !decide (x = 0)) 61 52))) := cq_ok (cr_aload_n (k := 1) (dq_43 (by decide +kernel)) rfl rfl) (cq_ok (cr_getf (idx := 60) zc_6 (by decide) zl_48 (dq_180 (a := 0) (b := 60) (by decide +kernel) rfl) rfl) (cr_if_ne (off := 12) (dq_154 (a := 0) (b := 12) (by decide +kernel) rfl) (by decide) rfl))
set_option maxRecDepth 100000 in
theorem cb_X1_takeRow_52 : ci_ok yX1_takeRow cX1_takeRow 4 52 (ci_seq (ci_load 2 1 53) 53 (ci_seq (ci_getf 6 3 56) 56 (ci_seq (ci_push (.int 3) 57) 57 (ci_ic (fun x y => !decide (x = y)) 61 60)))) := cq_ok (cr_aload_n (k := 1) (dq_43 (by decide +kernel)) rfl rfl) (cq_ok (cr_getf (idx := 63) zc_6 (by decide) zl_52 (dq_180 (a := 0) (b := 63) (by decide +kernel) rfl) rfl) (cq_ok (cr_iconst2 (n := 3) (dq_6 (by decide +kernel)) (by decide +kernel) rfl) (cr_ic_ne (off := 4) (dq_160 (a := 0) (b := 4) (by decide +kernel) rfl) (by decide) rfl)))
set_option maxRecDepth 100000 in
theorem cd_X1_takeRow_60 : decode cX1_takeRow 60 = .ok (zi_rop none, 1) := (dq_177 (by decide +kernel))
set_option maxRecDepth 100000 in
theorem cb_X1_takeRow_61 : ci_ok yX1_takeRow cX1_takeRow 4 61 (ci_seq (ci_load 2 1 62) 62 (ci_seq (ci_push (.int 0) 63) 63 (ci_push (.int 9) 65))) := cq_ok (cr_aload_n (k := 1) (dq_43 (by decide +kernel)) rfl rfl) (cq_ok (cr_iconst2 (n := 0) (dq_3 (by decide +kernel)) (by decide +kernel) rfl) (cr_bipush (n := 9) (dq_16 (a := 9) (by decide +kernel) rfl) (by decide +kernel) rfl))
set_option maxRecDepth 100000 in
theorem cl_X1_takeRow_65 : ci_calls yX1_takeRow cX1_takeRow 4 65 yX6_isNumber 3 (some 6) := cr_callV (idx := 131) zl_934 ⟨by decide, by decide⟩ hp_X6_isNumber zc_6 zl_100 zl_101 (Or.inl zl_99) (dq_182 (a := 0) (b := 131) (by decide +kernel) rfl)
set_option maxRecDepth 100000 in
theorem cb_X1_takeRow_68 : ci_ok yX1_takeRow cX1_takeRow 4 68 (ci_if (fun x => !decide (x = 0)) 72 71) := cr_if_ne (off := 4) (dq_154 (a := 0) (b := 4) (by decide +kernel) rfl) (by decide) rfl
set_option maxRecDepth 100000 in
theorem cd_X1_takeRow_71 : decode cX1_takeRow 71 = .ok (zi_rop none, 1) := (dq_177 (by decide +kernel))
set_option maxRecDepth 100000 in
theorem cb_X1_takeRow_72 : ci_ok yX1_takeRow cX1_takeRow 4 72 (ci_seq (ci_load 0 3 73) 73 (ci_seq (ci_push (.int 5) 74) 74 (ci_ic (fun x y => decide (x < y)) 83 77))) := cq_ok (cr_iload_n (k := 3) (dq_29 (by decide +kernel)) rfl rfl) (cq_ok (cr_iconst2 (n := 5) (dq_8 (by decide +kernel)) (by decide +kernel) rfl) (cr_ic_lt (off := 9) (dq_161 (a := 0) (b := 9) (by decide +kernel) rfl) (by decide) rfl))
set_option maxRecDepth 100000 in
theorem cb_X1_takeRow_77 : ci_ok yX1_takeRow cX1_takeRow 4 77 (ci_seq (ci_load 2 1 78) 78 (ci_push (.int 5) 79)) := cq_ok (cr_aload_n (k := 1) (dq_43 (by decide +kernel)) rfl rfl) (cr_iconst2 (n := 5) (dq_8 (by decide +kernel)) (by decide +kernel) rfl)
set_option maxRecDepth 100000 in
theorem cl_X1_takeRow_79 : ci_calls yX1_takeRow cX1_takeRow 4 79 yX6_fail 2 (some 6) := cr_callV (idx := 114) zl_928 ⟨by decide, by decide⟩ hp_X6_fail zc_6 zl_87 zl_88 (Or.inl zl_86) (dq_182 (a := 0) (b := 114) (by decide +kernel) rfl)
set_option maxRecDepth 100000 in
theorem cd_X1_takeRow_82 : decode cX1_takeRow 82 = .ok (zi_rop none, 1) := (dq_177 (by decide +kernel))
set_option maxRecDepth 100000 in
theorem cb_X1_takeRow_83 : ci_ok yX1_takeRow cX1_takeRow 4 83 (ci_seq (ci_load 2 0 84) 84 (ci_seq (ci_getf 1 0 87) 87 (ci_seq (ci_load 0 2 88) 88 (ci_seq (ci_push (.int 5) 89) 89 (ci_seq (ci_bin (fun a b => a * b) 90) 90 (ci_seq (ci_load 0 3 91) 91 (ci_seq (ci_bin (fun a b => a + b) 92) 92 (ci_seq (ci_load 2 1 93) 93 (ci_seq (ci_getf 6 5 96) 96 (ci_seq (ci_ast .int 97) 97 (ci_seq (ci_load 2 0 98) 98 (ci_seq (ci_getf 1 1 101) 101 (ci_seq (ci_load 0 2 102) 102 (ci_seq (ci_load 0 3 103) 103 (ci_seq (ci_push (.int 1) 104) 104 (ci_seq (ci_bin (fun a b => a + b) 105) 105 (ci_seq (ci_ast .int 106) 106 (ci_seq (ci_inc 3 1 109) 109 (ci_go 32))))))))))))))))))) := cq_ok (cr_aload_n (k := 0) (dq_42 (by decide +kernel)) rfl rfl) (cq_ok (cr_getf (idx := 9) zc_1 (by decide) zl_32 (dq_180 (a := 0) (b := 9) (by decide +kernel) rfl) rfl) (cq_ok (cr_iload_n (k := 2) (dq_28 (by decide +kernel)) rfl rfl) (cq_ok (cr_iconst2 (n := 5) (dq_8 (by decide +kernel)) (by decide +kernel) rfl) (cq_ok (cr_imul (dq_104 (by decide +kernel)) rfl) (cq_ok (cr_iload_n (k := 3) (dq_29 (by decide +kernel)) rfl rfl) (cq_ok (cr_iadd (dq_96 (by decide +kernel)) rfl) (cq_ok (cr_aload_n (k := 1) (dq_43 (by decide +kernel)) rfl rfl) (cq_ok (cr_getf (idx := 125) zc_6 (by decide) zl_95 (dq_180 (a := 0) (b := 125) (by decide +kernel) rfl) rfl) (cq_ok (cr_ast (ins := .iastore) rfl (dq_79 (by decide +kernel)) (Or.inl ⟨rfl, rfl⟩)) (cq_ok (cr_aload_n (k := 0) (dq_42 (by decide +kernel)) rfl rfl) (cq_ok (cr_getf (idx := 15) zc_1 (by decide) zl_31 (dq_180 (a := 0) (b := 15) (by decide +kernel) rfl) rfl) (cq_ok (cr_iload_n (k := 2) (dq_28 (by decide +kernel)) rfl rfl) (cq_ok (cr_iload_n (k := 3) (dq_29 (by decide +kernel)) rfl rfl) (cq_ok (cr_iconst2 (n := 1) (dq_4 (by decide +kernel)) (by decide +kernel) rfl) (cq_ok (cr_iadd (dq_96 (by decide +kernel)) rfl) (cq_ok (cr_ast (ins := .iastore) rfl (dq_79 (by decide +kernel)) (Or.inl ⟨rfl, rfl⟩)) (cq_ok (ci_inc_ok (by decide) (dq_132 (a := 3) (b := 1) (by decide +kernel) rfl) rfl) (cr_goto (off := -77) (dq_167 (a := 255) (b := 179) (by decide +kernel) rfl) (by decide)))))))))))))))))))
set_option maxRecDepth 100000 in
theorem cd_X1_takeRow_112 : decode cX1_takeRow 112 = .ok (zi_rop none, 1) := (dq_177 (by decide +kernel))
set_option maxRecDepth 100000 in
theorem cb_X1_takeSpring_0 : ci_ok yX1_takeSpring cX1_takeSpring 2 0 (ci_seq (ci_load 2 0 1) 1 (ci_seq (ci_load 2 1 2) 2 (ci_push (.int 2) 3))) := cq_ok (cr_aload_n (k := 0) (dq_42 (by decide +kernel)) rfl rfl) (cq_ok (cr_aload_n (k := 1) (dq_43 (by decide +kernel)) rfl rfl) (cr_iconst2 (n := 2) (dq_5 (by decide +kernel)) (by decide +kernel) rfl))
set_option maxRecDepth 100000 in
theorem cl_X1_takeSpring_3 : ci_calls yX1_takeSpring cX1_takeSpring 2 3 yX1_comesOnce 3 (some 1) := cr_callV (idx := 117) zl_883 ⟨by decide, by decide⟩ hp_X1_comesOnce zc_1 zl_90 zl_91 (Or.inl zl_89) (dq_182 (a := 0) (b := 117) (by decide +kernel) rfl)
set_option maxRecDepth 100000 in
theorem cb_X1_takeSpring_6 : ci_ok yX1_takeSpring cX1_takeSpring 2 6 (ci_if (fun x => decide (x = 0)) 31 9) := cr_if_eq (off := 25) (dq_153 (a := 0) (b := 25) (by decide +kernel) rfl) (by decide) rfl
set_option maxRecDepth 100000 in
theorem cb_X1_takeSpring_9 : ci_ok yX1_takeSpring cX1_takeSpring 2 9 (ci_seq (ci_load 2 1 10) 10 (ci_seq (ci_push (.int 0) 11) 11 (ci_push (.int 24) 13))) := cq_ok (cr_aload_n (k := 1) (dq_43 (by decide +kernel)) rfl rfl) (cq_ok (cr_iconst2 (n := 0) (dq_3 (by decide +kernel)) (by decide +kernel) rfl) (cr_bipush (n := 24) (dq_16 (a := 24) (by decide +kernel) rfl) (by decide +kernel) rfl))
set_option maxRecDepth 100000 in
theorem cl_X1_takeSpring_13 : ci_calls yX1_takeSpring cX1_takeSpring 2 13 yX6_nextNumber 3 (some 6) := cr_callV (idx := 121) zl_935 ⟨by decide, by decide⟩ hp_X6_nextNumber zc_6 zl_93 zl_94 (Or.inl zl_92) (dq_182 (a := 0) (b := 121) (by decide +kernel) rfl)
set_option maxRecDepth 100000 in
theorem cb_X1_takeSpring_16 : ci_ok yX1_takeSpring cX1_takeSpring 2 16 (ci_if (fun x => decide (x = 0)) 31 19) := cr_if_eq (off := 15) (dq_153 (a := 0) (b := 15) (by decide +kernel) rfl) (by decide) rfl
set_option maxRecDepth 100000 in
theorem cb_X1_takeSpring_19 : ci_ok yX1_takeSpring cX1_takeSpring 2 19 (ci_seq (ci_load 2 0 20) 20 (ci_seq (ci_load 2 1 21) 21 (ci_seq (ci_getf 6 5 24) 24 (ci_seq (ci_putf 1 6 .int 27) 27 (ci_load 2 1 28))))) := cq_ok (cr_aload_n (k := 0) (dq_42 (by decide +kernel)) rfl rfl) (cq_ok (cr_aload_n (k := 1) (dq_43 (by decide +kernel)) rfl rfl) (cq_ok (cr_getf (idx := 125) zc_6 (by decide) zl_95 (dq_180 (a := 0) (b := 125) (by decide +kernel) rfl) rfl) (cq_ok (cr_putf (idx := 37) zc_1 (by decide) (by decide +kernel) rfl zl_37 (dq_181 (a := 0) (b := 37) (by decide +kernel) rfl) rfl) (cr_aload_n (k := 1) (dq_43 (by decide +kernel)) rfl rfl))))
set_option maxRecDepth 100000 in
theorem cl_X1_takeSpring_28 : ci_calls yX1_takeSpring cX1_takeSpring 2 28 yX6_nextStop 1 (some 6) := cr_callV (idx := 128) zl_936 ⟨by decide, by decide⟩ hp_X6_nextStop zc_6 zl_97 zl_98 (Or.inl zl_96) (dq_182 (a := 0) (b := 128) (by decide +kernel) rfl)
set_option maxRecDepth 100000 in
theorem cd_X1_takeSpring_31 : decode cX1_takeSpring 31 = .ok (zi_rop none, 1) := (dq_177 (by decide +kernel))
set_option maxRecDepth 100000 in
theorem cb_X1_takeFarm_0 : ci_ok yX1_takeFarm cX1_takeFarm 2 0 (ci_seq (ci_load 2 0 1) 1 (ci_seq (ci_getf 1 8 4) 4 (ci_seq (ci_push (.int 3) 5) 5 (ci_ic (fun x y => decide (x < y)) 16 8)))) := cq_ok (cr_aload_n (k := 0) (dq_42 (by decide +kernel)) rfl rfl) (cq_ok (cr_getf (idx := 43) zc_1 (by decide) zl_35 (dq_180 (a := 0) (b := 43) (by decide +kernel) rfl) rfl) (cq_ok (cr_iconst2 (n := 3) (dq_6 (by decide +kernel)) (by decide +kernel) rfl) (cr_ic_lt (off := 11) (dq_161 (a := 0) (b := 11) (by decide +kernel) rfl) (by decide) rfl)))
set_option maxRecDepth 100000 in
theorem cb_X1_takeFarm_8 : ci_ok yX1_takeFarm cX1_takeFarm 2 8 (ci_seq (ci_load 2 1 9) 9 (ci_push (.int 5) 10)) := cq_ok (cr_aload_n (k := 1) (dq_43 (by decide +kernel)) rfl rfl) (cr_iconst2 (n := 5) (dq_8 (by decide +kernel)) (by decide +kernel) rfl)
set_option maxRecDepth 100000 in
theorem cl_X1_takeFarm_10 : ci_calls yX1_takeFarm cX1_takeFarm 2 10 yX6_fail 2 (some 6) := cr_callV (idx := 114) zl_928 ⟨by decide, by decide⟩ hp_X6_fail zc_6 zl_87 zl_88 (Or.inl zl_86) (dq_182 (a := 0) (b := 114) (by decide +kernel) rfl)
set_option maxRecDepth 100000 in
theorem cb_X1_takeFarm_13 : ci_ok yX1_takeFarm cX1_takeFarm 2 13 (ci_go 53) := cr_goto (off := 40) (dq_167 (a := 0) (b := 40) (by decide +kernel) rfl) (by decide)
set_option maxRecDepth 100000 in
theorem cb_X1_takeFarm_16 : ci_ok yX1_takeFarm cX1_takeFarm 2 16 (ci_seq (ci_load 2 1 17) 17 (ci_seq (ci_push (.int 1) 18) 18 (ci_push (.int 9) 20))) := cq_ok (cr_aload_n (k := 1) (dq_43 (by decide +kernel)) rfl rfl) (cq_ok (cr_iconst2 (n := 1) (dq_4 (by decide +kernel)) (by decide +kernel) rfl) (cr_bipush (n := 9) (dq_16 (a := 9) (by decide +kernel) rfl) (by decide +kernel) rfl))
set_option maxRecDepth 100000 in
theorem cl_X1_takeFarm_20 : ci_calls yX1_takeFarm cX1_takeFarm 2 20 yX6_nextNumber 3 (some 6) := cr_callV (idx := 121) zl_935 ⟨by decide, by decide⟩ hp_X6_nextNumber zc_6 zl_93 zl_94 (Or.inl zl_92) (dq_182 (a := 0) (b := 121) (by decide +kernel) rfl)
set_option maxRecDepth 100000 in
theorem cb_X1_takeFarm_23 : ci_ok yX1_takeFarm cX1_takeFarm 2 23 (ci_if (fun x => decide (x = 0)) 53 26) := cr_if_eq (off := 30) (dq_153 (a := 0) (b := 30) (by decide +kernel) rfl) (by decide) rfl
set_option maxRecDepth 100000 in
theorem cb_X1_takeFarm_26 : ci_ok yX1_takeFarm cX1_takeFarm 2 26 (ci_seq (ci_load 2 0 27) 27 (ci_seq (ci_getf 1 3 30) 30 (ci_seq (ci_load 2 0 31) 31 (ci_seq (ci_getf 1 8 34) 34 (ci_seq (ci_load 2 1 35) 35 (ci_seq (ci_getf 6 5 38) 38 (ci_seq (ci_ast .int 39) 39 (ci_seq (ci_load 2 0 40) 40 (ci_seq (ci_dup 41) 41 (ci_seq (ci_getf 1 8 44) 44 (ci_seq (ci_push (.int 1) 45) 45 (ci_seq (ci_bin (fun a b => a + b) 46) 46 (ci_seq (ci_putf 1 8 .int 49) 49 (ci_load 2 1 50)))))))))))))) := cq_ok (cr_aload_n (k := 0) (dq_42 (by decide +kernel)) rfl rfl) (cq_ok (cr_getf (idx := 21) zc_1 (by decide) zl_28 (dq_180 (a := 0) (b := 21) (by decide +kernel) rfl) rfl) (cq_ok (cr_aload_n (k := 0) (dq_42 (by decide +kernel)) rfl rfl) (cq_ok (cr_getf (idx := 43) zc_1 (by decide) zl_35 (dq_180 (a := 0) (b := 43) (by decide +kernel) rfl) rfl) (cq_ok (cr_aload_n (k := 1) (dq_43 (by decide +kernel)) rfl rfl) (cq_ok (cr_getf (idx := 125) zc_6 (by decide) zl_95 (dq_180 (a := 0) (b := 125) (by decide +kernel) rfl) rfl) (cq_ok (cr_ast (ins := .iastore) rfl (dq_79 (by decide +kernel)) (Or.inl ⟨rfl, rfl⟩)) (cq_ok (cr_aload_n (k := 0) (dq_42 (by decide +kernel)) rfl rfl) (cq_ok (cr_dup (dq_89 (by decide +kernel)) rfl) (cq_ok (cr_getf (idx := 43) zc_1 (by decide) zl_35 (dq_180 (a := 0) (b := 43) (by decide +kernel) rfl) rfl) (cq_ok (cr_iconst2 (n := 1) (dq_4 (by decide +kernel)) (by decide +kernel) rfl) (cq_ok (cr_iadd (dq_96 (by decide +kernel)) rfl) (cq_ok (cr_putf (idx := 43) zc_1 (by decide) (by decide +kernel) rfl zl_35 (dq_181 (a := 0) (b := 43) (by decide +kernel) rfl) rfl) (cr_aload_n (k := 1) (dq_43 (by decide +kernel)) rfl rfl)))))))))))))
set_option maxRecDepth 100000 in
theorem cl_X1_takeFarm_50 : ci_calls yX1_takeFarm cX1_takeFarm 2 50 yX6_nextStop 1 (some 6) := cr_callV (idx := 128) zl_936 ⟨by decide, by decide⟩ hp_X6_nextStop zc_6 zl_97 zl_98 (Or.inl zl_96) (dq_182 (a := 0) (b := 128) (by decide +kernel) rfl)
set_option maxRecDepth 100000 in
theorem cd_X1_takeFarm_53 : decode cX1_takeFarm 53 = .ok (zi_rop none, 1) := (dq_177 (by decide +kernel))
set_option maxRecDepth 100000 in
theorem cb_X1_takeGround_0 : ci_ok yX1_takeGround cX1_takeGround 4 0 (ci_seq (ci_load 2 1 1) 1 (ci_seq (ci_push (.int 0) 2) 2 (ci_push (.int 2) 3))) := cq_ok (cr_aload_n (k := 1) (dq_43 (by decide +kernel)) rfl rfl) (cq_ok (cr_iconst2 (n := 0) (dq_3 (by decide +kernel)) (by decide +kernel) rfl) (cr_iconst2 (n := 2) (dq_5 (by decide +kernel)) (by decide +kernel) rfl))
set_option maxRecDepth 100000 in
theorem cl_X1_takeGround_3 : ci_calls yX1_takeGround cX1_takeGround 4 3 yX6_nextNumber 3 (some 6) := cr_callV (idx := 121) zl_935 ⟨by decide, by decide⟩ hp_X6_nextNumber zc_6 zl_93 zl_94 (Or.inl zl_92) (dq_182 (a := 0) (b := 121) (by decide +kernel) rfl)
set_option maxRecDepth 100000 in
theorem cb_X1_takeGround_6 : ci_ok yX1_takeGround cX1_takeGround 4 6 (ci_if (fun x => !decide (x = 0)) 10 9) := cr_if_ne (off := 4) (dq_154 (a := 0) (b := 4) (by decide +kernel) rfl) (by decide) rfl
set_option maxRecDepth 100000 in
theorem cd_X1_takeGround_9 : decode cX1_takeGround 9 = .ok (zi_rop none, 1) := (dq_177 (by decide +kernel))
set_option maxRecDepth 100000 in
theorem cb_X1_takeGround_10 : ci_ok yX1_takeGround cX1_takeGround 4 10 (ci_seq (ci_load 2 1 11) 11 (ci_seq (ci_getf 6 5 14) 14 (ci_seq (ci_store 0 2 15) 15 (ci_seq (ci_push (.int 0) 16) 16 (ci_store 0 3 17))))) := cq_ok (cr_aload_n (k := 1) (dq_43 (by decide +kernel)) rfl rfl) (cq_ok (cr_getf (idx := 125) zc_6 (by decide) zl_95 (dq_180 (a := 0) (b := 125) (by decide +kernel) rfl) rfl) (cq_ok (cr_istore_n (k := 2) (dq_61 (by decide +kernel)) rfl (by decide) rfl) (cq_ok (cr_iconst2 (n := 0) (dq_3 (by decide +kernel)) (by decide +kernel) rfl) (cr_istore_n (k := 3) (dq_62 (by decide +kernel)) rfl (by decide) rfl))))
set_option maxRecDepth 100000 in
theorem cb_X1_takeGround_17 : ci_ok yX1_takeGround cX1_takeGround 4 17 (ci_seq (ci_load 0 3 18) 18 (ci_seq (ci_push (.int 8) 20) 20 (ci_ic (fun x y => decide (y < x)) 135 23))) := cq_ok (cr_iload_n (k := 3) (dq_29 (by decide +kernel)) rfl rfl) (cq_ok (cr_bipush (n := 8) (dq_16 (a := 8) (by decide +kernel) rfl) (by decide +kernel) rfl) (cr_ic_gt (off := 115) (dq_163 (a := 0) (b := 115) (by decide +kernel) rfl) (by decide) rfl))
set_option maxRecDepth 100000 in
theorem cb_X1_takeGround_23 : ci_ok yX1_takeGround cX1_takeGround 4 23 (ci_load 2 1 24) := cr_aload_n (k := 1) (dq_43 (by decide +kernel)) rfl rfl
set_option maxRecDepth 100000 in
theorem cl_X1_takeGround_24 : ci_calls yX1_takeGround cX1_takeGround 4 24 yX6_next 1 (some 6) := cr_callV (idx := 57) zl_930 ⟨by decide, by decide⟩ hp_X6_next zc_6 zl_50 zl_51 (Or.inl zl_49) (dq_182 (a := 0) (b := 57) (by decide +kernel) rfl)
set_option maxRecDepth 100000 in
theorem cb_X1_takeGround_27 : ci_ok yX1_takeGround cX1_takeGround 4 27 (ci_seq (ci_load 0 3 28) 28 (ci_if (fun x => decide (x ≤ 0)) 47 31)) := cq_ok (cr_iload_n (k := 3) (dq_29 (by decide +kernel)) rfl rfl) (cr_if_le (off := 19) (dq_158 (a := 0) (b := 19) (by decide +kernel) rfl) (by decide) rfl)
set_option maxRecDepth 100000 in
theorem cb_X1_takeGround_31 : ci_ok yX1_takeGround cX1_takeGround 4 31 (ci_seq (ci_load 2 1 32) 32 (ci_seq (ci_getf 6 6 35) 35 (ci_if (fun x => !decide (x = 0)) 47 38))) := cq_ok (cr_aload_n (k := 1) (dq_43 (by decide +kernel)) rfl rfl) (cq_ok (cr_getf (idx := 60) zc_6 (by decide) zl_48 (dq_180 (a := 0) (b := 60) (by decide +kernel) rfl) rfl) (cr_if_ne (off := 12) (dq_154 (a := 0) (b := 12) (by decide +kernel) rfl) (by decide) rfl))
set_option maxRecDepth 100000 in
theorem cb_X1_takeGround_38 : ci_ok yX1_takeGround cX1_takeGround 4 38 (ci_seq (ci_load 2 1 39) 39 (ci_seq (ci_getf 6 3 42) 42 (ci_seq (ci_push (.int 3) 43) 43 (ci_ic (fun x y => !decide (x = y)) 47 46)))) := cq_ok (cr_aload_n (k := 1) (dq_43 (by decide +kernel)) rfl rfl) (cq_ok (cr_getf (idx := 63) zc_6 (by decide) zl_52 (dq_180 (a := 0) (b := 63) (by decide +kernel) rfl) rfl) (cq_ok (cr_iconst2 (n := 3) (dq_6 (by decide +kernel)) (by decide +kernel) rfl) (cr_ic_ne (off := 4) (dq_160 (a := 0) (b := 4) (by decide +kernel) rfl) (by decide) rfl)))
set_option maxRecDepth 100000 in
theorem cd_X1_takeGround_46 : decode cX1_takeGround 46 = .ok (zi_rop none, 1) := (dq_177 (by decide +kernel))
set_option maxRecDepth 100000 in
theorem cb_X1_takeGround_47 : ci_ok yX1_takeGround cX1_takeGround 4 47 (ci_seq (ci_load 2 1 48) 48 (ci_seq (ci_push (.int 0) 49) 49 (ci_push (.int 24) 51))) := cq_ok (cr_aload_n (k := 1) (dq_43 (by decide +kernel)) rfl rfl) (cq_ok (cr_iconst2 (n := 0) (dq_3 (by decide +kernel)) (by decide +kernel) rfl) (cr_bipush (n := 24) (dq_16 (a := 24) (by decide +kernel) rfl) (by decide +kernel) rfl))
set_option maxRecDepth 100000 in
theorem cl_X1_takeGround_51 : ci_calls yX1_takeGround cX1_takeGround 4 51 yX6_isNumber 3 (some 6) := cr_callV (idx := 131) zl_934 ⟨by decide, by decide⟩ hp_X6_isNumber zc_6 zl_100 zl_101 (Or.inl zl_99) (dq_182 (a := 0) (b := 131) (by decide +kernel) rfl)
set_option maxRecDepth 100000 in
theorem cb_X1_takeGround_54 : ci_ok yX1_takeGround cX1_takeGround 4 54 (ci_if (fun x => !decide (x = 0)) 58 57) := cr_if_ne (off := 4) (dq_154 (a := 0) (b := 4) (by decide +kernel) rfl) (by decide) rfl
set_option maxRecDepth 100000 in
theorem cd_X1_takeGround_57 : decode cX1_takeGround 57 = .ok (zi_rop none, 1) := (dq_177 (by decide +kernel))
set_option maxRecDepth 100000 in
theorem cb_X1_takeGround_58 : ci_ok yX1_takeGround cX1_takeGround 4 58 (ci_seq (ci_load 2 0 59) 59 (ci_seq (ci_getf 1 2 62) 62 (ci_seq (ci_push (.int 0) 63) 63 (ci_seq (ci_ald .int 64) 64 (ci_seq (ci_load 2 0 65) 65 (ci_seq (ci_getf 1 2 68) 68 (ci_seq (ci_push (.int 1) 69) 69 (ci_seq (ci_ald .int 70) 70 (ci_seq (ci_bin (fun a b => a ||| b) 71) 71 (ci_seq (ci_load 2 0 72) 72 (ci_seq (ci_getf 1 2 75) 75 (ci_seq (ci_push (.int 2) 76) 76 (ci_seq (ci_ald .int 77) 77 (ci_seq (ci_bin (fun a b => a ||| b) 78) 78 (ci_seq (ci_load 2 1 79) 79 (ci_getf 6 5 82)))))))))))))))) := cq_ok (cr_aload_n (k := 0) (dq_42 (by decide +kernel)) rfl rfl) (cq_ok (cr_getf (idx := 18) zc_1 (by decide) zl_30 (dq_180 (a := 0) (b := 18) (by decide +kernel) rfl) rfl) (cq_ok (cr_iconst2 (n := 0) (dq_3 (by decide +kernel)) (by decide +kernel) rfl) (cq_ok (cr_ald (ins := .iaload) rfl (dq_46 (by decide +kernel)) (Or.inl ⟨rfl, rfl⟩)) (cq_ok (cr_aload_n (k := 0) (dq_42 (by decide +kernel)) rfl rfl) (cq_ok (cr_getf (idx := 18) zc_1 (by decide) zl_30 (dq_180 (a := 0) (b := 18) (by decide +kernel) rfl) rfl) (cq_ok (cr_iconst2 (n := 1) (dq_4 (by decide +kernel)) (by decide +kernel) rfl) (cq_ok (cr_ald (ins := .iaload) rfl (dq_46 (by decide +kernel)) (Or.inl ⟨rfl, rfl⟩)) (cq_ok (cr_ior (dq_128 (by decide +kernel)) rfl) (cq_ok (cr_aload_n (k := 0) (dq_42 (by decide +kernel)) rfl rfl) (cq_ok (cr_getf (idx := 18) zc_1 (by decide) zl_30 (dq_180 (a := 0) (b := 18) (by decide +kernel) rfl) rfl) (cq_ok (cr_iconst2 (n := 2) (dq_5 (by decide +kernel)) (by decide +kernel) rfl) (cq_ok (cr_ald (ins := .iaload) rfl (dq_46 (by decide +kernel)) (Or.inl ⟨rfl, rfl⟩)) (cq_ok (cr_ior (dq_128 (by decide +kernel)) rfl) (cq_ok (cr_aload_n (k := 1) (dq_43 (by decide +kernel)) rfl rfl) (cr_getf (idx := 125) zc_6 (by decide) zl_95 (dq_180 (a := 0) (b := 125) (by decide +kernel) rfl) rfl)))))))))))))))
set_option maxRecDepth 100000 in
theorem cl_X1_takeGround_82 : ci_calls yX1_takeGround cX1_takeGround 4 82 yX8_has 2 none := cr_callS (idx := 134) zl_965 zl_659 ⟨by decide, by decide⟩ hp_X8_has zl_17 (Or.inr ⟨_, zl_102⟩) (dq_184 (a := 0) (b := 134) (by decide +kernel) rfl)
set_option maxRecDepth 100000 in
theorem cb_X1_takeGround_85 : ci_ok yX1_takeGround cX1_takeGround 4 85 (ci_if (fun x => decide (x = 0)) 94 88) := cr_if_eq (off := 9) (dq_153 (a := 0) (b := 9) (by decide +kernel) rfl) (by decide) rfl
set_option maxRecDepth 100000 in
theorem cb_X1_takeGround_88 : ci_ok yX1_takeGround cX1_takeGround 4 88 (ci_seq (ci_load 2 1 89) 89 (ci_push (.int 4) 90)) := cq_ok (cr_aload_n (k := 1) (dq_43 (by decide +kernel)) rfl rfl) (cr_iconst2 (n := 4) (dq_7 (by decide +kernel)) (by decide +kernel) rfl)
set_option maxRecDepth 100000 in
theorem cl_X1_takeGround_90 : ci_calls yX1_takeGround cX1_takeGround 4 90 yX6_fail 2 (some 6) := cr_callV (idx := 114) zl_928 ⟨by decide, by decide⟩ hp_X6_fail zc_6 zl_87 zl_88 (Or.inl zl_86) (dq_182 (a := 0) (b := 114) (by decide +kernel) rfl)
set_option maxRecDepth 100000 in
theorem cd_X1_takeGround_93 : decode cX1_takeGround 93 = .ok (zi_rop none, 1) := (dq_177 (by decide +kernel))
set_option maxRecDepth 100000 in
theorem cb_X1_takeGround_94 : ci_ok yX1_takeGround cX1_takeGround 4 94 (ci_seq (ci_load 2 0 95) 95 (ci_seq (ci_getf 1 2 98) 98 (ci_seq (ci_load 0 2 99) 99 (ci_ald .int 100)))) := cq_ok (cr_aload_n (k := 0) (dq_42 (by decide +kernel)) rfl rfl) (cq_ok (cr_getf (idx := 18) zc_1 (by decide) zl_30 (dq_180 (a := 0) (b := 18) (by decide +kernel) rfl) rfl) (cq_ok (cr_iload_n (k := 2) (dq_28 (by decide +kernel)) rfl rfl) (cr_ald (ins := .iaload) rfl (dq_46 (by decide +kernel)) (Or.inl ⟨rfl, rfl⟩))))
set_option maxRecDepth 100000 in
theorem cl_X1_takeGround_100 : ci_calls yX1_takeGround cX1_takeGround 4 100 yJ6_bitCount_0f7a4 1 none := cr_callS (idx := 137) zl_1085 zl_1086 ⟨by decide, by decide⟩ hp_J6_bitCount_0f7a4 zl_104 (Or.inl zl_103) (dq_184 (a := 0) (b := 137) (by decide +kernel) rfl)
set_option maxRecDepth 100000 in
theorem cb_X1_takeGround_103 : ci_ok yX1_takeGround cX1_takeGround 4 103 (ci_seq (ci_push (.int 8) 105) 105 (ci_ic (fun x y => decide (x < y)) 114 108)) := cq_ok (cr_bipush (n := 8) (dq_16 (a := 8) (by decide +kernel) rfl) (by decide +kernel) rfl) (cr_ic_lt (off := 9) (dq_161 (a := 0) (b := 9) (by decide +kernel) rfl) (by decide) rfl)
set_option maxRecDepth 100000 in
theorem cb_X1_takeGround_108 : ci_ok yX1_takeGround cX1_takeGround 4 108 (ci_seq (ci_load 2 1 109) 109 (ci_push (.int 5) 110)) := cq_ok (cr_aload_n (k := 1) (dq_43 (by decide +kernel)) rfl rfl) (cr_iconst2 (n := 5) (dq_8 (by decide +kernel)) (by decide +kernel) rfl)
set_option maxRecDepth 100000 in
theorem cl_X1_takeGround_110 : ci_calls yX1_takeGround cX1_takeGround 4 110 yX6_fail 2 (some 6) := cr_callV (idx := 114) zl_928 ⟨by decide, by decide⟩ hp_X6_fail zc_6 zl_87 zl_88 (Or.inl zl_86) (dq_182 (a := 0) (b := 114) (by decide +kernel) rfl)
