set_option maxRecDepth 100000 in
theorem cl_X8_refusal_11 : ci_calls yX8_refusal cX8_refusal 3 11 yX2_refused 2 (some 2) := cr_callV (idx := 189) zl_899 ⟨by decide, by decide⟩ hp_X2_refused zc_2 zl_336 zl_337 (Or.inl zl_335) (dq_182 (a := 0) (b := 189) (by decide +kernel) rfl)
set_option maxRecDepth 100000 in
theorem cb_X8_refusal_14 : ci_ok yX8_refusal cX8_refusal 3 14 (ci_if (fun x => decide (x < 0)) 20 17) := cr_if_lt (off := 6) (dq_155 (a := 0) (b := 6) (by decide +kernel) rfl) (by decide) rfl
set_option maxRecDepth 100000 in
theorem cb_X8_refusal_17 : ci_ok yX8_refusal cX8_refusal 3 17 (ci_push (.int (-2)) 19) := cr_bipush (n := -2) (dq_16 (a := 254) (by decide +kernel) rfl) (by decide +kernel) rfl
set_option maxRecDepth 100000 in
theorem cd_X8_refusal_19 : decode cX8_refusal 19 = .ok (zi_rop (some .int), 1) := (dq_172 (by decide +kernel))
set_option maxRecDepth 100000 in
theorem cb_X8_refusal_20 : ci_ok yX8_refusal cX8_refusal 3 20 (ci_seq (ci_load 0 2 21) 21 (ci_seq (ci_push (.int 999) 24) 24 (ci_ic (fun x y => decide (x < y)) 32 27))) := cq_ok (cr_iload_n (k := 2) (dq_28 (by decide +kernel)) rfl rfl) (cq_ok (cr_sipush (n := 999) (dq_17 (a := 3) (b := 231) (by decide +kernel) rfl) (by decide +kernel) rfl) (cr_ic_lt (off := 8) (dq_161 (a := 0) (b := 8) (by decide +kernel) rfl) (by decide) rfl))
set_option maxRecDepth 100000 in
theorem cb_X8_refusal_27 : ci_ok yX8_refusal cX8_refusal 3 27 (ci_seq (ci_push (.int (-3)) 29) 29 (ci_go 33)) := cq_ok (cr_bipush (n := -3) (dq_16 (a := 253) (by decide +kernel) rfl) (by decide +kernel) rfl) (cr_goto (off := 4) (dq_167 (a := 0) (b := 4) (by decide +kernel) rfl) (by decide))
set_option maxRecDepth 100000 in
theorem cb_X8_refusal_32 : ci_ok yX8_refusal cX8_refusal 3 32 (ci_push (.int 0) 33) := cr_iconst2 (n := 0) (dq_3 (by decide +kernel)) (by decide +kernel) rfl
set_option maxRecDepth 100000 in
theorem cd_X8_refusal_33 : decode cX8_refusal 33 = .ok (zi_rop (some .int), 1) := (dq_172 (by decide +kernel))
set_option maxRecDepth 100000 in
theorem cb_X8_isNumber_0 : ci_ok yX8_isNumber cX8_isNumber 1 0 (ci_seq (ci_load 0 0 1) 1 (ci_if (fun x => decide (x < 0)) 15 4)) := cq_ok (cr_iload_n (k := 0) (dq_26 (by decide +kernel)) rfl rfl) (cr_if_lt (off := 14) (dq_155 (a := 0) (b := 14) (by decide +kernel) rfl) (by decide) rfl)
set_option maxRecDepth 100000 in
theorem cb_X8_isNumber_4 : ci_ok yX8_isNumber cX8_isNumber 1 4 (ci_seq (ci_load 0 0 5) 5 (ci_seq (ci_push (.int 17575) 8) 8 (ci_ic (fun x y => decide (y < x)) 15 11))) := cq_ok (cr_iload_n (k := 0) (dq_26 (by decide +kernel)) rfl rfl) (cq_ok (cr_sipush (n := 17575) (dq_17 (a := 68) (b := 167) (by decide +kernel) rfl) (by decide +kernel) rfl) (cr_ic_gt (off := 7) (dq_163 (a := 0) (b := 7) (by decide +kernel) rfl) (by decide) rfl))
set_option maxRecDepth 100000 in
theorem cb_X8_isNumber_11 : ci_ok yX8_isNumber cX8_isNumber 1 11 (ci_seq (ci_push (.int 1) 12) 12 (ci_go 16)) := cq_ok (cr_iconst2 (n := 1) (dq_4 (by decide +kernel)) (by decide +kernel) rfl) (cr_goto (off := 4) (dq_167 (a := 0) (b := 4) (by decide +kernel) rfl) (by decide))
set_option maxRecDepth 100000 in
theorem cb_X8_isNumber_15 : ci_ok yX8_isNumber cX8_isNumber 1 15 (ci_push (.int 0) 16) := cr_iconst2 (n := 0) (dq_3 (by decide +kernel)) (by decide +kernel) rfl
set_option maxRecDepth 100000 in
theorem cd_X8_isNumber_16 : decode cX8_isNumber 16 = .ok (zi_rop (some .boolean), 1) := (dq_172 (by decide +kernel))
set_option maxRecDepth 100000 in
theorem cb_X8_option_0 : ci_ok yX8_option cX8_option 2 0 (ci_seq (ci_load 0 1 1) 1 (ci_tsw 0 2 [28, 33, 41] 50)) := cq_ok (cr_iload_n (k := 1) (dq_27 (by decide +kernel)) rfl rfl) (cr_tsw (dflt := 49) (lo := 0) (hi := 2) (offs := #[27, 32, 40]) (len := 27) (by decide +kernel) (by decide) (by decide +kernel))
set_option maxRecDepth 100000 in
theorem cb_X8_option_28 : ci_ok yX8_option cX8_option 2 28 (ci_seq (ci_load 0 0 29) 29 (ci_seq (ci_push (.int 26) 31) 31 (ci_dv (fun a b => a - a / b * b) 32))) := cq_ok (cr_iload_n (k := 0) (dq_26 (by decide +kernel)) rfl rfl) (cq_ok (cr_bipush (n := 26) (dq_16 (a := 26) (by decide +kernel) rfl) (by decide +kernel) rfl) (cr_irem (dq_112 (by decide +kernel)) rfl))
set_option maxRecDepth 100000 in
theorem cd_X8_option_32 : decode cX8_option 32 = .ok (zi_rop (some .int), 1) := (dq_172 (by decide +kernel))
set_option maxRecDepth 100000 in
theorem cb_X8_option_33 : ci_ok yX8_option cX8_option 2 33 (ci_seq (ci_load 0 0 34) 34 (ci_seq (ci_push (.int 26) 36) 36 (ci_seq (ci_dv (fun a b => a / b) 37) 37 (ci_seq (ci_push (.int 26) 39) 39 (ci_dv (fun a b => a - a / b * b) 40))))) := cq_ok (cr_iload_n (k := 0) (dq_26 (by decide +kernel)) rfl rfl) (cq_ok (cr_bipush (n := 26) (dq_16 (a := 26) (by decide +kernel) rfl) (by decide +kernel) rfl) (cq_ok (cr_idiv (dq_108 (by decide +kernel)) rfl) (cq_ok (cr_bipush (n := 26) (dq_16 (a := 26) (by decide +kernel) rfl) (by decide +kernel) rfl) (cr_irem (dq_112 (by decide +kernel)) rfl))))
set_option maxRecDepth 100000 in
theorem cd_X8_option_40 : decode cX8_option 40 = .ok (zi_rop (some .int), 1) := (dq_172 (by decide +kernel))
set_option maxRecDepth 100000 in
theorem cb_X8_option_41 : ci_ok yX8_option cX8_option 2 41 (ci_seq (ci_load 0 0 42) 42 (ci_seq (ci_push (.int 676) 45) 45 (ci_seq (ci_dv (fun a b => a / b) 46) 46 (ci_seq (ci_push (.int 26) 48) 48 (ci_dv (fun a b => a - a / b * b) 49))))) := cq_ok (cr_iload_n (k := 0) (dq_26 (by decide +kernel)) rfl rfl) (cq_ok (cr_sipush (n := 676) (dq_17 (a := 2) (b := 164) (by decide +kernel) rfl) (by decide +kernel) rfl) (cq_ok (cr_idiv (dq_108 (by decide +kernel)) rfl) (cq_ok (cr_bipush (n := 26) (dq_16 (a := 26) (by decide +kernel) rfl) (by decide +kernel) rfl) (cr_irem (dq_112 (by decide +kernel)) rfl))))
set_option maxRecDepth 100000 in
theorem cd_X8_option_49 : decode cX8_option 49 = .ok (zi_rop (some .int), 1) := (dq_172 (by decide +kernel))
set_option maxRecDepth 100000 in
theorem cb_X8_option_50 : ci_ok yX8_option cX8_option 2 50 (ci_push (.int 0) 51) := cr_iconst2 (n := 0) (dq_3 (by decide +kernel)) (by decide +kernel) rfl
set_option maxRecDepth 100000 in
theorem cd_X8_option_51 : decode cX8_option 51 = .ok (zi_rop (some .int), 1) := (dq_172 (by decide +kernel))
set_option maxRecDepth 100000 in
theorem cb_X8_numberOf_0 : ci_ok yX8_numberOf cX8_numberOf 2 0 (ci_seq (ci_load 0 1 1) 1 (ci_tsw 0 2 [28, 30, 35] 43)) := cq_ok (cr_iload_n (k := 1) (dq_27 (by decide +kernel)) rfl rfl) (cr_tsw (dflt := 42) (lo := 0) (hi := 2) (offs := #[27, 29, 34]) (len := 27) (by decide +kernel) (by decide) (by decide +kernel))
set_option maxRecDepth 100000 in
theorem cb_X8_numberOf_28 : ci_ok yX8_numberOf cX8_numberOf 2 28 (ci_load 0 0 29) := cr_iload_n (k := 0) (dq_26 (by decide +kernel)) rfl rfl
set_option maxRecDepth 100000 in
theorem cd_X8_numberOf_29 : decode cX8_numberOf 29 = .ok (zi_rop (some .int), 1) := (dq_172 (by decide +kernel))
set_option maxRecDepth 100000 in
theorem cb_X8_numberOf_30 : ci_ok yX8_numberOf cX8_numberOf 2 30 (ci_seq (ci_load 0 0 31) 31 (ci_seq (ci_push (.int 26) 33) 33 (ci_bin (fun a b => a * b) 34))) := cq_ok (cr_iload_n (k := 0) (dq_26 (by decide +kernel)) rfl rfl) (cq_ok (cr_bipush (n := 26) (dq_16 (a := 26) (by decide +kernel) rfl) (by decide +kernel) rfl) (cr_imul (dq_104 (by decide +kernel)) rfl))
set_option maxRecDepth 100000 in
theorem cd_X8_numberOf_34 : decode cX8_numberOf 34 = .ok (zi_rop (some .int), 1) := (dq_172 (by decide +kernel))
set_option maxRecDepth 100000 in
theorem cb_X8_numberOf_35 : ci_ok yX8_numberOf cX8_numberOf 2 35 (ci_seq (ci_load 0 0 36) 36 (ci_seq (ci_push (.int 26) 38) 38 (ci_seq (ci_bin (fun a b => a * b) 39) 39 (ci_seq (ci_push (.int 26) 41) 41 (ci_bin (fun a b => a * b) 42))))) := cq_ok (cr_iload_n (k := 0) (dq_26 (by decide +kernel)) rfl rfl) (cq_ok (cr_bipush (n := 26) (dq_16 (a := 26) (by decide +kernel) rfl) (by decide +kernel) rfl) (cq_ok (cr_imul (dq_104 (by decide +kernel)) rfl) (cq_ok (cr_bipush (n := 26) (dq_16 (a := 26) (by decide +kernel) rfl) (by decide +kernel) rfl) (cr_imul (dq_104 (by decide +kernel)) rfl))))
set_option maxRecDepth 100000 in
theorem cd_X8_numberOf_42 : decode cX8_numberOf 42 = .ok (zi_rop (some .int), 1) := (dq_172 (by decide +kernel))
set_option maxRecDepth 100000 in
theorem cb_X8_numberOf_43 : ci_ok yX8_numberOf cX8_numberOf 2 43 (ci_push (.int 0) 44) := cr_iconst2 (n := 0) (dq_3 (by decide +kernel)) (by decide +kernel) rfl
set_option maxRecDepth 100000 in
theorem cd_X8_numberOf_44 : decode cX8_numberOf 44 = .ok (zi_rop (some .int), 1) := (dq_172 (by decide +kernel))
set_option maxRecDepth 100000 in
theorem cb_X8_has_0 : ci_ok yX8_has cX8_has 2 0 (ci_seq (ci_load 0 0 1) 1 (ci_seq (ci_load 0 1 2) 2 (ci_seq (ci_bin (fun a b => a >>> (b &&& 31)) 3) 3 (ci_seq (ci_push (.int 1) 4) 4 (ci_seq (ci_bin (fun a b => a &&& b) 5) 5 (ci_if (fun x => decide (x = 0)) 12 8)))))) := cq_ok (cr_iload_n (k := 0) (dq_26 (by decide +kernel)) rfl rfl) (cq_ok (cr_iload_n (k := 1) (dq_27 (by decide +kernel)) rfl rfl) (cq_ok (cr_ishr (dq_122 (by decide +kernel)) rfl) (cq_ok (cr_iconst2 (n := 1) (dq_4 (by decide +kernel)) (by decide +kernel) rfl) (cq_ok (cr_iand (dq_126 (by decide +kernel)) rfl) (cr_if_eq (off := 7) (dq_153 (a := 0) (b := 7) (by decide +kernel) rfl) (by decide) rfl)))))
set_option maxRecDepth 100000 in
theorem cb_X8_has_8 : ci_ok yX8_has cX8_has 2 8 (ci_seq (ci_push (.int 1) 9) 9 (ci_go 13)) := cq_ok (cr_iconst2 (n := 1) (dq_4 (by decide +kernel)) (by decide +kernel) rfl) (cr_goto (off := 4) (dq_167 (a := 0) (b := 4) (by decide +kernel) rfl) (by decide))
set_option maxRecDepth 100000 in
theorem cb_X8_has_12 : ci_ok yX8_has cX8_has 2 12 (ci_push (.int 0) 13) := cr_iconst2 (n := 0) (dq_3 (by decide +kernel)) (by decide +kernel) rfl
set_option maxRecDepth 100000 in
theorem cd_X8_has_13 : decode cX8_has 13 = .ok (zi_rop (some .boolean), 1) := (dq_172 (by decide +kernel))
set_option maxRecDepth 100000 in
theorem cb_X8_alone_0 : ci_ok yX8_alone cX8_alone 6 0 (ci_seq (ci_load 0 3 1) 1 (ci_seq (ci_push (.int 10) 3) 3 (ci_ic (fun x y => decide (x < y)) 16 6))) := cq_ok (cr_iload_n (k := 3) (dq_29 (by decide +kernel)) rfl rfl) (cq_ok (cr_bipush (n := 10) (dq_16 (a := 10) (by decide +kernel) rfl) (by decide +kernel) rfl) (cr_ic_lt (off := 13) (dq_161 (a := 0) (b := 13) (by decide +kernel) rfl) (by decide) rfl))
set_option maxRecDepth 100000 in
theorem cb_X8_alone_6 : ci_ok yX8_alone cX8_alone 6 6 (ci_seq (ci_load 0 3 7) 7 (ci_seq (ci_push (.int 13) 9) 9 (ci_ic (fun x y => decide (y ≤ x)) 16 12))) := cq_ok (cr_iload_n (k := 3) (dq_29 (by decide +kernel)) rfl rfl) (cq_ok (cr_bipush (n := 13) (dq_16 (a := 13) (by decide +kernel) rfl) (by decide +kernel) rfl) (cr_ic_ge (off := 7) (dq_162 (a := 0) (b := 7) (by decide +kernel) rfl) (by decide) rfl))
set_option maxRecDepth 100000 in
theorem cb_X8_alone_12 : ci_ok yX8_alone cX8_alone 6 12 (ci_seq (ci_push (.int 1) 13) 13 (ci_go 17)) := cq_ok (cr_iconst2 (n := 1) (dq_4 (by decide +kernel)) (by decide +kernel) rfl) (cr_goto (off := 4) (dq_167 (a := 0) (b := 4) (by decide +kernel) rfl) (by decide))
set_option maxRecDepth 100000 in
theorem cb_X8_alone_16 : ci_ok yX8_alone cX8_alone 6 16 (ci_push (.int 0) 17) := cr_iconst2 (n := 0) (dq_3 (by decide +kernel)) (by decide +kernel) rfl
set_option maxRecDepth 100000 in
theorem cb_X8_alone_17 : ci_ok yX8_alone cX8_alone 6 17 (ci_seq (ci_store 0 4 19) 19 (ci_seq (ci_load 2 0 20) 20 (ci_seq (ci_getf 8 0 23) 23 (ci_load 0 1 24)))) := cq_ok (cr_istore (dq_54 (by decide +kernel)) (by decide) rfl) (cq_ok (cr_aload_n (k := 0) (dq_42 (by decide +kernel)) rfl rfl) (cq_ok (cr_getf (idx := 10) zc_8 (by decide) zl_242 (dq_180 (a := 0) (b := 10) (by decide +kernel) rfl) rfl) (cr_iload_n (k := 1) (dq_27 (by decide +kernel)) rfl rfl)))
set_option maxRecDepth 100000 in
theorem cl_X8_alone_24 : ci_calls yX8_alone cX8_alone 6 24 yX3_hasFarm 2 (some 3) := cr_callV (idx := 149) zl_906 ⟨by decide, by decide⟩ hp_X3_hasFarm zc_3 zl_147 zl_148 (Or.inl zl_318) (dq_182 (a := 0) (b := 149) (by decide +kernel) rfl)
set_option maxRecDepth 100000 in
theorem cb_X8_alone_27 : ci_ok yX8_alone cX8_alone 6 27 (ci_if (fun x => decide (x = 0)) 50 30) := cr_if_eq (off := 23) (dq_153 (a := 0) (b := 23) (by decide +kernel) rfl) (by decide) rfl
set_option maxRecDepth 100000 in
theorem cb_X8_alone_30 : ci_ok yX8_alone cX8_alone 6 30 (ci_seq (ci_load 2 0 31) 31 (ci_seq (ci_getf 8 0 34) 34 (ci_load 0 2 35))) := cq_ok (cr_aload_n (k := 0) (dq_42 (by decide +kernel)) rfl rfl) (cq_ok (cr_getf (idx := 10) zc_8 (by decide) zl_242 (dq_180 (a := 0) (b := 10) (by decide +kernel) rfl) rfl) (cr_iload_n (k := 2) (dq_28 (by decide +kernel)) rfl rfl))
set_option maxRecDepth 100000 in
theorem cl_X8_alone_35 : ci_calls yX8_alone cX8_alone 6 35 yX3_hasCell 2 (some 3) := cr_callV (idx := 138) zl_905 ⟨by decide, by decide⟩ hp_X3_hasCell zc_3 zl_312 zl_313 (Or.inl zl_311) (dq_182 (a := 0) (b := 138) (by decide +kernel) rfl)
set_option maxRecDepth 100000 in
theorem cb_X8_alone_38 : ci_ok yX8_alone cX8_alone 6 38 (ci_if (fun x => decide (x = 0)) 50 41) := cr_if_eq (off := 12) (dq_153 (a := 0) (b := 12) (by decide +kernel) rfl) (by decide) rfl
set_option maxRecDepth 100000 in
theorem cb_X8_alone_41 : ci_ok yX8_alone cX8_alone 6 41 (ci_seq (ci_load 0 3 42) 42 (ci_if (fun x => decide (x = 0)) 52 45)) := cq_ok (cr_iload_n (k := 3) (dq_29 (by decide +kernel)) rfl rfl) (cr_if_eq (off := 10) (dq_153 (a := 0) (b := 10) (by decide +kernel) rfl) (by decide) rfl)
set_option maxRecDepth 100000 in
theorem cb_X8_alone_45 : ci_ok yX8_alone cX8_alone 6 45 (ci_seq (ci_load 0 4 47) 47 (ci_if (fun x => !decide (x = 0)) 52 50)) := cq_ok (cr_iload (dq_21 (by decide +kernel)) rfl) (cr_if_ne (off := 5) (dq_154 (a := 0) (b := 5) (by decide +kernel) rfl) (by decide) rfl)
set_option maxRecDepth 100000 in
theorem cb_X8_alone_50 : ci_ok yX8_alone cX8_alone 6 50 (ci_push (.int (-1)) 51) := cr_iconst2 (n := -1) (dq_2 (by decide +kernel)) (by decide +kernel) rfl
set_option maxRecDepth 100000 in
theorem cd_X8_alone_51 : decode cX8_alone 51 = .ok (zi_rop (some .int), 1) := (dq_172 (by decide +kernel))
set_option maxRecDepth 100000 in
theorem cb_X8_alone_52 : ci_ok yX8_alone cX8_alone 6 52 (ci_seq (ci_load 2 0 53) 53 (ci_seq (ci_getf 8 6 56) 56 (ci_seq (ci_load 2 0 57) 57 (ci_seq (ci_getf 8 1 60) 60 (ci_seq (ci_getf 7 0 63) 63 (ci_seq (ci_load 0 1 64) 64 (ci_load 0 2 65))))))) := cq_ok (cr_aload_n (k := 0) (dq_42 (by decide +kernel)) rfl rfl) (cq_ok (cr_getf (idx := 50) zc_8 (by decide) zl_263 (dq_180 (a := 0) (b := 50) (by decide +kernel) rfl) rfl) (cq_ok (cr_aload_n (k := 0) (dq_42 (by decide +kernel)) rfl rfl) (cq_ok (cr_getf (idx := 21) zc_8 (by decide) zl_241 (dq_180 (a := 0) (b := 21) (by decide +kernel) rfl) rfl) (cq_ok (cr_getf (idx := 120) zc_7 (by decide) zl_306 (dq_180 (a := 0) (b := 120) (by decide +kernel) rfl) rfl) (cq_ok (cr_iload_n (k := 1) (dq_27 (by decide +kernel)) rfl rfl) (cr_iload_n (k := 2) (dq_28 (by decide +kernel)) rfl rfl))))))
set_option maxRecDepth 100000 in
theorem cl_X8_alone_65 : ci_calls yX8_alone cX8_alone 6 65 yX0_fewest 4 (some 0) := cr_callV (idx := 202) zl_876 ⟨by decide, by decide⟩ hp_X0_fewest zc_0 zl_342 zl_343 (Or.inl zl_341) (dq_182 (a := 0) (b := 202) (by decide +kernel) rfl)
set_option maxRecDepth 100000 in
theorem cb_X8_alone_68 : ci_ok yX8_alone cX8_alone 6 68 (ci_seq (ci_store 0 5 70) 70 (ci_seq (ci_load 0 5 72) 72 (ci_if (fun x => decide (0 ≤ x)) 78 75))) := cq_ok (cr_istore (dq_54 (by decide +kernel)) (by decide) rfl) (cq_ok (cr_iload (dq_21 (by decide +kernel)) rfl) (cr_if_ge (off := 6) (dq_156 (a := 0) (b := 6) (by decide +kernel) rfl) (by decide) rfl))
set_option maxRecDepth 100000 in
theorem cb_X8_alone_75 : ci_ok yX8_alone cX8_alone 6 75 (ci_push (.int (-4)) 77) := cr_bipush (n := -4) (dq_16 (a := 252) (by decide +kernel) rfl) (by decide +kernel) rfl
set_option maxRecDepth 100000 in
theorem cd_X8_alone_77 : decode cX8_alone 77 = .ok (zi_rop (some .int), 1) := (dq_172 (by decide +kernel))
set_option maxRecDepth 100000 in
theorem cb_X8_alone_78 : ci_ok yX8_alone cX8_alone 6 78 (ci_seq (ci_load 0 3 79) 79 (ci_if (fun x => !decide (x = 0)) 85 82)) := cq_ok (cr_iload_n (k := 3) (dq_29 (by decide +kernel)) rfl rfl) (cr_if_ne (off := 6) (dq_154 (a := 0) (b := 6) (by decide +kernel) rfl) (by decide) rfl)
set_option maxRecDepth 100000 in
theorem cb_X8_alone_82 : ci_ok yX8_alone cX8_alone 6 82 (ci_load 0 5 84) := cr_iload (dq_21 (by decide +kernel)) rfl
set_option maxRecDepth 100000 in
theorem cd_X8_alone_84 : decode cX8_alone 84 = .ok (zi_rop (some .int), 1) := (dq_172 (by decide +kernel))
set_option maxRecDepth 100000 in
theorem cb_X8_alone_85 : ci_ok yX8_alone cX8_alone 6 85 (ci_seq (ci_load 0 3 86) 86 (ci_seq (ci_push (.int 10) 88) 88 (ci_seq (ci_bin (fun a b => a - b) 89) 89 (ci_seq (ci_load 0 5 91) 91 (ci_ic (fun x y => decide (y ≤ x)) 108 94))))) := cq_ok (cr_iload_n (k := 3) (dq_29 (by decide +kernel)) rfl rfl) (cq_ok (cr_bipush (n := 10) (dq_16 (a := 10) (by decide +kernel) rfl) (by decide +kernel) rfl) (cq_ok (cr_isub (dq_100 (by decide +kernel)) rfl) (cq_ok (cr_iload (dq_21 (by decide +kernel)) rfl) (cr_ic_ge (off := 17) (dq_162 (a := 0) (b := 17) (by decide +kernel) rfl) (by decide) rfl))))
set_option maxRecDepth 100000 in
theorem cb_X8_alone_94 : ci_ok yX8_alone cX8_alone 6 94 (ci_seq (ci_load 2 0 95) 95 (ci_seq (ci_getf 8 6 98) 98 (ci_seq (ci_load 0 3 99) 99 (ci_seq (ci_push (.int 10) 101) 101 (ci_bin (fun a b => a - b) 102))))) := cq_ok (cr_aload_n (k := 0) (dq_42 (by decide +kernel)) rfl rfl) (cq_ok (cr_getf (idx := 50) zc_8 (by decide) zl_263 (dq_180 (a := 0) (b := 50) (by decide +kernel) rfl) rfl) (cq_ok (cr_iload_n (k := 3) (dq_29 (by decide +kernel)) rfl rfl) (cq_ok (cr_bipush (n := 10) (dq_16 (a := 10) (by decide +kernel) rfl) (by decide +kernel) rfl) (cr_isub (dq_100 (by decide +kernel)) rfl))))
set_option maxRecDepth 100000 in
theorem cl_X8_alone_102 : ci_calls yX8_alone cX8_alone 6 102 yX0_cutOf 2 (some 0) := cr_callV (idx := 205) zl_878 ⟨by decide, by decide⟩ hp_X0_cutOf zc_0 zl_345 zl_346 (Or.inl zl_344) (dq_182 (a := 0) (b := 205) (by decide +kernel) rfl)
set_option maxRecDepth 100000 in
theorem cb_X8_alone_105 : ci_ok yX8_alone cX8_alone 6 105 (ci_go 110) := cr_goto (off := 5) (dq_167 (a := 0) (b := 5) (by decide +kernel) rfl) (by decide)
set_option maxRecDepth 100000 in
theorem cb_X8_alone_108 : ci_ok yX8_alone cX8_alone 6 108 (ci_push (.int (-4)) 110) := cr_bipush (n := -4) (dq_16 (a := 252) (by decide +kernel) rfl) (by decide +kernel) rfl
set_option maxRecDepth 100000 in
theorem cd_X8_alone_110 : decode cX8_alone 110 = .ok (zi_rop (some .int), 1) := (dq_172 (by decide +kernel))
set_option maxRecDepth 100000 in
theorem cb_X8_together_0 : ci_ok yX8_together cX8_together 7 0 (ci_seq (ci_load 2 0 1) 1 (ci_seq (ci_getf 8 0 4) 4 (ci_load 0 1 5))) := cq_ok (cr_aload_n (k := 0) (dq_42 (by decide +kernel)) rfl rfl) (cq_ok (cr_getf (idx := 10) zc_8 (by decide) zl_242 (dq_180 (a := 0) (b := 10) (by decide +kernel) rfl) rfl) (cr_iload_n (k := 1) (dq_27 (by decide +kernel)) rfl rfl))
set_option maxRecDepth 100000 in
theorem cl_X8_together_5 : ci_calls yX8_together cX8_together 7 5 yX3_hasCell 2 (some 3) := cr_callV (idx := 138) zl_905 ⟨by decide, by decide⟩ hp_X3_hasCell zc_3 zl_312 zl_313 (Or.inl zl_311) (dq_182 (a := 0) (b := 138) (by decide +kernel) rfl)
set_option maxRecDepth 100000 in
theorem cb_X8_together_8 : ci_ok yX8_together cX8_together 7 8 (ci_if (fun x => decide (x = 0)) 20 11) := cr_if_eq (off := 12) (dq_153 (a := 0) (b := 12) (by decide +kernel) rfl) (by decide) rfl
set_option maxRecDepth 100000 in
theorem cb_X8_together_11 : ci_ok yX8_together cX8_together 7 11 (ci_seq (ci_load 0 2 12) 12 (ci_if (fun x => decide (x < 0)) 20 15)) := cq_ok (cr_iload_n (k := 2) (dq_28 (by decide +kernel)) rfl rfl) (cr_if_lt (off := 8) (dq_155 (a := 0) (b := 8) (by decide +kernel) rfl) (by decide) rfl)
set_option maxRecDepth 100000 in
theorem cb_X8_together_15 : ci_ok yX8_together cX8_together 7 15 (ci_seq (ci_load 0 2 16) 16 (ci_seq (ci_push (.int 1) 17) 17 (ci_ic (fun x y => decide (x ≤ y)) 22 20))) := cq_ok (cr_iload_n (k := 2) (dq_28 (by decide +kernel)) rfl rfl) (cq_ok (cr_iconst2 (n := 1) (dq_4 (by decide +kernel)) (by decide +kernel) rfl) (cr_ic_le (off := 5) (dq_164 (a := 0) (b := 5) (by decide +kernel) rfl) (by decide) rfl))
set_option maxRecDepth 100000 in
theorem cb_X8_together_20 : ci_ok yX8_together cX8_together 7 20 (ci_push (.int (-1)) 21) := cr_iconst2 (n := -1) (dq_2 (by decide +kernel)) (by decide +kernel) rfl
set_option maxRecDepth 100000 in
theorem cd_X8_together_21 : decode cX8_together 21 = .ok (zi_rop (some .int), 1) := (dq_172 (by decide +kernel))
set_option maxRecDepth 100000 in
theorem cb_X8_together_22 : ci_ok yX8_together cX8_together 7 22 (ci_load 2 0 23) := cr_aload_n (k := 0) (dq_42 (by decide +kernel)) rfl rfl
set_option maxRecDepth 100000 in
theorem cl_X8_together_23 : ci_calls yX8_together cX8_together 7 23 yX8_lookAhead 1 (some 8) := cr_callV (idx := 208) zl_968 ⟨by decide, by decide⟩ hp_X8_lookAhead zc_8 zl_348 zl_349 (Or.inl zl_347) (dq_182 (a := 0) (b := 208) (by decide +kernel) rfl)
set_option maxRecDepth 100000 in
theorem cb_X8_together_26 : ci_ok yX8_together cX8_together 7 26 (ci_seq (ci_push (.int 4) 27) 27 (ci_seq (ci_store 0 3 28) 28 (ci_seq (ci_push (.int (-4)) 30) 30 (ci_seq (ci_store 0 4 32) 32 (ci_seq (ci_push (.int 0) 33) 33 (ci_store 0 5 35)))))) := cq_ok (cr_iconst2 (n := 4) (dq_7 (by decide +kernel)) (by decide +kernel) rfl) (cq_ok (cr_istore_n (k := 3) (dq_62 (by decide +kernel)) rfl (by decide) rfl) (cq_ok (cr_bipush (n := -4) (dq_16 (a := 252) (by decide +kernel) rfl) (by decide +kernel) rfl) (cq_ok (cr_istore (dq_54 (by decide +kernel)) (by decide) rfl) (cq_ok (cr_iconst2 (n := 0) (dq_3 (by decide +kernel)) (by decide +kernel) rfl) (cr_istore (dq_54 (by decide +kernel)) (by decide) rfl)))))
set_option maxRecDepth 100000 in
theorem cb_X8_together_35 : ci_ok yX8_together cX8_together 7 35 (ci_seq (ci_load 0 5 37) 37 (ci_seq (ci_load 2 0 38) 38 (ci_seq (ci_getf 8 5 41) 41 (ci_seq (ci_getf 4 5 44) 44 (ci_ic (fun x y => decide (y ≤ x)) 109 47))))) := cq_ok (cr_iload (dq_21 (by decide +kernel)) rfl) (cq_ok (cr_aload_n (k := 0) (dq_42 (by decide +kernel)) rfl rfl) (cq_ok (cr_getf (idx := 41) zc_8 (by decide) zl_269 (dq_180 (a := 0) (b := 41) (by decide +kernel) rfl) rfl) (cq_ok (cr_getf (idx := 211) zc_4 (by decide) zl_350 (dq_180 (a := 0) (b := 211) (by decide +kernel) rfl) rfl) (cr_ic_ge (off := 65) (dq_162 (a := 0) (b := 65) (by decide +kernel) rfl) (by decide) rfl))))
set_option maxRecDepth 100000 in
theorem cb_X8_together_47 : ci_ok yX8_together cX8_together 7 47 (ci_seq (ci_load 2 0 48) 48 (ci_seq (ci_getf 8 5 51) 51 (ci_seq (ci_getf 4 3 54) 54 (ci_seq (ci_load 0 5 56) 56 (ci_ald .int 57))))) := cq_ok (cr_aload_n (k := 0) (dq_42 (by decide +kernel)) rfl rfl) (cq_ok (cr_getf (idx := 41) zc_8 (by decide) zl_269 (dq_180 (a := 0) (b := 41) (by decide +kernel) rfl) rfl) (cq_ok (cr_getf (idx := 214) zc_4 (by decide) zl_356 (dq_180 (a := 0) (b := 214) (by decide +kernel) rfl) rfl) (cq_ok (cr_iload (dq_21 (by decide +kernel)) rfl) (cr_ald (ins := .iaload) rfl (dq_46 (by decide +kernel)) (Or.inl ⟨rfl, rfl⟩)))))
set_option maxRecDepth 100000 in
theorem cl_X8_together_57 : ci_calls yX8_together cX8_together 7 57 yX8_cutters 1 none := cr_callS (idx := 216) zl_969 zl_659 ⟨by decide, by decide⟩ hp_X8_cutters zl_355 (Or.inl zl_354) (dq_184 (a := 0) (b := 216) (by decide +kernel) rfl)
set_option maxRecDepth 100000 in
theorem cl_X8_together_60 : ci_calls yX8_together cX8_together 7 60 yJ6_bitCount_0f7a4 1 none := cr_callS (idx := 219) zl_1085 zl_1086 ⟨by decide, by decide⟩ hp_J6_bitCount_0f7a4 zl_104 (Or.inl zl_353) (dq_184 (a := 0) (b := 219) (by decide +kernel) rfl)
set_option maxRecDepth 100000 in
theorem cb_X8_together_63 : ci_ok yX8_together cX8_together 7 63 (ci_seq (ci_store 0 6 65) 65 (ci_seq (ci_load 2 0 66) 66 (ci_seq (ci_getf 8 5 69) 69 (ci_seq (ci_getf 4 4 72) 72 (ci_seq (ci_load 0 5 74) 74 (ci_seq (ci_ald .int 75) 75 (ci_load 0 1 76))))))) := cq_ok (cr_istore (dq_54 (by decide +kernel)) (by decide) rfl) (cq_ok (cr_aload_n (k := 0) (dq_42 (by decide +kernel)) rfl rfl) (cq_ok (cr_getf (idx := 41) zc_8 (by decide) zl_269 (dq_180 (a := 0) (b := 41) (by decide +kernel) rfl) rfl) (cq_ok (cr_getf (idx := 224) zc_4 (by decide) zl_352 (dq_180 (a := 0) (b := 224) (by decide +kernel) rfl) rfl) (cq_ok (cr_iload (dq_21 (by decide +kernel)) rfl) (cq_ok (cr_ald (ins := .iaload) rfl (dq_46 (by decide +kernel)) (Or.inl ⟨rfl, rfl⟩)) (cr_iload_n (k := 1) (dq_27 (by decide +kernel)) rfl rfl))))))
set_option maxRecDepth 100000 in
theorem cl_X8_together_76 : ci_calls yX8_together cX8_together 7 76 yX8_has 2 none := cr_callS (idx := 227) zl_965 zl_659 ⟨by decide, by decide⟩ hp_X8_has zl_17 (Or.inl zl_351) (dq_184 (a := 0) (b := 227) (by decide +kernel) rfl)
set_option maxRecDepth 100000 in
theorem cb_X8_together_79 : ci_ok yX8_together cX8_together 7 79 (ci_if (fun x => decide (x = 0)) 103 82) := cr_if_eq (off := 24) (dq_153 (a := 0) (b := 24) (by decide +kernel) rfl) (by decide) rfl
set_option maxRecDepth 100000 in
theorem cb_X8_together_82 : ci_ok yX8_together cX8_together 7 82 (ci_seq (ci_load 0 6 84) 84 (ci_seq (ci_load 0 3 85) 85 (ci_ic (fun x y => decide (y ≤ x)) 103 88))) := cq_ok (cr_iload (dq_21 (by decide +kernel)) rfl) (cq_ok (cr_iload_n (k := 3) (dq_29 (by decide +kernel)) rfl rfl) (cr_ic_ge (off := 18) (dq_162 (a := 0) (b := 18) (by decide +kernel) rfl) (by decide) rfl))
set_option maxRecDepth 100000 in
theorem cb_X8_together_88 : ci_ok yX8_together cX8_together 7 88 (ci_seq (ci_load 0 6 90) 90 (ci_seq (ci_store 0 3 91) 91 (ci_seq (ci_load 2 0 92) 92 (ci_seq (ci_getf 8 5 95) 95 (ci_seq (ci_getf 4 3 98) 98 (ci_seq (ci_load 0 5 100) 100 (ci_seq (ci_ald .int 101) 101 (ci_store 0 4 103)))))))) := cq_ok (cr_iload (dq_21 (by decide +kernel)) rfl) (cq_ok (cr_istore_n (k := 3) (dq_62 (by decide +kernel)) rfl (by decide) rfl) (cq_ok (cr_aload_n (k := 0) (dq_42 (by decide +kernel)) rfl rfl) (cq_ok (cr_getf (idx := 41) zc_8 (by decide) zl_269 (dq_180 (a := 0) (b := 41) (by decide +kernel) rfl) rfl) (cq_ok (cr_getf (idx := 214) zc_4 (by decide) zl_356 (dq_180 (a := 0) (b := 214) (by decide +kernel) rfl) rfl) (cq_ok (cr_iload (dq_21 (by decide +kernel)) rfl) (cq_ok (cr_ald (ins := .iaload) rfl (dq_46 (by decide +kernel)) (Or.inl ⟨rfl, rfl⟩)) (cr_istore (dq_54 (by decide +kernel)) (by decide) rfl)))))))
set_option maxRecDepth 100000 in
theorem cb_X8_together_103 : ci_ok yX8_together cX8_together 7 103 (ci_seq (ci_inc 5 1 106) 106 (ci_go 35)) := cq_ok (ci_inc_ok (by decide) (dq_132 (a := 5) (b := 1) (by decide +kernel) rfl) rfl) (cr_goto (off := -71) (dq_167 (a := 255) (b := 185) (by decide +kernel) rfl) (by decide))
set_option maxRecDepth 100000 in
theorem cb_X8_together_109 : ci_ok yX8_together cX8_together 7 109 (ci_seq (ci_load 0 4 111) 111 (ci_seq (ci_push (.int (-4)) 113) 113 (ci_ic (fun x y => decide (x = y)) 121 116))) := cq_ok (cr_iload (dq_21 (by decide +kernel)) rfl) (cq_ok (cr_bipush (n := -4) (dq_16 (a := 252) (by decide +kernel) rfl) (by decide +kernel) rfl) (cr_ic_eq (off := 8) (dq_159 (a := 0) (b := 8) (by decide +kernel) rfl) (by decide) rfl))
set_option maxRecDepth 100000 in
theorem cb_X8_together_116 : ci_ok yX8_together cX8_together 7 116 (ci_seq (ci_load 0 2 117) 117 (ci_seq (ci_push (.int 1) 118) 118 (ci_ic (fun x y => !decide (x = y)) 126 121))) := cq_ok (cr_iload_n (k := 2) (dq_28 (by decide +kernel)) rfl rfl) (cq_ok (cr_iconst2 (n := 1) (dq_4 (by decide +kernel)) (by decide +kernel) rfl) (cr_ic_ne (off := 8) (dq_160 (a := 0) (b := 8) (by decide +kernel) rfl) (by decide) rfl))
set_option maxRecDepth 100000 in
theorem cb_X8_together_121 : ci_ok yX8_together cX8_together 7 121 (ci_seq (ci_load 0 4 123) 123 (ci_go 127)) := cq_ok (cr_iload (dq_21 (by decide +kernel)) rfl) (cr_goto (off := 4) (dq_167 (a := 0) (b := 4) (by decide +kernel) rfl) (by decide))
set_option maxRecDepth 100000 in
theorem cb_X8_together_126 : ci_ok yX8_together cX8_together 7 126 (ci_load 0 3 127) := cr_iload_n (k := 3) (dq_29 (by decide +kernel)) rfl rfl
set_option maxRecDepth 100000 in
theorem cd_X8_together_127 : decode cX8_together 127 = .ok (zi_rop (some .int), 1) := (dq_172 (by decide +kernel))
set_option maxRecDepth 100000 in
theorem cb_X8_lookAhead_0 : ci_ok yX8_lookAhead cX8_lookAhead 1 0 (ci_seq (ci_load 2 0 1) 1 (ci_seq (ci_getf 8 5 4) 4 (ci_seq (ci_getf 4 6 7) 7 (ci_if (fun x => !decide (x = 0)) 28 10)))) := cq_ok (cr_aload_n (k := 0) (dq_42 (by decide +kernel)) rfl rfl) (cq_ok (cr_getf (idx := 41) zc_8 (by decide) zl_269 (dq_180 (a := 0) (b := 41) (by decide +kernel) rfl) rfl) (cq_ok (cr_getf (idx := 107) zc_4 (by decide) zl_302 (dq_180 (a := 0) (b := 107) (by decide +kernel) rfl) rfl) (cr_if_ne (off := 21) (dq_154 (a := 0) (b := 21) (by decide +kernel) rfl) (by decide) rfl)))
set_option maxRecDepth 100000 in
theorem cb_X8_lookAhead_10 : ci_ok yX8_lookAhead cX8_lookAhead 1 10 (ci_seq (ci_load 2 0 11) 11 (ci_seq (ci_getf 8 5 14) 14 (ci_seq (ci_load 2 0 15) 15 (ci_seq (ci_getf 8 1 18) 18 (ci_seq (ci_getf 7 0 21) 21 (ci_seq (ci_load 2 0 22) 22 (ci_getf 8 4 25))))))) := cq_ok (cr_aload_n (k := 0) (dq_42 (by decide +kernel)) rfl rfl) (cq_ok (cr_getf (idx := 41) zc_8 (by decide) zl_269 (dq_180 (a := 0) (b := 41) (by decide +kernel) rfl) rfl) (cq_ok (cr_aload_n (k := 0) (dq_42 (by decide +kernel)) rfl rfl) (cq_ok (cr_getf (idx := 21) zc_8 (by decide) zl_241 (dq_180 (a := 0) (b := 21) (by decide +kernel) rfl) rfl) (cq_ok (cr_getf (idx := 120) zc_7 (by decide) zl_306 (dq_180 (a := 0) (b := 120) (by decide +kernel) rfl) rfl) (cq_ok (cr_aload_n (k := 0) (dq_42 (by decide +kernel)) rfl rfl) (cr_getf (idx := 34) zc_8 (by decide) zl_275 (dq_180 (a := 0) (b := 34) (by decide +kernel) rfl) rfl))))))
set_option maxRecDepth 100000 in
theorem cl_X8_lookAhead_25 : ci_calls yX8_lookAhead cX8_lookAhead 1 25 yX4_build 3 (some 4) := cr_callV (idx := 231) zl_911 ⟨by decide, by decide⟩ hp_X4_build zc_4 zl_358 zl_359 (Or.inl zl_357) (dq_182 (a := 0) (b := 231) (by decide +kernel) rfl)
set_option maxRecDepth 100000 in
theorem cd_X8_lookAhead_28 : decode cX8_lookAhead 28 = .ok (zi_rop none, 1) := (dq_177 (by decide +kernel))
set_option maxRecDepth 100000 in
theorem cb_X8_cutters_0 : ci_ok yX8_cutters cX8_cutters 3 0 (ci_seq (ci_push (.int 0) 1) 1 (ci_seq (ci_store 0 1 2) 2 (ci_seq (ci_push (.int 0) 3) 3 (ci_store 0 2 4)))) := cq_ok (cr_iconst2 (n := 0) (dq_3 (by decide +kernel)) (by decide +kernel) rfl) (cq_ok (cr_istore_n (k := 1) (dq_60 (by decide +kernel)) rfl (by decide) rfl) (cq_ok (cr_iconst2 (n := 0) (dq_3 (by decide +kernel)) (by decide +kernel) rfl) (cr_istore_n (k := 2) (dq_61 (by decide +kernel)) rfl (by decide) rfl)))
set_option maxRecDepth 100000 in
theorem cb_X8_cutters_4 : ci_ok yX8_cutters cX8_cutters 3 4 (ci_seq (ci_load 0 2 5) 5 (ci_seq (ci_push (.int 3) 6) 6 (ci_ic (fun x y => decide (y ≤ x)) 29 9))) := cq_ok (cr_iload_n (k := 2) (dq_28 (by decide +kernel)) rfl rfl) (cq_ok (cr_iconst2 (n := 3) (dq_6 (by decide +kernel)) (by decide +kernel) rfl) (cr_ic_ge (off := 23) (dq_162 (a := 0) (b := 23) (by decide +kernel) rfl) (by decide) rfl))
set_option maxRecDepth 100000 in
theorem cb_X8_cutters_9 : ci_ok yX8_cutters cX8_cutters 3 9 (ci_seq (ci_load 0 0 10) 10 (ci_load 0 2 11)) := cq_ok (cr_iload_n (k := 0) (dq_26 (by decide +kernel)) rfl rfl) (cr_iload_n (k := 2) (dq_28 (by decide +kernel)) rfl rfl)
set_option maxRecDepth 100000 in
theorem cl_X8_cutters_11 : ci_calls yX8_cutters cX8_cutters 3 11 yX8_option 2 none := cr_callS (idx := 235) zl_963 zl_659 ⟨by decide, by decide⟩ hp_X8_option zl_154 (Or.inl zl_360) (dq_184 (a := 0) (b := 235) (by decide +kernel) rfl)
set_option maxRecDepth 100000 in
theorem cb_X8_cutters_14 : ci_ok yX8_cutters cX8_cutters 3 14 (ci_if (fun x => decide (x = 0)) 23 17) := cr_if_eq (off := 9) (dq_153 (a := 0) (b := 9) (by decide +kernel) rfl) (by decide) rfl
set_option maxRecDepth 100000 in
theorem cb_X8_cutters_17 : ci_ok yX8_cutters cX8_cutters 3 17 (ci_seq (ci_load 0 1 18) 18 (ci_seq (ci_push (.int 1) 19) 19 (ci_seq (ci_load 0 2 20) 20 (ci_seq (ci_bin (fun a b => a <<< (b &&& 31)) 21) 21 (ci_seq (ci_bin (fun a b => a ||| b) 22) 22 (ci_store 0 1 23)))))) := cq_ok (cr_iload_n (k := 1) (dq_27 (by decide +kernel)) rfl rfl) (cq_ok (cr_iconst2 (n := 1) (dq_4 (by decide +kernel)) (by decide +kernel) rfl) (cq_ok (cr_iload_n (k := 2) (dq_28 (by decide +kernel)) rfl rfl) (cq_ok (cr_ishl (dq_120 (by decide +kernel)) rfl) (cq_ok (cr_ior (dq_128 (by decide +kernel)) rfl) (cr_istore_n (k := 1) (dq_60 (by decide +kernel)) rfl (by decide) rfl)))))
set_option maxRecDepth 100000 in
theorem cb_X8_cutters_23 : ci_ok yX8_cutters cX8_cutters 3 23 (ci_seq (ci_inc 2 1 26) 26 (ci_go 4)) := cq_ok (ci_inc_ok (by decide) (dq_132 (a := 2) (b := 1) (by decide +kernel) rfl) rfl) (cr_goto (off := -22) (dq_167 (a := 255) (b := 234) (by decide +kernel) rfl) (by decide))
set_option maxRecDepth 100000 in
theorem cb_X8_cutters_29 : ci_ok yX8_cutters cX8_cutters 3 29 (ci_load 0 1 30) := cr_iload_n (k := 1) (dq_27 (by decide +kernel)) rfl rfl
set_option maxRecDepth 100000 in
theorem cd_X8_cutters_30 : decode cX8_cutters 30 = .ok (zi_rop (some .int), 1) := (dq_172 (by decide +kernel))
set_option maxRecDepth 100000 in
theorem cb_X8_selfish_0 : ci_ok yX8_selfish cX8_selfish 3 0 (ci_seq (ci_load 0 1 1) 1 (ci_if (fun x => decide (x = 0)) 26 4)) := cq_ok (cr_iload_n (k := 1) (dq_27 (by decide +kernel)) rfl rfl) (cr_if_eq (off := 25) (dq_153 (a := 0) (b := 25) (by decide +kernel) rfl) (by decide) rfl)
set_option maxRecDepth 100000 in
theorem cb_X8_selfish_4 : ci_ok yX8_selfish cX8_selfish 3 4 (ci_seq (ci_load 0 1 5) 5 (ci_seq (ci_push (.int 10) 7) 7 (ci_ic (fun x y => decide (x < y)) 24 10))) := cq_ok (cr_iload_n (k := 1) (dq_27 (by decide +kernel)) rfl rfl) (cq_ok (cr_bipush (n := 10) (dq_16 (a := 10) (by decide +kernel) rfl) (by decide +kernel) rfl) (cr_ic_lt (off := 17) (dq_161 (a := 0) (b := 17) (by decide +kernel) rfl) (by decide) rfl))
set_option maxRecDepth 100000 in
theorem cb_X8_selfish_10 : ci_ok yX8_selfish cX8_selfish 3 10 (ci_seq (ci_load 2 0 11) 11 (ci_seq (ci_getf 8 0 14) 14 (ci_seq (ci_load 0 1 15) 15 (ci_seq (ci_push (.int 10) 17) 17 (ci_bin (fun a b => a - b) 18))))) := cq_ok (cr_aload_n (k := 0) (dq_42 (by decide +kernel)) rfl rfl) (cq_ok (cr_getf (idx := 10) zc_8 (by decide) zl_242 (dq_180 (a := 0) (b := 10) (by decide +kernel) rfl) rfl) (cq_ok (cr_iload_n (k := 1) (dq_27 (by decide +kernel)) rfl rfl) (cq_ok (cr_bipush (n := 10) (dq_16 (a := 10) (by decide +kernel) rfl) (by decide +kernel) rfl) (cr_isub (dq_100 (by decide +kernel)) rfl))))
set_option maxRecDepth 100000 in
theorem cl_X8_selfish_18 : ci_calls yX8_selfish cX8_selfish 3 18 yX3_hasFarm 2 (some 3) := cr_callV (idx := 149) zl_906 ⟨by decide, by decide⟩ hp_X3_hasFarm zc_3 zl_147 zl_148 (Or.inl zl_318) (dq_182 (a := 0) (b := 149) (by decide +kernel) rfl)
set_option maxRecDepth 100000 in
theorem cb_X8_selfish_21 : ci_ok yX8_selfish cX8_selfish 3 21 (ci_if (fun x => !decide (x = 0)) 26 24) := cr_if_ne (off := 5) (dq_154 (a := 0) (b := 5) (by decide +kernel) rfl) (by decide) rfl
set_option maxRecDepth 100000 in
theorem cb_X8_selfish_24 : ci_ok yX8_selfish cX8_selfish 3 24 (ci_push (.int (-1)) 25) := cr_iconst2 (n := -1) (dq_2 (by decide +kernel)) (by decide +kernel) rfl
set_option maxRecDepth 100000 in
theorem cd_X8_selfish_25 : decode cX8_selfish 25 = .ok (zi_rop (some .int), 1) := (dq_172 (by decide +kernel))
set_option maxRecDepth 100000 in
theorem cb_X8_selfish_26 : ci_ok yX8_selfish cX8_selfish 3 26 (ci_load 2 0 27) := cr_aload_n (k := 0) (dq_42 (by decide +kernel)) rfl rfl
set_option maxRecDepth 100000 in
theorem cl_X8_selfish_27 : ci_calls yX8_selfish cX8_selfish 3 27 yX8_lookAhead 1 (some 8) := cr_callV (idx := 208) zl_968 ⟨by decide, by decide⟩ hp_X8_lookAhead zc_8 zl_348 zl_349 (Or.inl zl_347) (dq_182 (a := 0) (b := 208) (by decide +kernel) rfl)
set_option maxRecDepth 100000 in
theorem cb_X8_selfish_30 : ci_ok yX8_selfish cX8_selfish 3 30 (ci_seq (ci_load 2 0 31) 31 (ci_seq (ci_getf 8 5 34) 34 (ci_seq (ci_load 2 0 35) 35 (ci_seq (ci_getf 8 1 38) 38 (ci_seq (ci_push (.int 0) 39) 39 (ci_push (.int 0) 40)))))) := cq_ok (cr_aload_n (k := 0) (dq_42 (by decide +kernel)) rfl rfl) (cq_ok (cr_getf (idx := 41) zc_8 (by decide) zl_269 (dq_180 (a := 0) (b := 41) (by decide +kernel) rfl) rfl) (cq_ok (cr_aload_n (k := 0) (dq_42 (by decide +kernel)) rfl rfl) (cq_ok (cr_getf (idx := 21) zc_8 (by decide) zl_241 (dq_180 (a := 0) (b := 21) (by decide +kernel) rfl) rfl) (cq_ok (cr_iconst2 (n := 0) (dq_3 (by decide +kernel)) (by decide +kernel) rfl) (cr_iconst2 (n := 0) (dq_3 (by decide +kernel)) (by decide +kernel) rfl)))))
set_option maxRecDepth 100000 in
theorem cl_X8_selfish_40 : ci_calls yX8_selfish cX8_selfish 3 40 yX4_chosen 4 (some 4) := cr_callV (idx := 238) zl_916 ⟨by decide, by decide⟩ hp_X4_chosen zc_4 zl_194 zl_195 (Or.inr ⟨_, zl_361⟩) (dq_182 (a := 0) (b := 238) (by decide +kernel) rfl)
set_option maxRecDepth 100000 in
theorem cb_X8_selfish_43 : ci_ok yX8_selfish cX8_selfish 3 43 (ci_seq (ci_store 0 2 44) 44 (ci_seq (ci_load 0 1 45) 45 (ci_if (fun x => !decide (x = 0)) 60 48))) := cq_ok (cr_istore_n (k := 2) (dq_61 (by decide +kernel)) rfl (by decide) rfl) (cq_ok (cr_iload_n (k := 1) (dq_27 (by decide +kernel)) rfl rfl) (cr_if_ne (off := 15) (dq_154 (a := 0) (b := 15) (by decide +kernel) rfl) (by decide) rfl))
set_option maxRecDepth 100000 in
theorem cb_X8_selfish_48 : ci_ok yX8_selfish cX8_selfish 3 48 (ci_seq (ci_load 2 0 49) 49 (ci_seq (ci_getf 8 5 52) 52 (ci_seq (ci_getf 4 3 55) 55 (ci_seq (ci_load 0 2 56) 56 (ci_seq (ci_ald .int 57) 57 (ci_go 80)))))) := cq_ok (cr_aload_n (k := 0) (dq_42 (by decide +kernel)) rfl rfl) (cq_ok (cr_getf (idx := 41) zc_8 (by decide) zl_269 (dq_180 (a := 0) (b := 41) (by decide +kernel) rfl) rfl) (cq_ok (cr_getf (idx := 214) zc_4 (by decide) zl_356 (dq_180 (a := 0) (b := 214) (by decide +kernel) rfl) rfl) (cq_ok (cr_iload_n (k := 2) (dq_28 (by decide +kernel)) rfl rfl) (cq_ok (cr_ald (ins := .iaload) rfl (dq_46 (by decide +kernel)) (Or.inl ⟨rfl, rfl⟩)) (cr_goto (off := 23) (dq_167 (a := 0) (b := 23) (by decide +kernel) rfl) (by decide))))))
set_option maxRecDepth 100000 in
theorem cb_X8_selfish_60 : ci_ok yX8_selfish cX8_selfish 3 60 (ci_seq (ci_load 2 0 61) 61 (ci_seq (ci_getf 8 1 64) 64 (ci_seq (ci_load 0 1 65) 65 (ci_seq (ci_push (.int 10) 67) 67 (ci_seq (ci_bin (fun a b => a - b) 68) 68 (ci_seq (ci_load 2 0 69) 69 (ci_seq (ci_getf 8 5 72) 72 (ci_seq (ci_getf 4 4 75) 75 (ci_seq (ci_load 0 2 76) 76 (ci_ald .int 77)))))))))) := cq_ok (cr_aload_n (k := 0) (dq_42 (by decide +kernel)) rfl rfl) (cq_ok (cr_getf (idx := 21) zc_8 (by decide) zl_241 (dq_180 (a := 0) (b := 21) (by decide +kernel) rfl) rfl) (cq_ok (cr_iload_n (k := 1) (dq_27 (by decide +kernel)) rfl rfl) (cq_ok (cr_bipush (n := 10) (dq_16 (a := 10) (by decide +kernel) rfl) (by decide +kernel) rfl) (cq_ok (cr_isub (dq_100 (by decide +kernel)) rfl) (cq_ok (cr_aload_n (k := 0) (dq_42 (by decide +kernel)) rfl rfl) (cq_ok (cr_getf (idx := 41) zc_8 (by decide) zl_269 (dq_180 (a := 0) (b := 41) (by decide +kernel) rfl) rfl) (cq_ok (cr_getf (idx := 224) zc_4 (by decide) zl_352 (dq_180 (a := 0) (b := 224) (by decide +kernel) rfl) rfl) (cq_ok (cr_iload_n (k := 2) (dq_28 (by decide +kernel)) rfl rfl) (cr_ald (ins := .iaload) rfl (dq_46 (by decide +kernel)) (Or.inl ⟨rfl, rfl⟩))))))))))
set_option maxRecDepth 100000 in
theorem cl_X8_selfish_77 : ci_calls yX8_selfish cX8_selfish 3 77 yX7_gain 3 (some 7) := cr_callV (idx := 161) zl_939 ⟨by decide, by decide⟩ hp_X7_gain zc_7 zl_187 zl_188 (Or.inl zl_321) (dq_182 (a := 0) (b := 161) (by decide +kernel) rfl)
set_option maxRecDepth 100000 in
theorem cd_X8_selfish_80 : decode cX8_selfish 80 = .ok (zi_rop (some .int), 1) := (dq_172 (by decide +kernel))
set_option maxRecDepth 100000 in
theorem cb_X8_rests_0 : ci_ok yX8_rests cX8_rests 4 0 (ci_seq (ci_load 0 1 1) 1 (ci_if (fun x => decide (x < 0)) 9 4)) := cq_ok (cr_iload_n (k := 1) (dq_27 (by decide +kernel)) rfl rfl) (cr_if_lt (off := 8) (dq_155 (a := 0) (b := 8) (by decide +kernel) rfl) (by decide) rfl)
set_option maxRecDepth 100000 in
theorem cb_X8_rests_4 : ci_ok yX8_rests cX8_rests 4 4 (ci_seq (ci_load 0 1 5) 5 (ci_seq (ci_push (.int 1) 6) 6 (ci_ic (fun x y => decide (x ≤ y)) 11 9))) := cq_ok (cr_iload_n (k := 1) (dq_27 (by decide +kernel)) rfl rfl) (cq_ok (cr_iconst2 (n := 1) (dq_4 (by decide +kernel)) (by decide +kernel) rfl) (cr_ic_le (off := 5) (dq_164 (a := 0) (b := 5) (by decide +kernel) rfl) (by decide) rfl))
set_option maxRecDepth 100000 in
theorem cb_X8_rests_9 : ci_ok yX8_rests cX8_rests 4 9 (ci_push (.int (-1)) 10) := cr_iconst2 (n := -1) (dq_2 (by decide +kernel)) (by decide +kernel) rfl
set_option maxRecDepth 100000 in
theorem cd_X8_rests_10 : decode cX8_rests 10 = .ok (zi_rop (some .int), 1) := (dq_172 (by decide +kernel))
set_option maxRecDepth 100000 in
theorem cb_X8_rests_11 : ci_ok yX8_rests cX8_rests 4 11 (ci_load 2 0 12) := cr_aload_n (k := 0) (dq_42 (by decide +kernel)) rfl rfl
set_option maxRecDepth 100000 in
theorem cl_X8_rests_12 : ci_calls yX8_rests cX8_rests 4 12 yX8_lookAhead 1 (some 8) := cr_callV (idx := 208) zl_968 ⟨by decide, by decide⟩ hp_X8_lookAhead zc_8 zl_348 zl_349 (Or.inl zl_347) (dq_182 (a := 0) (b := 208) (by decide +kernel) rfl)
set_option maxRecDepth 100000 in
theorem cb_X8_rests_15 : ci_ok yX8_rests cX8_rests 4 15 (ci_seq (ci_push (.int 0) 16) 16 (ci_seq (ci_store 0 2 17) 17 (ci_seq (ci_push (.int 0) 18) 18 (ci_store 0 3 19)))) := cq_ok (cr_iconst2 (n := 0) (dq_3 (by decide +kernel)) (by decide +kernel) rfl) (cq_ok (cr_istore_n (k := 2) (dq_61 (by decide +kernel)) rfl (by decide) rfl) (cq_ok (cr_iconst2 (n := 0) (dq_3 (by decide +kernel)) (by decide +kernel) rfl) (cr_istore_n (k := 3) (dq_62 (by decide +kernel)) rfl (by decide) rfl)))
set_option maxRecDepth 100000 in
theorem cb_X8_rests_19 : ci_ok yX8_rests cX8_rests 4 19 (ci_seq (ci_load 0 3 20) 20 (ci_seq (ci_load 2 0 21) 21 (ci_seq (ci_getf 8 5 24) 24 (ci_seq (ci_getf 4 5 27) 27 (ci_ic (fun x y => decide (y ≤ x)) 69 30))))) := cq_ok (cr_iload_n (k := 3) (dq_29 (by decide +kernel)) rfl rfl) (cq_ok (cr_aload_n (k := 0) (dq_42 (by decide +kernel)) rfl rfl) (cq_ok (cr_getf (idx := 41) zc_8 (by decide) zl_269 (dq_180 (a := 0) (b := 41) (by decide +kernel) rfl) rfl) (cq_ok (cr_getf (idx := 211) zc_4 (by decide) zl_350 (dq_180 (a := 0) (b := 211) (by decide +kernel) rfl) rfl) (cr_ic_ge (off := 42) (dq_162 (a := 0) (b := 42) (by decide +kernel) rfl) (by decide) rfl))))
set_option maxRecDepth 100000 in
theorem cb_X8_rests_30 : ci_ok yX8_rests cX8_rests 4 30 (ci_seq (ci_load 2 0 31) 31 (ci_seq (ci_getf 8 5 34) 34 (ci_seq (ci_load 2 0 35) 35 (ci_seq (ci_getf 8 1 38) 38 (ci_load 0 3 39))))) := cq_ok (cr_aload_n (k := 0) (dq_42 (by decide +kernel)) rfl rfl) (cq_ok (cr_getf (idx := 41) zc_8 (by decide) zl_269 (dq_180 (a := 0) (b := 41) (by decide +kernel) rfl) rfl) (cq_ok (cr_aload_n (k := 0) (dq_42 (by decide +kernel)) rfl rfl) (cq_ok (cr_getf (idx := 21) zc_8 (by decide) zl_241 (dq_180 (a := 0) (b := 21) (by decide +kernel) rfl) rfl) (cr_iload_n (k := 3) (dq_29 (by decide +kernel)) rfl rfl))))
set_option maxRecDepth 100000 in
theorem cl_X8_rests_39 : ci_calls yX8_rests cX8_rests 4 39 yX4_breakers 3 (some 4) := cr_callV (idx := 242) zl_914 ⟨by decide, by decide⟩ hp_X4_breakers zc_4 zl_363 zl_364 (Or.inl zl_362) (dq_182 (a := 0) (b := 242) (by decide +kernel) rfl)
set_option maxRecDepth 100000 in
theorem cb_X8_rests_42 : ci_ok yX8_rests cX8_rests 4 42 (ci_if (fun x => !decide (x = 0)) 63 45) := cr_if_ne (off := 21) (dq_154 (a := 0) (b := 21) (by decide +kernel) rfl) (by decide) rfl
set_option maxRecDepth 100000 in
theorem cb_X8_rests_45 : ci_ok yX8_rests cX8_rests 4 45 (ci_seq (ci_load 0 1 46) 46 (ci_seq (ci_push (.int 1) 47) 47 (ci_ic (fun x y => !decide (x = y)) 60 50))) := cq_ok (cr_iload_n (k := 1) (dq_27 (by decide +kernel)) rfl rfl) (cq_ok (cr_iconst2 (n := 1) (dq_4 (by decide +kernel)) (by decide +kernel) rfl) (cr_ic_ne (off := 13) (dq_160 (a := 0) (b := 13) (by decide +kernel) rfl) (by decide) rfl))
set_option maxRecDepth 100000 in
theorem cb_X8_rests_50 : ci_ok yX8_rests cX8_rests 4 50 (ci_seq (ci_load 2 0 51) 51 (ci_seq (ci_getf 8 5 54) 54 (ci_seq (ci_getf 4 3 57) 57 (ci_seq (ci_load 0 3 58) 58 (ci_ald .int 59))))) := cq_ok (cr_aload_n (k := 0) (dq_42 (by decide +kernel)) rfl rfl) (cq_ok (cr_getf (idx := 41) zc_8 (by decide) zl_269 (dq_180 (a := 0) (b := 41) (by decide +kernel) rfl) rfl) (cq_ok (cr_getf (idx := 214) zc_4 (by decide) zl_356 (dq_180 (a := 0) (b := 214) (by decide +kernel) rfl) rfl) (cq_ok (cr_iload_n (k := 3) (dq_29 (by decide +kernel)) rfl rfl) (cr_ald (ins := .iaload) rfl (dq_46 (by decide +kernel)) (Or.inl ⟨rfl, rfl⟩)))))
set_option maxRecDepth 100000 in
theorem cd_X8_rests_59 : decode cX8_rests 59 = .ok (zi_rop (some .int), 1) := (dq_172 (by decide +kernel))
set_option maxRecDepth 100000 in
theorem cb_X8_rests_60 : ci_ok yX8_rests cX8_rests 4 60 (ci_inc 2 1 63) := ci_inc_ok (by decide) (dq_132 (a := 2) (b := 1) (by decide +kernel) rfl) rfl
set_option maxRecDepth 100000 in
theorem cb_X8_rests_63 : ci_ok yX8_rests cX8_rests 4 63 (ci_seq (ci_inc 3 1 66) 66 (ci_go 19)) := cq_ok (ci_inc_ok (by decide) (dq_132 (a := 3) (b := 1) (by decide +kernel) rfl) rfl) (cr_goto (off := -47) (dq_167 (a := 255) (b := 209) (by decide +kernel) rfl) (by decide))
set_option maxRecDepth 100000 in
theorem cb_X8_rests_69 : ci_ok yX8_rests cX8_rests 4 69 (ci_seq (ci_load 0 1 70) 70 (ci_if (fun x => !decide (x = 0)) 77 73)) := cq_ok (cr_iload_n (k := 1) (dq_27 (by decide +kernel)) rfl rfl) (cr_if_ne (off := 7) (dq_154 (a := 0) (b := 7) (by decide +kernel) rfl) (by decide) rfl)
set_option maxRecDepth 100000 in
theorem cb_X8_rests_73 : ci_ok yX8_rests cX8_rests 4 73 (ci_seq (ci_load 0 2 74) 74 (ci_go 79)) := cq_ok (cr_iload_n (k := 2) (dq_28 (by decide +kernel)) rfl rfl) (cr_goto (off := 5) (dq_167 (a := 0) (b := 5) (by decide +kernel) rfl) (by decide))
set_option maxRecDepth 100000 in
theorem cb_X8_rests_77 : ci_ok yX8_rests cX8_rests 4 77 (ci_push (.int (-4)) 79) := cr_bipush (n := -4) (dq_16 (a := 252) (by decide +kernel) rfl) (by decide +kernel) rfl
set_option maxRecDepth 100000 in
theorem cd_X8_rests_79 : decode cX8_rests 79 = .ok (zi_rop (some .int), 1) := (dq_172 (by decide +kernel))
set_option maxRecDepth 100000 in
theorem cb_X8_breaks_0 : ci_ok yX8_breaks cX8_breaks 3 0 (ci_load 0 1 1) := cr_iload_n (k := 1) (dq_27 (by decide +kernel)) rfl rfl
set_option maxRecDepth 100000 in
theorem cl_X8_breaks_1 : ci_calls yX8_breaks cX8_breaks 3 1 yX8_isNumber 1 none := cr_callS (idx := 186) zl_962 zl_659 ⟨by decide, by decide⟩ hp_X8_isNumber zl_334 (Or.inl zl_333) (dq_184 (a := 0) (b := 186) (by decide +kernel) rfl)
set_option maxRecDepth 100000 in
theorem cb_X8_breaks_4 : ci_ok yX8_breaks cX8_breaks 3 4 (ci_if (fun x => !decide (x = 0)) 9 7) := cr_if_ne (off := 5) (dq_154 (a := 0) (b := 5) (by decide +kernel) rfl) (by decide) rfl
set_option maxRecDepth 100000 in
theorem cb_X8_breaks_7 : ci_ok yX8_breaks cX8_breaks 3 7 (ci_push (.int (-1)) 8) := cr_iconst2 (n := -1) (dq_2 (by decide +kernel)) (by decide +kernel) rfl
set_option maxRecDepth 100000 in
theorem cd_X8_breaks_8 : decode cX8_breaks 8 = .ok (zi_rop (some .int), 1) := (dq_172 (by decide +kernel))
set_option maxRecDepth 100000 in
theorem cb_X8_breaks_9 : ci_ok yX8_breaks cX8_breaks 3 9 (ci_load 2 0 10) := cr_aload_n (k := 0) (dq_42 (by decide +kernel)) rfl rfl
set_option maxRecDepth 100000 in
theorem cl_X8_breaks_10 : ci_calls yX8_breaks cX8_breaks 3 10 yX8_lookAhead 1 (some 8) := cr_callV (idx := 208) zl_968 ⟨by decide, by decide⟩ hp_X8_lookAhead zc_8 zl_348 zl_349 (Or.inl zl_347) (dq_182 (a := 0) (b := 208) (by decide +kernel) rfl)
set_option maxRecDepth 100000 in
theorem cb_X8_breaks_13 : ci_ok yX8_breaks cX8_breaks 3 13 (ci_seq (ci_load 2 0 14) 14 (ci_seq (ci_getf 8 5 17) 17 (ci_load 0 1 18))) := cq_ok (cr_aload_n (k := 0) (dq_42 (by decide +kernel)) rfl rfl) (cq_ok (cr_getf (idx := 41) zc_8 (by decide) zl_269 (dq_180 (a := 0) (b := 41) (by decide +kernel) rfl) rfl) (cr_iload_n (k := 1) (dq_27 (by decide +kernel)) rfl rfl))
set_option maxRecDepth 100000 in
theorem cl_X8_breaks_18 : ci_calls yX8_breaks cX8_breaks 3 18 yX4_indexOf 2 (some 4) := cr_callV (idx := 246) zl_913 ⟨by decide, by decide⟩ hp_X4_indexOf zc_4 zl_366 zl_367 (Or.inl zl_365) (dq_182 (a := 0) (b := 246) (by decide +kernel) rfl)
set_option maxRecDepth 100000 in
theorem cb_X8_breaks_21 : ci_ok yX8_breaks cX8_breaks 3 21 (ci_seq (ci_store 0 2 22) 22 (ci_seq (ci_load 0 2 23) 23 (ci_if (fun x => decide (0 ≤ x)) 31 26))) := cq_ok (cr_istore_n (k := 2) (dq_61 (by decide +kernel)) rfl (by decide) rfl) (cq_ok (cr_iload_n (k := 2) (dq_28 (by decide +kernel)) rfl rfl) (cr_if_ge (off := 8) (dq_156 (a := 0) (b := 8) (by decide +kernel) rfl) (by decide) rfl))
set_option maxRecDepth 100000 in
theorem cb_X8_breaks_26 : ci_ok yX8_breaks cX8_breaks 3 26 (ci_seq (ci_push (.int (-2)) 28) 28 (ci_go 43)) := cq_ok (cr_bipush (n := -2) (dq_16 (a := 254) (by decide +kernel) rfl) (by decide +kernel) rfl) (cr_goto (off := 15) (dq_167 (a := 0) (b := 15) (by decide +kernel) rfl) (by decide))
set_option maxRecDepth 100000 in
theorem cb_X8_breaks_31 : ci_ok yX8_breaks cX8_breaks 3 31 (ci_seq (ci_load 2 0 32) 32 (ci_seq (ci_getf 8 5 35) 35 (ci_seq (ci_load 2 0 36) 36 (ci_seq (ci_getf 8 1 39) 39 (ci_load 0 2 40))))) := cq_ok (cr_aload_n (k := 0) (dq_42 (by decide +kernel)) rfl rfl) (cq_ok (cr_getf (idx := 41) zc_8 (by decide) zl_269 (dq_180 (a := 0) (b := 41) (by decide +kernel) rfl) rfl) (cq_ok (cr_aload_n (k := 0) (dq_42 (by decide +kernel)) rfl rfl) (cq_ok (cr_getf (idx := 21) zc_8 (by decide) zl_241 (dq_180 (a := 0) (b := 21) (by decide +kernel) rfl) rfl) (cr_iload_n (k := 2) (dq_28 (by decide +kernel)) rfl rfl))))
set_option maxRecDepth 100000 in
theorem cl_X8_breaks_40 : ci_calls yX8_breaks cX8_breaks 3 40 yX4_breakers 3 (some 4) := cr_callV (idx := 242) zl_914 ⟨by decide, by decide⟩ hp_X4_breakers zc_4 zl_363 zl_364 (Or.inl zl_362) (dq_182 (a := 0) (b := 242) (by decide +kernel) rfl)
set_option maxRecDepth 100000 in
theorem cd_X8_breaks_43 : decode cX8_breaks 43 = .ok (zi_rop (some .int), 1) := (dq_172 (by decide +kernel))
set_option maxRecDepth 100000 in
theorem cb_X8_stands_0 : ci_ok yX8_stands cX8_stands 3 0 (ci_seq (ci_load 2 0 1) 1 (ci_seq (ci_getf 8 0 4) 4 (ci_load 0 1 5))) := cq_ok (cr_aload_n (k := 0) (dq_42 (by decide +kernel)) rfl rfl) (cq_ok (cr_getf (idx := 10) zc_8 (by decide) zl_242 (dq_180 (a := 0) (b := 10) (by decide +kernel) rfl) rfl) (cr_iload_n (k := 1) (dq_27 (by decide +kernel)) rfl rfl))
set_option maxRecDepth 100000 in
theorem cl_X8_stands_5 : ci_calls yX8_stands cX8_stands 3 5 yX3_hasCell 2 (some 3) := cr_callV (idx := 138) zl_905 ⟨by decide, by decide⟩ hp_X3_hasCell zc_3 zl_312 zl_313 (Or.inl zl_311) (dq_182 (a := 0) (b := 138) (by decide +kernel) rfl)
set_option maxRecDepth 100000 in
theorem cb_X8_stands_8 : ci_ok yX8_stands cX8_stands 3 8 (ci_if (fun x => !decide (x = 0)) 13 11) := cr_if_ne (off := 5) (dq_154 (a := 0) (b := 5) (by decide +kernel) rfl) (by decide) rfl
set_option maxRecDepth 100000 in
theorem cb_X8_stands_11 : ci_ok yX8_stands cX8_stands 3 11 (ci_push (.int (-1)) 12) := cr_iconst2 (n := -1) (dq_2 (by decide +kernel)) (by decide +kernel) rfl
set_option maxRecDepth 100000 in
theorem cd_X8_stands_12 : decode cX8_stands 12 = .ok (zi_rop (some .int), 1) := (dq_172 (by decide +kernel))
set_option maxRecDepth 100000 in
theorem cb_X8_stands_13 : ci_ok yX8_stands cX8_stands 3 13 (ci_seq (ci_load 2 0 14) 14 (ci_seq (ci_getf 8 1 17) 17 (ci_seq (ci_getf 7 0 20) 20 (ci_seq (ci_getf 2 4 23) 23 (ci_load 0 1 24))))) := cq_ok (cr_aload_n (k := 0) (dq_42 (by decide +kernel)) rfl rfl) (cq_ok (cr_getf (idx := 21) zc_8 (by decide) zl_241 (dq_180 (a := 0) (b := 21) (by decide +kernel) rfl) rfl) (cq_ok (cr_getf (idx := 120) zc_7 (by decide) zl_306 (dq_180 (a := 0) (b := 120) (by decide +kernel) rfl) rfl) (cq_ok (cr_getf (idx := 158) zc_2 (by decide) zl_322 (dq_180 (a := 0) (b := 158) (by decide +kernel) rfl) rfl) (cr_iload_n (k := 1) (dq_27 (by decide +kernel)) rfl rfl))))
set_option maxRecDepth 100000 in
theorem cl_X8_stands_24 : ci_calls yX8_stands cX8_stands 3 24 yX8_has 2 none := cr_callS (idx := 227) zl_965 zl_659 ⟨by decide, by decide⟩ hp_X8_has zl_17 (Or.inl zl_351) (dq_184 (a := 0) (b := 227) (by decide +kernel) rfl)
set_option maxRecDepth 100000 in
theorem cb_X8_stands_27 : ci_ok yX8_stands cX8_stands 3 27 (ci_if (fun x => !decide (x = 0)) 33 30) := cr_if_ne (off := 6) (dq_154 (a := 0) (b := 6) (by decide +kernel) rfl) (by decide) rfl
set_option maxRecDepth 100000 in
theorem cb_X8_stands_30 : ci_ok yX8_stands cX8_stands 3 30 (ci_push (.int (-2)) 32) := cr_bipush (n := -2) (dq_16 (a := 254) (by decide +kernel) rfl) (by decide +kernel) rfl
set_option maxRecDepth 100000 in
theorem cd_X8_stands_32 : decode cX8_stands 32 = .ok (zi_rop (some .int), 1) := (dq_172 (by decide +kernel))
set_option maxRecDepth 100000 in
theorem cb_X8_stands_33 : ci_ok yX8_stands cX8_stands 3 33 (ci_seq (ci_load 2 0 34) 34 (ci_seq (ci_getf 8 4 37) 37 (ci_seq (ci_load 2 0 38) 38 (ci_seq (ci_getf 8 1 41) 41 (ci_getf 7 0 44))))) := cq_ok (cr_aload_n (k := 0) (dq_42 (by decide +kernel)) rfl rfl) (cq_ok (cr_getf (idx := 34) zc_8 (by decide) zl_275 (dq_180 (a := 0) (b := 34) (by decide +kernel) rfl) rfl) (cq_ok (cr_aload_n (k := 0) (dq_42 (by decide +kernel)) rfl rfl) (cq_ok (cr_getf (idx := 21) zc_8 (by decide) zl_241 (dq_180 (a := 0) (b := 21) (by decide +kernel) rfl) rfl) (cr_getf (idx := 120) zc_7 (by decide) zl_306 (dq_180 (a := 0) (b := 120) (by decide +kernel) rfl) rfl))))
set_option maxRecDepth 100000 in
theorem cl_X8_stands_44 : ci_calls yX8_stands cX8_stands 3 44 yX2_copy 2 (some 2) := cr_callV (idx := 192) zl_895 ⟨by decide, by decide⟩ hp_X2_copy zc_2 zl_11 zl_12 (Or.inl zl_338) (dq_182 (a := 0) (b := 192) (by decide +kernel) rfl)
set_option maxRecDepth 100000 in
theorem cb_X8_stands_47 : ci_ok yX8_stands cX8_stands 3 47 (ci_seq (ci_push (.int 0) 48) 48 (ci_store 0 2 49)) := cq_ok (cr_iconst2 (n := 0) (dq_3 (by decide +kernel)) (by decide +kernel) rfl) (cr_istore_n (k := 2) (dq_61 (by decide +kernel)) rfl (by decide) rfl)
set_option maxRecDepth 100000 in
theorem cb_X8_stands_49 : ci_ok yX8_stands cX8_stands 3 49 (ci_seq (ci_load 0 2 50) 50 (ci_seq (ci_push (.int 20) 52) 52 (ci_ic (fun x y => decide (y ≤ x)) 85 55))) := cq_ok (cr_iload_n (k := 2) (dq_28 (by decide +kernel)) rfl rfl) (cq_ok (cr_bipush (n := 20) (dq_16 (a := 20) (by decide +kernel) rfl) (by decide +kernel) rfl) (cr_ic_ge (off := 33) (dq_162 (a := 0) (b := 33) (by decide +kernel) rfl) (by decide) rfl))
set_option maxRecDepth 100000 in
theorem cb_X8_stands_55 : ci_ok yX8_stands cX8_stands 3 55 (ci_seq (ci_load 2 0 56) 56 (ci_seq (ci_getf 8 4 59) 59 (ci_push (.int 0) 60))) := cq_ok (cr_aload_n (k := 0) (dq_42 (by decide +kernel)) rfl rfl) (cq_ok (cr_getf (idx := 34) zc_8 (by decide) zl_275 (dq_180 (a := 0) (b := 34) (by decide +kernel) rfl) rfl) (cr_iconst2 (n := 0) (dq_3 (by decide +kernel)) (by decide +kernel) rfl))
set_option maxRecDepth 100000 in
theorem cl_X8_stands_60 : ci_calls yX8_stands cX8_stands 3 60 yX2_pass 2 (some 2) := cr_callV (idx := 182) zl_902 ⟨by decide, by decide⟩ hp_X2_pass zc_2 zl_23 zl_24 (Or.inl zl_332) (dq_182 (a := 0) (b := 182) (by decide +kernel) rfl)
set_option maxRecDepth 100000 in
theorem cb_X8_stands_63 : ci_ok yX8_stands cX8_stands 3 63 (ci_seq (ci_load 2 0 64) 64 (ci_seq (ci_getf 8 4 67) 67 (ci_seq (ci_getf 2 4 70) 70 (ci_load 0 1 71)))) := cq_ok (cr_aload_n (k := 0) (dq_42 (by decide +kernel)) rfl rfl) (cq_ok (cr_getf (idx := 34) zc_8 (by decide) zl_275 (dq_180 (a := 0) (b := 34) (by decide +kernel) rfl) rfl) (cq_ok (cr_getf (idx := 158) zc_2 (by decide) zl_322 (dq_180 (a := 0) (b := 158) (by decide +kernel) rfl) rfl) (cr_iload_n (k := 1) (dq_27 (by decide +kernel)) rfl rfl)))
set_option maxRecDepth 100000 in
theorem cl_X8_stands_71 : ci_calls yX8_stands cX8_stands 3 71 yX8_has 2 none := cr_callS (idx := 227) zl_965 zl_659 ⟨by decide, by decide⟩ hp_X8_has zl_17 (Or.inl zl_351) (dq_184 (a := 0) (b := 227) (by decide +kernel) rfl)
set_option maxRecDepth 100000 in
theorem cb_X8_stands_74 : ci_ok yX8_stands cX8_stands 3 74 (ci_if (fun x => !decide (x = 0)) 79 77) := cr_if_ne (off := 5) (dq_154 (a := 0) (b := 5) (by decide +kernel) rfl) (by decide) rfl
set_option maxRecDepth 100000 in
theorem cb_X8_stands_77 : ci_ok yX8_stands cX8_stands 3 77 (ci_load 0 2 78) := cr_iload_n (k := 2) (dq_28 (by decide +kernel)) rfl rfl
set_option maxRecDepth 100000 in
theorem cd_X8_stands_78 : decode cX8_stands 78 = .ok (zi_rop (some .int), 1) := (dq_172 (by decide +kernel))
set_option maxRecDepth 100000 in
theorem cb_X8_stands_79 : ci_ok yX8_stands cX8_stands 3 79 (ci_seq (ci_inc 2 1 82) 82 (ci_go 49)) := cq_ok (ci_inc_ok (by decide) (dq_132 (a := 2) (b := 1) (by decide +kernel) rfl) rfl) (cr_goto (off := -33) (dq_167 (a := 255) (b := 223) (by decide +kernel) rfl) (by decide))
set_option maxRecDepth 100000 in
theorem cb_X8_stands_85 : ci_ok yX8_stands cX8_stands 3 85 (ci_push (.int 20) 87) := cr_bipush (n := 20) (dq_16 (a := 20) (by decide +kernel) rfl) (by decide +kernel) rfl
set_option maxRecDepth 100000 in
theorem cd_X8_stands_87 : decode cX8_stands 87 = .ok (zi_rop (some .int), 1) := (dq_172 (by decide +kernel))
set_option maxRecDepth 100000 in
theorem cb_X8_again_0 : ci_ok yX8_again cX8_again 4 0 (ci_seq (ci_load 0 1 1) 1 (ci_if (fun x => decide (x < 0)) 9 4)) := cq_ok (cr_iload_n (k := 1) (dq_27 (by decide +kernel)) rfl rfl) (cr_if_lt (off := 8) (dq_155 (a := 0) (b := 8) (by decide +kernel) rfl) (by decide) rfl)
set_option maxRecDepth 100000 in
theorem cb_X8_again_4 : ci_ok yX8_again cX8_again 4 4 (ci_seq (ci_load 0 1 5) 5 (ci_seq (ci_push (.int 1) 6) 6 (ci_ic (fun x y => decide (x ≤ y)) 11 9))) := cq_ok (cr_iload_n (k := 1) (dq_27 (by decide +kernel)) rfl rfl) (cq_ok (cr_iconst2 (n := 1) (dq_4 (by decide +kernel)) (by decide +kernel) rfl) (cr_ic_le (off := 5) (dq_164 (a := 0) (b := 5) (by decide +kernel) rfl) (by decide) rfl))
set_option maxRecDepth 100000 in
theorem cb_X8_again_9 : ci_ok yX8_again cX8_again 4 9 (ci_push (.int (-1)) 10) := cr_iconst2 (n := -1) (dq_2 (by decide +kernel)) (by decide +kernel) rfl
set_option maxRecDepth 100000 in
theorem cd_X8_again_10 : decode cX8_again 10 = .ok (zi_rop (some .int), 1) := (dq_172 (by decide +kernel))
set_option maxRecDepth 100000 in
theorem cb_X8_again_11 : ci_ok yX8_again cX8_again 4 11 (ci_seq (ci_load 2 0 12) 12 (ci_seq (ci_getf 8 4 15) 15 (ci_seq (ci_load 2 0 16) 16 (ci_seq (ci_getf 8 1 19) 19 (ci_getf 7 0 22))))) := cq_ok (cr_aload_n (k := 0) (dq_42 (by decide +kernel)) rfl rfl) (cq_ok (cr_getf (idx := 34) zc_8 (by decide) zl_275 (dq_180 (a := 0) (b := 34) (by decide +kernel) rfl) rfl) (cq_ok (cr_aload_n (k := 0) (dq_42 (by decide +kernel)) rfl rfl) (cq_ok (cr_getf (idx := 21) zc_8 (by decide) zl_241 (dq_180 (a := 0) (b := 21) (by decide +kernel) rfl) rfl) (cr_getf (idx := 120) zc_7 (by decide) zl_306 (dq_180 (a := 0) (b := 120) (by decide +kernel) rfl) rfl))))
set_option maxRecDepth 100000 in
theorem cl_X8_again_22 : ci_calls yX8_again cX8_again 4 22 yX2_copy 2 (some 2) := cr_callV (idx := 192) zl_895 ⟨by decide, by decide⟩ hp_X2_copy zc_2 zl_11 zl_12 (Or.inl zl_338) (dq_182 (a := 0) (b := 192) (by decide +kernel) rfl)
set_option maxRecDepth 100000 in
theorem cb_X8_again_25 : ci_ok yX8_again cX8_again 4 25 (ci_seq (ci_load 2 0 26) 26 (ci_push (.int 0) 27)) := cq_ok (cr_aload_n (k := 0) (dq_42 (by decide +kernel)) rfl rfl) (cr_iconst2 (n := 0) (dq_3 (by decide +kernel)) (by decide +kernel) rfl)
set_option maxRecDepth 100000 in
theorem cl_X8_again_27 : ci_calls yX8_again cX8_again 4 27 yX8_note 2 (some 8) := cr_callV (idx := 249) zl_975 ⟨by decide, by decide⟩ hp_X8_note zc_8 zl_369 zl_370 (Or.inl zl_368) (dq_182 (a := 0) (b := 249) (by decide +kernel) rfl)
set_option maxRecDepth 100000 in
theorem cb_X8_again_30 : ci_ok yX8_again cX8_again 4 30 (ci_seq (ci_push (.int 1) 31) 31 (ci_store 0 2 32)) := cq_ok (cr_iconst2 (n := 1) (dq_4 (by decide +kernel)) (by decide +kernel) rfl) (cr_istore_n (k := 2) (dq_61 (by decide +kernel)) rfl (by decide) rfl)
set_option maxRecDepth 100000 in
theorem cb_X8_again_32 : ci_ok yX8_again cX8_again 4 32 (ci_seq (ci_load 0 2 33) 33 (ci_seq (ci_push (.int 60) 35) 35 (ci_ic (fun x y => decide (y < x)) 79 38))) := cq_ok (cr_iload_n (k := 2) (dq_28 (by decide +kernel)) rfl rfl) (cq_ok (cr_bipush (n := 60) (dq_16 (a := 60) (by decide +kernel) rfl) (by decide +kernel) rfl) (cr_ic_gt (off := 44) (dq_163 (a := 0) (b := 44) (by decide +kernel) rfl) (by decide) rfl))
set_option maxRecDepth 100000 in
theorem cb_X8_again_38 : ci_ok yX8_again cX8_again 4 38 (ci_seq (ci_load 2 0 39) 39 (ci_seq (ci_getf 8 4 42) 42 (ci_push (.int 0) 43))) := cq_ok (cr_aload_n (k := 0) (dq_42 (by decide +kernel)) rfl rfl) (cq_ok (cr_getf (idx := 34) zc_8 (by decide) zl_275 (dq_180 (a := 0) (b := 34) (by decide +kernel) rfl) rfl) (cr_iconst2 (n := 0) (dq_3 (by decide +kernel)) (by decide +kernel) rfl))
set_option maxRecDepth 100000 in
theorem cl_X8_again_43 : ci_calls yX8_again cX8_again 4 43 yX2_pass 2 (some 2) := cr_callV (idx := 182) zl_902 ⟨by decide, by decide⟩ hp_X2_pass zc_2 zl_23 zl_24 (Or.inl zl_332) (dq_182 (a := 0) (b := 182) (by decide +kernel) rfl)
set_option maxRecDepth 100000 in
theorem cb_X8_again_46 : ci_ok yX8_again cX8_again 4 46 (ci_seq (ci_load 2 0 47) 47 (ci_load 0 2 48)) := cq_ok (cr_aload_n (k := 0) (dq_42 (by decide +kernel)) rfl rfl) (cr_iload_n (k := 2) (dq_28 (by decide +kernel)) rfl rfl)
set_option maxRecDepth 100000 in
theorem cl_X8_again_48 : ci_calls yX8_again cX8_again 4 48 yX8_firstAlike 2 (some 8) := cr_callV (idx := 252) zl_976 ⟨by decide, by decide⟩ hp_X8_firstAlike zc_8 zl_372 zl_373 (Or.inl zl_371) (dq_182 (a := 0) (b := 252) (by decide +kernel) rfl)
set_option maxRecDepth 100000 in
theorem cb_X8_again_51 : ci_ok yX8_again cX8_again 4 51 (ci_seq (ci_store 0 3 52) 52 (ci_seq (ci_load 0 3 53) 53 (ci_if (fun x => decide (x < 0)) 68 56))) := cq_ok (cr_istore_n (k := 3) (dq_62 (by decide +kernel)) rfl (by decide) rfl) (cq_ok (cr_iload_n (k := 3) (dq_29 (by decide +kernel)) rfl rfl) (cr_if_lt (off := 15) (dq_155 (a := 0) (b := 15) (by decide +kernel) rfl) (by decide) rfl))
set_option maxRecDepth 100000 in
theorem cb_X8_again_56 : ci_ok yX8_again cX8_again 4 56 (ci_seq (ci_load 0 1 57) 57 (ci_if (fun x => !decide (x = 0)) 64 60)) := cq_ok (cr_iload_n (k := 1) (dq_27 (by decide +kernel)) rfl rfl) (cr_if_ne (off := 7) (dq_154 (a := 0) (b := 7) (by decide +kernel) rfl) (by decide) rfl)
set_option maxRecDepth 100000 in
theorem cb_X8_again_60 : ci_ok yX8_again cX8_again 4 60 (ci_seq (ci_load 0 3 61) 61 (ci_go 67)) := cq_ok (cr_iload_n (k := 3) (dq_29 (by decide +kernel)) rfl rfl) (cr_goto (off := 6) (dq_167 (a := 0) (b := 6) (by decide +kernel) rfl) (by decide))
set_option maxRecDepth 100000 in
theorem cb_X8_again_64 : ci_ok yX8_again cX8_again 4 64 (ci_seq (ci_load 0 2 65) 65 (ci_seq (ci_load 0 3 66) 66 (ci_bin (fun a b => a - b) 67))) := cq_ok (cr_iload_n (k := 2) (dq_28 (by decide +kernel)) rfl rfl) (cq_ok (cr_iload_n (k := 3) (dq_29 (by decide +kernel)) rfl rfl) (cr_isub (dq_100 (by decide +kernel)) rfl))
set_option maxRecDepth 100000 in
theorem cd_X8_again_67 : decode cX8_again 67 = .ok (zi_rop (some .int), 1) := (dq_172 (by decide +kernel))
set_option maxRecDepth 100000 in
theorem cb_X8_again_68 : ci_ok yX8_again cX8_again 4 68 (ci_seq (ci_load 2 0 69) 69 (ci_load 0 2 70)) := cq_ok (cr_aload_n (k := 0) (dq_42 (by decide +kernel)) rfl rfl) (cr_iload_n (k := 2) (dq_28 (by decide +kernel)) rfl rfl)
set_option maxRecDepth 100000 in
theorem cl_X8_again_70 : ci_calls yX8_again cX8_again 4 70 yX8_note 2 (some 8) := cr_callV (idx := 249) zl_975 ⟨by decide, by decide⟩ hp_X8_note zc_8 zl_369 zl_370 (Or.inl zl_368) (dq_182 (a := 0) (b := 249) (by decide +kernel) rfl)
set_option maxRecDepth 100000 in
theorem cb_X8_again_73 : ci_ok yX8_again cX8_again 4 73 (ci_seq (ci_inc 2 1 76) 76 (ci_go 32)) := cq_ok (ci_inc_ok (by decide) (dq_132 (a := 2) (b := 1) (by decide +kernel) rfl) rfl) (cr_goto (off := -44) (dq_167 (a := 255) (b := 212) (by decide +kernel) rfl) (by decide))
set_option maxRecDepth 100000 in
theorem cb_X8_again_79 : ci_ok yX8_again cX8_again 4 79 (ci_push (.int (-4)) 81) := cr_bipush (n := -4) (dq_16 (a := 252) (by decide +kernel) rfl) (by decide +kernel) rfl
set_option maxRecDepth 100000 in
theorem cd_X8_again_81 : decode cX8_again 81 = .ok (zi_rop (some .int), 1) := (dq_172 (by decide +kernel))
set_option maxRecDepth 100000 in
theorem cb_X8_note_0 : ci_ok yX8_note cX8_note 2 0 (ci_seq (ci_load 2 0 1) 1 (ci_seq (ci_getf 8 4 4) 4 (ci_seq (ci_getf 2 1 7) 7 (ci_seq (ci_push (.int 0) 8) 8 (ci_seq (ci_load 2 0 9) 9 (ci_seq (ci_getf 8 10 12) 12 (ci_seq (ci_load 0 1 13) 13 (ci_seq (ci_push (.int 25) 15) 15 (ci_seq (ci_bin (fun a b => a * b) 16) 16 (ci_seq (ci_push (.int 25) 18) 18 (ci_copy 21))))))))))) := cq_ok (cr_aload_n (k := 0) (dq_42 (by decide +kernel)) rfl rfl) (cq_ok (cr_getf (idx := 34) zc_8 (by decide) zl_275 (dq_180 (a := 0) (b := 34) (by decide +kernel) rfl) rfl) (cq_ok (cr_getf (idx := 142) zc_2 (by decide) zl_314 (dq_180 (a := 0) (b := 142) (by decide +kernel) rfl) rfl) (cq_ok (cr_iconst2 (n := 0) (dq_3 (by decide +kernel)) (by decide +kernel) rfl) (cq_ok (cr_aload_n (k := 0) (dq_42 (by decide +kernel)) rfl rfl) (cq_ok (cr_getf (idx := 75) zc_8 (by decide) zl_245 (dq_180 (a := 0) (b := 75) (by decide +kernel) rfl) rfl) (cq_ok (cr_iload_n (k := 1) (dq_27 (by decide +kernel)) rfl rfl) (cq_ok (cr_bipush (n := 25) (dq_16 (a := 25) (by decide +kernel) rfl) (by decide +kernel) rfl) (cq_ok (cr_imul (dq_104 (by decide +kernel)) rfl) (cq_ok (cr_bipush (n := 25) (dq_16 (a := 25) (by decide +kernel) rfl) (by decide +kernel) rfl) (cr_copy (idx := 255) zl_374 zl_116 zl_117 zl_118 (dq_184 (a := 0) (b := 255) (by decide +kernel) rfl) rfl))))))))))
set_option maxRecDepth 100000 in
theorem cd_X8_note_21 : decode cX8_note 21 = .ok (zi_rop none, 1) := (dq_177 (by decide +kernel))
set_option maxRecDepth 100000 in
theorem cb_X8_firstAlike_0 : ci_ok yX8_firstAlike cX8_firstAlike 3 0 (ci_seq (ci_push (.int 0) 1) 1 (ci_store 0 2 2)) := cq_ok (cr_iconst2 (n := 0) (dq_3 (by decide +kernel)) (by decide +kernel) rfl) (cr_istore_n (k := 2) (dq_61 (by decide +kernel)) rfl (by decide) rfl)
set_option maxRecDepth 100000 in
theorem cb_X8_firstAlike_2 : ci_ok yX8_firstAlike cX8_firstAlike 3 2 (ci_seq (ci_load 0 2 3) 3 (ci_seq (ci_load 0 1 4) 4 (ci_ic (fun x y => decide (y ≤ x)) 23 7))) := cq_ok (cr_iload_n (k := 2) (dq_28 (by decide +kernel)) rfl rfl) (cq_ok (cr_iload_n (k := 1) (dq_27 (by decide +kernel)) rfl rfl) (cr_ic_ge (off := 19) (dq_162 (a := 0) (b := 19) (by decide +kernel) rfl) (by decide) rfl))
set_option maxRecDepth 100000 in
theorem cb_X8_firstAlike_7 : ci_ok yX8_firstAlike cX8_firstAlike 3 7 (ci_seq (ci_load 2 0 8) 8 (ci_load 0 2 9)) := cq_ok (cr_aload_n (k := 0) (dq_42 (by decide +kernel)) rfl rfl) (cr_iload_n (k := 2) (dq_28 (by decide +kernel)) rfl rfl)
set_option maxRecDepth 100000 in
theorem cl_X8_firstAlike_9 : ci_calls yX8_firstAlike cX8_firstAlike 3 9 yX8_isAlike 2 (some 8) := cr_callV (idx := 261) zl_977 ⟨by decide, by decide⟩ hp_X8_isAlike zc_8 zl_376 zl_377 (Or.inl zl_375) (dq_182 (a := 1) (b := 5) (by decide +kernel) rfl)
set_option maxRecDepth 100000 in
theorem cb_X8_firstAlike_12 : ci_ok yX8_firstAlike cX8_firstAlike 3 12 (ci_if (fun x => decide (x = 0)) 17 15) := cr_if_eq (off := 5) (dq_153 (a := 0) (b := 5) (by decide +kernel) rfl) (by decide) rfl
set_option maxRecDepth 100000 in
theorem cb_X8_firstAlike_15 : ci_ok yX8_firstAlike cX8_firstAlike 3 15 (ci_load 0 2 16) := cr_iload_n (k := 2) (dq_28 (by decide +kernel)) rfl rfl
set_option maxRecDepth 100000 in
theorem cd_X8_firstAlike_16 : decode cX8_firstAlike 16 = .ok (zi_rop (some .int), 1) := (dq_172 (by decide +kernel))
set_option maxRecDepth 100000 in
theorem cb_X8_firstAlike_17 : ci_ok yX8_firstAlike cX8_firstAlike 3 17 (ci_seq (ci_inc 2 1 20) 20 (ci_go 2)) := cq_ok (ci_inc_ok (by decide) (dq_132 (a := 2) (b := 1) (by decide +kernel) rfl) rfl) (cr_goto (off := -18) (dq_167 (a := 255) (b := 238) (by decide +kernel) rfl) (by decide))
set_option maxRecDepth 100000 in
theorem cb_X8_firstAlike_23 : ci_ok yX8_firstAlike cX8_firstAlike 3 23 (ci_push (.int (-1)) 24) := cr_iconst2 (n := -1) (dq_2 (by decide +kernel)) (by decide +kernel) rfl
set_option maxRecDepth 100000 in
theorem cd_X8_firstAlike_24 : decode cX8_firstAlike 24 = .ok (zi_rop (some .int), 1) := (dq_172 (by decide +kernel))
set_option maxRecDepth 100000 in
theorem cb_X8_isAlike_0 : ci_ok yX8_isAlike cX8_isAlike 3 0 (ci_seq (ci_push (.int 0) 1) 1 (ci_store 0 2 2)) := cq_ok (cr_iconst2 (n := 0) (dq_3 (by decide +kernel)) (by decide +kernel) rfl) (cr_istore_n (k := 2) (dq_61 (by decide +kernel)) rfl (by decide) rfl)
set_option maxRecDepth 100000 in
theorem cb_X8_isAlike_2 : ci_ok yX8_isAlike cX8_isAlike 3 2 (ci_seq (ci_load 0 2 3) 3 (ci_seq (ci_push (.int 25) 5) 5 (ci_ic (fun x y => decide (y ≤ x)) 39 8))) := cq_ok (cr_iload_n (k := 2) (dq_28 (by decide +kernel)) rfl rfl) (cq_ok (cr_bipush (n := 25) (dq_16 (a := 25) (by decide +kernel) rfl) (by decide +kernel) rfl) (cr_ic_ge (off := 34) (dq_162 (a := 0) (b := 34) (by decide +kernel) rfl) (by decide) rfl))
set_option maxRecDepth 100000 in
theorem cb_X8_isAlike_8 : ci_ok yX8_isAlike cX8_isAlike 3 8 (ci_seq (ci_load 2 0 9) 9 (ci_seq (ci_getf 8 10 12) 12 (ci_seq (ci_load 0 1 13) 13 (ci_seq (ci_push (.int 25) 15) 15 (ci_seq (ci_bin (fun a b => a * b) 16) 16 (ci_seq (ci_load 0 2 17) 17 (ci_seq (ci_bin (fun a b => a + b) 18) 18 (ci_seq (ci_ald .int 19) 19 (ci_seq (ci_load 2 0 20) 20 (ci_seq (ci_getf 8 4 23) 23 (ci_seq (ci_getf 2 1 26) 26 (ci_seq (ci_load 0 2 27) 27 (ci_seq (ci_ald .int 28) 28 (ci_ic (fun x y => decide (x = y)) 33 31)))))))))))))) := cq_ok (cr_aload_n (k := 0) (dq_42 (by decide +kernel)) rfl rfl) (cq_ok (cr_getf (idx := 75) zc_8 (by decide) zl_245 (dq_180 (a := 0) (b := 75) (by decide +kernel) rfl) rfl) (cq_ok (cr_iload_n (k := 1) (dq_27 (by decide +kernel)) rfl rfl) (cq_ok (cr_bipush (n := 25) (dq_16 (a := 25) (by decide +kernel) rfl) (by decide +kernel) rfl) (cq_ok (cr_imul (dq_104 (by decide +kernel)) rfl) (cq_ok (cr_iload_n (k := 2) (dq_28 (by decide +kernel)) rfl rfl) (cq_ok (cr_iadd (dq_96 (by decide +kernel)) rfl) (cq_ok (cr_ald (ins := .iaload) rfl (dq_46 (by decide +kernel)) (Or.inl ⟨rfl, rfl⟩)) (cq_ok (cr_aload_n (k := 0) (dq_42 (by decide +kernel)) rfl rfl) (cq_ok (cr_getf (idx := 34) zc_8 (by decide) zl_275 (dq_180 (a := 0) (b := 34) (by decide +kernel) rfl) rfl) (cq_ok (cr_getf (idx := 142) zc_2 (by decide) zl_314 (dq_180 (a := 0) (b := 142) (by decide +kernel) rfl) rfl) (cq_ok (cr_iload_n (k := 2) (dq_28 (by decide +kernel)) rfl rfl) (cq_ok (cr_ald (ins := .iaload) rfl (dq_46 (by decide +kernel)) (Or.inl ⟨rfl, rfl⟩)) (cr_ic_eq (off := 5) (dq_159 (a := 0) (b := 5) (by decide +kernel) rfl) (by decide) rfl)))))))))))))
set_option maxRecDepth 100000 in
theorem cb_X8_isAlike_31 : ci_ok yX8_isAlike cX8_isAlike 3 31 (ci_push (.int 0) 32) := cr_iconst2 (n := 0) (dq_3 (by decide +kernel)) (by decide +kernel) rfl
set_option maxRecDepth 100000 in
theorem cd_X8_isAlike_32 : decode cX8_isAlike 32 = .ok (zi_rop (some .boolean), 1) := (dq_172 (by decide +kernel))
set_option maxRecDepth 100000 in
theorem cb_X8_isAlike_33 : ci_ok yX8_isAlike cX8_isAlike 3 33 (ci_seq (ci_inc 2 1 36) 36 (ci_go 2)) := cq_ok (ci_inc_ok (by decide) (dq_132 (a := 2) (b := 1) (by decide +kernel) rfl) rfl) (cr_goto (off := -34) (dq_167 (a := 255) (b := 222) (by decide +kernel) rfl) (by decide))
set_option maxRecDepth 100000 in
theorem cb_X8_isAlike_39 : ci_ok yX8_isAlike cX8_isAlike 3 39 (ci_push (.int 1) 40) := cr_iconst2 (n := 1) (dq_4 (by decide +kernel)) (by decide +kernel) rfl
set_option maxRecDepth 100000 in
theorem cd_X8_isAlike_40 : decode cX8_isAlike 40 = .ok (zi_rop (some .boolean), 1) := (dq_172 (by decide +kernel))
set_option maxRecDepth 100000 in
theorem cb_X8_odds_0 : ci_ok yX8_odds cX8_odds 5 0 (ci_seq (ci_load 2 0 1) 1 (ci_seq (ci_getf 8 0 4) 4 (ci_load 0 1 5))) := cq_ok (cr_aload_n (k := 0) (dq_42 (by decide +kernel)) rfl rfl) (cq_ok (cr_getf (idx := 10) zc_8 (by decide) zl_242 (dq_180 (a := 0) (b := 10) (by decide +kernel) rfl) rfl) (cr_iload_n (k := 1) (dq_27 (by decide +kernel)) rfl rfl))
