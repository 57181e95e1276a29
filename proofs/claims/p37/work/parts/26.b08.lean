set_option maxRecDepth 100000 in
theorem cl_X9_mayCut_142 : ci_calls yX9_mayCut cX9_mayCut 8 142 yX9_flag 1 none := cr_callS (idx := 237) zl_993 zl_654 ⟨by decide, by decide⟩ hp_X9_flag zl_539 (Or.inl zl_538) (dq_184 (a := 0) (b := 237) (by decide +kernel) rfl)
set_option maxRecDepth 100000 in
theorem cb_X9_mayCut_145 : ci_ok yX9_mayCut cX9_mayCut 8 145 (ci_seq (ci_load 0 4 147) 147 (ci_seq (ci_bin (fun a b => a <<< (b &&& 31)) 148) 148 (ci_seq (ci_bin (fun a b => a ||| b) 149) 149 (ci_seq (ci_store 0 3 150) 150 (ci_seq (ci_inc 4 1 153) 153 (ci_go 10)))))) := cq_ok (cr_iload (dq_21 (by decide +kernel)) rfl) (cq_ok (cr_ishl (dq_120 (by decide +kernel)) rfl) (cq_ok (cr_ior (dq_128 (by decide +kernel)) rfl) (cq_ok (cr_istore_n (k := 3) (dq_62 (by decide +kernel)) rfl (by decide) rfl) (cq_ok (ci_inc_ok (by decide) (dq_132 (a := 4) (b := 1) (by decide +kernel) rfl) rfl) (cr_goto (off := -143) (dq_167 (a := 255) (b := 113) (by decide +kernel) rfl) (by decide))))))
set_option maxRecDepth 100000 in
theorem cb_X9_mayCut_156 : ci_ok yX9_mayCut cX9_mayCut 8 156 (ci_load 0 3 157) := cr_iload_n (k := 3) (dq_29 (by decide +kernel)) rfl rfl
set_option maxRecDepth 100000 in
theorem cd_X9_mayCut_157 : decode cX9_mayCut 157 = .ok (zi_rop (some .int), 1) := (dq_172 (by decide +kernel))
set_option maxRecDepth 100000 in
theorem cb_X9_rule_0 : ci_ok yX9_rule cX9_rule 2 0 (ci_seq (ci_load 0 1 1) 1 (ci_tsw 0 6 [44, 49, 54, 62, 67, 75, 83] 91)) := cq_ok (cr_iload_n (k := 1) (dq_27 (by decide +kernel)) rfl rfl) (cr_tsw (dflt := 90) (lo := 0) (hi := 6) (offs := #[43, 48, 53, 61, 66, 74, 82]) (len := 43) (by decide +kernel) (by decide) (by decide +kernel))
set_option maxRecDepth 100000 in
theorem cb_X9_rule_44 : ci_ok yX9_rule cX9_rule 2 44 (ci_seq (ci_load 2 0 45) 45 (ci_getf 9 2 48)) := cq_ok (cr_aload_n (k := 0) (dq_42 (by decide +kernel)) rfl rfl) (cr_getf (idx := 120) zc_9 (by decide) zl_463 (dq_180 (a := 0) (b := 120) (by decide +kernel) rfl) rfl)
set_option maxRecDepth 100000 in
theorem cd_X9_rule_48 : decode cX9_rule 48 = .ok (zi_rop (some .int), 1) := (dq_172 (by decide +kernel))
set_option maxRecDepth 100000 in
theorem cb_X9_rule_49 : ci_ok yX9_rule cX9_rule 2 49 (ci_seq (ci_load 2 0 50) 50 (ci_getf 9 3 53)) := cq_ok (cr_aload_n (k := 0) (dq_42 (by decide +kernel)) rfl rfl) (cr_getf (idx := 123) zc_9 (by decide) zl_462 (dq_180 (a := 0) (b := 123) (by decide +kernel) rfl) rfl)
set_option maxRecDepth 100000 in
theorem cd_X9_rule_53 : decode cX9_rule 53 = .ok (zi_rop (some .int), 1) := (dq_172 (by decide +kernel))
set_option maxRecDepth 100000 in
theorem cb_X9_rule_54 : ci_ok yX9_rule cX9_rule 2 54 (ci_seq (ci_load 2 0 55) 55 (ci_seq (ci_getf 9 0 58) 58 (ci_seq (ci_push (.int 25) 60) 60 (ci_ald .int 61)))) := cq_ok (cr_aload_n (k := 0) (dq_42 (by decide +kernel)) rfl rfl) (cq_ok (cr_getf (idx := 7) zc_9 (by decide) zl_441 (dq_180 (a := 0) (b := 7) (by decide +kernel) rfl) rfl) (cq_ok (cr_bipush (n := 25) (dq_16 (a := 25) (by decide +kernel) rfl) (by decide +kernel) rfl) (cr_ald (ins := .iaload) rfl (dq_46 (by decide +kernel)) (Or.inl ⟨rfl, rfl⟩))))
set_option maxRecDepth 100000 in
theorem cd_X9_rule_61 : decode cX9_rule 61 = .ok (zi_rop (some .int), 1) := (dq_172 (by decide +kernel))
set_option maxRecDepth 100000 in
theorem cb_X9_rule_62 : ci_ok yX9_rule cX9_rule 2 62 (ci_seq (ci_load 2 0 63) 63 (ci_getf 9 4 66)) := cq_ok (cr_aload_n (k := 0) (dq_42 (by decide +kernel)) rfl rfl) (cr_getf (idx := 126) zc_9 (by decide) zl_461 (dq_180 (a := 0) (b := 126) (by decide +kernel) rfl) rfl)
set_option maxRecDepth 100000 in
theorem cd_X9_rule_66 : decode cX9_rule 66 = .ok (zi_rop (some .int), 1) := (dq_172 (by decide +kernel))
set_option maxRecDepth 100000 in
theorem cb_X9_rule_67 : ci_ok yX9_rule cX9_rule 2 67 (ci_seq (ci_load 2 0 68) 68 (ci_seq (ci_getf 9 0 71) 71 (ci_seq (ci_push (.int 26) 73) 73 (ci_ald .int 74)))) := cq_ok (cr_aload_n (k := 0) (dq_42 (by decide +kernel)) rfl rfl) (cq_ok (cr_getf (idx := 7) zc_9 (by decide) zl_441 (dq_180 (a := 0) (b := 7) (by decide +kernel) rfl) rfl) (cq_ok (cr_bipush (n := 26) (dq_16 (a := 26) (by decide +kernel) rfl) (by decide +kernel) rfl) (cr_ald (ins := .iaload) rfl (dq_46 (by decide +kernel)) (Or.inl ⟨rfl, rfl⟩))))
set_option maxRecDepth 100000 in
theorem cd_X9_rule_74 : decode cX9_rule 74 = .ok (zi_rop (some .int), 1) := (dq_172 (by decide +kernel))
set_option maxRecDepth 100000 in
theorem cb_X9_rule_75 : ci_ok yX9_rule cX9_rule 2 75 (ci_seq (ci_load 2 0 76) 76 (ci_seq (ci_getf 9 0 79) 79 (ci_seq (ci_push (.int 27) 81) 81 (ci_ald .int 82)))) := cq_ok (cr_aload_n (k := 0) (dq_42 (by decide +kernel)) rfl rfl) (cq_ok (cr_getf (idx := 7) zc_9 (by decide) zl_441 (dq_180 (a := 0) (b := 7) (by decide +kernel) rfl) rfl) (cq_ok (cr_bipush (n := 27) (dq_16 (a := 27) (by decide +kernel) rfl) (by decide +kernel) rfl) (cr_ald (ins := .iaload) rfl (dq_46 (by decide +kernel)) (Or.inl ⟨rfl, rfl⟩))))
set_option maxRecDepth 100000 in
theorem cd_X9_rule_82 : decode cX9_rule 82 = .ok (zi_rop (some .int), 1) := (dq_172 (by decide +kernel))
set_option maxRecDepth 100000 in
theorem cb_X9_rule_83 : ci_ok yX9_rule cX9_rule 2 83 (ci_seq (ci_load 2 0 84) 84 (ci_seq (ci_getf 9 0 87) 87 (ci_seq (ci_push (.int 31) 89) 89 (ci_ald .int 90)))) := cq_ok (cr_aload_n (k := 0) (dq_42 (by decide +kernel)) rfl rfl) (cq_ok (cr_getf (idx := 7) zc_9 (by decide) zl_441 (dq_180 (a := 0) (b := 7) (by decide +kernel) rfl) rfl) (cq_ok (cr_bipush (n := 31) (dq_16 (a := 31) (by decide +kernel) rfl) (by decide +kernel) rfl) (cr_ald (ins := .iaload) rfl (dq_46 (by decide +kernel)) (Or.inl ⟨rfl, rfl⟩))))
set_option maxRecDepth 100000 in
theorem cd_X9_rule_90 : decode cX9_rule 90 = .ok (zi_rop (some .int), 1) := (dq_172 (by decide +kernel))
set_option maxRecDepth 100000 in
theorem cb_X9_rule_91 : ci_ok yX9_rule cX9_rule 2 91 (ci_push (.int (-1)) 92) := cr_iconst2 (n := -1) (dq_2 (by decide +kernel)) (by decide +kernel) rfl
set_option maxRecDepth 100000 in
theorem cd_X9_rule_92 : decode cX9_rule 92 = .ok (zi_rop (some .int), 1) := (dq_172 (by decide +kernel))
set_option maxRecDepth 100000 in
theorem cb_X9_cell_0 : ci_ok yX9_cell cX9_cell 3 0 (ci_seq (ci_load 2 0 1) 1 (ci_load 0 1 2)) := cq_ok (cr_aload_n (k := 0) (dq_42 (by decide +kernel)) rfl rfl) (cr_iload_n (k := 1) (dq_27 (by decide +kernel)) rfl rfl)
set_option maxRecDepth 100000 in
theorem cl_X9_cell_2 : ci_calls yX9_cell cX9_cell 3 2 yX9_isCell 2 (some 9) := cr_callV (idx := 241) zl_1014 ⟨by decide, by decide⟩ hp_X9_isCell zc_9 zl_541 zl_542 (Or.inl zl_540) (dq_182 (a := 0) (b := 241) (by decide +kernel) rfl)
set_option maxRecDepth 100000 in
theorem cb_X9_cell_5 : ci_ok yX9_cell cX9_cell 3 5 (ci_if (fun x => decide (x = 0)) 18 8) := cr_if_eq (off := 13) (dq_153 (a := 0) (b := 13) (by decide +kernel) rfl) (by decide) rfl
set_option maxRecDepth 100000 in
theorem cb_X9_cell_8 : ci_ok yX9_cell cX9_cell 3 8 (ci_seq (ci_load 0 2 9) 9 (ci_seq (ci_i2l 10) 10 (ci_seq (ci_push (.long 0) 11) 11 (ci_push (.long 1) 12)))) := cq_ok (cr_iload_n (k := 2) (dq_28 (by decide +kernel)) rfl rfl) (cq_ok (cr_i2l (dq_133 (by decide +kernel)) rfl) (cq_ok (cr_lconst (n := 0) (dq_9 (by decide +kernel)) (by decide +kernel) rfl) (cr_lconst (n := 1) (dq_10 (by decide +kernel)) (by decide +kernel) rfl)))
set_option maxRecDepth 100000 in
theorem cl_X9_cell_12 : ci_calls yX9_cell cX9_cell 3 12 yX9_in 3 none := cr_callS (idx := 134) zl_992 zl_654 ⟨by decide, by decide⟩ hp_X9_in zl_467 (Or.inl zl_466) (dq_184 (a := 0) (b := 134) (by decide +kernel) rfl)
set_option maxRecDepth 100000 in
theorem cb_X9_cell_15 : ci_ok yX9_cell cX9_cell 3 15 (ci_if (fun x => !decide (x = 0)) 22 18) := cr_if_ne (off := 7) (dq_154 (a := 0) (b := 7) (by decide +kernel) rfl) (by decide) rfl
set_option maxRecDepth 100000 in
theorem cb_X9_cell_18 : ci_ok yX9_cell cX9_cell 3 18 (ci_seq (ci_push (.int (-1)) 19) 19 (ci_go 41)) := cq_ok (cr_iconst2 (n := -1) (dq_2 (by decide +kernel)) (by decide +kernel) rfl) (cr_goto (off := 22) (dq_167 (a := 0) (b := 22) (by decide +kernel) rfl) (by decide))
set_option maxRecDepth 100000 in
theorem cb_X9_cell_22 : ci_ok yX9_cell cX9_cell 3 22 (ci_seq (ci_load 0 2 23) 23 (ci_if (fun x => !decide (x = 0)) 35 26)) := cq_ok (cr_iload_n (k := 2) (dq_28 (by decide +kernel)) rfl rfl) (cr_if_ne (off := 12) (dq_154 (a := 0) (b := 12) (by decide +kernel) rfl) (by decide) rfl)
set_option maxRecDepth 100000 in
theorem cb_X9_cell_26 : ci_ok yX9_cell cX9_cell 3 26 (ci_seq (ci_load 2 0 27) 27 (ci_seq (ci_getf 9 0 30) 30 (ci_seq (ci_load 0 1 31) 31 (ci_seq (ci_ald .int 32) 32 (ci_go 41))))) := cq_ok (cr_aload_n (k := 0) (dq_42 (by decide +kernel)) rfl rfl) (cq_ok (cr_getf (idx := 7) zc_9 (by decide) zl_441 (dq_180 (a := 0) (b := 7) (by decide +kernel) rfl) rfl) (cq_ok (cr_iload_n (k := 1) (dq_27 (by decide +kernel)) rfl rfl) (cq_ok (cr_ald (ins := .iaload) rfl (dq_46 (by decide +kernel)) (Or.inl ⟨rfl, rfl⟩)) (cr_goto (off := 9) (dq_167 (a := 0) (b := 9) (by decide +kernel) rfl) (by decide)))))
set_option maxRecDepth 100000 in
theorem cb_X9_cell_35 : ci_ok yX9_cell cX9_cell 3 35 (ci_seq (ci_load 2 0 36) 36 (ci_seq (ci_getf 9 5 39) 39 (ci_seq (ci_load 0 1 40) 40 (ci_ald .int 41)))) := cq_ok (cr_aload_n (k := 0) (dq_42 (by decide +kernel)) rfl rfl) (cq_ok (cr_getf (idx := 17) zc_9 (by decide) zl_438 (dq_180 (a := 0) (b := 17) (by decide +kernel) rfl) rfl) (cq_ok (cr_iload_n (k := 1) (dq_27 (by decide +kernel)) rfl rfl) (cr_ald (ins := .iaload) rfl (dq_46 (by decide +kernel)) (Or.inl ⟨rfl, rfl⟩))))
set_option maxRecDepth 100000 in
theorem cd_X9_cell_41 : decode cX9_cell 41 = .ok (zi_rop (some .int), 1) := (dq_172 (by decide +kernel))
set_option maxRecDepth 100000 in
theorem cb_X9_farm_0 : ci_ok yX9_farm cX9_farm 5 0 (ci_seq (ci_load 2 0 1) 1 (ci_load 0 1 2)) := cq_ok (cr_aload_n (k := 0) (dq_42 (by decide +kernel)) rfl rfl) (cr_iload_n (k := 1) (dq_27 (by decide +kernel)) rfl rfl)
set_option maxRecDepth 100000 in
theorem cl_X9_farm_2 : ci_calls yX9_farm cX9_farm 5 2 yX9_isFarm 2 (some 9) := cr_callV (idx := 245) zl_1015 ⟨by decide, by decide⟩ hp_X9_isFarm zc_9 zl_544 zl_545 (Or.inl zl_543) (dq_182 (a := 0) (b := 245) (by decide +kernel) rfl)
set_option maxRecDepth 100000 in
theorem cb_X9_farm_5 : ci_ok yX9_farm cX9_farm 5 5 (ci_if (fun x => decide (x = 0)) 20 8) := cr_if_eq (off := 15) (dq_153 (a := 0) (b := 15) (by decide +kernel) rfl) (by decide) rfl
set_option maxRecDepth 100000 in
theorem cb_X9_farm_8 : ci_ok yX9_farm cX9_farm 5 8 (ci_seq (ci_load 0 2 9) 9 (ci_seq (ci_i2l 10) 10 (ci_seq (ci_push (.long 0) 11) 11 (ci_push (.long 3) 14)))) := cq_ok (cr_iload_n (k := 2) (dq_28 (by decide +kernel)) rfl rfl) (cq_ok (cr_i2l (dq_133 (by decide +kernel)) rfl) (cq_ok (cr_lconst (n := 0) (dq_9 (by decide +kernel)) (by decide +kernel) rfl) (cr_ldc2 zl_546 (dq_20 (a := 0) (b := 248) (by decide +kernel) rfl) rfl)))
set_option maxRecDepth 100000 in
theorem cl_X9_farm_14 : ci_calls yX9_farm cX9_farm 5 14 yX9_in 3 none := cr_callS (idx := 134) zl_992 zl_654 ⟨by decide, by decide⟩ hp_X9_in zl_467 (Or.inl zl_466) (dq_184 (a := 0) (b := 134) (by decide +kernel) rfl)
set_option maxRecDepth 100000 in
theorem cb_X9_farm_17 : ci_ok yX9_farm cX9_farm 5 17 (ci_if (fun x => !decide (x = 0)) 22 20) := cr_if_ne (off := 5) (dq_154 (a := 0) (b := 5) (by decide +kernel) rfl) (by decide) rfl
set_option maxRecDepth 100000 in
theorem cb_X9_farm_20 : ci_ok yX9_farm cX9_farm 5 20 (ci_push (.int (-1)) 21) := cr_iconst2 (n := -1) (dq_2 (by decide +kernel)) (by decide +kernel) rfl
set_option maxRecDepth 100000 in
theorem cd_X9_farm_21 : decode cX9_farm 21 = .ok (zi_rop (some .int), 1) := (dq_172 (by decide +kernel))
set_option maxRecDepth 100000 in
theorem cb_X9_farm_22 : ci_ok yX9_farm cX9_farm 5 22 (ci_seq (ci_push (.int 0) 23) 23 (ci_seq (ci_store 0 3 24) 24 (ci_seq (ci_push (.int 0) 25) 25 (ci_store 0 4 27)))) := cq_ok (cr_iconst2 (n := 0) (dq_3 (by decide +kernel)) (by decide +kernel) rfl) (cq_ok (cr_istore_n (k := 3) (dq_62 (by decide +kernel)) rfl (by decide) rfl) (cq_ok (cr_iconst2 (n := 0) (dq_3 (by decide +kernel)) (by decide +kernel) rfl) (cr_istore (dq_54 (by decide +kernel)) (by decide) rfl)))
set_option maxRecDepth 100000 in
theorem cb_X9_farm_27 : ci_ok yX9_farm cX9_farm 5 27 (ci_seq (ci_load 0 4 29) 29 (ci_seq (ci_load 2 0 30) 30 (ci_seq (ci_getf 9 2 33) 33 (ci_seq (ci_load 2 0 34) 34 (ci_seq (ci_getf 9 3 37) 37 (ci_seq (ci_bin (fun a b => a * b) 38) 38 (ci_ic (fun x y => decide (y ≤ x)) 72 41))))))) := cq_ok (cr_iload (dq_21 (by decide +kernel)) rfl) (cq_ok (cr_aload_n (k := 0) (dq_42 (by decide +kernel)) rfl rfl) (cq_ok (cr_getf (idx := 120) zc_9 (by decide) zl_463 (dq_180 (a := 0) (b := 120) (by decide +kernel) rfl) rfl) (cq_ok (cr_aload_n (k := 0) (dq_42 (by decide +kernel)) rfl rfl) (cq_ok (cr_getf (idx := 123) zc_9 (by decide) zl_462 (dq_180 (a := 0) (b := 123) (by decide +kernel) rfl) rfl) (cq_ok (cr_imul (dq_104 (by decide +kernel)) rfl) (cr_ic_ge (off := 34) (dq_162 (a := 0) (b := 34) (by decide +kernel) rfl) (by decide) rfl))))))
set_option maxRecDepth 100000 in
theorem cb_X9_farm_41 : ci_ok yX9_farm cX9_farm 5 41 (ci_seq (ci_load 0 3 42) 42 (ci_seq (ci_load 2 0 43) 43 (ci_seq (ci_getf 9 5 46) 46 (ci_seq (ci_load 0 4 48) 48 (ci_seq (ci_ald .int 49) 49 (ci_seq (ci_load 0 1 50) 50 (ci_ic (fun x y => !decide (x = y)) 57 53))))))) := cq_ok (cr_iload_n (k := 3) (dq_29 (by decide +kernel)) rfl rfl) (cq_ok (cr_aload_n (k := 0) (dq_42 (by decide +kernel)) rfl rfl) (cq_ok (cr_getf (idx := 17) zc_9 (by decide) zl_438 (dq_180 (a := 0) (b := 17) (by decide +kernel) rfl) rfl) (cq_ok (cr_iload (dq_21 (by decide +kernel)) rfl) (cq_ok (cr_ald (ins := .iaload) rfl (dq_46 (by decide +kernel)) (Or.inl ⟨rfl, rfl⟩)) (cq_ok (cr_iload_n (k := 1) (dq_27 (by decide +kernel)) rfl rfl) (cr_ic_ne (off := 7) (dq_160 (a := 0) (b := 7) (by decide +kernel) rfl) (by decide) rfl))))))
set_option maxRecDepth 100000 in
theorem cb_X9_farm_53 : ci_ok yX9_farm cX9_farm 5 53 (ci_seq (ci_push (.int 1) 54) 54 (ci_go 58)) := cq_ok (cr_iconst2 (n := 1) (dq_4 (by decide +kernel)) (by decide +kernel) rfl) (cr_goto (off := 4) (dq_167 (a := 0) (b := 4) (by decide +kernel) rfl) (by decide))
set_option maxRecDepth 100000 in
theorem cb_X9_farm_57 : ci_ok yX9_farm cX9_farm 5 57 (ci_push (.int 0) 58) := cr_iconst2 (n := 0) (dq_3 (by decide +kernel)) (by decide +kernel) rfl
set_option maxRecDepth 100000 in
theorem cl_X9_farm_58 : ci_calls yX9_farm cX9_farm 5 58 yX9_flag 1 none := cr_callS (idx := 237) zl_993 zl_654 ⟨by decide, by decide⟩ hp_X9_flag zl_539 (Or.inl zl_538) (dq_184 (a := 0) (b := 237) (by decide +kernel) rfl)
set_option maxRecDepth 100000 in
theorem cb_X9_farm_61 : ci_ok yX9_farm cX9_farm 5 61 (ci_seq (ci_load 0 4 63) 63 (ci_seq (ci_bin (fun a b => a <<< (b &&& 31)) 64) 64 (ci_seq (ci_bin (fun a b => a ||| b) 65) 65 (ci_seq (ci_store 0 3 66) 66 (ci_seq (ci_inc 4 1 69) 69 (ci_go 27)))))) := cq_ok (cr_iload (dq_21 (by decide +kernel)) rfl) (cq_ok (cr_ishl (dq_120 (by decide +kernel)) rfl) (cq_ok (cr_ior (dq_128 (by decide +kernel)) rfl) (cq_ok (cr_istore_n (k := 3) (dq_62 (by decide +kernel)) rfl (by decide) rfl) (cq_ok (ci_inc_ok (by decide) (dq_132 (a := 4) (b := 1) (by decide +kernel) rfl) rfl) (cr_goto (off := -42) (dq_167 (a := 255) (b := 214) (by decide +kernel) rfl) (by decide))))))
set_option maxRecDepth 100000 in
theorem cb_X9_farm_72 : ci_ok yX9_farm cX9_farm 5 72 (ci_seq (ci_load 0 2 73) 73 (ci_if (fun x => !decide (x = 0)) 88 76)) := cq_ok (cr_iload_n (k := 2) (dq_28 (by decide +kernel)) rfl rfl) (cr_if_ne (off := 15) (dq_154 (a := 0) (b := 15) (by decide +kernel) rfl) (by decide) rfl)
set_option maxRecDepth 100000 in
theorem cb_X9_farm_76 : ci_ok yX9_farm cX9_farm 5 76 (ci_seq (ci_load 2 0 77) 77 (ci_seq (ci_getf 9 0 80) 80 (ci_seq (ci_push (.int 28) 82) 82 (ci_seq (ci_load 0 1 83) 83 (ci_seq (ci_bin (fun a b => a + b) 84) 84 (ci_seq (ci_ald .int 85) 85 (ci_go 115))))))) := cq_ok (cr_aload_n (k := 0) (dq_42 (by decide +kernel)) rfl rfl) (cq_ok (cr_getf (idx := 7) zc_9 (by decide) zl_441 (dq_180 (a := 0) (b := 7) (by decide +kernel) rfl) rfl) (cq_ok (cr_bipush (n := 28) (dq_16 (a := 28) (by decide +kernel) rfl) (by decide +kernel) rfl) (cq_ok (cr_iload_n (k := 1) (dq_27 (by decide +kernel)) rfl rfl) (cq_ok (cr_iadd (dq_96 (by decide +kernel)) rfl) (cq_ok (cr_ald (ins := .iaload) rfl (dq_46 (by decide +kernel)) (Or.inl ⟨rfl, rfl⟩)) (cr_goto (off := 30) (dq_167 (a := 0) (b := 30) (by decide +kernel) rfl) (by decide)))))))
set_option maxRecDepth 100000 in
theorem cb_X9_farm_88 : ci_ok yX9_farm cX9_farm 5 88 (ci_seq (ci_load 0 2 89) 89 (ci_seq (ci_push (.int 1) 90) 90 (ci_ic (fun x y => !decide (x = y)) 97 93))) := cq_ok (cr_iload_n (k := 2) (dq_28 (by decide +kernel)) rfl rfl) (cq_ok (cr_iconst2 (n := 1) (dq_4 (by decide +kernel)) (by decide +kernel) rfl) (cr_ic_ne (off := 7) (dq_160 (a := 0) (b := 7) (by decide +kernel) rfl) (by decide) rfl))
set_option maxRecDepth 100000 in
theorem cb_X9_farm_93 : ci_ok yX9_farm cX9_farm 5 93 (ci_seq (ci_load 0 3 94) 94 (ci_go 115)) := cq_ok (cr_iload_n (k := 3) (dq_29 (by decide +kernel)) rfl rfl) (cr_goto (off := 21) (dq_167 (a := 0) (b := 21) (by decide +kernel) rfl) (by decide))
set_option maxRecDepth 100000 in
theorem cb_X9_farm_97 : ci_ok yX9_farm cX9_farm 5 97 (ci_seq (ci_load 0 2 98) 98 (ci_seq (ci_push (.int 2) 99) 99 (ci_ic (fun x y => !decide (x = y)) 110 102))) := cq_ok (cr_iload_n (k := 2) (dq_28 (by decide +kernel)) rfl rfl) (cq_ok (cr_iconst2 (n := 2) (dq_5 (by decide +kernel)) (by decide +kernel) rfl) (cr_ic_ne (off := 11) (dq_160 (a := 0) (b := 11) (by decide +kernel) rfl) (by decide) rfl))
set_option maxRecDepth 100000 in
theorem cb_X9_farm_102 : ci_ok yX9_farm cX9_farm 5 102 (ci_seq (ci_load 2 0 103) 103 (ci_load 0 1 104)) := cq_ok (cr_aload_n (k := 0) (dq_42 (by decide +kernel)) rfl rfl) (cr_iload_n (k := 1) (dq_27 (by decide +kernel)) rfl rfl)
set_option maxRecDepth 100000 in
theorem cl_X9_farm_104 : ci_calls yX9_farm cX9_farm 5 104 yX9_hasNow 2 (some 9) := cr_callV (idx := 250) zl_1021 ⟨by decide, by decide⟩ hp_X9_hasNow zc_9 zl_548 zl_549 (Or.inl zl_547) (dq_182 (a := 0) (b := 250) (by decide +kernel) rfl)
set_option maxRecDepth 100000 in
theorem cb_X9_farm_107 : ci_ok yX9_farm cX9_farm 5 107 (ci_go 115) := cr_goto (off := 8) (dq_167 (a := 0) (b := 8) (by decide +kernel) rfl) (by decide)
set_option maxRecDepth 100000 in
theorem cb_X9_farm_110 : ci_ok yX9_farm cX9_farm 5 110 (ci_seq (ci_load 2 0 111) 111 (ci_load 0 1 112)) := cq_ok (cr_aload_n (k := 0) (dq_42 (by decide +kernel)) rfl rfl) (cr_iload_n (k := 1) (dq_27 (by decide +kernel)) rfl rfl)
set_option maxRecDepth 100000 in
theorem cl_X9_farm_112 : ci_calls yX9_farm cX9_farm 5 112 yX9_mayCut 2 (some 9) := cr_callV (idx := 253) zl_1023 ⟨by decide, by decide⟩ hp_X9_mayCut zc_9 zl_551 zl_552 (Or.inl zl_550) (dq_182 (a := 0) (b := 253) (by decide +kernel) rfl)
set_option maxRecDepth 100000 in
theorem cd_X9_farm_115 : decode cX9_farm 115 = .ok (zi_rop (some .int), 1) := (dq_172 (by decide +kernel))
set_option maxRecDepth 100000 in
theorem cb_X9_bed_0 : ci_ok yX9_bed cX9_bed 2 0 (ci_seq (ci_load 0 1 1) 1 (ci_if (fun x => decide (0 ≤ x)) 6 4)) := cq_ok (cr_iload_n (k := 1) (dq_27 (by decide +kernel)) rfl rfl) (cr_if_ge (off := 5) (dq_156 (a := 0) (b := 5) (by decide +kernel) rfl) (by decide) rfl)
set_option maxRecDepth 100000 in
theorem cb_X9_bed_4 : ci_ok yX9_bed cX9_bed 2 4 (ci_push (.int (-1)) 5) := cr_iconst2 (n := -1) (dq_2 (by decide +kernel)) (by decide +kernel) rfl
set_option maxRecDepth 100000 in
theorem cd_X9_bed_5 : decode cX9_bed 5 = .ok (zi_rop (some .int), 1) := (dq_172 (by decide +kernel))
set_option maxRecDepth 100000 in
theorem cb_X9_bed_6 : ci_ok yX9_bed cX9_bed 2 6 (ci_load 2 0 7) := cr_aload_n (k := 0) (dq_42 (by decide +kernel)) rfl rfl
set_option maxRecDepth 100000 in
theorem cl_X9_bed_7 : ci_calls yX9_bed cX9_bed 2 7 yX9_findBed 1 (some 9) := cr_callV (idx := 227) zl_1019 ⟨by decide, by decide⟩ hp_X9_findBed zc_9 zl_530 zl_531 (Or.inl zl_529) (dq_182 (a := 0) (b := 227) (by decide +kernel) rfl)
set_option maxRecDepth 100000 in
theorem cb_X9_bed_10 : ci_ok yX9_bed cX9_bed 2 10 (ci_seq (ci_load 0 1 11) 11 (ci_seq (ci_load 2 0 12) 12 (ci_seq (ci_getf 9 31 15) 15 (ci_ic (fun x y => decide (y ≤ x)) 27 18)))) := cq_ok (cr_iload_n (k := 1) (dq_27 (by decide +kernel)) rfl rfl) (cq_ok (cr_aload_n (k := 0) (dq_42 (by decide +kernel)) rfl rfl) (cq_ok (cr_getf (idx := 221) zc_9 (by decide) zl_525 (dq_180 (a := 0) (b := 221) (by decide +kernel) rfl) rfl) (cr_ic_ge (off := 12) (dq_162 (a := 0) (b := 12) (by decide +kernel) rfl) (by decide) rfl)))
set_option maxRecDepth 100000 in
theorem cb_X9_bed_18 : ci_ok yX9_bed cX9_bed 2 18 (ci_seq (ci_load 2 0 19) 19 (ci_seq (ci_getf 9 30 22) 22 (ci_seq (ci_load 0 1 23) 23 (ci_seq (ci_ald .int 24) 24 (ci_go 29))))) := cq_ok (cr_aload_n (k := 0) (dq_42 (by decide +kernel)) rfl rfl) (cq_ok (cr_getf (idx := 35) zc_9 (by decide) zl_432 (dq_180 (a := 0) (b := 35) (by decide +kernel) rfl) rfl) (cq_ok (cr_iload_n (k := 1) (dq_27 (by decide +kernel)) rfl rfl) (cq_ok (cr_ald (ins := .iaload) rfl (dq_46 (by decide +kernel)) (Or.inl ⟨rfl, rfl⟩)) (cr_goto (off := 5) (dq_167 (a := 0) (b := 5) (by decide +kernel) rfl) (by decide)))))
set_option maxRecDepth 100000 in
theorem cb_X9_bed_27 : ci_ok yX9_bed cX9_bed 2 27 (ci_push (.int (-4)) 29) := cr_bipush (n := -4) (dq_16 (a := 252) (by decide +kernel) rfl) (by decide +kernel) rfl
set_option maxRecDepth 100000 in
theorem cd_X9_bed_29 : decode cX9_bed 29 = .ok (zi_rop (some .int), 1) := (dq_172 (by decide +kernel))
set_option maxRecDepth 100000 in
theorem cb_X9_becomes_0 : ci_ok yX9_becomes cX9_becomes 4 0 (ci_seq (ci_load 2 0 1) 1 (ci_seq (ci_getf 9 0 4) 4 (ci_seq (ci_load 0 1 5) 5 (ci_seq (ci_ald .int 6) 6 (ci_seq (ci_store 0 3 7) 7 (ci_seq (ci_load 2 0 8) 8 (ci_seq (ci_getf 9 0 11) 11 (ci_seq (ci_load 0 1 12) 12 (ci_seq (ci_load 0 2 13) 13 (ci_seq (ci_ast .int 14) 14 (ci_load 0 3 15))))))))))) := cq_ok (cr_aload_n (k := 0) (dq_42 (by decide +kernel)) rfl rfl) (cq_ok (cr_getf (idx := 7) zc_9 (by decide) zl_441 (dq_180 (a := 0) (b := 7) (by decide +kernel) rfl) rfl) (cq_ok (cr_iload_n (k := 1) (dq_27 (by decide +kernel)) rfl rfl) (cq_ok (cr_ald (ins := .iaload) rfl (dq_46 (by decide +kernel)) (Or.inl ⟨rfl, rfl⟩)) (cq_ok (cr_istore_n (k := 3) (dq_62 (by decide +kernel)) rfl (by decide) rfl) (cq_ok (cr_aload_n (k := 0) (dq_42 (by decide +kernel)) rfl rfl) (cq_ok (cr_getf (idx := 7) zc_9 (by decide) zl_441 (dq_180 (a := 0) (b := 7) (by decide +kernel) rfl) rfl) (cq_ok (cr_iload_n (k := 1) (dq_27 (by decide +kernel)) rfl rfl) (cq_ok (cr_iload_n (k := 2) (dq_28 (by decide +kernel)) rfl rfl) (cq_ok (cr_ast (ins := .iastore) rfl (dq_79 (by decide +kernel)) (Or.inl ⟨rfl, rfl⟩)) (cr_iload_n (k := 3) (dq_29 (by decide +kernel)) rfl rfl))))))))))
set_option maxRecDepth 100000 in
theorem cd_X9_becomes_15 : decode cX9_becomes 15 = .ok (zi_rop (some .int), 1) := (dq_172 (by decide +kernel))
set_option maxRecDepth 100000 in
theorem cb_X9_dam_0 : ci_ok yX9_dam cX9_dam 3 0 (ci_seq (ci_load 2 0 1) 1 (ci_load 0 1 2)) := cq_ok (cr_aload_n (k := 0) (dq_42 (by decide +kernel)) rfl rfl) (cr_iload_n (k := 1) (dq_27 (by decide +kernel)) rfl rfl)
set_option maxRecDepth 100000 in
theorem cl_X9_dam_2 : ci_calls yX9_dam cX9_dam 3 2 yX9_isCell 2 (some 9) := cr_callV (idx := 241) zl_1014 ⟨by decide, by decide⟩ hp_X9_isCell zc_9 zl_541 zl_542 (Or.inl zl_540) (dq_182 (a := 0) (b := 241) (by decide +kernel) rfl)
set_option maxRecDepth 100000 in
theorem cb_X9_dam_5 : ci_ok yX9_dam cX9_dam 3 5 (ci_if (fun x => decide (x = 0)) 29 8) := cr_if_eq (off := 24) (dq_153 (a := 0) (b := 24) (by decide +kernel) rfl) (by decide) rfl
set_option maxRecDepth 100000 in
theorem cb_X9_dam_8 : ci_ok yX9_dam cX9_dam 3 8 (ci_seq (ci_load 0 2 9) 9 (ci_seq (ci_i2l 10) 10 (ci_seq (ci_push (.long 0) 11) 11 (ci_push (.long 99) 14)))) := cq_ok (cr_iload_n (k := 2) (dq_28 (by decide +kernel)) rfl rfl) (cq_ok (cr_i2l (dq_133 (by decide +kernel)) rfl) (cq_ok (cr_lconst (n := 0) (dq_9 (by decide +kernel)) (by decide +kernel) rfl) (cr_ldc2 zl_553 (dq_20 (a := 1) (b := 0) (by decide +kernel) rfl) rfl)))
set_option maxRecDepth 100000 in
theorem cl_X9_dam_14 : ci_calls yX9_dam cX9_dam 3 14 yX9_in 3 none := cr_callS (idx := 134) zl_992 zl_654 ⟨by decide, by decide⟩ hp_X9_in zl_467 (Or.inl zl_466) (dq_184 (a := 0) (b := 134) (by decide +kernel) rfl)
set_option maxRecDepth 100000 in
theorem cb_X9_dam_17 : ci_ok yX9_dam cX9_dam 3 17 (ci_if (fun x => decide (x = 0)) 29 20) := cr_if_eq (off := 12) (dq_153 (a := 0) (b := 12) (by decide +kernel) rfl) (by decide) rfl
set_option maxRecDepth 100000 in
theorem cb_X9_dam_20 : ci_ok yX9_dam cX9_dam 3 20 (ci_seq (ci_load 2 0 21) 21 (ci_seq (ci_load 0 1 22) 22 (ci_load 0 2 23))) := cq_ok (cr_aload_n (k := 0) (dq_42 (by decide +kernel)) rfl rfl) (cq_ok (cr_iload_n (k := 1) (dq_27 (by decide +kernel)) rfl rfl) (cr_iload_n (k := 2) (dq_28 (by decide +kernel)) rfl rfl))
set_option maxRecDepth 100000 in
theorem cl_X9_dam_23 : ci_calls yX9_dam cX9_dam 3 23 yX9_becomes 3 (some 9) := cr_callV (idx := 258) zl_1028 ⟨by decide, by decide⟩ hp_X9_becomes zc_9 zl_555 zl_556 (Or.inl zl_554) (dq_182 (a := 1) (b := 2) (by decide +kernel) rfl)
set_option maxRecDepth 100000 in
theorem cb_X9_dam_26 : ci_ok yX9_dam cX9_dam 3 26 (ci_go 30) := cr_goto (off := 4) (dq_167 (a := 0) (b := 4) (by decide +kernel) rfl) (by decide)
set_option maxRecDepth 100000 in
theorem cb_X9_dam_29 : ci_ok yX9_dam cX9_dam 3 29 (ci_push (.int (-1)) 30) := cr_iconst2 (n := -1) (dq_2 (by decide +kernel)) (by decide +kernel) rfl
set_option maxRecDepth 100000 in
theorem cd_X9_dam_30 : decode cX9_dam 30 = .ok (zi_rop (some .int), 1) := (dq_172 (by decide +kernel))
set_option maxRecDepth 100000 in
theorem cb_X9_move_0 : ci_ok yX9_move cX9_move 2 0 (ci_seq (ci_load 2 0 1) 1 (ci_load 0 1 2)) := cq_ok (cr_aload_n (k := 0) (dq_42 (by decide +kernel)) rfl rfl) (cr_iload_n (k := 1) (dq_27 (by decide +kernel)) rfl rfl)
set_option maxRecDepth 100000 in
theorem cl_X9_move_2 : ci_calls yX9_move cX9_move 2 2 yX9_isCell 2 (some 9) := cr_callV (idx := 241) zl_1014 ⟨by decide, by decide⟩ hp_X9_isCell zc_9 zl_541 zl_542 (Or.inl zl_540) (dq_182 (a := 0) (b := 241) (by decide +kernel) rfl)
set_option maxRecDepth 100000 in
theorem cb_X9_move_5 : ci_ok yX9_move cX9_move 2 5 (ci_if (fun x => decide (x = 0)) 18 8) := cr_if_eq (off := 13) (dq_153 (a := 0) (b := 13) (by decide +kernel) rfl) (by decide) rfl
set_option maxRecDepth 100000 in
theorem cb_X9_move_8 : ci_ok yX9_move cX9_move 2 8 (ci_seq (ci_load 2 0 9) 9 (ci_seq (ci_push (.int 25) 11) 11 (ci_load 0 1 12))) := cq_ok (cr_aload_n (k := 0) (dq_42 (by decide +kernel)) rfl rfl) (cq_ok (cr_bipush (n := 25) (dq_16 (a := 25) (by decide +kernel) rfl) (by decide +kernel) rfl) (cr_iload_n (k := 1) (dq_27 (by decide +kernel)) rfl rfl))
set_option maxRecDepth 100000 in
theorem cl_X9_move_12 : ci_calls yX9_move cX9_move 2 12 yX9_becomes 3 (some 9) := cr_callV (idx := 258) zl_1028 ⟨by decide, by decide⟩ hp_X9_becomes zc_9 zl_555 zl_556 (Or.inl zl_554) (dq_182 (a := 1) (b := 2) (by decide +kernel) rfl)
set_option maxRecDepth 100000 in
theorem cb_X9_move_15 : ci_ok yX9_move cX9_move 2 15 (ci_go 19) := cr_goto (off := 4) (dq_167 (a := 0) (b := 4) (by decide +kernel) rfl) (by decide)
set_option maxRecDepth 100000 in
theorem cb_X9_move_18 : ci_ok yX9_move cX9_move 2 18 (ci_push (.int (-1)) 19) := cr_iconst2 (n := -1) (dq_2 (by decide +kernel)) (by decide +kernel) rfl
set_option maxRecDepth 100000 in
theorem cd_X9_move_19 : decode cX9_move 19 = .ok (zi_rop (some .int), 1) := (dq_172 (by decide +kernel))
set_option maxRecDepth 100000 in
theorem cb_X9_law_0 : ci_ok yX9_law cX9_law 2 0 (ci_seq (ci_load 0 1 1) 1 (ci_seq (ci_i2l 2) 2 (ci_seq (ci_push (.long 0) 3) 3 (ci_push (.long 2) 6)))) := cq_ok (cr_iload_n (k := 1) (dq_27 (by decide +kernel)) rfl rfl) (cq_ok (cr_i2l (dq_133 (by decide +kernel)) rfl) (cq_ok (cr_lconst (n := 0) (dq_9 (by decide +kernel)) (by decide +kernel) rfl) (cr_ldc2 zl_557 (dq_20 (a := 1) (b := 5) (by decide +kernel) rfl) rfl)))
set_option maxRecDepth 100000 in
theorem cl_X9_law_6 : ci_calls yX9_law cX9_law 2 6 yX9_in 3 none := cr_callS (idx := 134) zl_992 zl_654 ⟨by decide, by decide⟩ hp_X9_in zl_467 (Or.inl zl_466) (dq_184 (a := 0) (b := 134) (by decide +kernel) rfl)
set_option maxRecDepth 100000 in
theorem cb_X9_law_9 : ci_ok yX9_law cX9_law 2 9 (ci_if (fun x => decide (x = 0)) 22 12) := cr_if_eq (off := 13) (dq_153 (a := 0) (b := 13) (by decide +kernel) rfl) (by decide) rfl
set_option maxRecDepth 100000 in
theorem cb_X9_law_12 : ci_ok yX9_law cX9_law 2 12 (ci_seq (ci_load 2 0 13) 13 (ci_seq (ci_push (.int 26) 15) 15 (ci_load 0 1 16))) := cq_ok (cr_aload_n (k := 0) (dq_42 (by decide +kernel)) rfl rfl) (cq_ok (cr_bipush (n := 26) (dq_16 (a := 26) (by decide +kernel) rfl) (by decide +kernel) rfl) (cr_iload_n (k := 1) (dq_27 (by decide +kernel)) rfl rfl))
set_option maxRecDepth 100000 in
theorem cl_X9_law_16 : ci_calls yX9_law cX9_law 2 16 yX9_becomes 3 (some 9) := cr_callV (idx := 258) zl_1028 ⟨by decide, by decide⟩ hp_X9_becomes zc_9 zl_555 zl_556 (Or.inl zl_554) (dq_182 (a := 1) (b := 2) (by decide +kernel) rfl)
set_option maxRecDepth 100000 in
theorem cb_X9_law_19 : ci_ok yX9_law cX9_law 2 19 (ci_go 23) := cr_goto (off := 4) (dq_167 (a := 0) (b := 4) (by decide +kernel) rfl) (by decide)
set_option maxRecDepth 100000 in
theorem cb_X9_law_22 : ci_ok yX9_law cX9_law 2 22 (ci_push (.int (-1)) 23) := cr_iconst2 (n := -1) (dq_2 (by decide +kernel)) (by decide +kernel) rfl
set_option maxRecDepth 100000 in
theorem cd_X9_law_23 : decode cX9_law 23 = .ok (zi_rop (some .int), 1) := (dq_172 (by decide +kernel))
set_option maxRecDepth 100000 in
theorem cb_X9_silt_0 : ci_ok yX9_silt cX9_silt 2 0 (ci_seq (ci_load 2 0 1) 1 (ci_seq (ci_push (.int 27) 3) 3 (ci_load 0 1 4))) := cq_ok (cr_aload_n (k := 0) (dq_42 (by decide +kernel)) rfl rfl) (cq_ok (cr_bipush (n := 27) (dq_16 (a := 27) (by decide +kernel) rfl) (by decide +kernel) rfl) (cr_iload_n (k := 1) (dq_27 (by decide +kernel)) rfl rfl))
set_option maxRecDepth 100000 in
theorem cl_X9_silt_4 : ci_calls yX9_silt cX9_silt 2 4 yX9_flag 1 none := cr_callS (idx := 237) zl_993 zl_654 ⟨by decide, by decide⟩ hp_X9_flag zl_539 (Or.inl zl_538) (dq_184 (a := 0) (b := 237) (by decide +kernel) rfl)
set_option maxRecDepth 100000 in
theorem cl_X9_silt_7 : ci_calls yX9_silt cX9_silt 2 7 yX9_becomes 3 (some 9) := cr_callV (idx := 258) zl_1028 ⟨by decide, by decide⟩ hp_X9_becomes zc_9 zl_555 zl_556 (Or.inl zl_554) (dq_182 (a := 1) (b := 2) (by decide +kernel) rfl)
set_option maxRecDepth 100000 in
theorem cd_X9_silt_10 : decode cX9_silt 10 = .ok (zi_rop (some .int), 1) := (dq_172 (by decide +kernel))
set_option maxRecDepth 100000 in
theorem cb_X9_price_0 : ci_ok yX9_price cX9_price 3 0 (ci_seq (ci_load 2 0 1) 1 (ci_load 0 1 2)) := cq_ok (cr_aload_n (k := 0) (dq_42 (by decide +kernel)) rfl rfl) (cr_iload_n (k := 1) (dq_27 (by decide +kernel)) rfl rfl)
set_option maxRecDepth 100000 in
theorem cl_X9_price_2 : ci_calls yX9_price cX9_price 3 2 yX9_isFarm 2 (some 9) := cr_callV (idx := 245) zl_1015 ⟨by decide, by decide⟩ hp_X9_isFarm zc_9 zl_544 zl_545 (Or.inl zl_543) (dq_182 (a := 0) (b := 245) (by decide +kernel) rfl)
set_option maxRecDepth 100000 in
theorem cb_X9_price_5 : ci_ok yX9_price cX9_price 3 5 (ci_if (fun x => decide (x = 0)) 32 8) := cr_if_eq (off := 27) (dq_153 (a := 0) (b := 27) (by decide +kernel) rfl) (by decide) rfl
set_option maxRecDepth 100000 in
theorem cb_X9_price_8 : ci_ok yX9_price cX9_price 3 8 (ci_seq (ci_load 0 2 9) 9 (ci_seq (ci_i2l 10) 10 (ci_seq (ci_push (.long 1) 11) 11 (ci_push (.long 9) 14)))) := cq_ok (cr_iload_n (k := 2) (dq_28 (by decide +kernel)) rfl rfl) (cq_ok (cr_i2l (dq_133 (by decide +kernel)) rfl) (cq_ok (cr_lconst (n := 1) (dq_10 (by decide +kernel)) (by decide +kernel) rfl) (cr_ldc2 zl_558 (dq_20 (a := 1) (b := 7) (by decide +kernel) rfl) rfl)))
set_option maxRecDepth 100000 in
theorem cl_X9_price_14 : ci_calls yX9_price cX9_price 3 14 yX9_in 3 none := cr_callS (idx := 134) zl_992 zl_654 ⟨by decide, by decide⟩ hp_X9_in zl_467 (Or.inl zl_466) (dq_184 (a := 0) (b := 134) (by decide +kernel) rfl)
set_option maxRecDepth 100000 in
theorem cb_X9_price_17 : ci_ok yX9_price cX9_price 3 17 (ci_if (fun x => decide (x = 0)) 32 20) := cr_if_eq (off := 15) (dq_153 (a := 0) (b := 15) (by decide +kernel) rfl) (by decide) rfl
set_option maxRecDepth 100000 in
theorem cb_X9_price_20 : ci_ok yX9_price cX9_price 3 20 (ci_seq (ci_load 2 0 21) 21 (ci_seq (ci_push (.int 28) 23) 23 (ci_seq (ci_load 0 1 24) 24 (ci_seq (ci_bin (fun a b => a + b) 25) 25 (ci_load 0 2 26))))) := cq_ok (cr_aload_n (k := 0) (dq_42 (by decide +kernel)) rfl rfl) (cq_ok (cr_bipush (n := 28) (dq_16 (a := 28) (by decide +kernel) rfl) (by decide +kernel) rfl) (cq_ok (cr_iload_n (k := 1) (dq_27 (by decide +kernel)) rfl rfl) (cq_ok (cr_iadd (dq_96 (by decide +kernel)) rfl) (cr_iload_n (k := 2) (dq_28 (by decide +kernel)) rfl rfl))))
set_option maxRecDepth 100000 in
theorem cl_X9_price_26 : ci_calls yX9_price cX9_price 3 26 yX9_becomes 3 (some 9) := cr_callV (idx := 258) zl_1028 ⟨by decide, by decide⟩ hp_X9_becomes zc_9 zl_555 zl_556 (Or.inl zl_554) (dq_182 (a := 1) (b := 2) (by decide +kernel) rfl)
set_option maxRecDepth 100000 in
theorem cb_X9_price_29 : ci_ok yX9_price cX9_price 3 29 (ci_go 33) := cr_goto (off := 4) (dq_167 (a := 0) (b := 4) (by decide +kernel) rfl) (by decide)
set_option maxRecDepth 100000 in
theorem cb_X9_price_32 : ci_ok yX9_price cX9_price 3 32 (ci_push (.int (-1)) 33) := cr_iconst2 (n := -1) (dq_2 (by decide +kernel)) (by decide +kernel) rfl
set_option maxRecDepth 100000 in
theorem cd_X9_price_33 : decode cX9_price 33 = .ok (zi_rop (some .int), 1) := (dq_172 (by decide +kernel))
set_option maxRecDepth 100000 in
theorem cb_X9_marks_0 : ci_ok yX9_marks cX9_marks 2 0 (ci_seq (ci_push (.int 0) 1) 1 (ci_store 0 1 2)) := cq_ok (cr_iconst2 (n := 0) (dq_3 (by decide +kernel)) (by decide +kernel) rfl) (cr_istore_n (k := 1) (dq_60 (by decide +kernel)) rfl (by decide) rfl)
set_option maxRecDepth 100000 in
theorem cb_X9_marks_2 : ci_ok yX9_marks cX9_marks 2 2 (ci_seq (ci_load 0 1 3) 3 (ci_seq (ci_push (.int 25) 5) 5 (ci_ic (fun x y => decide (y ≤ x)) 26 8))) := cq_ok (cr_iload_n (k := 1) (dq_27 (by decide +kernel)) rfl rfl) (cq_ok (cr_bipush (n := 25) (dq_16 (a := 25) (by decide +kernel) rfl) (by decide +kernel) rfl) (cr_ic_ge (off := 21) (dq_162 (a := 0) (b := 21) (by decide +kernel) rfl) (by decide) rfl))
set_option maxRecDepth 100000 in
theorem cb_X9_marks_8 : ci_ok yX9_marks cX9_marks 2 8 (ci_seq (ci_load 2 0 9) 9 (ci_seq (ci_getf 9 33 12) 12 (ci_seq (ci_load 0 1 13) 13 (ci_seq (ci_load 2 0 14) 14 (ci_seq (ci_getf 9 0 17) 17 (ci_seq (ci_load 0 1 18) 18 (ci_seq (ci_ald .int 19) 19 (ci_seq (ci_ast .int 20) 20 (ci_seq (ci_inc 1 1 23) 23 (ci_go 2)))))))))) := cq_ok (cr_aload_n (k := 0) (dq_42 (by decide +kernel)) rfl rfl) (cq_ok (cr_getf (idx := 38) zc_9 (by decide) zl_431 (dq_180 (a := 0) (b := 38) (by decide +kernel) rfl) rfl) (cq_ok (cr_iload_n (k := 1) (dq_27 (by decide +kernel)) rfl rfl) (cq_ok (cr_aload_n (k := 0) (dq_42 (by decide +kernel)) rfl rfl) (cq_ok (cr_getf (idx := 7) zc_9 (by decide) zl_441 (dq_180 (a := 0) (b := 7) (by decide +kernel) rfl) rfl) (cq_ok (cr_iload_n (k := 1) (dq_27 (by decide +kernel)) rfl rfl) (cq_ok (cr_ald (ins := .iaload) rfl (dq_46 (by decide +kernel)) (Or.inl ⟨rfl, rfl⟩)) (cq_ok (cr_ast (ins := .iastore) rfl (dq_79 (by decide +kernel)) (Or.inl ⟨rfl, rfl⟩)) (cq_ok (ci_inc_ok (by decide) (dq_132 (a := 1) (b := 1) (by decide +kernel) rfl) rfl) (cr_goto (off := -21) (dq_167 (a := 255) (b := 235) (by decide +kernel) rfl) (by decide))))))))))
set_option maxRecDepth 100000 in
theorem cd_X9_marks_26 : decode cX9_marks 26 = .ok (zi_rop none, 1) := (dq_177 (by decide +kernel))
set_option maxRecDepth 100000 in
theorem cb_X9_returns_0 : ci_ok yX9_returns cX9_returns 2 0 (ci_seq (ci_push (.int 0) 1) 1 (ci_store 0 1 2)) := cq_ok (cr_iconst2 (n := 0) (dq_3 (by decide +kernel)) (by decide +kernel) rfl) (cr_istore_n (k := 1) (dq_60 (by decide +kernel)) rfl (by decide) rfl)
set_option maxRecDepth 100000 in
theorem cb_X9_returns_2 : ci_ok yX9_returns cX9_returns 2 2 (ci_seq (ci_load 0 1 3) 3 (ci_seq (ci_push (.int 25) 5) 5 (ci_ic (fun x y => decide (y ≤ x)) 26 8))) := cq_ok (cr_iload_n (k := 1) (dq_27 (by decide +kernel)) rfl rfl) (cq_ok (cr_bipush (n := 25) (dq_16 (a := 25) (by decide +kernel) rfl) (by decide +kernel) rfl) (cr_ic_ge (off := 21) (dq_162 (a := 0) (b := 21) (by decide +kernel) rfl) (by decide) rfl))
set_option maxRecDepth 100000 in
theorem cb_X9_returns_8 : ci_ok yX9_returns cX9_returns 2 8 (ci_seq (ci_load 2 0 9) 9 (ci_seq (ci_getf 9 0 12) 12 (ci_seq (ci_load 0 1 13) 13 (ci_seq (ci_load 2 0 14) 14 (ci_seq (ci_getf 9 33 17) 17 (ci_seq (ci_load 0 1 18) 18 (ci_seq (ci_ald .int 19) 19 (ci_seq (ci_ast .int 20) 20 (ci_seq (ci_inc 1 1 23) 23 (ci_go 2)))))))))) := cq_ok (cr_aload_n (k := 0) (dq_42 (by decide +kernel)) rfl rfl) (cq_ok (cr_getf (idx := 7) zc_9 (by decide) zl_441 (dq_180 (a := 0) (b := 7) (by decide +kernel) rfl) rfl) (cq_ok (cr_iload_n (k := 1) (dq_27 (by decide +kernel)) rfl rfl) (cq_ok (cr_aload_n (k := 0) (dq_42 (by decide +kernel)) rfl rfl) (cq_ok (cr_getf (idx := 38) zc_9 (by decide) zl_431 (dq_180 (a := 0) (b := 38) (by decide +kernel) rfl) rfl) (cq_ok (cr_iload_n (k := 1) (dq_27 (by decide +kernel)) rfl rfl) (cq_ok (cr_ald (ins := .iaload) rfl (dq_46 (by decide +kernel)) (Or.inl ⟨rfl, rfl⟩)) (cq_ok (cr_ast (ins := .iastore) rfl (dq_79 (by decide +kernel)) (Or.inl ⟨rfl, rfl⟩)) (cq_ok (ci_inc_ok (by decide) (dq_132 (a := 1) (b := 1) (by decide +kernel) rfl) rfl) (cr_goto (off := -21) (dq_167 (a := 255) (b := 235) (by decide +kernel) rfl) (by decide))))))))))
set_option maxRecDepth 100000 in
theorem cd_X9_returns_26 : decode cX9_returns 26 = .ok (zi_rop none, 1) := (dq_177 (by decide +kernel))
set_option maxRecDepth 100000 in
theorem cb_X9_cutOf_0 : ci_ok yX9_cutOf cX9_cutOf 3 0 (ci_seq (ci_load 0 1 1) 1 (ci_if (fun x => !decide (x = 0)) 8 4)) := cq_ok (cr_iload_n (k := 1) (dq_27 (by decide +kernel)) rfl rfl) (cr_if_ne (off := 7) (dq_154 (a := 0) (b := 7) (by decide +kernel) rfl) (by decide) rfl)
set_option maxRecDepth 100000 in
theorem cb_X9_cutOf_4 : ci_ok yX9_cutOf cX9_cutOf 3 4 (ci_seq (ci_load 0 0 5) 5 (ci_go 25)) := cq_ok (cr_iload_n (k := 0) (dq_26 (by decide +kernel)) rfl rfl) (cr_goto (off := 20) (dq_167 (a := 0) (b := 20) (by decide +kernel) rfl) (by decide))
set_option maxRecDepth 100000 in
theorem cb_X9_cutOf_8 : ci_ok yX9_cutOf cX9_cutOf 3 8 (ci_seq (ci_load 0 1 9) 9 (ci_seq (ci_push (.int 1) 10) 10 (ci_ic (fun x y => !decide (x = y)) 20 13))) := cq_ok (cr_iload_n (k := 1) (dq_27 (by decide +kernel)) rfl rfl) (cq_ok (cr_iconst2 (n := 1) (dq_4 (by decide +kernel)) (by decide +kernel) rfl) (cr_ic_ne (off := 10) (dq_160 (a := 0) (b := 10) (by decide +kernel) rfl) (by decide) rfl))
set_option maxRecDepth 100000 in
theorem cb_X9_cutOf_13 : ci_ok yX9_cutOf cX9_cutOf 3 13 (ci_seq (ci_load 0 0 14) 14 (ci_seq (ci_push (.int 26) 16) 16 (ci_seq (ci_dv (fun a b => a / b) 17) 17 (ci_go 25)))) := cq_ok (cr_iload_n (k := 0) (dq_26 (by decide +kernel)) rfl rfl) (cq_ok (cr_bipush (n := 26) (dq_16 (a := 26) (by decide +kernel) rfl) (by decide +kernel) rfl) (cq_ok (cr_idiv (dq_108 (by decide +kernel)) rfl) (cr_goto (off := 8) (dq_167 (a := 0) (b := 8) (by decide +kernel) rfl) (by decide))))
set_option maxRecDepth 100000 in
theorem cb_X9_cutOf_20 : ci_ok yX9_cutOf cX9_cutOf 3 20 (ci_seq (ci_load 0 0 21) 21 (ci_seq (ci_push (.int 676) 24) 24 (ci_dv (fun a b => a / b) 25))) := cq_ok (cr_iload_n (k := 0) (dq_26 (by decide +kernel)) rfl rfl) (cq_ok (cr_sipush (n := 676) (dq_17 (a := 2) (b := 164) (by decide +kernel) rfl) (by decide +kernel) rfl) (cr_idiv (dq_108 (by decide +kernel)) rfl))
set_option maxRecDepth 100000 in
theorem cb_X9_cutOf_25 : ci_ok yX9_cutOf cX9_cutOf 3 25 (ci_seq (ci_store 0 2 26) 26 (ci_seq (ci_load 0 2 27) 27 (ci_seq (ci_push (.int 26) 29) 29 (ci_seq (ci_dv (fun a b => a - a / b * b) 30) 30 (ci_seq (ci_push (.int 1) 31) 31 (ci_bin (fun a b => a - b) 32)))))) := cq_ok (cr_istore_n (k := 2) (dq_61 (by decide +kernel)) rfl (by decide) rfl) (cq_ok (cr_iload_n (k := 2) (dq_28 (by decide +kernel)) rfl rfl) (cq_ok (cr_bipush (n := 26) (dq_16 (a := 26) (by decide +kernel) rfl) (by decide +kernel) rfl) (cq_ok (cr_irem (dq_112 (by decide +kernel)) rfl) (cq_ok (cr_iconst2 (n := 1) (dq_4 (by decide +kernel)) (by decide +kernel) rfl) (cr_isub (dq_100 (by decide +kernel)) rfl)))))
set_option maxRecDepth 100000 in
theorem cd_X9_cutOf_32 : decode cX9_cutOf 32 = .ok (zi_rop (some .int), 1) := (dq_172 (by decide +kernel))
set_option maxRecDepth 100000 in
theorem cb_X9_timesOf_0 : ci_ok yX9_timesOf cX9_timesOf 1 0 (ci_seq (ci_load 0 0 1) 1 (ci_if (fun x => !decide (x = 0)) 8 4)) := cq_ok (cr_iload_n (k := 0) (dq_26 (by decide +kernel)) rfl rfl) (cr_if_ne (off := 7) (dq_154 (a := 0) (b := 7) (by decide +kernel) rfl) (by decide) rfl)
set_option maxRecDepth 100000 in
theorem cb_X9_timesOf_4 : ci_ok yX9_timesOf cX9_timesOf 1 4 (ci_seq (ci_push (.int 1) 5) 5 (ci_go 21)) := cq_ok (cr_iconst2 (n := 1) (dq_4 (by decide +kernel)) (by decide +kernel) rfl) (cr_goto (off := 16) (dq_167 (a := 0) (b := 16) (by decide +kernel) rfl) (by decide))
set_option maxRecDepth 100000 in
theorem cb_X9_timesOf_8 : ci_ok yX9_timesOf cX9_timesOf 1 8 (ci_seq (ci_load 0 0 9) 9 (ci_seq (ci_push (.int 1) 10) 10 (ci_ic (fun x y => !decide (x = y)) 18 13))) := cq_ok (cr_iload_n (k := 0) (dq_26 (by decide +kernel)) rfl rfl) (cq_ok (cr_iconst2 (n := 1) (dq_4 (by decide +kernel)) (by decide +kernel) rfl) (cr_ic_ne (off := 8) (dq_160 (a := 0) (b := 8) (by decide +kernel) rfl) (by decide) rfl))
set_option maxRecDepth 100000 in
theorem cb_X9_timesOf_13 : ci_ok yX9_timesOf cX9_timesOf 1 13 (ci_seq (ci_push (.int 26) 15) 15 (ci_go 21)) := cq_ok (cr_bipush (n := 26) (dq_16 (a := 26) (by decide +kernel) rfl) (by decide +kernel) rfl) (cr_goto (off := 6) (dq_167 (a := 0) (b := 6) (by decide +kernel) rfl) (by decide))
set_option maxRecDepth 100000 in
theorem cb_X9_timesOf_18 : ci_ok yX9_timesOf cX9_timesOf 1 18 (ci_push (.int 676) 21) := cr_sipush (n := 676) (dq_17 (a := 2) (b := 164) (by decide +kernel) rfl) (by decide +kernel) rfl
set_option maxRecDepth 100000 in
theorem cd_X9_timesOf_21 : decode cX9_timesOf 21 = .ok (zi_rop (some .int), 1) := (dq_172 (by decide +kernel))
set_option maxRecDepth 100000 in
theorem cb_X9_firstWrong_0 : ci_ok yX9_firstWrong cX9_firstWrong 6 0 (ci_seq (ci_push (.int 3) 1) 1 (ci_seq (ci_store 0 2 2) 2 (ci_seq (ci_push (.int 2) 3) 3 (ci_store 0 3 4)))) := cq_ok (cr_iconst2 (n := 3) (dq_6 (by decide +kernel)) (by decide +kernel) rfl) (cq_ok (cr_istore_n (k := 2) (dq_61 (by decide +kernel)) rfl (by decide) rfl) (cq_ok (cr_iconst2 (n := 2) (dq_5 (by decide +kernel)) (by decide +kernel) rfl) (cr_istore_n (k := 3) (dq_62 (by decide +kernel)) rfl (by decide) rfl)))
set_option maxRecDepth 100000 in
theorem cb_X9_firstWrong_4 : ci_ok yX9_firstWrong cX9_firstWrong 6 4 (ci_seq (ci_load 0 3 5) 5 (ci_if (fun x => decide (x < 0)) 66 8)) := cq_ok (cr_iload_n (k := 3) (dq_29 (by decide +kernel)) rfl rfl) (cr_if_lt (off := 61) (dq_155 (a := 0) (b := 61) (by decide +kernel) rfl) (by decide) rfl)
set_option maxRecDepth 100000 in
theorem cb_X9_firstWrong_8 : ci_ok yX9_firstWrong cX9_firstWrong 6 8 (ci_seq (ci_load 0 1 9) 9 (ci_load 0 3 10)) := cq_ok (cr_iload_n (k := 1) (dq_27 (by decide +kernel)) rfl rfl) (cr_iload_n (k := 3) (dq_29 (by decide +kernel)) rfl rfl)
set_option maxRecDepth 100000 in
theorem cl_X9_firstWrong_10 : ci_calls yX9_firstWrong cX9_firstWrong 6 10 yX9_cutOf 2 none := cr_callS (idx := 265) zl_1036 zl_654 ⟨by decide, by decide⟩ hp_X9_cutOf zl_560 (Or.inl zl_559) (dq_184 (a := 1) (b := 9) (by decide +kernel) rfl)
set_option maxRecDepth 100000 in
theorem cb_X9_firstWrong_13 : ci_ok yX9_firstWrong cX9_firstWrong 6 13 (ci_seq (ci_store 0 4 15) 15 (ci_seq (ci_load 0 4 17) 17 (ci_if (fun x => decide (x < 0)) 42 20))) := cq_ok (cr_istore (dq_54 (by decide +kernel)) (by decide) rfl) (cq_ok (cr_iload (dq_21 (by decide +kernel)) rfl) (cr_if_lt (off := 25) (dq_155 (a := 0) (b := 25) (by decide +kernel) rfl) (by decide) rfl))
set_option maxRecDepth 100000 in
theorem cb_X9_firstWrong_20 : ci_ok yX9_firstWrong cX9_firstWrong 6 20 (ci_seq (ci_load 0 3 21) 21 (ci_seq (ci_load 2 0 22) 22 (ci_seq (ci_getf 9 4 25) 25 (ci_ic (fun x y => decide (y ≤ x)) 46 28)))) := cq_ok (cr_iload_n (k := 3) (dq_29 (by decide +kernel)) rfl rfl) (cq_ok (cr_aload_n (k := 0) (dq_42 (by decide +kernel)) rfl rfl) (cq_ok (cr_getf (idx := 126) zc_9 (by decide) zl_461 (dq_180 (a := 0) (b := 126) (by decide +kernel) rfl) rfl) (cr_ic_ge (off := 21) (dq_162 (a := 0) (b := 21) (by decide +kernel) rfl) (by decide) rfl)))
set_option maxRecDepth 100000 in
theorem cb_X9_firstWrong_28 : ci_ok yX9_firstWrong cX9_firstWrong 6 28 (ci_seq (ci_load 2 0 29) 29 (ci_load 0 3 30)) := cq_ok (cr_aload_n (k := 0) (dq_42 (by decide +kernel)) rfl rfl) (cr_iload_n (k := 3) (dq_29 (by decide +kernel)) rfl rfl)
set_option maxRecDepth 100000 in
theorem cl_X9_firstWrong_30 : ci_calls yX9_firstWrong cX9_firstWrong 6 30 yX9_mayCut 2 (some 9) := cr_callV (idx := 253) zl_1023 ⟨by decide, by decide⟩ hp_X9_mayCut zc_9 zl_551 zl_552 (Or.inl zl_550) (dq_182 (a := 0) (b := 253) (by decide +kernel) rfl)
set_option maxRecDepth 100000 in
theorem cb_X9_firstWrong_33 : ci_ok yX9_firstWrong cX9_firstWrong 6 33 (ci_seq (ci_load 0 4 35) 35 (ci_seq (ci_bin (fun a b => a >>> (b &&& 31)) 36) 36 (ci_seq (ci_push (.int 1) 37) 37 (ci_seq (ci_bin (fun a b => a &&& b) 38) 38 (ci_seq (ci_push (.int 1) 39) 39 (ci_ic (fun x y => !decide (x = y)) 46 42)))))) := cq_ok (cr_iload (dq_21 (by decide +kernel)) rfl) (cq_ok (cr_ishr (dq_122 (by decide +kernel)) rfl) (cq_ok (cr_iconst2 (n := 1) (dq_4 (by decide +kernel)) (by decide +kernel) rfl) (cq_ok (cr_iand (dq_126 (by decide +kernel)) rfl) (cq_ok (cr_iconst2 (n := 1) (dq_4 (by decide +kernel)) (by decide +kernel) rfl) (cr_ic_ne (off := 7) (dq_160 (a := 0) (b := 7) (by decide +kernel) rfl) (by decide) rfl)))))
set_option maxRecDepth 100000 in
theorem cb_X9_firstWrong_42 : ci_ok yX9_firstWrong cX9_firstWrong 6 42 (ci_seq (ci_push (.int 1) 43) 43 (ci_go 47)) := cq_ok (cr_iconst2 (n := 1) (dq_4 (by decide +kernel)) (by decide +kernel) rfl) (cr_goto (off := 4) (dq_167 (a := 0) (b := 4) (by decide +kernel) rfl) (by decide))
set_option maxRecDepth 100000 in
theorem cb_X9_firstWrong_46 : ci_ok yX9_firstWrong cX9_firstWrong 6 46 (ci_push (.int 0) 47) := cr_iconst2 (n := 0) (dq_3 (by decide +kernel)) (by decide +kernel) rfl
set_option maxRecDepth 100000 in
theorem cb_X9_firstWrong_47 : ci_ok yX9_firstWrong cX9_firstWrong 6 47 (ci_seq (ci_store 0 5 49) 49 (ci_seq (ci_load 0 5 51) 51 (ci_if (fun x => decide (x = 0)) 58 54))) := cq_ok (cr_istore (dq_54 (by decide +kernel)) (by decide) rfl) (cq_ok (cr_iload (dq_21 (by decide +kernel)) rfl) (cr_if_eq (off := 7) (dq_153 (a := 0) (b := 7) (by decide +kernel) rfl) (by decide) rfl))
set_option maxRecDepth 100000 in
theorem cb_X9_firstWrong_54 : ci_ok yX9_firstWrong cX9_firstWrong 6 54 (ci_seq (ci_load 0 2 55) 55 (ci_go 59)) := cq_ok (cr_iload_n (k := 2) (dq_28 (by decide +kernel)) rfl rfl) (cr_goto (off := 4) (dq_167 (a := 0) (b := 4) (by decide +kernel) rfl) (by decide))
set_option maxRecDepth 100000 in
theorem cb_X9_firstWrong_58 : ci_ok yX9_firstWrong cX9_firstWrong 6 58 (ci_load 0 3 59) := cr_iload_n (k := 3) (dq_29 (by decide +kernel)) rfl rfl
set_option maxRecDepth 100000 in
theorem cb_X9_firstWrong_59 : ci_ok yX9_firstWrong cX9_firstWrong 6 59 (ci_seq (ci_store 0 2 60) 60 (ci_seq (ci_inc 3 (-1) 63) 63 (ci_go 4))) := cq_ok (cr_istore_n (k := 2) (dq_61 (by decide +kernel)) rfl (by decide) rfl) (cq_ok (ci_inc_ok (by decide) (dq_132 (a := 3) (b := 255) (by decide +kernel) rfl) rfl) (cr_goto (off := -59) (dq_167 (a := 255) (b := 197) (by decide +kernel) rfl) (by decide)))
set_option maxRecDepth 100000 in
theorem cb_X9_firstWrong_66 : ci_ok yX9_firstWrong cX9_firstWrong 6 66 (ci_load 0 2 67) := cr_iload_n (k := 2) (dq_28 (by decide +kernel)) rfl rfl
set_option maxRecDepth 100000 in
theorem cd_X9_firstWrong_67 : decode cX9_firstWrong 67 = .ok (zi_rop (some .int), 1) := (dq_172 (by decide +kernel))
set_option maxRecDepth 100000 in
theorem cb_X9_canBe_0 : ci_ok yX9_canBe cX9_canBe 2 0 (ci_seq (ci_load 2 0 1) 1 (ci_load 0 1 2)) := cq_ok (cr_aload_n (k := 0) (dq_42 (by decide +kernel)) rfl rfl) (cr_iload_n (k := 1) (dq_27 (by decide +kernel)) rfl rfl)
set_option maxRecDepth 100000 in
theorem cl_X9_canBe_2 : ci_calls yX9_canBe cX9_canBe 2 2 yX9_firstWrong 2 (some 9) := cr_callV (idx := 268) zl_1038 ⟨by decide, by decide⟩ hp_X9_firstWrong zc_9 zl_562 zl_563 (Or.inl zl_561) (dq_182 (a := 1) (b := 12) (by decide +kernel) rfl)
set_option maxRecDepth 100000 in
theorem cb_X9_canBe_5 : ci_ok yX9_canBe cX9_canBe 2 5 (ci_seq (ci_push (.int 3) 6) 6 (ci_ic (fun x y => !decide (x = y)) 13 9)) := cq_ok (cr_iconst2 (n := 3) (dq_6 (by decide +kernel)) (by decide +kernel) rfl) (cr_ic_ne (off := 7) (dq_160 (a := 0) (b := 7) (by decide +kernel) rfl) (by decide) rfl)
set_option maxRecDepth 100000 in
theorem cb_X9_canBe_9 : ci_ok yX9_canBe cX9_canBe 2 9 (ci_seq (ci_push (.int 1) 10) 10 (ci_go 14)) := cq_ok (cr_iconst2 (n := 1) (dq_4 (by decide +kernel)) (by decide +kernel) rfl) (cr_goto (off := 4) (dq_167 (a := 0) (b := 4) (by decide +kernel) rfl) (by decide))
set_option maxRecDepth 100000 in
theorem cb_X9_canBe_13 : ci_ok yX9_canBe cX9_canBe 2 13 (ci_push (.int 0) 14) := cr_iconst2 (n := 0) (dq_3 (by decide +kernel)) (by decide +kernel) rfl
set_option maxRecDepth 100000 in
theorem cd_X9_canBe_14 : decode cX9_canBe 14 = .ok (zi_rop (some .boolean), 1) := (dq_172 (by decide +kernel))
set_option maxRecDepth 100000 in
theorem cb_X9_silts_0 : ci_ok yX9_silts cX9_silts 4 0 (ci_load 2 0 1) := cr_aload_n (k := 0) (dq_42 (by decide +kernel)) rfl rfl
set_option maxRecDepth 100000 in
theorem cl_X9_silts_1 : ci_calls yX9_silts cX9_silts 4 1 yX9_findBed 1 (some 9) := cr_callV (idx := 227) zl_1019 ⟨by decide, by decide⟩ hp_X9_findBed zc_9 zl_530 zl_531 (Or.inl zl_529) (dq_182 (a := 0) (b := 227) (by decide +kernel) rfl)
set_option maxRecDepth 100000 in
theorem cb_X9_silts_4 : ci_ok yX9_silts cX9_silts 4 4 (ci_seq (ci_load 2 0 5) 5 (ci_seq (ci_getf 9 0 8) 8 (ci_seq (ci_push (.int 27) 10) 10 (ci_seq (ci_ald .int 11) 11 (ci_if (fun x => decide (x = 0)) 22 14))))) := cq_ok (cr_aload_n (k := 0) (dq_42 (by decide +kernel)) rfl rfl) (cq_ok (cr_getf (idx := 7) zc_9 (by decide) zl_441 (dq_180 (a := 0) (b := 7) (by decide +kernel) rfl) rfl) (cq_ok (cr_bipush (n := 27) (dq_16 (a := 27) (by decide +kernel) rfl) (by decide +kernel) rfl) (cq_ok (cr_ald (ins := .iaload) rfl (dq_46 (by decide +kernel)) (Or.inl ⟨rfl, rfl⟩)) (cr_if_eq (off := 11) (dq_153 (a := 0) (b := 11) (by decide +kernel) rfl) (by decide) rfl))))
set_option maxRecDepth 100000 in
theorem cb_X9_silts_14 : ci_ok yX9_silts cX9_silts 4 14 (ci_seq (ci_load 2 0 15) 15 (ci_seq (ci_getf 9 31 18) 18 (ci_seq (ci_push (.int 4) 19) 19 (ci_ic (fun x y => decide (y ≤ x)) 23 22)))) := cq_ok (cr_aload_n (k := 0) (dq_42 (by decide +kernel)) rfl rfl) (cq_ok (cr_getf (idx := 221) zc_9 (by decide) zl_525 (dq_180 (a := 0) (b := 221) (by decide +kernel) rfl) rfl) (cq_ok (cr_iconst2 (n := 4) (dq_7 (by decide +kernel)) (by decide +kernel) rfl) (cr_ic_ge (off := 4) (dq_162 (a := 0) (b := 4) (by decide +kernel) rfl) (by decide) rfl)))
set_option maxRecDepth 100000 in
theorem cd_X9_silts_22 : decode cX9_silts 22 = .ok (zi_rop none, 1) := (dq_177 (by decide +kernel))
set_option maxRecDepth 100000 in
theorem cb_X9_silts_23 : ci_ok yX9_silts cX9_silts 4 23 (ci_seq (ci_push (.int 0) 24) 24 (ci_seq (ci_store 0 1 25) 25 (ci_seq (ci_push (.int 1) 26) 26 (ci_store 0 2 27)))) := cq_ok (cr_iconst2 (n := 0) (dq_3 (by decide +kernel)) (by decide +kernel) rfl) (cq_ok (cr_istore_n (k := 1) (dq_60 (by decide +kernel)) rfl (by decide) rfl) (cq_ok (cr_iconst2 (n := 1) (dq_4 (by decide +kernel)) (by decide +kernel) rfl) (cr_istore_n (k := 2) (dq_61 (by decide +kernel)) rfl (by decide) rfl)))
set_option maxRecDepth 100000 in
theorem cb_X9_silts_27 : ci_ok yX9_silts cX9_silts 4 27 (ci_seq (ci_load 0 2 28) 28 (ci_seq (ci_push (.int 4) 29) 29 (ci_ic (fun x y => decide (y ≤ x)) 77 32))) := cq_ok (cr_iload_n (k := 2) (dq_28 (by decide +kernel)) rfl rfl) (cq_ok (cr_iconst2 (n := 4) (dq_7 (by decide +kernel)) (by decide +kernel) rfl) (cr_ic_ge (off := 48) (dq_162 (a := 0) (b := 48) (by decide +kernel) rfl) (by decide) rfl))
set_option maxRecDepth 100000 in
theorem cb_X9_silts_32 : ci_ok yX9_silts cX9_silts 4 32 (ci_seq (ci_load 2 0 33) 33 (ci_seq (ci_getf 9 0 36) 36 (ci_seq (ci_load 2 0 37) 37 (ci_seq (ci_getf 9 30 40) 40 (ci_seq (ci_load 0 2 41) 41 (ci_seq (ci_ald .int 42) 42 (ci_seq (ci_ald .int 43) 43 (ci_if (fun x => decide (x ≤ 0)) 50 46)))))))) := cq_ok (cr_aload_n (k := 0) (dq_42 (by decide +kernel)) rfl rfl) (cq_ok (cr_getf (idx := 7) zc_9 (by decide) zl_441 (dq_180 (a := 0) (b := 7) (by decide +kernel) rfl) rfl) (cq_ok (cr_aload_n (k := 0) (dq_42 (by decide +kernel)) rfl rfl) (cq_ok (cr_getf (idx := 35) zc_9 (by decide) zl_432 (dq_180 (a := 0) (b := 35) (by decide +kernel) rfl) rfl) (cq_ok (cr_iload_n (k := 2) (dq_28 (by decide +kernel)) rfl rfl) (cq_ok (cr_ald (ins := .iaload) rfl (dq_46 (by decide +kernel)) (Or.inl ⟨rfl, rfl⟩)) (cq_ok (cr_ald (ins := .iaload) rfl (dq_46 (by decide +kernel)) (Or.inl ⟨rfl, rfl⟩)) (cr_if_le (off := 7) (dq_158 (a := 0) (b := 7) (by decide +kernel) rfl) (by decide) rfl)))))))
set_option maxRecDepth 100000 in
theorem cb_X9_silts_46 : ci_ok yX9_silts cX9_silts 4 46 (ci_seq (ci_push (.int 1) 47) 47 (ci_go 51)) := cq_ok (cr_iconst2 (n := 1) (dq_4 (by decide +kernel)) (by decide +kernel) rfl) (cr_goto (off := 4) (dq_167 (a := 0) (b := 4) (by decide +kernel) rfl) (by decide))
set_option maxRecDepth 100000 in
theorem cb_X9_silts_50 : ci_ok yX9_silts cX9_silts 4 50 (ci_push (.int 0) 51) := cr_iconst2 (n := 0) (dq_3 (by decide +kernel)) (by decide +kernel) rfl
set_option maxRecDepth 100000 in
theorem cb_X9_silts_51 : ci_ok yX9_silts cX9_silts 4 51 (ci_seq (ci_store 0 3 52) 52 (ci_seq (ci_load 2 0 53) 53 (ci_seq (ci_getf 9 0 56) 56 (ci_seq (ci_load 2 0 57) 57 (ci_seq (ci_getf 9 30 60) 60 (ci_seq (ci_load 0 2 61) 61 (ci_seq (ci_ald .int 62) 62 (ci_seq (ci_dup2 63) 63 (ci_seq (ci_ald .int 64) 64 (ci_seq (ci_load 0 3 65) 65 (ci_seq (ci_bin (fun a b => a - b) 66) 66 (ci_seq (ci_ast .int 67) 67 (ci_seq (ci_load 0 1 68) 68 (ci_seq (ci_load 0 3 69) 69 (ci_seq (ci_bin (fun a b => a + b) 70) 70 (ci_seq (ci_store 0 1 71) 71 (ci_seq (ci_inc 2 1 74) 74 (ci_go 27)))))))))))))))))) := cq_ok (cr_istore_n (k := 3) (dq_62 (by decide +kernel)) rfl (by decide) rfl) (cq_ok (cr_aload_n (k := 0) (dq_42 (by decide +kernel)) rfl rfl) (cq_ok (cr_getf (idx := 7) zc_9 (by decide) zl_441 (dq_180 (a := 0) (b := 7) (by decide +kernel) rfl) rfl) (cq_ok (cr_aload_n (k := 0) (dq_42 (by decide +kernel)) rfl rfl) (cq_ok (cr_getf (idx := 35) zc_9 (by decide) zl_432 (dq_180 (a := 0) (b := 35) (by decide +kernel) rfl) rfl) (cq_ok (cr_iload_n (k := 2) (dq_28 (by decide +kernel)) rfl rfl) (cq_ok (cr_ald (ins := .iaload) rfl (dq_46 (by decide +kernel)) (Or.inl ⟨rfl, rfl⟩)) (cq_ok (cr_dup2 (dq_92 (by decide +kernel)) rfl) (cq_ok (cr_ald (ins := .iaload) rfl (dq_46 (by decide +kernel)) (Or.inl ⟨rfl, rfl⟩)) (cq_ok (cr_iload_n (k := 3) (dq_29 (by decide +kernel)) rfl rfl) (cq_ok (cr_isub (dq_100 (by decide +kernel)) rfl) (cq_ok (cr_ast (ins := .iastore) rfl (dq_79 (by decide +kernel)) (Or.inl ⟨rfl, rfl⟩)) (cq_ok (cr_iload_n (k := 1) (dq_27 (by decide +kernel)) rfl rfl) (cq_ok (cr_iload_n (k := 3) (dq_29 (by decide +kernel)) rfl rfl) (cq_ok (cr_iadd (dq_96 (by decide +kernel)) rfl) (cq_ok (cr_istore_n (k := 1) (dq_60 (by decide +kernel)) rfl (by decide) rfl) (cq_ok (ci_inc_ok (by decide) (dq_132 (a := 2) (b := 1) (by decide +kernel) rfl) rfl) (cr_goto (off := -47) (dq_167 (a := 255) (b := 209) (by decide +kernel) rfl) (by decide))))))))))))))))))
set_option maxRecDepth 100000 in
theorem cb_X9_silts_77 : ci_ok yX9_silts cX9_silts 4 77 (ci_seq (ci_load 2 0 78) 78 (ci_seq (ci_getf 9 0 81) 81 (ci_seq (ci_load 2 0 82) 82 (ci_seq (ci_getf 9 30 85) 85 (ci_seq (ci_load 2 0 86) 86 (ci_seq (ci_getf 9 31 89) 89 (ci_seq (ci_push (.int 1) 90) 90 (ci_seq (ci_bin (fun a b => a - b) 91) 91 (ci_seq (ci_ald .int 92) 92 (ci_seq (ci_dup2 93) 93 (ci_seq (ci_ald .int 94) 94 (ci_seq (ci_load 0 1 95) 95 (ci_seq (ci_bin (fun a b => a + b) 96) 96 (ci_ast .int 97)))))))))))))) := cq_ok (cr_aload_n (k := 0) (dq_42 (by decide +kernel)) rfl rfl) (cq_ok (cr_getf (idx := 7) zc_9 (by decide) zl_441 (dq_180 (a := 0) (b := 7) (by decide +kernel) rfl) rfl) (cq_ok (cr_aload_n (k := 0) (dq_42 (by decide +kernel)) rfl rfl) (cq_ok (cr_getf (idx := 35) zc_9 (by decide) zl_432 (dq_180 (a := 0) (b := 35) (by decide +kernel) rfl) rfl) (cq_ok (cr_aload_n (k := 0) (dq_42 (by decide +kernel)) rfl rfl) (cq_ok (cr_getf (idx := 221) zc_9 (by decide) zl_525 (dq_180 (a := 0) (b := 221) (by decide +kernel) rfl) rfl) (cq_ok (cr_iconst2 (n := 1) (dq_4 (by decide +kernel)) (by decide +kernel) rfl) (cq_ok (cr_isub (dq_100 (by decide +kernel)) rfl) (cq_ok (cr_ald (ins := .iaload) rfl (dq_46 (by decide +kernel)) (Or.inl ⟨rfl, rfl⟩)) (cq_ok (cr_dup2 (dq_92 (by decide +kernel)) rfl) (cq_ok (cr_ald (ins := .iaload) rfl (dq_46 (by decide +kernel)) (Or.inl ⟨rfl, rfl⟩)) (cq_ok (cr_iload_n (k := 1) (dq_27 (by decide +kernel)) rfl rfl) (cq_ok (cr_iadd (dq_96 (by decide +kernel)) rfl) (cr_ast (ins := .iastore) rfl (dq_79 (by decide +kernel)) (Or.inl ⟨rfl, rfl⟩))))))))))))))
set_option maxRecDepth 100000 in
theorem cd_X9_silts_97 : decode cX9_silts 97 = .ok (zi_rop none, 1) := (dq_177 (by decide +kernel))
set_option maxRecDepth 100000 in
theorem cb_X9_goes_0 : ci_ok yX9_goes cX9_goes 4 0 (ci_seq (ci_push (.int 0) 1) 1 (ci_store 0 2 2)) := cq_ok (cr_iconst2 (n := 0) (dq_3 (by decide +kernel)) (by decide +kernel) rfl) (cr_istore_n (k := 2) (dq_61 (by decide +kernel)) rfl (by decide) rfl)
set_option maxRecDepth 100000 in
theorem cb_X9_goes_2 : ci_ok yX9_goes cX9_goes 4 2 (ci_seq (ci_load 0 2 3) 3 (ci_seq (ci_push (.int 3) 4) 4 (ci_ic (fun x y => decide (y ≤ x)) 33 7))) := cq_ok (cr_iload_n (k := 2) (dq_28 (by decide +kernel)) rfl rfl) (cq_ok (cr_iconst2 (n := 3) (dq_6 (by decide +kernel)) (by decide +kernel) rfl) (cr_ic_ge (off := 29) (dq_162 (a := 0) (b := 29) (by decide +kernel) rfl) (by decide) rfl))
set_option maxRecDepth 100000 in
theorem cb_X9_goes_7 : ci_ok yX9_goes cX9_goes 4 7 (ci_seq (ci_load 0 1 8) 8 (ci_load 0 2 9)) := cq_ok (cr_iload_n (k := 1) (dq_27 (by decide +kernel)) rfl rfl) (cr_iload_n (k := 2) (dq_28 (by decide +kernel)) rfl rfl)
set_option maxRecDepth 100000 in
theorem cl_X9_goes_9 : ci_calls yX9_goes cX9_goes 4 9 yX9_cutOf 2 none := cr_callS (idx := 265) zl_1036 zl_654 ⟨by decide, by decide⟩ hp_X9_cutOf zl_560 (Or.inl zl_559) (dq_184 (a := 1) (b := 9) (by decide +kernel) rfl)
set_option maxRecDepth 100000 in
theorem cb_X9_goes_12 : ci_ok yX9_goes cX9_goes 4 12 (ci_seq (ci_store 0 3 13) 13 (ci_seq (ci_load 0 3 14) 14 (ci_if (fun x => decide (x < 0)) 27 17))) := cq_ok (cr_istore_n (k := 3) (dq_62 (by decide +kernel)) rfl (by decide) rfl) (cq_ok (cr_iload_n (k := 3) (dq_29 (by decide +kernel)) rfl rfl) (cr_if_lt (off := 13) (dq_155 (a := 0) (b := 13) (by decide +kernel) rfl) (by decide) rfl))
set_option maxRecDepth 100000 in
theorem cb_X9_goes_17 : ci_ok yX9_goes cX9_goes 4 17 (ci_seq (ci_load 2 0 18) 18 (ci_seq (ci_getf 9 0 21) 21 (ci_seq (ci_load 0 3 22) 22 (ci_seq (ci_dup2 23) 23 (ci_seq (ci_ald .int 24) 24 (ci_seq (ci_push (.int 3) 25) 25 (ci_seq (ci_bin (fun a b => a - b) 26) 26 (ci_ast .int 27)))))))) := cq_ok (cr_aload_n (k := 0) (dq_42 (by decide +kernel)) rfl rfl) (cq_ok (cr_getf (idx := 7) zc_9 (by decide) zl_441 (dq_180 (a := 0) (b := 7) (by decide +kernel) rfl) rfl) (cq_ok (cr_iload_n (k := 3) (dq_29 (by decide +kernel)) rfl rfl) (cq_ok (cr_dup2 (dq_92 (by decide +kernel)) rfl) (cq_ok (cr_ald (ins := .iaload) rfl (dq_46 (by decide +kernel)) (Or.inl ⟨rfl, rfl⟩)) (cq_ok (cr_iconst2 (n := 3) (dq_6 (by decide +kernel)) (by decide +kernel) rfl) (cq_ok (cr_isub (dq_100 (by decide +kernel)) rfl) (cr_ast (ins := .iastore) rfl (dq_79 (by decide +kernel)) (Or.inl ⟨rfl, rfl⟩))))))))
set_option maxRecDepth 100000 in
theorem cb_X9_goes_27 : ci_ok yX9_goes cX9_goes 4 27 (ci_seq (ci_inc 2 1 30) 30 (ci_go 2)) := cq_ok (ci_inc_ok (by decide) (dq_132 (a := 2) (b := 1) (by decide +kernel) rfl) rfl) (cr_goto (off := -28) (dq_167 (a := 255) (b := 228) (by decide +kernel) rfl) (by decide))
set_option maxRecDepth 100000 in
theorem cb_X9_goes_33 : ci_ok yX9_goes cX9_goes 4 33 (ci_load 2 0 34) := cr_aload_n (k := 0) (dq_42 (by decide +kernel)) rfl rfl
set_option maxRecDepth 100000 in
theorem cl_X9_goes_34 : ci_calls yX9_goes cX9_goes 4 34 yX9_silts 1 (some 9) := cr_callV (idx := 271) zl_1040 ⟨by decide, by decide⟩ hp_X9_silts zc_9 zl_565 zl_566 (Or.inl zl_564) (dq_182 (a := 1) (b := 15) (by decide +kernel) rfl)
set_option maxRecDepth 100000 in
theorem cd_X9_goes_37 : decode cX9_goes 37 = .ok (zi_rop none, 1) := (dq_177 (by decide +kernel))
set_option maxRecDepth 100000 in
theorem cb_X9_year_0 : ci_ok yX9_year cX9_year 2 0 (ci_load 0 1 1) := cr_iload_n (k := 1) (dq_27 (by decide +kernel)) rfl rfl
set_option maxRecDepth 100000 in
theorem cl_X9_year_1 : ci_calls yX9_year cX9_year 2 1 yX9_isYear 1 none := cr_callS (idx := 274) zl_1016 zl_654 ⟨by decide, by decide⟩ hp_X9_isYear zl_568 (Or.inl zl_567) (dq_184 (a := 1) (b := 18) (by decide +kernel) rfl)
set_option maxRecDepth 100000 in
theorem cb_X9_year_4 : ci_ok yX9_year cX9_year 2 4 (ci_if (fun x => !decide (x = 0)) 9 7) := cr_if_ne (off := 5) (dq_154 (a := 0) (b := 5) (by decide +kernel) rfl) (by decide) rfl
set_option maxRecDepth 100000 in
theorem cb_X9_year_7 : ci_ok yX9_year cX9_year 2 7 (ci_push (.int (-1)) 8) := cr_iconst2 (n := -1) (dq_2 (by decide +kernel)) (by decide +kernel) rfl
set_option maxRecDepth 100000 in
theorem cd_X9_year_8 : decode cX9_year 8 = .ok (zi_rop (some .int), 1) := (dq_172 (by decide +kernel))
set_option maxRecDepth 100000 in
theorem cb_X9_year_9 : ci_ok yX9_year cX9_year 2 9 (ci_seq (ci_load 2 0 10) 10 (ci_load 0 1 11)) := cq_ok (cr_aload_n (k := 0) (dq_42 (by decide +kernel)) rfl rfl) (cr_iload_n (k := 1) (dq_27 (by decide +kernel)) rfl rfl)
set_option maxRecDepth 100000 in
theorem cl_X9_year_11 : ci_calls yX9_year cX9_year 2 11 yX9_canBe 2 (some 9) := cr_callV (idx := 277) zl_1039 ⟨by decide, by decide⟩ hp_X9_canBe zc_9 zl_570 zl_571 (Or.inl zl_569) (dq_182 (a := 1) (b := 21) (by decide +kernel) rfl)
set_option maxRecDepth 100000 in
theorem cb_X9_year_14 : ci_ok yX9_year cX9_year 2 14 (ci_if (fun x => !decide (x = 0)) 20 17) := cr_if_ne (off := 6) (dq_154 (a := 0) (b := 6) (by decide +kernel) rfl) (by decide) rfl
set_option maxRecDepth 100000 in
theorem cb_X9_year_17 : ci_ok yX9_year cX9_year 2 17 (ci_push (.int (-2)) 19) := cr_bipush (n := -2) (dq_16 (a := 254) (by decide +kernel) rfl) (by decide +kernel) rfl
set_option maxRecDepth 100000 in
theorem cd_X9_year_19 : decode cX9_year 19 = .ok (zi_rop (some .int), 1) := (dq_172 (by decide +kernel))
set_option maxRecDepth 100000 in
theorem cb_X9_year_20 : ci_ok yX9_year cX9_year 2 20 (ci_seq (ci_load 2 0 21) 21 (ci_seq (ci_getf 9 0 24) 24 (ci_seq (ci_push (.int 31) 26) 26 (ci_seq (ci_ald .int 27) 27 (ci_seq (ci_push (.int 999) 30) 30 (ci_ic (fun x y => !decide (x = y)) 36 33)))))) := cq_ok (cr_aload_n (k := 0) (dq_42 (by decide +kernel)) rfl rfl) (cq_ok (cr_getf (idx := 7) zc_9 (by decide) zl_441 (dq_180 (a := 0) (b := 7) (by decide +kernel) rfl) rfl) (cq_ok (cr_bipush (n := 31) (dq_16 (a := 31) (by decide +kernel) rfl) (by decide +kernel) rfl) (cq_ok (cr_ald (ins := .iaload) rfl (dq_46 (by decide +kernel)) (Or.inl ⟨rfl, rfl⟩)) (cq_ok (cr_sipush (n := 999) (dq_17 (a := 3) (b := 231) (by decide +kernel) rfl) (by decide +kernel) rfl) (cr_ic_ne (off := 6) (dq_160 (a := 0) (b := 6) (by decide +kernel) rfl) (by decide) rfl)))))
set_option maxRecDepth 100000 in
theorem cb_X9_year_33 : ci_ok yX9_year cX9_year 2 33 (ci_push (.int (-3)) 35) := cr_bipush (n := -3) (dq_16 (a := 253) (by decide +kernel) rfl) (by decide +kernel) rfl
set_option maxRecDepth 100000 in
theorem cd_X9_year_35 : decode cX9_year 35 = .ok (zi_rop (some .int), 1) := (dq_172 (by decide +kernel))
set_option maxRecDepth 100000 in
theorem cb_X9_year_36 : ci_ok yX9_year cX9_year 2 36 (ci_seq (ci_load 2 0 37) 37 (ci_load 0 1 38)) := cq_ok (cr_aload_n (k := 0) (dq_42 (by decide +kernel)) rfl rfl) (cr_iload_n (k := 1) (dq_27 (by decide +kernel)) rfl rfl)
set_option maxRecDepth 100000 in
theorem cl_X9_year_38 : ci_calls yX9_year cX9_year 2 38 yX9_goes 2 (some 9) := cr_callV (idx := 280) zl_1041 ⟨by decide, by decide⟩ hp_X9_goes zc_9 zl_573 zl_574 (Or.inl zl_572) (dq_182 (a := 1) (b := 24) (by decide +kernel) rfl)
set_option maxRecDepth 100000 in
theorem cb_X9_year_41 : ci_ok yX9_year cX9_year 2 41 (ci_seq (ci_load 2 0 42) 42 (ci_seq (ci_getf 9 0 45) 45 (ci_seq (ci_push (.int 31) 47) 47 (ci_seq (ci_dup2 48) 48 (ci_seq (ci_ald .int 49) 49 (ci_seq (ci_push (.int 1) 50) 50 (ci_seq (ci_bin (fun a b => a + b) 51) 51 (ci_seq (ci_ast .int 52) 52 (ci_load 2 0 53))))))))) := cq_ok (cr_aload_n (k := 0) (dq_42 (by decide +kernel)) rfl rfl) (cq_ok (cr_getf (idx := 7) zc_9 (by decide) zl_441 (dq_180 (a := 0) (b := 7) (by decide +kernel) rfl) rfl) (cq_ok (cr_bipush (n := 31) (dq_16 (a := 31) (by decide +kernel) rfl) (by decide +kernel) rfl) (cq_ok (cr_dup2 (dq_92 (by decide +kernel)) rfl) (cq_ok (cr_ald (ins := .iaload) rfl (dq_46 (by decide +kernel)) (Or.inl ⟨rfl, rfl⟩)) (cq_ok (cr_iconst2 (n := 1) (dq_4 (by decide +kernel)) (by decide +kernel) rfl) (cq_ok (cr_iadd (dq_96 (by decide +kernel)) rfl) (cq_ok (cr_ast (ins := .iastore) rfl (dq_79 (by decide +kernel)) (Or.inl ⟨rfl, rfl⟩)) (cr_aload_n (k := 0) (dq_42 (by decide +kernel)) rfl rfl))))))))
set_option maxRecDepth 100000 in
theorem cl_X9_year_53 : ci_calls yX9_year cX9_year 2 53 yX9_findBed 1 (some 9) := cr_callV (idx := 227) zl_1019 ⟨by decide, by decide⟩ hp_X9_findBed zc_9 zl_530 zl_531 (Or.inl zl_529) (dq_182 (a := 0) (b := 227) (by decide +kernel) rfl)
set_option maxRecDepth 100000 in
theorem cb_X9_year_56 : ci_ok yX9_year cX9_year 2 56 (ci_seq (ci_load 2 0 57) 57 (ci_getf 9 31 60)) := cq_ok (cr_aload_n (k := 0) (dq_42 (by decide +kernel)) rfl rfl) (cr_getf (idx := 221) zc_9 (by decide) zl_525 (dq_180 (a := 0) (b := 221) (by decide +kernel) rfl) rfl)
set_option maxRecDepth 100000 in
theorem cd_X9_year_60 : decode cX9_year 60 = .ok (zi_rop (some .int), 1) := (dq_172 (by decide +kernel))
set_option maxRecDepth 100000 in
theorem cb_X9_hasBy_0 : ci_ok yX9_hasBy cX9_hasBy 4 0 (ci_load 2 0 1) := cr_aload_n (k := 0) (dq_42 (by decide +kernel)) rfl rfl
set_option maxRecDepth 100000 in
theorem cl_X9_hasBy_1 : ci_calls yX9_hasBy cX9_hasBy 4 1 yX9_marks 1 (some 9) := cr_callV (idx := 283) zl_1034 ⟨by decide, by decide⟩ hp_X9_marks zc_9 zl_579 zl_580 (Or.inl zl_578) (dq_182 (a := 1) (b := 27) (by decide +kernel) rfl)
set_option maxRecDepth 100000 in
theorem cb_X9_hasBy_4 : ci_ok yX9_hasBy cX9_hasBy 4 4 (ci_seq (ci_load 2 0 5) 5 (ci_load 0 1 6)) := cq_ok (cr_aload_n (k := 0) (dq_42 (by decide +kernel)) rfl rfl) (cr_iload_n (k := 1) (dq_27 (by decide +kernel)) rfl rfl)
set_option maxRecDepth 100000 in
theorem cl_X9_hasBy_6 : ci_calls yX9_hasBy cX9_hasBy 4 6 yX9_goes 2 (some 9) := cr_callV (idx := 280) zl_1041 ⟨by decide, by decide⟩ hp_X9_goes zc_9 zl_573 zl_574 (Or.inl zl_572) (dq_182 (a := 1) (b := 24) (by decide +kernel) rfl)
set_option maxRecDepth 100000 in
theorem cb_X9_hasBy_9 : ci_ok yX9_hasBy cX9_hasBy 4 9 (ci_seq (ci_load 2 0 10) 10 (ci_load 0 2 11)) := cq_ok (cr_aload_n (k := 0) (dq_42 (by decide +kernel)) rfl rfl) (cr_iload_n (k := 2) (dq_28 (by decide +kernel)) rfl rfl)
set_option maxRecDepth 100000 in
theorem cl_X9_hasBy_11 : ci_calls yX9_hasBy cX9_hasBy 4 11 yX9_hasNow 2 (some 9) := cr_callV (idx := 250) zl_1021 ⟨by decide, by decide⟩ hp_X9_hasNow zc_9 zl_548 zl_549 (Or.inl zl_547) (dq_182 (a := 0) (b := 250) (by decide +kernel) rfl)
set_option maxRecDepth 100000 in
theorem cb_X9_hasBy_14 : ci_ok yX9_hasBy cX9_hasBy 4 14 (ci_seq (ci_store 0 3 15) 15 (ci_load 2 0 16)) := cq_ok (cr_istore_n (k := 3) (dq_62 (by decide +kernel)) rfl (by decide) rfl) (cr_aload_n (k := 0) (dq_42 (by decide +kernel)) rfl rfl)
set_option maxRecDepth 100000 in
theorem cl_X9_hasBy_16 : ci_calls yX9_hasBy cX9_hasBy 4 16 yX9_returns 1 (some 9) := cr_callV (idx := 286) zl_1035 ⟨by decide, by decide⟩ hp_X9_returns zc_9 zl_576 zl_577 (Or.inl zl_575) (dq_182 (a := 1) (b := 30) (by decide +kernel) rfl)
set_option maxRecDepth 100000 in
theorem cb_X9_hasBy_19 : ci_ok yX9_hasBy cX9_hasBy 4 19 (ci_load 0 3 20) := cr_iload_n (k := 3) (dq_29 (by decide +kernel)) rfl rfl
set_option maxRecDepth 100000 in
theorem cd_X9_hasBy_20 : decode cX9_hasBy 20 = .ok (zi_rop (some .int), 1) := (dq_172 (by decide +kernel))
set_option maxRecDepth 100000 in
theorem cb_X9_bedBy_0 : ci_ok yX9_bedBy cX9_bedBy 3 0 (ci_load 2 0 1) := cr_aload_n (k := 0) (dq_42 (by decide +kernel)) rfl rfl
set_option maxRecDepth 100000 in
theorem cl_X9_bedBy_1 : ci_calls yX9_bedBy cX9_bedBy 3 1 yX9_marks 1 (some 9) := cr_callV (idx := 283) zl_1034 ⟨by decide, by decide⟩ hp_X9_marks zc_9 zl_579 zl_580 (Or.inl zl_578) (dq_182 (a := 1) (b := 27) (by decide +kernel) rfl)
set_option maxRecDepth 100000 in
theorem cb_X9_bedBy_4 : ci_ok yX9_bedBy cX9_bedBy 3 4 (ci_seq (ci_load 2 0 5) 5 (ci_load 0 1 6)) := cq_ok (cr_aload_n (k := 0) (dq_42 (by decide +kernel)) rfl rfl) (cr_iload_n (k := 1) (dq_27 (by decide +kernel)) rfl rfl)
set_option maxRecDepth 100000 in
theorem cl_X9_bedBy_6 : ci_calls yX9_bedBy cX9_bedBy 3 6 yX9_goes 2 (some 9) := cr_callV (idx := 280) zl_1041 ⟨by decide, by decide⟩ hp_X9_goes zc_9 zl_573 zl_574 (Or.inl zl_572) (dq_182 (a := 1) (b := 24) (by decide +kernel) rfl)
set_option maxRecDepth 100000 in
theorem cb_X9_bedBy_9 : ci_ok yX9_bedBy cX9_bedBy 3 9 (ci_load 2 0 10) := cr_aload_n (k := 0) (dq_42 (by decide +kernel)) rfl rfl
set_option maxRecDepth 100000 in
theorem cl_X9_bedBy_10 : ci_calls yX9_bedBy cX9_bedBy 3 10 yX9_bedNow 1 (some 9) := cr_callV (idx := 230) zl_1020 ⟨by decide, by decide⟩ hp_X9_bedNow zc_9 zl_533 zl_534 (Or.inl zl_532) (dq_182 (a := 0) (b := 230) (by decide +kernel) rfl)
set_option maxRecDepth 100000 in
theorem cb_X9_bedBy_13 : ci_ok yX9_bedBy cX9_bedBy 3 13 (ci_seq (ci_store 0 2 14) 14 (ci_load 2 0 15)) := cq_ok (cr_istore_n (k := 2) (dq_61 (by decide +kernel)) rfl (by decide) rfl) (cr_aload_n (k := 0) (dq_42 (by decide +kernel)) rfl rfl)
set_option maxRecDepth 100000 in
theorem cl_X9_bedBy_15 : ci_calls yX9_bedBy cX9_bedBy 3 15 yX9_returns 1 (some 9) := cr_callV (idx := 286) zl_1035 ⟨by decide, by decide⟩ hp_X9_returns zc_9 zl_576 zl_577 (Or.inl zl_575) (dq_182 (a := 1) (b := 30) (by decide +kernel) rfl)
set_option maxRecDepth 100000 in
theorem cb_X9_bedBy_18 : ci_ok yX9_bedBy cX9_bedBy 3 18 (ci_load 0 2 19) := cr_iload_n (k := 2) (dq_28 (by decide +kernel)) rfl rfl
set_option maxRecDepth 100000 in
theorem cd_X9_bedBy_19 : decode cX9_bedBy 19 = .ok (zi_rop (some .int), 1) := (dq_172 (by decide +kernel))
set_option maxRecDepth 100000 in
theorem cb_X9_would_0 : ci_ok yX9_would cX9_would 3 0 (ci_load 0 1 1) := cr_iload_n (k := 1) (dq_27 (by decide +kernel)) rfl rfl
set_option maxRecDepth 100000 in
theorem cl_X9_would_1 : ci_calls yX9_would cX9_would 3 1 yX9_isYear 1 none := cr_callS (idx := 274) zl_1016 zl_654 ⟨by decide, by decide⟩ hp_X9_isYear zl_568 (Or.inl zl_567) (dq_184 (a := 1) (b := 18) (by decide +kernel) rfl)
set_option maxRecDepth 100000 in
theorem cb_X9_would_4 : ci_ok yX9_would cX9_would 3 4 (ci_if (fun x => decide (x = 0)) 15 7) := cr_if_eq (off := 11) (dq_153 (a := 0) (b := 11) (by decide +kernel) rfl) (by decide) rfl
