set_option maxRecDepth 100000 in
theorem cb_X9_odds_43 : ci_ok yX9_odds cX9_odds 8 43 (ci_seq (ci_load 1 4 45) 45 (ci_seq (ci_load 2 0 46) 46 (ci_seq (ci_load 2 0 47) 47 (ci_load 0 6 49)))) := cq_ok (cr_lload (by decide +kernel) rfl) (cq_ok (cr_aload_n (k := 0) (by decide +kernel) rfl rfl) (cq_ok (cr_aload_n (k := 0) (by decide +kernel) rfl rfl) (cr_iload (by decide +kernel) rfl)))
set_option maxRecDepth 100000 in
theorem cl_X9_odds_49 : ci_calls yX9_odds cX9_odds 8 49 yX9_yearAt 2 (some 9) := cr_callV (idx := 319) zl_1052 ⟨by decide, by decide⟩ (by decide +kernel) zc_9 zl_610 zl_611 (Or.inl zl_609) (by decide +kernel)
set_option maxRecDepth 100000 in
theorem cl_X9_odds_52 : ci_calls yX9_odds cX9_odds 8 52 yX9_bedBy 2 (some 9) := cr_callV (idx := 322) zl_1044 ⟨by decide, by decide⟩ (by decide +kernel) zc_9 zl_607 zl_608 (Or.inl zl_606) (by decide +kernel)
set_option maxRecDepth 100000 in
theorem cb_X9_odds_55 : ci_ok yX9_odds cX9_odds 8 55 (ci_seq (ci_load 0 1 56) 56 (ci_seq (ci_bin (fun a b => a >>> (b &&& 31)) 57) 57 (ci_seq (ci_push (.int 1) 58) 58 (ci_seq (ci_bin (fun a b => a &&& b) 59) 59 (ci_seq (ci_i2l 60) 60 (ci_seq (ci_binl (fun a b => a + b) 61) 61 (ci_seq (ci_storel 4 63) 63 (ci_seq (ci_inc 6 1 66) 66 (ci_go 37))))))))) := cq_ok (cr_iload_n (k := 1) (by decide +kernel) rfl rfl) (cq_ok (cr_ishr (by decide +kernel) rfl) (cq_ok (cr_iconst2 (n := 1) (by decide +kernel) (by decide +kernel) rfl) (cq_ok (cr_iand (by decide +kernel) rfl) (cq_ok (cr_i2l (by decide +kernel) rfl) (cq_ok (cr_ladd (by decide +kernel) rfl) (cq_ok (cr_lstore (by decide +kernel) (by decide) rfl) (cq_ok (ci_inc_ok (by decide) (by decide +kernel) rfl) (cr_goto (off := -29) (by decide +kernel) (by decide)))))))))
set_option maxRecDepth 100000 in
theorem cb_X9_odds_69 : ci_ok yX9_odds cX9_odds 8 69 (ci_seq (ci_load 0 3 70) 70 (ci_seq (ci_i2l 71) 71 (ci_load 1 4 73))) := cq_ok (cr_iload_n (k := 3) (by decide +kernel) rfl rfl) (cq_ok (cr_i2l (by decide +kernel) rfl) (cr_lload (by decide +kernel) rfl))
set_option maxRecDepth 100000 in
theorem cl_X9_odds_73 : ci_calls yX9_odds cX9_odds 8 73 yX9_common 2 none := cr_callS (idx := 345) zl_1069 zl_654 ⟨by decide, by decide⟩ (by decide +kernel) zl_631 (Or.inl zl_630) (by decide +kernel)
set_option maxRecDepth 100000 in
theorem cb_X9_odds_76 : ci_ok yX9_odds cX9_odds 8 76 (ci_seq (ci_storel 6 78) 78 (ci_seq (ci_load 0 2 79) 79 (ci_if (fun x => !decide (x = 0)) 90 82))) := cq_ok (cr_lstore (by decide +kernel) (by decide) rfl) (cq_ok (cr_iload_n (k := 2) (by decide +kernel) rfl rfl) (cr_if_ne (off := 11) (by decide +kernel) (by decide) rfl))
set_option maxRecDepth 100000 in
theorem cb_X9_odds_82 : ci_ok yX9_odds cX9_odds 8 82 (ci_seq (ci_load 1 4 84) 84 (ci_seq (ci_load 1 6 86) 86 (ci_seq (ci_dvl (fun a b => a / b) 87) 87 (ci_go 95)))) := cq_ok (cr_lload (by decide +kernel) rfl) (cq_ok (cr_lload (by decide +kernel) rfl) (cq_ok (cr_ldiv (by decide +kernel) rfl) (cr_goto (off := 8) (by decide +kernel) (by decide))))
set_option maxRecDepth 100000 in
theorem cb_X9_odds_90 : ci_ok yX9_odds cX9_odds 8 90 (ci_seq (ci_load 0 3 91) 91 (ci_seq (ci_i2l 92) 92 (ci_seq (ci_load 1 6 94) 94 (ci_dvl (fun a b => a / b) 95)))) := cq_ok (cr_iload_n (k := 3) (by decide +kernel) rfl rfl) (cq_ok (cr_i2l (by decide +kernel) rfl) (cq_ok (cr_lload (by decide +kernel) rfl) (cr_ldiv (by decide +kernel) rfl)))
set_option maxRecDepth 100000 in
theorem cd_X9_odds_95 : decode cX9_odds 95 = .ok (zi_rop (some .long), 1) := by decide +kernel
set_option maxRecDepth 100000 in
theorem cb_X9_see_0 : ci_ok yX9_see cX9_see 3 0 (ci_seq (ci_load 2 0 1) 1 (ci_load 0 1 2)) := cq_ok (cr_aload_n (k := 0) (by decide +kernel) rfl rfl) (cr_iload_n (k := 1) (by decide +kernel) rfl rfl)
set_option maxRecDepth 100000 in
theorem cl_X9_see_2 : ci_calls yX9_see cX9_see 3 2 yX9_isCell 2 (some 9) := cr_callV (idx := 241) zl_1014 ⟨by decide, by decide⟩ (by decide +kernel) zc_9 zl_541 zl_542 (Or.inl zl_540) (by decide +kernel)
set_option maxRecDepth 100000 in
theorem cb_X9_see_5 : ci_ok yX9_see cX9_see 3 5 (ci_if (fun x => !decide (x = 0)) 10 8) := cr_if_ne (off := 5) (by decide +kernel) (by decide) rfl
set_option maxRecDepth 100000 in
theorem cb_X9_see_8 : ci_ok yX9_see cX9_see 3 8 (ci_push (.int (-1)) 9) := cr_iconst2 (n := -1) (by decide +kernel) (by decide +kernel) rfl
set_option maxRecDepth 100000 in
theorem cd_X9_see_9 : decode cX9_see 9 = .ok (zi_rop (some .int), 1) := by decide +kernel
set_option maxRecDepth 100000 in
theorem cb_X9_see_10 : ci_ok yX9_see cX9_see 3 10 (ci_seq (ci_load 2 0 11) 11 (ci_seq (ci_getf 9 0 14) 14 (ci_seq (ci_push (.int 39) 16) 16 (ci_seq (ci_ald .int 17) 17 (ci_seq (ci_push (.int 8) 19) 19 (ci_ic (fun x y => !decide (x = y)) 25 22)))))) := cq_ok (cr_aload_n (k := 0) (by decide +kernel) rfl rfl) (cq_ok (cr_getf (idx := 7) zc_9 (by decide) zl_441 (by decide +kernel) rfl) (cq_ok (cr_bipush (n := 39) (by decide +kernel) (by decide +kernel) rfl) (cq_ok (cr_ald (ins := .iaload) rfl (by decide +kernel) (Or.inl ⟨rfl, rfl⟩)) (cq_ok (cr_bipush (n := 8) (by decide +kernel) (by decide +kernel) rfl) (cr_ic_ne (off := 6) (by decide +kernel) (by decide) rfl)))))
set_option maxRecDepth 100000 in
theorem cb_X9_see_22 : ci_ok yX9_see cX9_see 3 22 (ci_push (.int (-3)) 24) := cr_bipush (n := -3) (by decide +kernel) (by decide +kernel) rfl
set_option maxRecDepth 100000 in
theorem cd_X9_see_24 : decode cX9_see 24 = .ok (zi_rop (some .int), 1) := by decide +kernel
set_option maxRecDepth 100000 in
theorem cb_X9_see_25 : ci_ok yX9_see cX9_see 3 25 (ci_seq (ci_load 2 0 26) 26 (ci_seq (ci_getf 9 0 29) 29 (ci_seq (ci_push (.int 40) 31) 31 (ci_seq (ci_push (.int 2) 32) 32 (ci_seq (ci_load 2 0 33) 33 (ci_seq (ci_getf 9 0 36) 36 (ci_seq (ci_push (.int 39) 38) 38 (ci_seq (ci_ald .int 39) 39 (ci_seq (ci_bin (fun a b => a * b) 40) 40 (ci_seq (ci_bin (fun a b => a + b) 41) 41 (ci_seq (ci_load 0 1 42) 42 (ci_seq (ci_ast .int 43) 43 (ci_seq (ci_load 2 0 44) 44 (ci_seq (ci_getf 9 0 47) 47 (ci_seq (ci_push (.int 40) 49) 49 (ci_seq (ci_push (.int 2) 50) 50 (ci_seq (ci_load 2 0 51) 51 (ci_seq (ci_getf 9 0 54) 54 (ci_seq (ci_push (.int 39) 56) 56 (ci_seq (ci_ald .int 57) 57 (ci_seq (ci_bin (fun a b => a * b) 58) 58 (ci_seq (ci_bin (fun a b => a + b) 59) 59 (ci_seq (ci_push (.int 1) 60) 60 (ci_seq (ci_bin (fun a b => a + b) 61) 61 (ci_load 0 2 62))))))))))))))))))))))))) := cq_ok (cr_aload_n (k := 0) (by decide +kernel) rfl rfl) (cq_ok (cr_getf (idx := 7) zc_9 (by decide) zl_441 (by decide +kernel) rfl) (cq_ok (cr_bipush (n := 40) (by decide +kernel) (by decide +kernel) rfl) (cq_ok (cr_iconst2 (n := 2) (by decide +kernel) (by decide +kernel) rfl) (cq_ok (cr_aload_n (k := 0) (by decide +kernel) rfl rfl) (cq_ok (cr_getf (idx := 7) zc_9 (by decide) zl_441 (by decide +kernel) rfl) (cq_ok (cr_bipush (n := 39) (by decide +kernel) (by decide +kernel) rfl) (cq_ok (cr_ald (ins := .iaload) rfl (by decide +kernel) (Or.inl ⟨rfl, rfl⟩)) (cq_ok (cr_imul (by decide +kernel) rfl) (cq_ok (cr_iadd (by decide +kernel) rfl) (cq_ok (cr_iload_n (k := 1) (by decide +kernel) rfl rfl) (cq_ok (cr_ast (ins := .iastore) rfl (by decide +kernel) (Or.inl ⟨rfl, rfl⟩)) (cq_ok (cr_aload_n (k := 0) (by decide +kernel) rfl rfl) (cq_ok (cr_getf (idx := 7) zc_9 (by decide) zl_441 (by decide +kernel) rfl) (cq_ok (cr_bipush (n := 40) (by decide +kernel) (by decide +kernel) rfl) (cq_ok (cr_iconst2 (n := 2) (by decide +kernel) (by decide +kernel) rfl) (cq_ok (cr_aload_n (k := 0) (by decide +kernel) rfl rfl) (cq_ok (cr_getf (idx := 7) zc_9 (by decide) zl_441 (by decide +kernel) rfl) (cq_ok (cr_bipush (n := 39) (by decide +kernel) (by decide +kernel) rfl) (cq_ok (cr_ald (ins := .iaload) rfl (by decide +kernel) (Or.inl ⟨rfl, rfl⟩)) (cq_ok (cr_imul (by decide +kernel) rfl) (cq_ok (cr_iadd (by decide +kernel) rfl) (cq_ok (cr_iconst2 (n := 1) (by decide +kernel) (by decide +kernel) rfl) (cq_ok (cr_iadd (by decide +kernel) rfl) (cr_iload_n (k := 2) (by decide +kernel) rfl rfl))))))))))))))))))))))))
set_option maxRecDepth 100000 in
theorem cl_X9_see_62 : ci_calls yX9_see cX9_see 3 62 yX9_flag 1 none := cr_callS (idx := 237) zl_993 zl_654 ⟨by decide, by decide⟩ (by decide +kernel) zl_539 (Or.inl zl_538) (by decide +kernel)
set_option maxRecDepth 100000 in
theorem cb_X9_see_65 : ci_ok yX9_see cX9_see 3 65 (ci_seq (ci_ast .int 66) 66 (ci_seq (ci_load 2 0 67) 67 (ci_seq (ci_getf 9 0 70) 70 (ci_seq (ci_push (.int 39) 72) 72 (ci_seq (ci_dup2 73) 73 (ci_seq (ci_ald .int 74) 74 (ci_seq (ci_push (.int 1) 75) 75 (ci_seq (ci_bin (fun a b => a + b) 76) 76 (ci_seq (ci_ast .int 77) 77 (ci_seq (ci_load 2 0 78) 78 (ci_seq (ci_getf 9 0 81) 81 (ci_seq (ci_push (.int 39) 83) 83 (ci_ald .int 84))))))))))))) := cq_ok (cr_ast (ins := .iastore) rfl (by decide +kernel) (Or.inl ⟨rfl, rfl⟩)) (cq_ok (cr_aload_n (k := 0) (by decide +kernel) rfl rfl) (cq_ok (cr_getf (idx := 7) zc_9 (by decide) zl_441 (by decide +kernel) rfl) (cq_ok (cr_bipush (n := 39) (by decide +kernel) (by decide +kernel) rfl) (cq_ok (cr_dup2 (by decide +kernel) rfl) (cq_ok (cr_ald (ins := .iaload) rfl (by decide +kernel) (Or.inl ⟨rfl, rfl⟩)) (cq_ok (cr_iconst2 (n := 1) (by decide +kernel) (by decide +kernel) rfl) (cq_ok (cr_iadd (by decide +kernel) rfl) (cq_ok (cr_ast (ins := .iastore) rfl (by decide +kernel) (Or.inl ⟨rfl, rfl⟩)) (cq_ok (cr_aload_n (k := 0) (by decide +kernel) rfl rfl) (cq_ok (cr_getf (idx := 7) zc_9 (by decide) zl_441 (by decide +kernel) rfl) (cq_ok (cr_bipush (n := 39) (by decide +kernel) (by decide +kernel) rfl) (cr_ald (ins := .iaload) rfl (by decide +kernel) (Or.inl ⟨rfl, rfl⟩)))))))))))))
set_option maxRecDepth 100000 in
theorem cd_X9_see_84 : decode cX9_see 84 = .ok (zi_rop (some .int), 1) := by decide +kernel
set_option maxRecDepth 100000 in
theorem cb_X9_forget_0 : ci_ok yX9_forget cX9_forget 3 0 (ci_seq (ci_load 0 1 1) 1 (ci_seq (ci_i2l 2) 2 (ci_seq (ci_push (.long 0) 3) 3 (ci_seq (ci_load 2 0 4) 4 (ci_seq (ci_getf 9 0 7) 7 (ci_seq (ci_push (.int 39) 9) 9 (ci_seq (ci_ald .int 10) 10 (ci_i2l 11)))))))) := cq_ok (cr_iload_n (k := 1) (by decide +kernel) rfl rfl) (cq_ok (cr_i2l (by decide +kernel) rfl) (cq_ok (cr_lconst (n := 0) (by decide +kernel) (by decide +kernel) rfl) (cq_ok (cr_aload_n (k := 0) (by decide +kernel) rfl rfl) (cq_ok (cr_getf (idx := 7) zc_9 (by decide) zl_441 (by decide +kernel) rfl) (cq_ok (cr_bipush (n := 39) (by decide +kernel) (by decide +kernel) rfl) (cq_ok (cr_ald (ins := .iaload) rfl (by decide +kernel) (Or.inl ⟨rfl, rfl⟩)) (cr_i2l (by decide +kernel) rfl)))))))
set_option maxRecDepth 100000 in
theorem cl_X9_forget_11 : ci_calls yX9_forget cX9_forget 3 11 yX9_in 3 none := cr_callS (idx := 134) zl_992 zl_654 ⟨by decide, by decide⟩ (by decide +kernel) zl_467 (Or.inl zl_466) (by decide +kernel)
set_option maxRecDepth 100000 in
theorem cb_X9_forget_14 : ci_ok yX9_forget cX9_forget 3 14 (ci_if (fun x => !decide (x = 0)) 19 17) := cr_if_ne (off := 5) (by decide +kernel) (by decide) rfl
set_option maxRecDepth 100000 in
theorem cb_X9_forget_17 : ci_ok yX9_forget cX9_forget 3 17 (ci_push (.int (-1)) 18) := cr_iconst2 (n := -1) (by decide +kernel) (by decide +kernel) rfl
set_option maxRecDepth 100000 in
theorem cd_X9_forget_18 : decode cX9_forget 18 = .ok (zi_rop (some .int), 1) := by decide +kernel
set_option maxRecDepth 100000 in
theorem cb_X9_forget_19 : ci_ok yX9_forget cX9_forget 3 19 (ci_seq (ci_load 2 0 20) 20 (ci_seq (ci_getf 9 0 23) 23 (ci_seq (ci_push (.int 39) 25) 25 (ci_seq (ci_ald .int 26) 26 (ci_seq (ci_store 0 2 27) 27 (ci_seq (ci_load 2 0 28) 28 (ci_seq (ci_getf 9 0 31) 31 (ci_seq (ci_push (.int 39) 33) 33 (ci_seq (ci_load 0 1 34) 34 (ci_seq (ci_ast .int 35) 35 (ci_load 0 2 36))))))))))) := cq_ok (cr_aload_n (k := 0) (by decide +kernel) rfl rfl) (cq_ok (cr_getf (idx := 7) zc_9 (by decide) zl_441 (by decide +kernel) rfl) (cq_ok (cr_bipush (n := 39) (by decide +kernel) (by decide +kernel) rfl) (cq_ok (cr_ald (ins := .iaload) rfl (by decide +kernel) (Or.inl ⟨rfl, rfl⟩)) (cq_ok (cr_istore_n (k := 2) (by decide +kernel) rfl (by decide) rfl) (cq_ok (cr_aload_n (k := 0) (by decide +kernel) rfl rfl) (cq_ok (cr_getf (idx := 7) zc_9 (by decide) zl_441 (by decide +kernel) rfl) (cq_ok (cr_bipush (n := 39) (by decide +kernel) (by decide +kernel) rfl) (cq_ok (cr_iload_n (k := 1) (by decide +kernel) rfl rfl) (cq_ok (cr_ast (ins := .iastore) rfl (by decide +kernel) (Or.inl ⟨rfl, rfl⟩)) (cr_iload_n (k := 2) (by decide +kernel) rfl rfl))))))))))
set_option maxRecDepth 100000 in
theorem cd_X9_forget_36 : decode cX9_forget 36 = .ok (zi_rop (some .int), 1) := by decide +kernel
set_option maxRecDepth 100000 in
theorem cb_X9_isSo_0 : ci_ok yX9_isSo cX9_isSo 4 0 (ci_seq (ci_push (.int 1) 1) 1 (ci_seq (ci_store 0 2 2) 2 (ci_seq (ci_push (.int 0) 3) 3 (ci_store 0 3 4)))) := cq_ok (cr_iconst2 (n := 1) (by decide +kernel) (by decide +kernel) rfl) (cq_ok (cr_istore_n (k := 2) (by decide +kernel) rfl (by decide) rfl) (cq_ok (cr_iconst2 (n := 0) (by decide +kernel) (by decide +kernel) rfl) (cr_istore_n (k := 3) (by decide +kernel) rfl (by decide) rfl)))
set_option maxRecDepth 100000 in
theorem cb_X9_isSo_4 : ci_ok yX9_isSo cX9_isSo 4 4 (ci_seq (ci_load 0 3 5) 5 (ci_seq (ci_load 2 0 6) 6 (ci_seq (ci_getf 9 0 9) 9 (ci_seq (ci_push (.int 39) 11) 11 (ci_seq (ci_ald .int 12) 12 (ci_ic (fun x y => decide (y ≤ x)) 62 15)))))) := cq_ok (cr_iload_n (k := 3) (by decide +kernel) rfl rfl) (cq_ok (cr_aload_n (k := 0) (by decide +kernel) rfl rfl) (cq_ok (cr_getf (idx := 7) zc_9 (by decide) zl_441 (by decide +kernel) rfl) (cq_ok (cr_bipush (n := 39) (by decide +kernel) (by decide +kernel) rfl) (cq_ok (cr_ald (ins := .iaload) rfl (by decide +kernel) (Or.inl ⟨rfl, rfl⟩)) (cr_ic_ge (off := 50) (by decide +kernel) (by decide) rfl)))))
set_option maxRecDepth 100000 in
theorem cb_X9_isSo_15 : ci_ok yX9_isSo cX9_isSo 4 15 (ci_seq (ci_load 0 2 16) 16 (ci_if (fun x => decide (x = 0)) 54 19)) := cq_ok (cr_iload_n (k := 2) (by decide +kernel) rfl rfl) (cr_if_eq (off := 38) (by decide +kernel) (by decide) rfl)
set_option maxRecDepth 100000 in
theorem cb_X9_isSo_19 : ci_ok yX9_isSo cX9_isSo 4 19 (ci_seq (ci_load 0 1 20) 20 (ci_seq (ci_load 2 0 21) 21 (ci_seq (ci_getf 9 0 24) 24 (ci_seq (ci_push (.int 40) 26) 26 (ci_seq (ci_push (.int 2) 27) 27 (ci_seq (ci_load 0 3 28) 28 (ci_seq (ci_bin (fun a b => a * b) 29) 29 (ci_seq (ci_bin (fun a b => a + b) 30) 30 (ci_seq (ci_ald .int 31) 31 (ci_seq (ci_bin (fun a b => a >>> (b &&& 31)) 32) 32 (ci_seq (ci_push (.int 1) 33) 33 (ci_seq (ci_bin (fun a b => a &&& b) 34) 34 (ci_seq (ci_load 2 0 35) 35 (ci_seq (ci_getf 9 0 38) 38 (ci_seq (ci_push (.int 40) 40) 40 (ci_seq (ci_push (.int 2) 41) 41 (ci_seq (ci_load 0 3 42) 42 (ci_seq (ci_bin (fun a b => a * b) 43) 43 (ci_seq (ci_bin (fun a b => a + b) 44) 44 (ci_seq (ci_push (.int 1) 45) 45 (ci_seq (ci_bin (fun a b => a + b) 46) 46 (ci_seq (ci_ald .int 47) 47 (ci_ic (fun x y => !decide (x = y)) 54 50))))))))))))))))))))))) := cq_ok (cr_iload_n (k := 1) (by decide +kernel) rfl rfl) (cq_ok (cr_aload_n (k := 0) (by decide +kernel) rfl rfl) (cq_ok (cr_getf (idx := 7) zc_9 (by decide) zl_441 (by decide +kernel) rfl) (cq_ok (cr_bipush (n := 40) (by decide +kernel) (by decide +kernel) rfl) (cq_ok (cr_iconst2 (n := 2) (by decide +kernel) (by decide +kernel) rfl) (cq_ok (cr_iload_n (k := 3) (by decide +kernel) rfl rfl) (cq_ok (cr_imul (by decide +kernel) rfl) (cq_ok (cr_iadd (by decide +kernel) rfl) (cq_ok (cr_ald (ins := .iaload) rfl (by decide +kernel) (Or.inl ⟨rfl, rfl⟩)) (cq_ok (cr_ishr (by decide +kernel) rfl) (cq_ok (cr_iconst2 (n := 1) (by decide +kernel) (by decide +kernel) rfl) (cq_ok (cr_iand (by decide +kernel) rfl) (cq_ok (cr_aload_n (k := 0) (by decide +kernel) rfl rfl) (cq_ok (cr_getf (idx := 7) zc_9 (by decide) zl_441 (by decide +kernel) rfl) (cq_ok (cr_bipush (n := 40) (by decide +kernel) (by decide +kernel) rfl) (cq_ok (cr_iconst2 (n := 2) (by decide +kernel) (by decide +kernel) rfl) (cq_ok (cr_iload_n (k := 3) (by decide +kernel) rfl rfl) (cq_ok (cr_imul (by decide +kernel) rfl) (cq_ok (cr_iadd (by decide +kernel) rfl) (cq_ok (cr_iconst2 (n := 1) (by decide +kernel) (by decide +kernel) rfl) (cq_ok (cr_iadd (by decide +kernel) rfl) (cq_ok (cr_ald (ins := .iaload) rfl (by decide +kernel) (Or.inl ⟨rfl, rfl⟩)) (cr_ic_ne (off := 7) (by decide +kernel) (by decide) rfl))))))))))))))))))))))
set_option maxRecDepth 100000 in
theorem cb_X9_isSo_50 : ci_ok yX9_isSo cX9_isSo 4 50 (ci_seq (ci_push (.int 1) 51) 51 (ci_go 55)) := cq_ok (cr_iconst2 (n := 1) (by decide +kernel) (by decide +kernel) rfl) (cr_goto (off := 4) (by decide +kernel) (by decide))
set_option maxRecDepth 100000 in
theorem cb_X9_isSo_54 : ci_ok yX9_isSo cX9_isSo 4 54 (ci_push (.int 0) 55) := cr_iconst2 (n := 0) (by decide +kernel) (by decide +kernel) rfl
set_option maxRecDepth 100000 in
theorem cb_X9_isSo_55 : ci_ok yX9_isSo cX9_isSo 4 55 (ci_seq (ci_store 0 2 56) 56 (ci_seq (ci_inc 3 1 59) 59 (ci_go 4))) := cq_ok (cr_istore_n (k := 2) (by decide +kernel) rfl (by decide) rfl) (cq_ok (ci_inc_ok (by decide) (by decide +kernel) rfl) (cr_goto (off := -55) (by decide +kernel) (by decide)))
set_option maxRecDepth 100000 in
theorem cb_X9_isSo_62 : ci_ok yX9_isSo cX9_isSo 4 62 (ci_load 0 2 63) := cr_iload_n (k := 2) (by decide +kernel) rfl rfl
set_option maxRecDepth 100000 in
theorem cd_X9_isSo_63 : decode cX9_isSo 63 = .ok (zi_rop (some .boolean), 1) := by decide +kernel
set_option maxRecDepth 100000 in
theorem cb_X9_cutters_0 : ci_ok yX9_cutters cX9_cutters 3 0 (ci_seq (ci_push (.int 0) 1) 1 (ci_seq (ci_store 0 1 2) 2 (ci_seq (ci_push (.int 0) 3) 3 (ci_store 0 2 4)))) := cq_ok (cr_iconst2 (n := 0) (by decide +kernel) (by decide +kernel) rfl) (cq_ok (cr_istore_n (k := 1) (by decide +kernel) rfl (by decide) rfl) (cq_ok (cr_iconst2 (n := 0) (by decide +kernel) (by decide +kernel) rfl) (cr_istore_n (k := 2) (by decide +kernel) rfl (by decide) rfl)))
set_option maxRecDepth 100000 in
theorem cb_X9_cutters_4 : ci_ok yX9_cutters cX9_cutters 3 4 (ci_seq (ci_load 0 2 5) 5 (ci_seq (ci_push (.int 3) 6) 6 (ci_ic (fun x y => decide (y ≤ x)) 36 9))) := cq_ok (cr_iload_n (k := 2) (by decide +kernel) rfl rfl) (cq_ok (cr_iconst2 (n := 3) (by decide +kernel) (by decide +kernel) rfl) (cr_ic_ge (off := 30) (by decide +kernel) (by decide) rfl))
set_option maxRecDepth 100000 in
theorem cb_X9_cutters_9 : ci_ok yX9_cutters cX9_cutters 3 9 (ci_seq (ci_load 0 1 10) 10 (ci_seq (ci_load 0 0 11) 11 (ci_load 0 2 12))) := cq_ok (cr_iload_n (k := 1) (by decide +kernel) rfl rfl) (cq_ok (cr_iload_n (k := 0) (by decide +kernel) rfl rfl) (cr_iload_n (k := 2) (by decide +kernel) rfl rfl))
set_option maxRecDepth 100000 in
theorem cl_X9_cutters_12 : ci_calls yX9_cutters cX9_cutters 3 12 yX9_cutOf 2 none := cr_callS (idx := 265) zl_1036 zl_654 ⟨by decide, by decide⟩ (by decide +kernel) zl_560 (Or.inl zl_559) (by decide +kernel)
set_option maxRecDepth 100000 in
theorem cb_X9_cutters_15 : ci_ok yX9_cutters cX9_cutters 3 15 (ci_if (fun x => decide (x < 0)) 22 18) := cr_if_lt (off := 7) (by decide +kernel) (by decide) rfl
set_option maxRecDepth 100000 in
theorem cb_X9_cutters_18 : ci_ok yX9_cutters cX9_cutters 3 18 (ci_seq (ci_push (.int 1) 19) 19 (ci_go 23)) := cq_ok (cr_iconst2 (n := 1) (by decide +kernel) (by decide +kernel) rfl) (cr_goto (off := 4) (by decide +kernel) (by decide))
set_option maxRecDepth 100000 in
theorem cb_X9_cutters_22 : ci_ok yX9_cutters cX9_cutters 3 22 (ci_push (.int 0) 23) := cr_iconst2 (n := 0) (by decide +kernel) (by decide +kernel) rfl
set_option maxRecDepth 100000 in
theorem cl_X9_cutters_23 : ci_calls yX9_cutters cX9_cutters 3 23 yX9_flag 1 none := cr_callS (idx := 237) zl_993 zl_654 ⟨by decide, by decide⟩ (by decide +kernel) zl_539 (Or.inl zl_538) (by decide +kernel)
set_option maxRecDepth 100000 in
theorem cb_X9_cutters_26 : ci_ok yX9_cutters cX9_cutters 3 26 (ci_seq (ci_load 0 2 27) 27 (ci_seq (ci_bin (fun a b => a <<< (b &&& 31)) 28) 28 (ci_seq (ci_bin (fun a b => a ||| b) 29) 29 (ci_seq (ci_store 0 1 30) 30 (ci_seq (ci_inc 2 1 33) 33 (ci_go 4)))))) := cq_ok (cr_iload_n (k := 2) (by decide +kernel) rfl rfl) (cq_ok (cr_ishl (by decide +kernel) rfl) (cq_ok (cr_ior (by decide +kernel) rfl) (cq_ok (cr_istore_n (k := 1) (by decide +kernel) rfl (by decide) rfl) (cq_ok (ci_inc_ok (by decide) (by decide +kernel) rfl) (cr_goto (off := -29) (by decide +kernel) (by decide))))))
set_option maxRecDepth 100000 in
theorem cb_X9_cutters_36 : ci_ok yX9_cutters cX9_cutters 3 36 (ci_load 0 1 37) := cr_iload_n (k := 1) (by decide +kernel) rfl rfl
set_option maxRecDepth 100000 in
theorem cd_X9_cutters_37 : decode cX9_cutters 37 = .ok (zi_rop (some .int), 1) := by decide +kernel
set_option maxRecDepth 100000 in
theorem cb_X9_fits_0 : ci_ok yX9_fits cX9_fits 8 0 (ci_seq (ci_load 0 1 1) 1 (ci_seq (ci_i2l 2) 2 (ci_seq (ci_push (.long 0) 3) 3 (ci_push (.long 3) 6)))) := cq_ok (cr_iload_n (k := 1) (by decide +kernel) rfl rfl) (cq_ok (cr_i2l (by decide +kernel) rfl) (cq_ok (cr_lconst (n := 0) (by decide +kernel) (by decide +kernel) rfl) (cr_ldc2 zl_546 (by decide +kernel) rfl)))
set_option maxRecDepth 100000 in
theorem cl_X9_fits_6 : ci_calls yX9_fits cX9_fits 8 6 yX9_in 3 none := cr_callS (idx := 134) zl_992 zl_654 ⟨by decide, by decide⟩ (by decide +kernel) zl_467 (Or.inl zl_466) (by decide +kernel)
set_option maxRecDepth 100000 in
theorem cb_X9_fits_9 : ci_ok yX9_fits cX9_fits 8 9 (ci_if (fun x => !decide (x = 0)) 14 12) := cr_if_ne (off := 5) (by decide +kernel) (by decide) rfl
set_option maxRecDepth 100000 in
theorem cb_X9_fits_12 : ci_ok yX9_fits cX9_fits 8 12 (ci_push (.int (-1)) 13) := cr_iconst2 (n := -1) (by decide +kernel) (by decide +kernel) rfl
set_option maxRecDepth 100000 in
theorem cd_X9_fits_13 : decode cX9_fits 13 = .ok (zi_rop (some .int), 1) := by decide +kernel
set_option maxRecDepth 100000 in
theorem cb_X9_fits_14 : ci_ok yX9_fits cX9_fits 8 14 (ci_load 2 0 15) := cr_aload_n (k := 0) (by decide +kernel) rfl rfl
set_option maxRecDepth 100000 in
theorem cl_X9_fits_15 : ci_calls yX9_fits cX9_fits 8 15 yX9_findOptions 1 (some 9) := cr_callV (idx := 313) zl_1049 ⟨by decide, by decide⟩ (by decide +kernel) zc_9 zl_601 zl_602 (Or.inl zl_600) (by decide +kernel)
set_option maxRecDepth 100000 in
theorem cb_X9_fits_18 : ci_ok yX9_fits cX9_fits 8 18 (ci_seq (ci_push (.int 0) 19) 19 (ci_seq (ci_store 0 2 20) 20 (ci_seq (ci_push (.int (-4)) 22) 22 (ci_seq (ci_store 0 3 23) 23 (ci_seq (ci_push (.int 1) 24) 24 (ci_seq (ci_load 2 0 25) 25 (ci_seq (ci_getf 9 4 28) 28 (ci_seq (ci_bin (fun a b => a <<< (b &&& 31)) 29) 29 (ci_seq (ci_push (.int 1) 30) 30 (ci_seq (ci_bin (fun a b => a - b) 31) 31 (ci_seq (ci_store 0 4 33) 33 (ci_seq (ci_push (.int 0) 34) 34 (ci_seq (ci_store 0 5 36) 36 (ci_seq (ci_push (.int 0) 37) 37 (ci_store 0 6 39))))))))))))))) := cq_ok (cr_iconst2 (n := 0) (by decide +kernel) (by decide +kernel) rfl) (cq_ok (cr_istore_n (k := 2) (by decide +kernel) rfl (by decide) rfl) (cq_ok (cr_bipush (n := -4) (by decide +kernel) (by decide +kernel) rfl) (cq_ok (cr_istore_n (k := 3) (by decide +kernel) rfl (by decide) rfl) (cq_ok (cr_iconst2 (n := 1) (by decide +kernel) (by decide +kernel) rfl) (cq_ok (cr_aload_n (k := 0) (by decide +kernel) rfl rfl) (cq_ok (cr_getf (idx := 126) zc_9 (by decide) zl_461 (by decide +kernel) rfl) (cq_ok (cr_ishl (by decide +kernel) rfl) (cq_ok (cr_iconst2 (n := 1) (by decide +kernel) (by decide +kernel) rfl) (cq_ok (cr_isub (by decide +kernel) rfl) (cq_ok (cr_istore (by decide +kernel) (by decide) rfl) (cq_ok (cr_iconst2 (n := 0) (by decide +kernel) (by decide +kernel) rfl) (cq_ok (cr_istore (by decide +kernel) (by decide) rfl) (cq_ok (cr_iconst2 (n := 0) (by decide +kernel) (by decide +kernel) rfl) (cr_istore (by decide +kernel) (by decide) rfl))))))))))))))
set_option maxRecDepth 100000 in
theorem cb_X9_fits_39 : ci_ok yX9_fits cX9_fits 8 39 (ci_seq (ci_load 0 6 41) 41 (ci_load 2 0 42)) := cq_ok (cr_iload (by decide +kernel) rfl) (cr_aload_n (k := 0) (by decide +kernel) rfl rfl)
set_option maxRecDepth 100000 in
theorem cl_X9_fits_42 : ci_calls yX9_fits cX9_fits 8 42 yX9_allOptions 1 (some 9) := cr_callV (idx := 316) zl_1050 ⟨by decide, by decide⟩ (by decide +kernel) zc_9 zl_604 zl_605 (Or.inl zl_603) (by decide +kernel)
set_option maxRecDepth 100000 in
theorem cb_X9_fits_45 : ci_ok yX9_fits cX9_fits 8 45 (ci_ic (fun x y => decide (y ≤ x)) 115 48) := cr_ic_ge (off := 70) (by decide +kernel) (by decide) rfl
set_option maxRecDepth 100000 in
theorem cb_X9_fits_48 : ci_ok yX9_fits cX9_fits 8 48 (ci_seq (ci_load 2 0 49) 49 (ci_load 0 6 51)) := cq_ok (cr_aload_n (k := 0) (by decide +kernel) rfl rfl) (cr_iload (by decide +kernel) rfl)
set_option maxRecDepth 100000 in
theorem cl_X9_fits_51 : ci_calls yX9_fits cX9_fits 8 51 yX9_yearAt 2 (some 9) := cr_callV (idx := 319) zl_1052 ⟨by decide, by decide⟩ (by decide +kernel) zc_9 zl_610 zl_611 (Or.inl zl_609) (by decide +kernel)
set_option maxRecDepth 100000 in
theorem cb_X9_fits_54 : ci_ok yX9_fits cX9_fits 8 54 (ci_seq (ci_store 0 7 56) 56 (ci_seq (ci_load 2 0 57) 57 (ci_seq (ci_load 2 0 58) 58 (ci_load 0 7 60)))) := cq_ok (cr_istore (by decide +kernel) (by decide) rfl) (cq_ok (cr_aload_n (k := 0) (by decide +kernel) rfl rfl) (cq_ok (cr_aload_n (k := 0) (by decide +kernel) rfl rfl) (cr_iload (by decide +kernel) rfl)))
set_option maxRecDepth 100000 in
theorem cl_X9_fits_60 : ci_calls yX9_fits cX9_fits 8 60 yX9_bedBy 2 (some 9) := cr_callV (idx := 322) zl_1044 ⟨by decide, by decide⟩ (by decide +kernel) zc_9 zl_607 zl_608 (Or.inl zl_606) (by decide +kernel)
set_option maxRecDepth 100000 in
theorem cl_X9_fits_63 : ci_calls yX9_fits cX9_fits 8 63 yX9_isSo 2 (some 9) := cr_callV (idx := 349) zl_1073 ⟨by decide, by decide⟩ (by decide +kernel) zc_9 zl_633 zl_634 (Or.inl zl_632) (by decide +kernel)
set_option maxRecDepth 100000 in
theorem cb_X9_fits_66 : ci_ok yX9_fits cX9_fits 8 66 (ci_if (fun x => decide (x = 0)) 109 69) := cr_if_eq (off := 43) (by decide +kernel) (by decide) rfl
set_option maxRecDepth 100000 in
theorem cb_X9_fits_69 : ci_ok yX9_fits cX9_fits 8 69 (ci_seq (ci_load 0 2 70) 70 (ci_if (fun x => decide (x = 0)) 79 73)) := cq_ok (cr_iload_n (k := 2) (by decide +kernel) rfl rfl) (cr_if_eq (off := 9) (by decide +kernel) (by decide) rfl)
set_option maxRecDepth 100000 in
theorem cb_X9_fits_73 : ci_ok yX9_fits cX9_fits 8 73 (ci_seq (ci_load 0 7 75) 75 (ci_seq (ci_load 0 3 76) 76 (ci_ic (fun x y => decide (y ≤ x)) 84 79))) := cq_ok (cr_iload (by decide +kernel) rfl) (cq_ok (cr_iload_n (k := 3) (by decide +kernel) rfl rfl) (cr_ic_ge (off := 8) (by decide +kernel) (by decide) rfl))
set_option maxRecDepth 100000 in
theorem cb_X9_fits_79 : ci_ok yX9_fits cX9_fits 8 79 (ci_seq (ci_load 0 7 81) 81 (ci_go 85)) := cq_ok (cr_iload (by decide +kernel) rfl) (cr_goto (off := 4) (by decide +kernel) (by decide))
set_option maxRecDepth 100000 in
theorem cb_X9_fits_84 : ci_ok yX9_fits cX9_fits 8 84 (ci_load 0 3 85) := cr_iload_n (k := 3) (by decide +kernel) rfl rfl
set_option maxRecDepth 100000 in
theorem cb_X9_fits_85 : ci_ok yX9_fits cX9_fits 8 85 (ci_seq (ci_store 0 3 86) 86 (ci_seq (ci_load 0 4 88) 88 (ci_load 0 7 90))) := cq_ok (cr_istore_n (k := 3) (by decide +kernel) rfl (by decide) rfl) (cq_ok (cr_iload (by decide +kernel) rfl) (cr_iload (by decide +kernel) rfl))
set_option maxRecDepth 100000 in
theorem cl_X9_fits_90 : ci_calls yX9_fits cX9_fits 8 90 yX9_cutters 1 none := cr_callS (idx := 352) zl_1074 zl_654 ⟨by decide, by decide⟩ (by decide +kernel) zl_636 (Or.inl zl_635) (by decide +kernel)
set_option maxRecDepth 100000 in
theorem cb_X9_fits_93 : ci_ok yX9_fits cX9_fits 8 93 (ci_seq (ci_bin (fun a b => a &&& b) 94) 94 (ci_seq (ci_store 0 4 96) 96 (ci_seq (ci_load 0 5 98) 98 (ci_load 0 7 100)))) := cq_ok (cr_iand (by decide +kernel) rfl) (cq_ok (cr_istore (by decide +kernel) (by decide) rfl) (cq_ok (cr_iload (by decide +kernel) rfl) (cr_iload (by decide +kernel) rfl)))
set_option maxRecDepth 100000 in
theorem cl_X9_fits_100 : ci_calls yX9_fits cX9_fits 8 100 yX9_cutters 1 none := cr_callS (idx := 352) zl_1074 zl_654 ⟨by decide, by decide⟩ (by decide +kernel) zl_636 (Or.inl zl_635) (by decide +kernel)
set_option maxRecDepth 100000 in
theorem cb_X9_fits_103 : ci_ok yX9_fits cX9_fits 8 103 (ci_seq (ci_bin (fun a b => a ||| b) 104) 104 (ci_seq (ci_store 0 5 106) 106 (ci_inc 2 1 109))) := cq_ok (cr_ior (by decide +kernel) rfl) (cq_ok (cr_istore (by decide +kernel) (by decide) rfl) (ci_inc_ok (by decide) (by decide +kernel) rfl))
set_option maxRecDepth 100000 in
theorem cb_X9_fits_109 : ci_ok yX9_fits cX9_fits 8 109 (ci_seq (ci_inc 6 1 112) 112 (ci_go 39)) := cq_ok (ci_inc_ok (by decide) (by decide +kernel) rfl) (cr_goto (off := -73) (by decide +kernel) (by decide))
set_option maxRecDepth 100000 in
theorem cb_X9_fits_115 : ci_ok yX9_fits cX9_fits 8 115 (ci_seq (ci_load 0 1 116) 116 (ci_if (fun x => decide (x = 0)) 123 119)) := cq_ok (cr_iload_n (k := 1) (by decide +kernel) rfl rfl) (cr_if_eq (off := 7) (by decide +kernel) (by decide) rfl)
set_option maxRecDepth 100000 in
theorem cb_X9_fits_119 : ci_ok yX9_fits cX9_fits 8 119 (ci_seq (ci_load 0 2 120) 120 (ci_if (fun x => !decide (x = 0)) 134 123)) := cq_ok (cr_iload_n (k := 2) (by decide +kernel) rfl rfl) (cr_if_ne (off := 14) (by decide +kernel) (by decide) rfl)
set_option maxRecDepth 100000 in
theorem cb_X9_fits_123 : ci_ok yX9_fits cX9_fits 8 123 (ci_seq (ci_load 0 1 124) 124 (ci_if (fun x => !decide (x = 0)) 131 127)) := cq_ok (cr_iload_n (k := 1) (by decide +kernel) rfl rfl) (cr_if_ne (off := 7) (by decide +kernel) (by decide) rfl)
set_option maxRecDepth 100000 in
theorem cb_X9_fits_127 : ci_ok yX9_fits cX9_fits 8 127 (ci_seq (ci_load 0 2 128) 128 (ci_go 133)) := cq_ok (cr_iload_n (k := 2) (by decide +kernel) rfl rfl) (cr_goto (off := 5) (by decide +kernel) (by decide))
set_option maxRecDepth 100000 in
theorem cb_X9_fits_131 : ci_ok yX9_fits cX9_fits 8 131 (ci_push (.int (-4)) 133) := cr_bipush (n := -4) (by decide +kernel) (by decide +kernel) rfl
set_option maxRecDepth 100000 in
theorem cd_X9_fits_133 : decode cX9_fits 133 = .ok (zi_rop (some .int), 1) := by decide +kernel
set_option maxRecDepth 100000 in
theorem cb_X9_fits_134 : ci_ok yX9_fits cX9_fits 8 134 (ci_seq (ci_load 0 1 135) 135 (ci_seq (ci_push (.int 1) 136) 136 (ci_ic (fun x y => !decide (x = y)) 143 139))) := cq_ok (cr_iload_n (k := 1) (by decide +kernel) rfl rfl) (cq_ok (cr_iconst2 (n := 1) (by decide +kernel) (by decide +kernel) rfl) (cr_ic_ne (off := 7) (by decide +kernel) (by decide) rfl))
set_option maxRecDepth 100000 in
theorem cb_X9_fits_139 : ci_ok yX9_fits cX9_fits 8 139 (ci_seq (ci_load 0 3 140) 140 (ci_go 166)) := cq_ok (cr_iload_n (k := 3) (by decide +kernel) rfl rfl) (cr_goto (off := 26) (by decide +kernel) (by decide))
set_option maxRecDepth 100000 in
theorem cb_X9_fits_143 : ci_ok yX9_fits cX9_fits 8 143 (ci_seq (ci_load 0 1 144) 144 (ci_seq (ci_push (.int 2) 145) 145 (ci_ic (fun x y => !decide (x = y)) 153 148))) := cq_ok (cr_iload_n (k := 1) (by decide +kernel) rfl rfl) (cq_ok (cr_iconst2 (n := 2) (by decide +kernel) (by decide +kernel) rfl) (cr_ic_ne (off := 8) (by decide +kernel) (by decide) rfl))
set_option maxRecDepth 100000 in
theorem cb_X9_fits_148 : ci_ok yX9_fits cX9_fits 8 148 (ci_seq (ci_load 0 4 150) 150 (ci_go 166)) := cq_ok (cr_iload (by decide +kernel) rfl) (cr_goto (off := 16) (by decide +kernel) (by decide))
set_option maxRecDepth 100000 in
theorem cb_X9_fits_153 : ci_ok yX9_fits cX9_fits 8 153 (ci_seq (ci_push (.int 1) 154) 154 (ci_seq (ci_load 2 0 155) 155 (ci_seq (ci_getf 9 4 158) 158 (ci_seq (ci_bin (fun a b => a <<< (b &&& 31)) 159) 159 (ci_seq (ci_push (.int 1) 160) 160 (ci_seq (ci_bin (fun a b => a - b) 161) 161 (ci_seq (ci_load 0 5 163) 163 (ci_seq (ci_push (.int (-1)) 164) 164 (ci_seq (ci_bin (fun a b => a ^^^ b) 165) 165 (ci_bin (fun a b => a &&& b) 166)))))))))) := cq_ok (cr_iconst2 (n := 1) (by decide +kernel) (by decide +kernel) rfl) (cq_ok (cr_aload_n (k := 0) (by decide +kernel) rfl rfl) (cq_ok (cr_getf (idx := 126) zc_9 (by decide) zl_461 (by decide +kernel) rfl) (cq_ok (cr_ishl (by decide +kernel) rfl) (cq_ok (cr_iconst2 (n := 1) (by decide +kernel) (by decide +kernel) rfl) (cq_ok (cr_isub (by decide +kernel) rfl) (cq_ok (cr_iload (by decide +kernel) rfl) (cq_ok (cr_iconst2 (n := -1) (by decide +kernel) (by decide +kernel) rfl) (cq_ok (cr_ixor (by decide +kernel) rfl) (cr_iand (by decide +kernel) rfl)))))))))
set_option maxRecDepth 100000 in
theorem cd_X9_fits_166 : decode cX9_fits 166 = .ok (zi_rop (some .int), 1) := by decide +kernel
set_option maxRecDepth 100000 in
theorem cb_X9_copies_0 : ci_ok yX9_copies cX9_copies 4 0 (ci_seq (ci_push (.int 0) 1) 1 (ci_store 0 3 2)) := cq_ok (cr_iconst2 (n := 0) (by decide +kernel) (by decide +kernel) rfl) (cr_istore_n (k := 3) (by decide +kernel) rfl (by decide) rfl)
set_option maxRecDepth 100000 in
theorem cb_X9_copies_2 : ci_ok yX9_copies cX9_copies 4 2 (ci_seq (ci_load 0 3 3) 3 (ci_seq (ci_push (.int 56) 5) 5 (ci_ic (fun x y => decide (y ≤ x)) 30 8))) := cq_ok (cr_iload_n (k := 3) (by decide +kernel) rfl rfl) (cq_ok (cr_bipush (n := 56) (by decide +kernel) (by decide +kernel) rfl) (cr_ic_ge (off := 25) (by decide +kernel) (by decide) rfl))
set_option maxRecDepth 100000 in
theorem cb_X9_copies_8 : ci_ok yX9_copies cX9_copies 4 8 (ci_seq (ci_load 2 0 9) 9 (ci_seq (ci_getf 9 0 12) 12 (ci_seq (ci_load 0 1 13) 13 (ci_seq (ci_load 0 3 14) 14 (ci_seq (ci_bin (fun a b => a + b) 15) 15 (ci_seq (ci_load 2 0 16) 16 (ci_seq (ci_getf 9 0 19) 19 (ci_seq (ci_load 0 2 20) 20 (ci_seq (ci_load 0 3 21) 21 (ci_seq (ci_bin (fun a b => a + b) 22) 22 (ci_seq (ci_ald .int 23) 23 (ci_seq (ci_ast .int 24) 24 (ci_seq (ci_inc 3 1 27) 27 (ci_go 2)))))))))))))) := cq_ok (cr_aload_n (k := 0) (by decide +kernel) rfl rfl) (cq_ok (cr_getf (idx := 7) zc_9 (by decide) zl_441 (by decide +kernel) rfl) (cq_ok (cr_iload_n (k := 1) (by decide +kernel) rfl rfl) (cq_ok (cr_iload_n (k := 3) (by decide +kernel) rfl rfl) (cq_ok (cr_iadd (by decide +kernel) rfl) (cq_ok (cr_aload_n (k := 0) (by decide +kernel) rfl rfl) (cq_ok (cr_getf (idx := 7) zc_9 (by decide) zl_441 (by decide +kernel) rfl) (cq_ok (cr_iload_n (k := 2) (by decide +kernel) rfl rfl) (cq_ok (cr_iload_n (k := 3) (by decide +kernel) rfl rfl) (cq_ok (cr_iadd (by decide +kernel) rfl) (cq_ok (cr_ald (ins := .iaload) rfl (by decide +kernel) (Or.inl ⟨rfl, rfl⟩)) (cq_ok (cr_ast (ins := .iastore) rfl (by decide +kernel) (Or.inl ⟨rfl, rfl⟩)) (cq_ok (ci_inc_ok (by decide) (by decide +kernel) rfl) (cr_goto (off := -25) (by decide +kernel) (by decide))))))))))))))
set_option maxRecDepth 100000 in
theorem cd_X9_copies_30 : decode cX9_copies 30 = .ok (zi_rop none, 1) := by decide +kernel
set_option maxRecDepth 100000 in
theorem cb_X9_keep_0 : ci_ok yX9_keep cX9_keep 3 0 (ci_seq (ci_load 0 1 1) 1 (ci_seq (ci_i2l 2) 2 (ci_seq (ci_push (.long 0) 3) 3 (ci_push (.long 1) 4)))) := cq_ok (cr_iload_n (k := 1) (by decide +kernel) rfl rfl) (cq_ok (cr_i2l (by decide +kernel) rfl) (cq_ok (cr_lconst (n := 0) (by decide +kernel) (by decide +kernel) rfl) (cr_lconst (n := 1) (by decide +kernel) (by decide +kernel) rfl)))
set_option maxRecDepth 100000 in
theorem cl_X9_keep_4 : ci_calls yX9_keep cX9_keep 3 4 yX9_in 3 none := cr_callS (idx := 134) zl_992 zl_654 ⟨by decide, by decide⟩ (by decide +kernel) zl_467 (Or.inl zl_466) (by decide +kernel)
set_option maxRecDepth 100000 in
theorem cb_X9_keep_7 : ci_ok yX9_keep cX9_keep 3 7 (ci_if (fun x => !decide (x = 0)) 12 10) := cr_if_ne (off := 5) (by decide +kernel) (by decide) rfl
set_option maxRecDepth 100000 in
theorem cb_X9_keep_10 : ci_ok yX9_keep cX9_keep 3 10 (ci_push (.int (-1)) 11) := cr_iconst2 (n := -1) (by decide +kernel) (by decide +kernel) rfl
set_option maxRecDepth 100000 in
theorem cd_X9_keep_11 : decode cX9_keep 11 = .ok (zi_rop (some .int), 1) := by decide +kernel
set_option maxRecDepth 100000 in
theorem cb_X9_keep_12 : ci_ok yX9_keep cX9_keep 3 12 (ci_seq (ci_load 2 0 13) 13 (ci_seq (ci_getf 9 1 16) 16 (ci_seq (ci_load 0 1 17) 17 (ci_ald .boolean 18)))) := cq_ok (cr_aload_n (k := 0) (by decide +kernel) rfl rfl) (cq_ok (cr_getf (idx := 13) zc_9 (by decide) zl_439 (by decide +kernel) rfl) (cq_ok (cr_iload_n (k := 1) (by decide +kernel) rfl rfl) (cr_ald (ins := .baload) rfl (by decide +kernel) (Or.inr (Or.inr ⟨rfl, rfl⟩)))))
set_option maxRecDepth 100000 in
theorem cl_X9_keep_18 : ci_calls yX9_keep cX9_keep 3 18 yX9_flag 1 none := cr_callS (idx := 237) zl_993 zl_654 ⟨by decide, by decide⟩ (by decide +kernel) zl_539 (Or.inl zl_538) (by decide +kernel)
set_option maxRecDepth 100000 in
theorem cb_X9_keep_21 : ci_ok yX9_keep cX9_keep 3 21 (ci_seq (ci_store 0 2 22) 22 (ci_seq (ci_load 2 0 23) 23 (ci_seq (ci_getf 9 1 26) 26 (ci_seq (ci_load 0 1 27) 27 (ci_seq (ci_push (.int 1) 28) 28 (ci_seq (ci_ast .boolean 29) 29 (ci_seq (ci_load 2 0 30) 30 (ci_seq (ci_push (.int 56) 32) 32 (ci_seq (ci_load 0 1 33) 33 (ci_seq (ci_push (.int 1) 34) 34 (ci_seq (ci_bin (fun a b => a + b) 35) 35 (ci_seq (ci_bin (fun a b => a * b) 36) 36 (ci_push (.int 0) 37))))))))))))) := cq_ok (cr_istore_n (k := 2) (by decide +kernel) rfl (by decide) rfl) (cq_ok (cr_aload_n (k := 0) (by decide +kernel) rfl rfl) (cq_ok (cr_getf (idx := 13) zc_9 (by decide) zl_439 (by decide +kernel) rfl) (cq_ok (cr_iload_n (k := 1) (by decide +kernel) rfl rfl) (cq_ok (cr_iconst2 (n := 1) (by decide +kernel) (by decide +kernel) rfl) (cq_ok (cr_ast (ins := .bastore) rfl (by decide +kernel) (Or.inr (Or.inr ⟨rfl, rfl⟩))) (cq_ok (cr_aload_n (k := 0) (by decide +kernel) rfl rfl) (cq_ok (cr_bipush (n := 56) (by decide +kernel) (by decide +kernel) rfl) (cq_ok (cr_iload_n (k := 1) (by decide +kernel) rfl rfl) (cq_ok (cr_iconst2 (n := 1) (by decide +kernel) (by decide +kernel) rfl) (cq_ok (cr_iadd (by decide +kernel) rfl) (cq_ok (cr_imul (by decide +kernel) rfl) (cr_iconst2 (n := 0) (by decide +kernel) (by decide +kernel) rfl))))))))))))
set_option maxRecDepth 100000 in
theorem cl_X9_keep_37 : ci_calls yX9_keep cX9_keep 3 37 yX9_copies 3 (some 9) := cr_callV (idx := 355) zl_1076 ⟨by decide, by decide⟩ (by decide +kernel) zc_9 zl_638 zl_639 (Or.inl zl_637) (by decide +kernel)
set_option maxRecDepth 100000 in
theorem cb_X9_keep_40 : ci_ok yX9_keep cX9_keep 3 40 (ci_load 0 2 41) := cr_iload_n (k := 2) (by decide +kernel) rfl rfl
set_option maxRecDepth 100000 in
theorem cd_X9_keep_41 : decode cX9_keep 41 = .ok (zi_rop (some .int), 1) := by decide +kernel
set_option maxRecDepth 100000 in
theorem cb_X9_back_0 : ci_ok yX9_back cX9_back 2 0 (ci_seq (ci_load 0 1 1) 1 (ci_seq (ci_i2l 2) 2 (ci_seq (ci_push (.long 0) 3) 3 (ci_push (.long 1) 4)))) := cq_ok (cr_iload_n (k := 1) (by decide +kernel) rfl rfl) (cq_ok (cr_i2l (by decide +kernel) rfl) (cq_ok (cr_lconst (n := 0) (by decide +kernel) (by decide +kernel) rfl) (cr_lconst (n := 1) (by decide +kernel) (by decide +kernel) rfl)))
set_option maxRecDepth 100000 in
theorem cl_X9_back_4 : ci_calls yX9_back cX9_back 2 4 yX9_in 3 none := cr_callS (idx := 134) zl_992 zl_654 ⟨by decide, by decide⟩ (by decide +kernel) zl_467 (Or.inl zl_466) (by decide +kernel)
set_option maxRecDepth 100000 in
theorem cb_X9_back_7 : ci_ok yX9_back cX9_back 2 7 (ci_if (fun x => !decide (x = 0)) 12 10) := cr_if_ne (off := 5) (by decide +kernel) (by decide) rfl
set_option maxRecDepth 100000 in
theorem cb_X9_back_10 : ci_ok yX9_back cX9_back 2 10 (ci_push (.int (-1)) 11) := cr_iconst2 (n := -1) (by decide +kernel) (by decide +kernel) rfl
set_option maxRecDepth 100000 in
theorem cd_X9_back_11 : decode cX9_back 11 = .ok (zi_rop (some .int), 1) := by decide +kernel
set_option maxRecDepth 100000 in
theorem cb_X9_back_12 : ci_ok yX9_back cX9_back 2 12 (ci_seq (ci_load 2 0 13) 13 (ci_seq (ci_getf 9 1 16) 16 (ci_seq (ci_load 0 1 17) 17 (ci_seq (ci_ald .boolean 18) 18 (ci_if (fun x => !decide (x = 0)) 24 21))))) := cq_ok (cr_aload_n (k := 0) (by decide +kernel) rfl rfl) (cq_ok (cr_getf (idx := 13) zc_9 (by decide) zl_439 (by decide +kernel) rfl) (cq_ok (cr_iload_n (k := 1) (by decide +kernel) rfl rfl) (cq_ok (cr_ald (ins := .baload) rfl (by decide +kernel) (Or.inr (Or.inr ⟨rfl, rfl⟩))) (cr_if_ne (off := 6) (by decide +kernel) (by decide) rfl))))
set_option maxRecDepth 100000 in
theorem cb_X9_back_21 : ci_ok yX9_back cX9_back 2 21 (ci_push (.int (-2)) 23) := cr_bipush (n := -2) (by decide +kernel) (by decide +kernel) rfl
set_option maxRecDepth 100000 in
theorem cd_X9_back_23 : decode cX9_back 23 = .ok (zi_rop (some .int), 1) := by decide +kernel
set_option maxRecDepth 100000 in
theorem cb_X9_back_24 : ci_ok yX9_back cX9_back 2 24 (ci_seq (ci_load 2 0 25) 25 (ci_seq (ci_push (.int 0) 26) 26 (ci_seq (ci_push (.int 56) 28) 28 (ci_seq (ci_load 0 1 29) 29 (ci_seq (ci_push (.int 1) 30) 30 (ci_seq (ci_bin (fun a b => a + b) 31) 31 (ci_bin (fun a b => a * b) 32))))))) := cq_ok (cr_aload_n (k := 0) (by decide +kernel) rfl rfl) (cq_ok (cr_iconst2 (n := 0) (by decide +kernel) (by decide +kernel) rfl) (cq_ok (cr_bipush (n := 56) (by decide +kernel) (by decide +kernel) rfl) (cq_ok (cr_iload_n (k := 1) (by decide +kernel) rfl rfl) (cq_ok (cr_iconst2 (n := 1) (by decide +kernel) (by decide +kernel) rfl) (cq_ok (cr_iadd (by decide +kernel) rfl) (cr_imul (by decide +kernel) rfl))))))
set_option maxRecDepth 100000 in
theorem cl_X9_back_32 : ci_calls yX9_back cX9_back 2 32 yX9_copies 3 (some 9) := cr_callV (idx := 355) zl_1076 ⟨by decide, by decide⟩ (by decide +kernel) zc_9 zl_638 zl_639 (Or.inl zl_637) (by decide +kernel)
set_option maxRecDepth 100000 in
theorem cb_X9_back_35 : ci_ok yX9_back cX9_back 2 35 (ci_seq (ci_load 2 0 36) 36 (ci_seq (ci_getf 9 0 39) 39 (ci_seq (ci_push (.int 31) 41) 41 (ci_ald .int 42)))) := cq_ok (cr_aload_n (k := 0) (by decide +kernel) rfl rfl) (cq_ok (cr_getf (idx := 7) zc_9 (by decide) zl_441 (by decide +kernel) rfl) (cq_ok (cr_bipush (n := 31) (by decide +kernel) (by decide +kernel) rfl) (cr_ald (ins := .iaload) rfl (by decide +kernel) (Or.inl ⟨rfl, rfl⟩))))
set_option maxRecDepth 100000 in
theorem cd_X9_back_42 : decode cX9_back 42 = .ok (zi_rop (some .int), 1) := by decide +kernel
set_option maxRecDepth 100000 in
theorem cb_X9_isSheet_0 : ci_ok yX9_isSheet cX9_isSheet 2 0 (ci_seq (ci_load 0 0 1) 1 (ci_seq (ci_i2l 2) 2 (ci_seq (ci_push (.long 0) 3) 3 (ci_push (.long 3) 6)))) := cq_ok (cr_iload_n (k := 0) (by decide +kernel) rfl rfl) (cq_ok (cr_i2l (by decide +kernel) rfl) (cq_ok (cr_lconst (n := 0) (by decide +kernel) (by decide +kernel) rfl) (cr_ldc2 zl_546 (by decide +kernel) rfl)))
set_option maxRecDepth 100000 in
theorem cl_X9_isSheet_6 : ci_calls yX9_isSheet cX9_isSheet 2 6 yX9_in 3 none := cr_callS (idx := 134) zl_992 zl_654 ⟨by decide, by decide⟩ (by decide +kernel) zl_467 (Or.inl zl_466) (by decide +kernel)
set_option maxRecDepth 100000 in
theorem cb_X9_isSheet_9 : ci_ok yX9_isSheet cX9_isSheet 2 9 (ci_if (fun x => decide (x = 0)) 28 12) := cr_if_eq (off := 19) (by decide +kernel) (by decide) rfl
set_option maxRecDepth 100000 in
theorem cb_X9_isSheet_12 : ci_ok yX9_isSheet cX9_isSheet 2 12 (ci_seq (ci_load 0 1 13) 13 (ci_seq (ci_i2l 14) 14 (ci_seq (ci_push (.long 0) 15) 15 (ci_push (.long 2) 18)))) := cq_ok (cr_iload_n (k := 1) (by decide +kernel) rfl rfl) (cq_ok (cr_i2l (by decide +kernel) rfl) (cq_ok (cr_lconst (n := 0) (by decide +kernel) (by decide +kernel) rfl) (cr_ldc2 zl_557 (by decide +kernel) rfl)))
set_option maxRecDepth 100000 in
theorem cl_X9_isSheet_18 : ci_calls yX9_isSheet cX9_isSheet 2 18 yX9_in 3 none := cr_callS (idx := 134) zl_992 zl_654 ⟨by decide, by decide⟩ (by decide +kernel) zl_467 (Or.inl zl_466) (by decide +kernel)
set_option maxRecDepth 100000 in
theorem cb_X9_isSheet_21 : ci_ok yX9_isSheet cX9_isSheet 2 21 (ci_if (fun x => decide (x = 0)) 28 24) := cr_if_eq (off := 7) (by decide +kernel) (by decide) rfl
set_option maxRecDepth 100000 in
theorem cb_X9_isSheet_24 : ci_ok yX9_isSheet cX9_isSheet 2 24 (ci_seq (ci_push (.int 1) 25) 25 (ci_go 29)) := cq_ok (cr_iconst2 (n := 1) (by decide +kernel) (by decide +kernel) rfl) (cr_goto (off := 4) (by decide +kernel) (by decide))
set_option maxRecDepth 100000 in
theorem cb_X9_isSheet_28 : ci_ok yX9_isSheet cX9_isSheet 2 28 (ci_push (.int 0) 29) := cr_iconst2 (n := 0) (by decide +kernel) (by decide +kernel) rfl
set_option maxRecDepth 100000 in
theorem cd_X9_isSheet_29 : decode cX9_isSheet 29 = .ok (zi_rop (some .boolean), 1) := by decide +kernel
set_option maxRecDepth 100000 in
theorem cb_X9_sheet_0 : ci_ok yX9_sheet cX9_sheet 5 0 (ci_seq (ci_load 0 1 1) 1 (ci_load 0 2 2)) := cq_ok (cr_iload_n (k := 1) (by decide +kernel) rfl rfl) (cr_iload_n (k := 2) (by decide +kernel) rfl rfl)
set_option maxRecDepth 100000 in
theorem cl_X9_sheet_2 : ci_calls yX9_sheet cX9_sheet 5 2 yX9_isSheet 2 none := cr_callS (idx := 358) zl_1079 zl_654 ⟨by decide, by decide⟩ (by decide +kernel) zl_641 (Or.inl zl_640) (by decide +kernel)
set_option maxRecDepth 100000 in
theorem cb_X9_sheet_5 : ci_ok yX9_sheet cX9_sheet 5 5 (ci_if (fun x => decide (x = 0)) 14 8) := cr_if_eq (off := 9) (by decide +kernel) (by decide) rfl
set_option maxRecDepth 100000 in
theorem cb_X9_sheet_8 : ci_ok yX9_sheet cX9_sheet 5 8 (ci_seq (ci_load 0 3 9) 9 (ci_seq (ci_push (.int 40) 11) 11 (ci_ic (fun x y => decide (x ≤ y)) 16 14))) := cq_ok (cr_iload_n (k := 3) (by decide +kernel) rfl rfl) (cq_ok (cr_bipush (n := 40) (by decide +kernel) (by decide +kernel) rfl) (cr_ic_le (off := 5) (by decide +kernel) (by decide) rfl))
set_option maxRecDepth 100000 in
theorem cb_X9_sheet_14 : ci_ok yX9_sheet cX9_sheet 5 14 (ci_push (.int (-1)) 15) := cr_iconst2 (n := -1) (by decide +kernel) (by decide +kernel) rfl
set_option maxRecDepth 100000 in
theorem cd_X9_sheet_15 : decode cX9_sheet 15 = .ok (zi_rop (some .int), 1) := by decide +kernel
set_option maxRecDepth 100000 in
theorem cb_X9_sheet_16 : ci_ok yX9_sheet cX9_sheet 5 16 (ci_seq (ci_load 0 3 17) 17 (ci_if (fun x => decide (0 ≤ x)) 23 20)) := cq_ok (cr_iload_n (k := 3) (by decide +kernel) rfl rfl) (cr_if_ge (off := 6) (by decide +kernel) (by decide) rfl)
set_option maxRecDepth 100000 in
theorem cb_X9_sheet_20 : ci_ok yX9_sheet cX9_sheet 5 20 (ci_push (.int (-14)) 22) := cr_bipush (n := -14) (by decide +kernel) (by decide +kernel) rfl
set_option maxRecDepth 100000 in
theorem cd_X9_sheet_22 : decode cX9_sheet 22 = .ok (zi_rop (some .int), 1) := by decide +kernel
set_option maxRecDepth 100000 in
theorem cb_X9_sheet_23 : ci_ok yX9_sheet cX9_sheet 5 23 (ci_seq (ci_load 2 0 24) 24 (ci_seq (ci_getf 9 42 27) 27 (ci_seq (ci_load 0 1 28) 28 (ci_seq (ci_load 0 2 29) 29 (ci_seq (ci_ast .int 30) 30 (ci_seq (ci_load 2 0 31) 31 (ci_seq (ci_getf 9 43 34) 34 (ci_seq (ci_load 0 1 35) 35 (ci_seq (ci_load 0 3 36) 36 (ci_seq (ci_ast .int 37) 37 (ci_seq (ci_push (.int 0) 38) 38 (ci_store 0 4 40)))))))))))) := cq_ok (cr_aload_n (k := 0) (by decide +kernel) rfl rfl) (cq_ok (cr_getf (idx := 65) zc_9 (by decide) zl_422 (by decide +kernel) rfl) (cq_ok (cr_iload_n (k := 1) (by decide +kernel) rfl rfl) (cq_ok (cr_iload_n (k := 2) (by decide +kernel) rfl rfl) (cq_ok (cr_ast (ins := .iastore) rfl (by decide +kernel) (Or.inl ⟨rfl, rfl⟩)) (cq_ok (cr_aload_n (k := 0) (by decide +kernel) rfl rfl) (cq_ok (cr_getf (idx := 68) zc_9 (by decide) zl_421 (by decide +kernel) rfl) (cq_ok (cr_iload_n (k := 1) (by decide +kernel) rfl rfl) (cq_ok (cr_iload_n (k := 3) (by decide +kernel) rfl rfl) (cq_ok (cr_ast (ins := .iastore) rfl (by decide +kernel) (Or.inl ⟨rfl, rfl⟩)) (cq_ok (cr_iconst2 (n := 0) (by decide +kernel) (by decide +kernel) rfl) (cr_istore (by decide +kernel) (by decide) rfl)))))))))))
set_option maxRecDepth 100000 in
theorem cb_X9_sheet_40 : ci_ok yX9_sheet cX9_sheet 5 40 (ci_seq (ci_load 0 4 42) 42 (ci_seq (ci_push (.int 40) 44) 44 (ci_ic (fun x y => decide (y ≤ x)) 66 47))) := cq_ok (cr_iload (by decide +kernel) rfl) (cq_ok (cr_bipush (n := 40) (by decide +kernel) (by decide +kernel) rfl) (cr_ic_ge (off := 22) (by decide +kernel) (by decide) rfl))
set_option maxRecDepth 100000 in
theorem cb_X9_sheet_47 : ci_ok yX9_sheet cX9_sheet 5 47 (ci_seq (ci_load 2 0 48) 48 (ci_seq (ci_getf 9 44 51) 51 (ci_seq (ci_push (.int 40) 53) 53 (ci_seq (ci_load 0 1 54) 54 (ci_seq (ci_bin (fun a b => a * b) 55) 55 (ci_seq (ci_load 0 4 57) 57 (ci_seq (ci_bin (fun a b => a + b) 58) 58 (ci_seq (ci_push (.int 0) 59) 59 (ci_seq (ci_ast .int 60) 60 (ci_seq (ci_inc 4 1 63) 63 (ci_go 40))))))))))) := cq_ok (cr_aload_n (k := 0) (by decide +kernel) rfl rfl) (cq_ok (cr_getf (idx := 71) zc_9 (by decide) zl_420 (by decide +kernel) rfl) (cq_ok (cr_bipush (n := 40) (by decide +kernel) (by decide +kernel) rfl) (cq_ok (cr_iload_n (k := 1) (by decide +kernel) rfl rfl) (cq_ok (cr_imul (by decide +kernel) rfl) (cq_ok (cr_iload (by decide +kernel) rfl) (cq_ok (cr_iadd (by decide +kernel) rfl) (cq_ok (cr_iconst2 (n := 0) (by decide +kernel) (by decide +kernel) rfl) (cq_ok (cr_ast (ins := .iastore) rfl (by decide +kernel) (Or.inl ⟨rfl, rfl⟩)) (cq_ok (ci_inc_ok (by decide) (by decide +kernel) rfl) (cr_goto (off := -23) (by decide +kernel) (by decide)))))))))))
set_option maxRecDepth 100000 in
theorem cb_X9_sheet_66 : ci_ok yX9_sheet cX9_sheet 5 66 (ci_push (.int 1) 67) := cr_iconst2 (n := 1) (by decide +kernel) (by decide +kernel) rfl
set_option maxRecDepth 100000 in
theorem cd_X9_sheet_67 : decode cX9_sheet 67 = .ok (zi_rop (some .int), 1) := by decide +kernel
set_option maxRecDepth 100000 in
theorem cb_X9_lay_0 : ci_ok yX9_lay cX9_lay 4 0 (ci_seq (ci_load 0 1 1) 1 (ci_push (.int 0) 2)) := cq_ok (cr_iload_n (k := 1) (by decide +kernel) rfl rfl) (cr_iconst2 (n := 0) (by decide +kernel) (by decide +kernel) rfl)
set_option maxRecDepth 100000 in
theorem cl_X9_lay_2 : ci_calls yX9_lay cX9_lay 4 2 yX9_isSheet 2 none := cr_callS (idx := 358) zl_1079 zl_654 ⟨by decide, by decide⟩ (by decide +kernel) zl_641 (Or.inl zl_640) (by decide +kernel)
set_option maxRecDepth 100000 in
theorem cb_X9_lay_5 : ci_ok yX9_lay cX9_lay 4 5 (ci_if (fun x => !decide (x = 0)) 10 8) := cr_if_ne (off := 5) (by decide +kernel) (by decide) rfl
set_option maxRecDepth 100000 in
theorem cb_X9_lay_8 : ci_ok yX9_lay cX9_lay 4 8 (ci_push (.int (-1)) 9) := cr_iconst2 (n := -1) (by decide +kernel) (by decide +kernel) rfl
set_option maxRecDepth 100000 in
theorem cd_X9_lay_9 : decode cX9_lay 9 = .ok (zi_rop (some .int), 1) := by decide +kernel
set_option maxRecDepth 100000 in
theorem cb_X9_lay_10 : ci_ok yX9_lay cX9_lay 4 10 (ci_seq (ci_load 2 0 11) 11 (ci_seq (ci_getf 9 42 14) 14 (ci_seq (ci_load 0 1 15) 15 (ci_seq (ci_ald .int 16) 16 (ci_seq (ci_push (.int (-4)) 18) 18 (ci_ic (fun x y => !decide (x = y)) 24 21)))))) := cq_ok (cr_aload_n (k := 0) (by decide +kernel) rfl rfl) (cq_ok (cr_getf (idx := 65) zc_9 (by decide) zl_422 (by decide +kernel) rfl) (cq_ok (cr_iload_n (k := 1) (by decide +kernel) rfl rfl) (cq_ok (cr_ald (ins := .iaload) rfl (by decide +kernel) (Or.inl ⟨rfl, rfl⟩)) (cq_ok (cr_bipush (n := -4) (by decide +kernel) (by decide +kernel) rfl) (cr_ic_ne (off := 6) (by decide +kernel) (by decide) rfl)))))
set_option maxRecDepth 100000 in
theorem cb_X9_lay_21 : ci_ok yX9_lay cX9_lay 4 21 (ci_push (.int (-11)) 23) := cr_bipush (n := -11) (by decide +kernel) (by decide +kernel) rfl
set_option maxRecDepth 100000 in
theorem cd_X9_lay_23 : decode cX9_lay 23 = .ok (zi_rop (some .int), 1) := by decide +kernel
set_option maxRecDepth 100000 in
theorem cb_X9_lay_24 : ci_ok yX9_lay cX9_lay 4 24 (ci_seq (ci_load 0 2 25) 25 (ci_seq (ci_i2l 26) 26 (ci_seq (ci_push (.long 0) 27) 27 (ci_seq (ci_load 2 0 28) 28 (ci_seq (ci_getf 9 43 31) 31 (ci_seq (ci_load 0 1 32) 32 (ci_seq (ci_ald .int 33) 33 (ci_seq (ci_push (.int 1) 34) 34 (ci_seq (ci_bin (fun a b => a - b) 35) 35 (ci_i2l 36)))))))))) := cq_ok (cr_iload_n (k := 2) (by decide +kernel) rfl rfl) (cq_ok (cr_i2l (by decide +kernel) rfl) (cq_ok (cr_lconst (n := 0) (by decide +kernel) (by decide +kernel) rfl) (cq_ok (cr_aload_n (k := 0) (by decide +kernel) rfl rfl) (cq_ok (cr_getf (idx := 68) zc_9 (by decide) zl_421 (by decide +kernel) rfl) (cq_ok (cr_iload_n (k := 1) (by decide +kernel) rfl rfl) (cq_ok (cr_ald (ins := .iaload) rfl (by decide +kernel) (Or.inl ⟨rfl, rfl⟩)) (cq_ok (cr_iconst2 (n := 1) (by decide +kernel) (by decide +kernel) rfl) (cq_ok (cr_isub (by decide +kernel) rfl) (cr_i2l (by decide +kernel) rfl)))))))))
set_option maxRecDepth 100000 in
theorem cl_X9_lay_36 : ci_calls yX9_lay cX9_lay 4 36 yX9_in 3 none := cr_callS (idx := 134) zl_992 zl_654 ⟨by decide, by decide⟩ (by decide +kernel) zl_467 (Or.inl zl_466) (by decide +kernel)
set_option maxRecDepth 100000 in
theorem cb_X9_lay_39 : ci_ok yX9_lay cX9_lay 4 39 (ci_if (fun x => !decide (x = 0)) 45 42) := cr_if_ne (off := 6) (by decide +kernel) (by decide) rfl
set_option maxRecDepth 100000 in
theorem cb_X9_lay_42 : ci_ok yX9_lay cX9_lay 4 42 (ci_push (.int (-12)) 44) := cr_bipush (n := -12) (by decide +kernel) (by decide +kernel) rfl
set_option maxRecDepth 100000 in
theorem cd_X9_lay_44 : decode cX9_lay 44 = .ok (zi_rop (some .int), 1) := by decide +kernel
set_option maxRecDepth 100000 in
theorem cb_X9_lay_45 : ci_ok yX9_lay cX9_lay 4 45 (ci_seq (ci_load 2 0 46) 46 (ci_seq (ci_getf 9 44 49) 49 (ci_seq (ci_push (.int 40) 51) 51 (ci_seq (ci_load 0 1 52) 52 (ci_seq (ci_bin (fun a b => a * b) 53) 53 (ci_seq (ci_load 0 2 54) 54 (ci_seq (ci_bin (fun a b => a + b) 55) 55 (ci_seq (ci_load 2 0 56) 56 (ci_seq (ci_getf 9 42 59) 59 (ci_seq (ci_load 0 1 60) 60 (ci_seq (ci_ald .int 61) 61 (ci_if (fun x => !decide (x = 0)) 69 64)))))))))))) := cq_ok (cr_aload_n (k := 0) (by decide +kernel) rfl rfl) (cq_ok (cr_getf (idx := 71) zc_9 (by decide) zl_420 (by decide +kernel) rfl) (cq_ok (cr_bipush (n := 40) (by decide +kernel) (by decide +kernel) rfl) (cq_ok (cr_iload_n (k := 1) (by decide +kernel) rfl rfl) (cq_ok (cr_imul (by decide +kernel) rfl) (cq_ok (cr_iload_n (k := 2) (by decide +kernel) rfl rfl) (cq_ok (cr_iadd (by decide +kernel) rfl) (cq_ok (cr_aload_n (k := 0) (by decide +kernel) rfl rfl) (cq_ok (cr_getf (idx := 65) zc_9 (by decide) zl_422 (by decide +kernel) rfl) (cq_ok (cr_iload_n (k := 1) (by decide +kernel) rfl rfl) (cq_ok (cr_ald (ins := .iaload) rfl (by decide +kernel) (Or.inl ⟨rfl, rfl⟩)) (cr_if_ne (off := 8) (by decide +kernel) (by decide) rfl)))))))))))
set_option maxRecDepth 100000 in
theorem cb_X9_lay_64 : ci_ok yX9_lay cX9_lay 4 64 (ci_seq (ci_load 0 3 65) 65 (ci_seq (ci_un (fun x => x.toInt8.toInt32) 66) 66 (ci_go 85))) := cq_ok (cr_iload_n (k := 3) (by decide +kernel) rfl rfl) (cq_ok (cr_i2b (by decide +kernel) rfl) (cr_goto (off := 19) (by decide +kernel) (by decide)))
set_option maxRecDepth 100000 in
theorem cb_X9_lay_69 : ci_ok yX9_lay cX9_lay 4 69 (ci_seq (ci_load 2 0 70) 70 (ci_seq (ci_getf 9 42 73) 73 (ci_seq (ci_load 0 1 74) 74 (ci_seq (ci_ald .int 75) 75 (ci_seq (ci_push (.int 1) 76) 76 (ci_ic (fun x y => !decide (x = y)) 84 79)))))) := cq_ok (cr_aload_n (k := 0) (by decide +kernel) rfl rfl) (cq_ok (cr_getf (idx := 65) zc_9 (by decide) zl_422 (by decide +kernel) rfl) (cq_ok (cr_iload_n (k := 1) (by decide +kernel) rfl rfl) (cq_ok (cr_ald (ins := .iaload) rfl (by decide +kernel) (Or.inl ⟨rfl, rfl⟩)) (cq_ok (cr_iconst2 (n := 1) (by decide +kernel) (by decide +kernel) rfl) (cr_ic_ne (off := 8) (by decide +kernel) (by decide) rfl)))))
set_option maxRecDepth 100000 in
theorem cb_X9_lay_79 : ci_ok yX9_lay cX9_lay 4 79 (ci_seq (ci_load 0 3 80) 80 (ci_seq (ci_un (fun x => x.toInt16.toInt32) 81) 81 (ci_go 85))) := cq_ok (cr_iload_n (k := 3) (by decide +kernel) rfl rfl) (cq_ok (cr_i2s (by decide +kernel) rfl) (cr_goto (off := 4) (by decide +kernel) (by decide)))
set_option maxRecDepth 100000 in
theorem cb_X9_lay_84 : ci_ok yX9_lay cX9_lay 4 84 (ci_load 0 3 85) := cr_iload_n (k := 3) (by decide +kernel) rfl rfl
set_option maxRecDepth 100000 in
theorem cb_X9_lay_85 : ci_ok yX9_lay cX9_lay 4 85 (ci_seq (ci_ast .int 86) 86 (ci_push (.int 1) 87)) := cq_ok (cr_ast (ins := .iastore) rfl (by decide +kernel) (Or.inl ⟨rfl, rfl⟩)) (cr_iconst2 (n := 1) (by decide +kernel) (by decide +kernel) rfl)
set_option maxRecDepth 100000 in
theorem cd_X9_lay_87 : decode cX9_lay 87 = .ok (zi_rop (some .int), 1) := by decide +kernel
set_option maxRecDepth 100000 in
theorem cb_X9_read_0 : ci_ok yX9_read cX9_read 12 0 (ci_seq (ci_load 0 1 1) 1 (ci_load 0 2 2)) := cq_ok (cr_iload_n (k := 1) (by decide +kernel) rfl rfl) (cr_iload_n (k := 2) (by decide +kernel) rfl rfl)
set_option maxRecDepth 100000 in
theorem cl_X9_read_2 : ci_calls yX9_read cX9_read 12 2 yX9_isSheet 2 none := cr_callS (idx := 358) zl_1079 zl_654 ⟨by decide, by decide⟩ (by decide +kernel) zl_641 (Or.inl zl_640) (by decide +kernel)
set_option maxRecDepth 100000 in
theorem cb_X9_read_5 : ci_ok yX9_read cX9_read 12 5 (ci_if (fun x => decide (x = 0)) 21 8) := cr_if_eq (off := 16) (by decide +kernel) (by decide) rfl
set_option maxRecDepth 100000 in
theorem cb_X9_read_8 : ci_ok yX9_read cX9_read 12 8 (ci_seq (ci_load 0 4 10) 10 (ci_seq (ci_i2l 11) 11 (ci_seq (ci_push (.long 0) 12) 12 (ci_push (.long 20) 15)))) := cq_ok (cr_iload (by decide +kernel) rfl) (cq_ok (cr_i2l (by decide +kernel) rfl) (cq_ok (cr_lconst (n := 0) (by decide +kernel) (by decide +kernel) rfl) (cr_ldc2 zl_642 (by decide +kernel) rfl)))
set_option maxRecDepth 100000 in
theorem cl_X9_read_15 : ci_calls yX9_read cX9_read 12 15 yX9_in 3 none := cr_callS (idx := 134) zl_992 zl_654 ⟨by decide, by decide⟩ (by decide +kernel) zl_467 (Or.inl zl_466) (by decide +kernel)
set_option maxRecDepth 100000 in
theorem cb_X9_read_18 : ci_ok yX9_read cX9_read 12 18 (ci_if (fun x => !decide (x = 0)) 23 21) := cr_if_ne (off := 5) (by decide +kernel) (by decide) rfl
set_option maxRecDepth 100000 in
theorem cb_X9_read_21 : ci_ok yX9_read cX9_read 12 21 (ci_push (.int (-1)) 22) := cr_iconst2 (n := -1) (by decide +kernel) (by decide +kernel) rfl
set_option maxRecDepth 100000 in
theorem cd_X9_read_22 : decode cX9_read 22 = .ok (zi_rop (some .int), 1) := by decide +kernel
set_option maxRecDepth 100000 in
theorem cb_X9_read_23 : ci_ok yX9_read cX9_read 12 23 (ci_seq (ci_load 2 0 24) 24 (ci_seq (ci_getf 9 0 27) 27 (ci_seq (ci_push (.int 31) 29) 29 (ci_seq (ci_ald .int 30) 30 (ci_seq (ci_store 0 5 32) 32 (ci_seq (ci_push (.int 0) 33) 33 (ci_store 0 6 35))))))) := cq_ok (cr_aload_n (k := 0) (by decide +kernel) rfl rfl) (cq_ok (cr_getf (idx := 7) zc_9 (by decide) zl_441 (by decide +kernel) rfl) (cq_ok (cr_bipush (n := 31) (by decide +kernel) (by decide +kernel) rfl) (cq_ok (cr_ald (ins := .iaload) rfl (by decide +kernel) (Or.inl ⟨rfl, rfl⟩)) (cq_ok (cr_istore (by decide +kernel) (by decide) rfl) (cq_ok (cr_iconst2 (n := 0) (by decide +kernel) (by decide +kernel) rfl) (cr_istore (by decide +kernel) (by decide) rfl))))))
set_option maxRecDepth 100000 in
theorem cb_X9_read_35 : ci_ok yX9_read cX9_read 12 35 (ci_seq (ci_load 0 6 37) 37 (ci_seq (ci_push (.int 25) 39) 39 (ci_ic (fun x y => decide (y ≤ x)) 62 42))) := cq_ok (cr_iload (by decide +kernel) rfl) (cq_ok (cr_bipush (n := 25) (by decide +kernel) (by decide +kernel) rfl) (cr_ic_ge (off := 23) (by decide +kernel) (by decide) rfl))
set_option maxRecDepth 100000 in
theorem cb_X9_read_42 : ci_ok yX9_read cX9_read 12 42 (ci_seq (ci_load 2 0 43) 43 (ci_seq (ci_getf 9 46 46) 46 (ci_seq (ci_load 0 6 48) 48 (ci_seq (ci_load 2 0 49) 49 (ci_seq (ci_getf 9 0 52) 52 (ci_seq (ci_load 0 6 54) 54 (ci_seq (ci_ald .int 55) 55 (ci_seq (ci_ast .int 56) 56 (ci_seq (ci_inc 6 1 59) 59 (ci_go 35)))))))))) := cq_ok (cr_aload_n (k := 0) (by decide +kernel) rfl rfl) (cq_ok (cr_getf (idx := 74) zc_9 (by decide) zl_419 (by decide +kernel) rfl) (cq_ok (cr_iload (by decide +kernel) rfl) (cq_ok (cr_aload_n (k := 0) (by decide +kernel) rfl rfl) (cq_ok (cr_getf (idx := 7) zc_9 (by decide) zl_441 (by decide +kernel) rfl) (cq_ok (cr_iload (by decide +kernel) rfl) (cq_ok (cr_ald (ins := .iaload) rfl (by decide +kernel) (Or.inl ⟨rfl, rfl⟩)) (cq_ok (cr_ast (ins := .iastore) rfl (by decide +kernel) (Or.inl ⟨rfl, rfl⟩)) (cq_ok (ci_inc_ok (by decide) (by decide +kernel) rfl) (cr_goto (off := -24) (by decide +kernel) (by decide))))))))))
set_option maxRecDepth 100000 in
theorem cb_X9_read_62 : ci_ok yX9_read cX9_read 12 62 (ci_seq (ci_push (.int 0) 63) 63 (ci_seq (ci_store 0 6 65) 65 (ci_seq (ci_push (.int 0) 66) 66 (ci_seq (ci_store 0 7 68) 68 (ci_seq (ci_push (.int 0) 69) 69 (ci_store 0 8 71)))))) := cq_ok (cr_iconst2 (n := 0) (by decide +kernel) (by decide +kernel) rfl) (cq_ok (cr_istore (by decide +kernel) (by decide) rfl) (cq_ok (cr_iconst2 (n := 0) (by decide +kernel) (by decide +kernel) rfl) (cq_ok (cr_istore (by decide +kernel) (by decide) rfl) (cq_ok (cr_iconst2 (n := 0) (by decide +kernel) (by decide +kernel) rfl) (cr_istore (by decide +kernel) (by decide) rfl)))))
set_option maxRecDepth 100000 in
theorem cb_X9_read_71 : ci_ok yX9_read cX9_read 12 71 (ci_seq (ci_load 0 8 73) 73 (ci_seq (ci_load 0 4 75) 75 (ci_ic (fun x y => decide (y ≤ x)) 227 78))) := cq_ok (cr_iload (by decide +kernel) rfl) (cq_ok (cr_iload (by decide +kernel) rfl) (cr_ic_ge (off := 152) (by decide +kernel) (by decide) rfl))
set_option maxRecDepth 100000 in
theorem cb_X9_read_78 : ci_ok yX9_read cX9_read 12 78 (ci_seq (ci_load 0 6 80) 80 (ci_if (fun x => !decide (x = 0)) 227 83)) := cq_ok (cr_iload (by decide +kernel) rfl) (cr_if_ne (off := 147) (by decide +kernel) (by decide) rfl)
set_option maxRecDepth 100000 in
theorem cb_X9_read_83 : ci_ok yX9_read cX9_read 12 83 (ci_seq (ci_load 0 3 84) 84 (ci_seq (ci_i2l 85) 85 (ci_seq (ci_load 0 8 87) 87 (ci_seq (ci_i2l 88) 88 (ci_seq (ci_binl (fun a b => a + b) 89) 89 (ci_seq (ci_storel 9 91) 91 (ci_seq (ci_load 2 0 92) 92 (ci_seq (ci_getf 9 42 95) 95 (ci_seq (ci_load 0 1 96) 96 (ci_seq (ci_ald .int 97) 97 (ci_seq (ci_push (.int (-4)) 99) 99 (ci_ic (fun x y => !decide (x = y)) 106 102)))))))))))) := cq_ok (cr_iload_n (k := 3) (by decide +kernel) rfl rfl) (cq_ok (cr_i2l (by decide +kernel) rfl) (cq_ok (cr_iload (by decide +kernel) rfl) (cq_ok (cr_i2l (by decide +kernel) rfl) (cq_ok (cr_ladd (by decide +kernel) rfl) (cq_ok (cr_lstore (by decide +kernel) (by decide) rfl) (cq_ok (cr_aload_n (k := 0) (by decide +kernel) rfl rfl) (cq_ok (cr_getf (idx := 65) zc_9 (by decide) zl_422 (by decide +kernel) rfl) (cq_ok (cr_iload_n (k := 1) (by decide +kernel) rfl rfl) (cq_ok (cr_ald (ins := .iaload) rfl (by decide +kernel) (Or.inl ⟨rfl, rfl⟩)) (cq_ok (cr_bipush (n := -4) (by decide +kernel) (by decide +kernel) rfl) (cr_ic_ne (off := 7) (by decide +kernel) (by decide) rfl)))))))))))
set_option maxRecDepth 100000 in
theorem cb_X9_read_102 : ci_ok yX9_read cX9_read 12 102 (ci_seq (ci_push (.int 1) 103) 103 (ci_go 145)) := cq_ok (cr_iconst2 (n := 1) (by decide +kernel) (by decide +kernel) rfl) (cr_goto (off := 42) (by decide +kernel) (by decide))
set_option maxRecDepth 100000 in
theorem cb_X9_read_106 : ci_ok yX9_read cX9_read 12 106 (ci_seq (ci_load 2 0 107) 107 (ci_seq (ci_getf 9 42 110) 110 (ci_seq (ci_load 0 1 111) 111 (ci_seq (ci_ald .int 112) 112 (ci_seq (ci_load 0 2 113) 113 (ci_ic (fun x y => decide (x = y)) 120 116)))))) := cq_ok (cr_aload_n (k := 0) (by decide +kernel) rfl rfl) (cq_ok (cr_getf (idx := 65) zc_9 (by decide) zl_422 (by decide +kernel) rfl) (cq_ok (cr_iload_n (k := 1) (by decide +kernel) rfl rfl) (cq_ok (cr_ald (ins := .iaload) rfl (by decide +kernel) (Or.inl ⟨rfl, rfl⟩)) (cq_ok (cr_iload_n (k := 2) (by decide +kernel) rfl rfl) (cr_ic_eq (off := 7) (by decide +kernel) (by decide) rfl)))))
set_option maxRecDepth 100000 in
theorem cb_X9_read_116 : ci_ok yX9_read cX9_read 12 116 (ci_seq (ci_push (.int 3) 117) 117 (ci_go 145)) := cq_ok (cr_iconst2 (n := 3) (by decide +kernel) (by decide +kernel) rfl) (cr_goto (off := 28) (by decide +kernel) (by decide))
set_option maxRecDepth 100000 in
theorem cb_X9_read_120 : ci_ok yX9_read cX9_read 12 120 (ci_seq (ci_load 1 9 122) 122 (ci_seq (ci_push (.long 0) 123) 123 (ci_seq (ci_lcmp 124) 124 (ci_if (fun x => decide (x < 0)) 140 127)))) := cq_ok (cr_lload (by decide +kernel) rfl) (cq_ok (cr_lconst (n := 0) (by decide +kernel) (by decide +kernel) rfl) (cq_ok (cr_lcmp (by decide +kernel) rfl) (cr_if_lt (off := 16) (by decide +kernel) (by decide) rfl)))
set_option maxRecDepth 100000 in
theorem cb_X9_read_127 : ci_ok yX9_read cX9_read 12 127 (ci_seq (ci_load 1 9 129) 129 (ci_seq (ci_load 2 0 130) 130 (ci_seq (ci_getf 9 43 133) 133 (ci_seq (ci_load 0 1 134) 134 (ci_seq (ci_ald .int 135) 135 (ci_seq (ci_i2l 136) 136 (ci_seq (ci_lcmp 137) 137 (ci_if (fun x => decide (x < 0)) 144 140)))))))) := cq_ok (cr_lload (by decide +kernel) rfl) (cq_ok (cr_aload_n (k := 0) (by decide +kernel) rfl rfl) (cq_ok (cr_getf (idx := 68) zc_9 (by decide) zl_421 (by decide +kernel) rfl) (cq_ok (cr_iload_n (k := 1) (by decide +kernel) rfl rfl) (cq_ok (cr_ald (ins := .iaload) rfl (by decide +kernel) (Or.inl ⟨rfl, rfl⟩)) (cq_ok (cr_i2l (by decide +kernel) rfl) (cq_ok (cr_lcmp (by decide +kernel) rfl) (cr_if_lt (off := 7) (by decide +kernel) (by decide) rfl)))))))
set_option maxRecDepth 100000 in
theorem cb_X9_read_140 : ci_ok yX9_read cX9_read 12 140 (ci_seq (ci_push (.int 2) 141) 141 (ci_go 145)) := cq_ok (cr_iconst2 (n := 2) (by decide +kernel) (by decide +kernel) rfl) (cr_goto (off := 4) (by decide +kernel) (by decide))
set_option maxRecDepth 100000 in
theorem cb_X9_read_144 : ci_ok yX9_read cX9_read 12 144 (ci_push (.int 0) 145) := cr_iconst2 (n := 0) (by decide +kernel) (by decide +kernel) rfl
set_option maxRecDepth 100000 in
theorem cb_X9_read_145 : ci_ok yX9_read cX9_read 12 145 (ci_seq (ci_store 0 6 147) 147 (ci_seq (ci_load 0 6 149) 149 (ci_if (fun x => !decide (x = 0)) 221 152))) := cq_ok (cr_istore (by decide +kernel) (by decide) rfl) (cq_ok (cr_iload (by decide +kernel) rfl) (cr_if_ne (off := 72) (by decide +kernel) (by decide) rfl))
set_option maxRecDepth 100000 in
theorem cb_X9_read_152 : ci_ok yX9_read cX9_read 12 152 (ci_seq (ci_load 2 0 153) 153 (ci_seq (ci_load 2 0 154) 154 (ci_seq (ci_getf 9 44 157) 157 (ci_seq (ci_push (.int 40) 159) 159 (ci_seq (ci_load 0 1 160) 160 (ci_seq (ci_bin (fun a b => a * b) 161) 161 (ci_seq (ci_load 0 3 162) 162 (ci_seq (ci_bin (fun a b => a + b) 163) 163 (ci_seq (ci_load 0 8 165) 165 (ci_seq (ci_bin (fun a b => a + b) 166) 166 (ci_ald .int 167))))))))))) := cq_ok (cr_aload_n (k := 0) (by decide +kernel) rfl rfl) (cq_ok (cr_aload_n (k := 0) (by decide +kernel) rfl rfl) (cq_ok (cr_getf (idx := 71) zc_9 (by decide) zl_420 (by decide +kernel) rfl) (cq_ok (cr_bipush (n := 40) (by decide +kernel) (by decide +kernel) rfl) (cq_ok (cr_iload_n (k := 1) (by decide +kernel) rfl rfl) (cq_ok (cr_imul (by decide +kernel) rfl) (cq_ok (cr_iload_n (k := 3) (by decide +kernel) rfl rfl) (cq_ok (cr_iadd (by decide +kernel) rfl) (cq_ok (cr_iload (by decide +kernel) rfl) (cq_ok (cr_iadd (by decide +kernel) rfl) (cr_ald (ins := .iaload) rfl (by decide +kernel) (Or.inl ⟨rfl, rfl⟩)))))))))))
set_option maxRecDepth 100000 in
theorem cl_X9_read_167 : ci_calls yX9_read cX9_read 12 167 yX9_year 2 (some 9) := cr_callV (idx := 363) zl_1042 ⟨by decide, by decide⟩ (by decide +kernel) zc_9 zl_644 zl_645 (Or.inl zl_643) (by decide +kernel)
set_option maxRecDepth 100000 in
theorem cb_X9_read_170 : ci_ok yX9_read cX9_read 12 170 (ci_if (fun x => decide (0 ≤ x)) 218 173) := cr_if_ge (off := 48) (by decide +kernel) (by decide) rfl
set_option maxRecDepth 100000 in
theorem cb_X9_read_173 : ci_ok yX9_read cX9_read 12 173 (ci_seq (ci_load 2 0 174) 174 (ci_seq (ci_getf 9 0 177) 177 (ci_seq (ci_push (.int 31) 179) 179 (ci_seq (ci_load 0 5 181) 181 (ci_seq (ci_ast .int 182) 182 (ci_seq (ci_push (.int 0) 183) 183 (ci_store 0 11 185))))))) := cq_ok (cr_aload_n (k := 0) (by decide +kernel) rfl rfl) (cq_ok (cr_getf (idx := 7) zc_9 (by decide) zl_441 (by decide +kernel) rfl) (cq_ok (cr_bipush (n := 31) (by decide +kernel) (by decide +kernel) rfl) (cq_ok (cr_iload (by decide +kernel) rfl) (cq_ok (cr_ast (ins := .iastore) rfl (by decide +kernel) (Or.inl ⟨rfl, rfl⟩)) (cq_ok (cr_iconst2 (n := 0) (by decide +kernel) (by decide +kernel) rfl) (cr_istore (by decide +kernel) (by decide) rfl))))))
set_option maxRecDepth 100000 in
theorem cb_X9_read_185 : ci_ok yX9_read cX9_read 12 185 (ci_seq (ci_load 0 11 187) 187 (ci_seq (ci_push (.int 25) 189) 189 (ci_ic (fun x y => decide (y ≤ x)) 212 192))) := cq_ok (cr_iload (by decide +kernel) rfl) (cq_ok (cr_bipush (n := 25) (by decide +kernel) (by decide +kernel) rfl) (cr_ic_ge (off := 23) (by decide +kernel) (by decide) rfl))
set_option maxRecDepth 100000 in
theorem cb_X9_read_192 : ci_ok yX9_read cX9_read 12 192 (ci_seq (ci_load 2 0 193) 193 (ci_seq (ci_getf 9 0 196) 196 (ci_seq (ci_load 0 11 198) 198 (ci_seq (ci_load 2 0 199) 199 (ci_seq (ci_getf 9 46 202) 202 (ci_seq (ci_load 0 11 204) 204 (ci_seq (ci_ald .int 205) 205 (ci_seq (ci_ast .int 206) 206 (ci_seq (ci_inc 11 1 209) 209 (ci_go 185)))))))))) := cq_ok (cr_aload_n (k := 0) (by decide +kernel) rfl rfl) (cq_ok (cr_getf (idx := 7) zc_9 (by decide) zl_441 (by decide +kernel) rfl) (cq_ok (cr_iload (by decide +kernel) rfl) (cq_ok (cr_aload_n (k := 0) (by decide +kernel) rfl rfl) (cq_ok (cr_getf (idx := 74) zc_9 (by decide) zl_419 (by decide +kernel) rfl) (cq_ok (cr_iload (by decide +kernel) rfl) (cq_ok (cr_ald (ins := .iaload) rfl (by decide +kernel) (Or.inl ⟨rfl, rfl⟩)) (cq_ok (cr_ast (ins := .iastore) rfl (by decide +kernel) (Or.inl ⟨rfl, rfl⟩)) (cq_ok (ci_inc_ok (by decide) (by decide +kernel) rfl) (cr_goto (off := -24) (by decide +kernel) (by decide))))))))))
set_option maxRecDepth 100000 in
theorem cb_X9_read_212 : ci_ok yX9_read cX9_read 12 212 (ci_seq (ci_push (.int (-20)) 214) 214 (ci_seq (ci_load 0 8 216) 216 (ci_bin (fun a b => a - b) 217))) := cq_ok (cr_bipush (n := -20) (by decide +kernel) (by decide +kernel) rfl) (cq_ok (cr_iload (by decide +kernel) rfl) (cr_isub (by decide +kernel) rfl))
set_option maxRecDepth 100000 in
theorem cd_X9_read_217 : decode cX9_read 217 = .ok (zi_rop (some .int), 1) := by decide +kernel
set_option maxRecDepth 100000 in
theorem cb_X9_read_218 : ci_ok yX9_read cX9_read 12 218 (ci_inc 7 1 221) := ci_inc_ok (by decide) (by decide +kernel) rfl
set_option maxRecDepth 100000 in
theorem cb_X9_read_221 : ci_ok yX9_read cX9_read 12 221 (ci_seq (ci_inc 8 1 224) 224 (ci_go 71)) := cq_ok (ci_inc_ok (by decide) (by decide +kernel) rfl) (cr_goto (off := -153) (by decide +kernel) (by decide))
set_option maxRecDepth 100000 in
theorem cb_X9_read_227 : ci_ok yX9_read cX9_read 12 227 (ci_seq (ci_load 2 0 228) 228 (ci_seq (ci_load 0 6 230) 230 (ci_seq (ci_putf 9 45 .int 233) 233 (ci_load 0 7 235)))) := cq_ok (cr_aload_n (k := 0) (by decide +kernel) rfl rfl) (cq_ok (cr_iload (by decide +kernel) rfl) (cq_ok (cr_putf (idx := 366) zc_9 (by decide) (by decide +kernel) rfl zl_646 (by decide +kernel) rfl) (cr_iload (by decide +kernel) rfl)))
set_option maxRecDepth 100000 in
theorem cd_X9_read_235 : decode cX9_read 235 = .ok (zi_rop (some .int), 1) := by decide +kernel
set_option maxRecDepth 100000 in
theorem cb_X9_torn_0 : ci_ok yX9_torn cX9_torn 1 0 (ci_seq (ci_load 2 0 1) 1 (ci_getf 9 45 4)) := cq_ok (cr_aload_n (k := 0) (by decide +kernel) rfl rfl) (cr_getf (idx := 366) zc_9 (by decide) zl_646 (by decide +kernel) rfl)
set_option maxRecDepth 100000 in
theorem cd_X9_torn_4 : decode cX9_torn 4 = .ok (zi_rop (some .int), 1) := by decide +kernel
set_option maxRecDepth 100000 in
theorem cb_X9_count_0 : ci_ok yX9_count cX9_count 4 0 (ci_seq (ci_push (.int 0) 1) 1 (ci_seq (ci_store 0 2 2) 2 (ci_seq (ci_push (.int 0) 3) 3 (ci_store 0 3 4)))) := cq_ok (cr_iconst2 (n := 0) (by decide +kernel) (by decide +kernel) rfl) (cq_ok (cr_istore_n (k := 2) (by decide +kernel) rfl (by decide) rfl) (cq_ok (cr_iconst2 (n := 0) (by decide +kernel) (by decide +kernel) rfl) (cr_istore_n (k := 3) (by decide +kernel) rfl (by decide) rfl)))
set_option maxRecDepth 100000 in
theorem cb_X9_count_4 : ci_ok yX9_count cX9_count 4 4 (ci_seq (ci_load 0 3 5) 5 (ci_seq (ci_push (.int 25) 7) 7 (ci_ic (fun x y => decide (y ≤ x)) 25 10))) := cq_ok (cr_iload_n (k := 3) (by decide +kernel) rfl rfl) (cq_ok (cr_bipush (n := 25) (by decide +kernel) (by decide +kernel) rfl) (cr_ic_ge (off := 18) (by decide +kernel) (by decide) rfl))
set_option maxRecDepth 100000 in
theorem cb_X9_count_10 : ci_ok yX9_count cX9_count 4 10 (ci_seq (ci_load 0 2 11) 11 (ci_seq (ci_load 2 0 12) 12 (ci_seq (ci_getf 9 0 15) 15 (ci_seq (ci_load 0 3 16) 16 (ci_seq (ci_ald .int 17) 17 (ci_seq (ci_bin (fun a b => a + b) 18) 18 (ci_seq (ci_store 0 2 19) 19 (ci_seq (ci_inc 3 1 22) 22 (ci_go 4))))))))) := cq_ok (cr_iload_n (k := 2) (by decide +kernel) rfl rfl) (cq_ok (cr_aload_n (k := 0) (by decide +kernel) rfl rfl) (cq_ok (cr_getf (idx := 7) zc_9 (by decide) zl_441 (by decide +kernel) rfl) (cq_ok (cr_iload_n (k := 3) (by decide +kernel) rfl rfl) (cq_ok (cr_ald (ins := .iaload) rfl (by decide +kernel) (Or.inl ⟨rfl, rfl⟩)) (cq_ok (cr_iadd (by decide +kernel) rfl) (cq_ok (cr_istore_n (k := 2) (by decide +kernel) rfl (by decide) rfl) (cq_ok (ci_inc_ok (by decide) (by decide +kernel) rfl) (cr_goto (off := -18) (by decide +kernel) (by decide)))))))))
set_option maxRecDepth 100000 in
theorem cb_X9_count_25 : ci_ok yX9_count cX9_count 4 25 (ci_seq (ci_load 0 1 26) 26 (ci_tsw 0 7 [72, 81, 89, 97, 117, 122, 145, 147] 156)) := cq_ok (cr_iload_n (k := 1) (by decide +kernel) rfl rfl) (cr_tsw (dflt := 130) (lo := 0) (hi := 7) (offs := #[46, 55, 63, 71, 91, 96, 119, 121]) (len := 46) (by decide +kernel) (by decide) (by decide +kernel))
set_option maxRecDepth 100000 in
theorem cb_X9_count_72 : ci_ok yX9_count cX9_count 4 72 (ci_load 2 0 73) := cr_aload_n (k := 0) (by decide +kernel) rfl rfl
set_option maxRecDepth 100000 in
theorem cl_X9_count_73 : ci_calls yX9_count cX9_count 4 73 yX9_findBed 1 (some 9) := cr_callV (idx := 227) zl_1019 ⟨by decide, by decide⟩ (by decide +kernel) zc_9 zl_530 zl_531 (Or.inl zl_529) (by decide +kernel)
set_option maxRecDepth 100000 in
theorem cb_X9_count_76 : ci_ok yX9_count cX9_count 4 76 (ci_seq (ci_load 2 0 77) 77 (ci_getf 9 31 80)) := cq_ok (cr_aload_n (k := 0) (by decide +kernel) rfl rfl) (cr_getf (idx := 221) zc_9 (by decide) zl_525 (by decide +kernel) rfl)
set_option maxRecDepth 100000 in
theorem cd_X9_count_80 : decode cX9_count 80 = .ok (zi_rop (some .int), 1) := by decide +kernel
set_option maxRecDepth 100000 in
theorem cb_X9_count_81 : ci_ok yX9_count cX9_count 4 81 (ci_seq (ci_load 2 0 82) 82 (ci_seq (ci_getf 9 0 85) 85 (ci_seq (ci_push (.int 32) 87) 87 (ci_ald .int 88)))) := cq_ok (cr_aload_n (k := 0) (by decide +kernel) rfl rfl) (cq_ok (cr_getf (idx := 7) zc_9 (by decide) zl_441 (by decide +kernel) rfl) (cq_ok (cr_bipush (n := 32) (by decide +kernel) (by decide +kernel) rfl) (cr_ald (ins := .iaload) rfl (by decide +kernel) (Or.inl ⟨rfl, rfl⟩))))
set_option maxRecDepth 100000 in
theorem cd_X9_count_88 : decode cX9_count 88 = .ok (zi_rop (some .int), 1) := by decide +kernel
set_option maxRecDepth 100000 in
theorem cb_X9_count_89 : ci_ok yX9_count cX9_count 4 89 (ci_seq (ci_load 2 0 90) 90 (ci_seq (ci_getf 9 0 93) 93 (ci_seq (ci_push (.int 39) 95) 95 (ci_ald .int 96)))) := cq_ok (cr_aload_n (k := 0) (by decide +kernel) rfl rfl) (cq_ok (cr_getf (idx := 7) zc_9 (by decide) zl_441 (by decide +kernel) rfl) (cq_ok (cr_bipush (n := 39) (by decide +kernel) (by decide +kernel) rfl) (cr_ald (ins := .iaload) rfl (by decide +kernel) (Or.inl ⟨rfl, rfl⟩))))
set_option maxRecDepth 100000 in
theorem cd_X9_count_96 : decode cX9_count 96 = .ok (zi_rop (some .int), 1) := by decide +kernel
set_option maxRecDepth 100000 in
theorem cb_X9_count_97 : ci_ok yX9_count cX9_count 4 97 (ci_seq (ci_load 2 0 98) 98 (ci_seq (ci_getf 9 1 101) 101 (ci_seq (ci_push (.int 0) 102) 102 (ci_ald .boolean 103)))) := cq_ok (cr_aload_n (k := 0) (by decide +kernel) rfl rfl) (cq_ok (cr_getf (idx := 13) zc_9 (by decide) zl_439 (by decide +kernel) rfl) (cq_ok (cr_iconst2 (n := 0) (by decide +kernel) (by decide +kernel) rfl) (cr_ald (ins := .baload) rfl (by decide +kernel) (Or.inr (Or.inr ⟨rfl, rfl⟩)))))
set_option maxRecDepth 100000 in
theorem cl_X9_count_103 : ci_calls yX9_count cX9_count 4 103 yX9_flag 1 none := cr_callS (idx := 237) zl_993 zl_654 ⟨by decide, by decide⟩ (by decide +kernel) zl_539 (Or.inl zl_538) (by decide +kernel)
set_option maxRecDepth 100000 in
theorem cb_X9_count_106 : ci_ok yX9_count cX9_count 4 106 (ci_seq (ci_load 2 0 107) 107 (ci_seq (ci_getf 9 1 110) 110 (ci_seq (ci_push (.int 1) 111) 111 (ci_ald .boolean 112)))) := cq_ok (cr_aload_n (k := 0) (by decide +kernel) rfl rfl) (cq_ok (cr_getf (idx := 13) zc_9 (by decide) zl_439 (by decide +kernel) rfl) (cq_ok (cr_iconst2 (n := 1) (by decide +kernel) (by decide +kernel) rfl) (cr_ald (ins := .baload) rfl (by decide +kernel) (Or.inr (Or.inr ⟨rfl, rfl⟩)))))
set_option maxRecDepth 100000 in
theorem cl_X9_count_112 : ci_calls yX9_count cX9_count 4 112 yX9_flag 1 none := cr_callS (idx := 237) zl_993 zl_654 ⟨by decide, by decide⟩ (by decide +kernel) zl_539 (Or.inl zl_538) (by decide +kernel)
set_option maxRecDepth 100000 in
theorem cb_X9_count_115 : ci_ok yX9_count cX9_count 4 115 (ci_bin (fun a b => a + b) 116) := cr_iadd (by decide +kernel) rfl
set_option maxRecDepth 100000 in
theorem cd_X9_count_116 : decode cX9_count 116 = .ok (zi_rop (some .int), 1) := by decide +kernel
set_option maxRecDepth 100000 in
theorem cb_X9_count_117 : ci_ok yX9_count cX9_count 4 117 (ci_seq (ci_load 2 0 118) 118 (ci_getf 9 23 121)) := cq_ok (cr_aload_n (k := 0) (by decide +kernel) rfl rfl) (cr_getf (idx := 129) zc_9 (by decide) zl_464 (by decide +kernel) rfl)
set_option maxRecDepth 100000 in
theorem cd_X9_count_121 : decode cX9_count 121 = .ok (zi_rop (some .int), 1) := by decide +kernel
set_option maxRecDepth 100000 in
theorem cb_X9_count_122 : ci_ok yX9_count cX9_count 4 122 (ci_seq (ci_load 2 0 123) 123 (ci_seq (ci_getf 9 42 126) 126 (ci_seq (ci_push (.int 0) 127) 127 (ci_seq (ci_ald .int 128) 128 (ci_seq (ci_push (.int (-4)) 130) 130 (ci_ic (fun x y => !decide (x = y)) 138 133)))))) := cq_ok (cr_aload_n (k := 0) (by decide +kernel) rfl rfl) (cq_ok (cr_getf (idx := 65) zc_9 (by decide) zl_422 (by decide +kernel) rfl) (cq_ok (cr_iconst2 (n := 0) (by decide +kernel) (by decide +kernel) rfl) (cq_ok (cr_ald (ins := .iaload) rfl (by decide +kernel) (Or.inl ⟨rfl, rfl⟩)) (cq_ok (cr_bipush (n := -4) (by decide +kernel) (by decide +kernel) rfl) (cr_ic_ne (off := 8) (by decide +kernel) (by decide) rfl)))))
set_option maxRecDepth 100000 in
theorem cb_X9_count_133 : ci_ok yX9_count cX9_count 4 133 (ci_seq (ci_push (.int (-4)) 135) 135 (ci_go 144)) := cq_ok (cr_bipush (n := -4) (by decide +kernel) (by decide +kernel) rfl) (cr_goto (off := 9) (by decide +kernel) (by decide))
set_option maxRecDepth 100000 in
theorem cb_X9_count_138 : ci_ok yX9_count cX9_count 4 138 (ci_seq (ci_load 2 0 139) 139 (ci_seq (ci_getf 9 43 142) 142 (ci_seq (ci_push (.int 0) 143) 143 (ci_ald .int 144)))) := cq_ok (cr_aload_n (k := 0) (by decide +kernel) rfl rfl) (cq_ok (cr_getf (idx := 68) zc_9 (by decide) zl_421 (by decide +kernel) rfl) (cq_ok (cr_iconst2 (n := 0) (by decide +kernel) (by decide +kernel) rfl) (cr_ald (ins := .iaload) rfl (by decide +kernel) (Or.inl ⟨rfl, rfl⟩))))
set_option maxRecDepth 100000 in
theorem cd_X9_count_144 : decode cX9_count 144 = .ok (zi_rop (some .int), 1) := by decide +kernel
set_option maxRecDepth 100000 in
theorem cb_X9_count_145 : ci_ok yX9_count cX9_count 4 145 (ci_load 0 2 146) := cr_iload_n (k := 2) (by decide +kernel) rfl rfl
