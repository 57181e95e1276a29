set_option maxRecDepth 100000 in
theorem cb_X9_would_7 : ci_ok yX9_would cX9_would 3 7 (ci_seq (ci_load 2 0 8) 8 (ci_load 0 2 9)) := cq_ok (cr_aload_n (k := 0) (by decide +kernel) rfl rfl) (cr_iload_n (k := 2) (by decide +kernel) rfl rfl)
set_option maxRecDepth 100000 in
theorem cl_X9_would_9 : ci_calls yX9_would cX9_would 3 9 yX9_isFarm 2 (some 9) := cr_callV (idx := 245) zl_1015 ⟨by decide, by decide⟩ (by decide +kernel) zc_9 zl_544 zl_545 (Or.inl zl_543) (by decide +kernel)
set_option maxRecDepth 100000 in
theorem cb_X9_would_12 : ci_ok yX9_would cX9_would 3 12 (ci_if (fun x => !decide (x = 0)) 17 15) := cr_if_ne (off := 5) (by decide +kernel) (by decide) rfl
set_option maxRecDepth 100000 in
theorem cb_X9_would_15 : ci_ok yX9_would cX9_would 3 15 (ci_push (.int (-1)) 16) := cr_iconst2 (n := -1) (by decide +kernel) (by decide +kernel) rfl
set_option maxRecDepth 100000 in
theorem cd_X9_would_16 : decode cX9_would 16 = .ok (zi_rop (some .int), 1) := by decide +kernel
set_option maxRecDepth 100000 in
theorem cb_X9_would_17 : ci_ok yX9_would cX9_would 3 17 (ci_seq (ci_load 2 0 18) 18 (ci_load 0 1 19)) := cq_ok (cr_aload_n (k := 0) (by decide +kernel) rfl rfl) (cr_iload_n (k := 1) (by decide +kernel) rfl rfl)
set_option maxRecDepth 100000 in
theorem cl_X9_would_19 : ci_calls yX9_would cX9_would 3 19 yX9_canBe 2 (some 9) := cr_callV (idx := 277) zl_1039 ⟨by decide, by decide⟩ (by decide +kernel) zc_9 zl_570 zl_571 (Or.inl zl_569) (by decide +kernel)
set_option maxRecDepth 100000 in
theorem cb_X9_would_22 : ci_ok yX9_would cX9_would 3 22 (ci_if (fun x => decide (x = 0)) 34 25) := cr_if_eq (off := 12) (by decide +kernel) (by decide) rfl
set_option maxRecDepth 100000 in
theorem cb_X9_would_25 : ci_ok yX9_would cX9_would 3 25 (ci_seq (ci_load 2 0 26) 26 (ci_seq (ci_load 0 1 27) 27 (ci_load 0 2 28))) := cq_ok (cr_aload_n (k := 0) (by decide +kernel) rfl rfl) (cq_ok (cr_iload_n (k := 1) (by decide +kernel) rfl rfl) (cr_iload_n (k := 2) (by decide +kernel) rfl rfl))
set_option maxRecDepth 100000 in
theorem cl_X9_would_28 : ci_calls yX9_would cX9_would 3 28 yX9_hasBy 3 (some 9) := cr_callV (idx := 289) zl_1043 ⟨by decide, by decide⟩ (by decide +kernel) zc_9 zl_582 zl_583 (Or.inl zl_581) (by decide +kernel)
set_option maxRecDepth 100000 in
theorem cb_X9_would_31 : ci_ok yX9_would cX9_would 3 31 (ci_go 36) := cr_goto (off := 5) (by decide +kernel) (by decide)
set_option maxRecDepth 100000 in
theorem cb_X9_would_34 : ci_ok yX9_would cX9_would 3 34 (ci_push (.int (-2)) 36) := cr_bipush (n := -2) (by decide +kernel) (by decide +kernel) rfl
set_option maxRecDepth 100000 in
theorem cd_X9_would_36 : decode cX9_would 36 = .ok (zi_rop (some .int), 1) := by decide +kernel
set_option maxRecDepth 100000 in
theorem cb_X9_tell_0 : ci_ok yX9_tell cX9_tell 2 0 (ci_load 0 1 1) := cr_iload_n (k := 1) (by decide +kernel) rfl rfl
set_option maxRecDepth 100000 in
theorem cl_X9_tell_1 : ci_calls yX9_tell cX9_tell 2 1 yX9_isYear 1 none := cr_callS (idx := 274) zl_1016 zl_654 ⟨by decide, by decide⟩ (by decide +kernel) zl_568 (Or.inl zl_567) (by decide +kernel)
set_option maxRecDepth 100000 in
theorem cb_X9_tell_4 : ci_ok yX9_tell cX9_tell 2 4 (ci_if (fun x => !decide (x = 0)) 9 7) := cr_if_ne (off := 5) (by decide +kernel) (by decide) rfl
set_option maxRecDepth 100000 in
theorem cb_X9_tell_7 : ci_ok yX9_tell cX9_tell 2 7 (ci_push (.int (-1)) 8) := cr_iconst2 (n := -1) (by decide +kernel) (by decide +kernel) rfl
set_option maxRecDepth 100000 in
theorem cd_X9_tell_8 : decode cX9_tell 8 = .ok (zi_rop (some .int), 1) := by decide +kernel
set_option maxRecDepth 100000 in
theorem cb_X9_tell_9 : ci_ok yX9_tell cX9_tell 2 9 (ci_seq (ci_load 2 0 10) 10 (ci_seq (ci_getf 9 0 13) 13 (ci_seq (ci_push (.int 32) 15) 15 (ci_seq (ci_ald .int 16) 16 (ci_seq (ci_push (.int 6) 18) 18 (ci_ic (fun x y => !decide (x = y)) 24 21)))))) := cq_ok (cr_aload_n (k := 0) (by decide +kernel) rfl rfl) (cq_ok (cr_getf (idx := 7) zc_9 (by decide) zl_441 (by decide +kernel) rfl) (cq_ok (cr_bipush (n := 32) (by decide +kernel) (by decide +kernel) rfl) (cq_ok (cr_ald (ins := .iaload) rfl (by decide +kernel) (Or.inl ⟨rfl, rfl⟩)) (cq_ok (cr_bipush (n := 6) (by decide +kernel) (by decide +kernel) rfl) (cr_ic_ne (off := 6) (by decide +kernel) (by decide) rfl)))))
set_option maxRecDepth 100000 in
theorem cb_X9_tell_21 : ci_ok yX9_tell cX9_tell 2 21 (ci_push (.int (-3)) 23) := cr_bipush (n := -3) (by decide +kernel) (by decide +kernel) rfl
set_option maxRecDepth 100000 in
theorem cd_X9_tell_23 : decode cX9_tell 23 = .ok (zi_rop (some .int), 1) := by decide +kernel
set_option maxRecDepth 100000 in
theorem cb_X9_tell_24 : ci_ok yX9_tell cX9_tell 2 24 (ci_seq (ci_load 2 0 25) 25 (ci_seq (ci_getf 9 0 28) 28 (ci_seq (ci_push (.int 33) 30) 30 (ci_seq (ci_load 2 0 31) 31 (ci_seq (ci_getf 9 0 34) 34 (ci_seq (ci_push (.int 32) 36) 36 (ci_seq (ci_ald .int 37) 37 (ci_seq (ci_bin (fun a b => a + b) 38) 38 (ci_seq (ci_load 0 1 39) 39 (ci_seq (ci_ast .int 40) 40 (ci_seq (ci_load 2 0 41) 41 (ci_seq (ci_getf 9 0 44) 44 (ci_seq (ci_push (.int 32) 46) 46 (ci_seq (ci_dup2 47) 47 (ci_seq (ci_ald .int 48) 48 (ci_seq (ci_push (.int 1) 49) 49 (ci_seq (ci_bin (fun a b => a + b) 50) 50 (ci_seq (ci_ast .int 51) 51 (ci_seq (ci_load 2 0 52) 52 (ci_seq (ci_getf 9 0 55) 55 (ci_seq (ci_push (.int 32) 57) 57 (ci_ald .int 58)))))))))))))))))))))) := cq_ok (cr_aload_n (k := 0) (by decide +kernel) rfl rfl) (cq_ok (cr_getf (idx := 7) zc_9 (by decide) zl_441 (by decide +kernel) rfl) (cq_ok (cr_bipush (n := 33) (by decide +kernel) (by decide +kernel) rfl) (cq_ok (cr_aload_n (k := 0) (by decide +kernel) rfl rfl) (cq_ok (cr_getf (idx := 7) zc_9 (by decide) zl_441 (by decide +kernel) rfl) (cq_ok (cr_bipush (n := 32) (by decide +kernel) (by decide +kernel) rfl) (cq_ok (cr_ald (ins := .iaload) rfl (by decide +kernel) (Or.inl ⟨rfl, rfl⟩)) (cq_ok (cr_iadd (by decide +kernel) rfl) (cq_ok (cr_iload_n (k := 1) (by decide +kernel) rfl rfl) (cq_ok (cr_ast (ins := .iastore) rfl (by decide +kernel) (Or.inl ⟨rfl, rfl⟩)) (cq_ok (cr_aload_n (k := 0) (by decide +kernel) rfl rfl) (cq_ok (cr_getf (idx := 7) zc_9 (by decide) zl_441 (by decide +kernel) rfl) (cq_ok (cr_bipush (n := 32) (by decide +kernel) (by decide +kernel) rfl) (cq_ok (cr_dup2 (by decide +kernel) rfl) (cq_ok (cr_ald (ins := .iaload) rfl (by decide +kernel) (Or.inl ⟨rfl, rfl⟩)) (cq_ok (cr_iconst2 (n := 1) (by decide +kernel) (by decide +kernel) rfl) (cq_ok (cr_iadd (by decide +kernel) rfl) (cq_ok (cr_ast (ins := .iastore) rfl (by decide +kernel) (Or.inl ⟨rfl, rfl⟩)) (cq_ok (cr_aload_n (k := 0) (by decide +kernel) rfl rfl) (cq_ok (cr_getf (idx := 7) zc_9 (by decide) zl_441 (by decide +kernel) rfl) (cq_ok (cr_bipush (n := 32) (by decide +kernel) (by decide +kernel) rfl) (cr_ald (ins := .iaload) rfl (by decide +kernel) (Or.inl ⟨rfl, rfl⟩))))))))))))))))))))))
set_option maxRecDepth 100000 in
theorem cd_X9_tell_58 : decode cX9_tell 58 = .ok (zi_rop (some .int), 1) := by decide +kernel
set_option maxRecDepth 100000 in
theorem cb_X9_drop_0 : ci_ok yX9_drop cX9_drop 3 0 (ci_seq (ci_load 0 1 1) 1 (ci_seq (ci_i2l 2) 2 (ci_seq (ci_push (.long 0) 3) 3 (ci_seq (ci_load 2 0 4) 4 (ci_seq (ci_getf 9 0 7) 7 (ci_seq (ci_push (.int 32) 9) 9 (ci_seq (ci_ald .int 10) 10 (ci_i2l 11)))))))) := cq_ok (cr_iload_n (k := 1) (by decide +kernel) rfl rfl) (cq_ok (cr_i2l (by decide +kernel) rfl) (cq_ok (cr_lconst (n := 0) (by decide +kernel) (by decide +kernel) rfl) (cq_ok (cr_aload_n (k := 0) (by decide +kernel) rfl rfl) (cq_ok (cr_getf (idx := 7) zc_9 (by decide) zl_441 (by decide +kernel) rfl) (cq_ok (cr_bipush (n := 32) (by decide +kernel) (by decide +kernel) rfl) (cq_ok (cr_ald (ins := .iaload) rfl (by decide +kernel) (Or.inl ⟨rfl, rfl⟩)) (cr_i2l (by decide +kernel) rfl)))))))
set_option maxRecDepth 100000 in
theorem cl_X9_drop_11 : ci_calls yX9_drop cX9_drop 3 11 yX9_in 3 none := cr_callS (idx := 134) zl_992 zl_654 ⟨by decide, by decide⟩ (by decide +kernel) zl_467 (Or.inl zl_466) (by decide +kernel)
set_option maxRecDepth 100000 in
theorem cb_X9_drop_14 : ci_ok yX9_drop cX9_drop 3 14 (ci_if (fun x => !decide (x = 0)) 19 17) := cr_if_ne (off := 5) (by decide +kernel) (by decide) rfl
set_option maxRecDepth 100000 in
theorem cb_X9_drop_17 : ci_ok yX9_drop cX9_drop 3 17 (ci_push (.int (-1)) 18) := cr_iconst2 (n := -1) (by decide +kernel) (by decide +kernel) rfl
set_option maxRecDepth 100000 in
theorem cd_X9_drop_18 : decode cX9_drop 18 = .ok (zi_rop (some .int), 1) := by decide +kernel
set_option maxRecDepth 100000 in
theorem cb_X9_drop_19 : ci_ok yX9_drop cX9_drop 3 19 (ci_seq (ci_load 2 0 20) 20 (ci_seq (ci_getf 9 0 23) 23 (ci_seq (ci_push (.int 32) 25) 25 (ci_seq (ci_ald .int 26) 26 (ci_seq (ci_store 0 2 27) 27 (ci_seq (ci_load 2 0 28) 28 (ci_seq (ci_getf 9 0 31) 31 (ci_seq (ci_push (.int 32) 33) 33 (ci_seq (ci_load 0 1 34) 34 (ci_seq (ci_ast .int 35) 35 (ci_load 0 2 36))))))))))) := cq_ok (cr_aload_n (k := 0) (by decide +kernel) rfl rfl) (cq_ok (cr_getf (idx := 7) zc_9 (by decide) zl_441 (by decide +kernel) rfl) (cq_ok (cr_bipush (n := 32) (by decide +kernel) (by decide +kernel) rfl) (cq_ok (cr_ald (ins := .iaload) rfl (by decide +kernel) (Or.inl ⟨rfl, rfl⟩)) (cq_ok (cr_istore_n (k := 2) (by decide +kernel) rfl (by decide) rfl) (cq_ok (cr_aload_n (k := 0) (by decide +kernel) rfl rfl) (cq_ok (cr_getf (idx := 7) zc_9 (by decide) zl_441 (by decide +kernel) rfl) (cq_ok (cr_bipush (n := 32) (by decide +kernel) (by decide +kernel) rfl) (cq_ok (cr_iload_n (k := 1) (by decide +kernel) rfl rfl) (cq_ok (cr_ast (ins := .iastore) rfl (by decide +kernel) (Or.inl ⟨rfl, rfl⟩)) (cr_iload_n (k := 2) (by decide +kernel) rfl rfl))))))))))
set_option maxRecDepth 100000 in
theorem cd_X9_drop_36 : decode cX9_drop 36 = .ok (zi_rop (some .int), 1) := by decide +kernel
set_option maxRecDepth 100000 in
theorem cb_X9_judge_0 : ci_ok yX9_judge cX9_judge 6 0 (ci_seq (ci_load 0 1 1) 1 (ci_seq (ci_i2l 2) 2 (ci_seq (ci_push (.long 0) 3) 3 (ci_push (.long 1) 4)))) := cq_ok (cr_iload_n (k := 1) (by decide +kernel) rfl rfl) (cq_ok (cr_i2l (by decide +kernel) rfl) (cq_ok (cr_lconst (n := 0) (by decide +kernel) (by decide +kernel) rfl) (cr_lconst (n := 1) (by decide +kernel) (by decide +kernel) rfl)))
set_option maxRecDepth 100000 in
theorem cl_X9_judge_4 : ci_calls yX9_judge cX9_judge 6 4 yX9_in 3 none := cr_callS (idx := 134) zl_992 zl_654 ⟨by decide, by decide⟩ (by decide +kernel) zl_467 (Or.inl zl_466) (by decide +kernel)
set_option maxRecDepth 100000 in
theorem cb_X9_judge_7 : ci_ok yX9_judge cX9_judge 6 7 (ci_if (fun x => !decide (x = 0)) 12 10) := cr_if_ne (off := 5) (by decide +kernel) (by decide) rfl
set_option maxRecDepth 100000 in
theorem cb_X9_judge_10 : ci_ok yX9_judge cX9_judge 6 10 (ci_push (.int (-1)) 11) := cr_iconst2 (n := -1) (by decide +kernel) (by decide +kernel) rfl
set_option maxRecDepth 100000 in
theorem cd_X9_judge_11 : decode cX9_judge 11 = .ok (zi_rop (some .int), 1) := by decide +kernel
set_option maxRecDepth 100000 in
theorem cb_X9_judge_12 : ci_ok yX9_judge cX9_judge 6 12 (ci_seq (ci_push (.int 0) 13) 13 (ci_store 0 2 14)) := cq_ok (cr_iconst2 (n := 0) (by decide +kernel) (by decide +kernel) rfl) (cr_istore_n (k := 2) (by decide +kernel) rfl (by decide) rfl)
set_option maxRecDepth 100000 in
theorem cb_X9_judge_14 : ci_ok yX9_judge cX9_judge 6 14 (ci_seq (ci_load 0 2 15) 15 (ci_seq (ci_push (.int 25) 17) 17 (ci_ic (fun x y => decide (y ≤ x)) 38 20))) := cq_ok (cr_iload_n (k := 2) (by decide +kernel) rfl rfl) (cq_ok (cr_bipush (n := 25) (by decide +kernel) (by decide +kernel) rfl) (cr_ic_ge (off := 21) (by decide +kernel) (by decide) rfl))
set_option maxRecDepth 100000 in
theorem cb_X9_judge_20 : ci_ok yX9_judge cX9_judge 6 20 (ci_seq (ci_load 2 0 21) 21 (ci_seq (ci_getf 9 34 24) 24 (ci_seq (ci_load 0 2 25) 25 (ci_seq (ci_load 2 0 26) 26 (ci_seq (ci_getf 9 0 29) 29 (ci_seq (ci_load 0 2 30) 30 (ci_seq (ci_ald .int 31) 31 (ci_seq (ci_ast .int 32) 32 (ci_seq (ci_inc 2 1 35) 35 (ci_go 14)))))))))) := cq_ok (cr_aload_n (k := 0) (by decide +kernel) rfl rfl) (cq_ok (cr_getf (idx := 41) zc_9 (by decide) zl_430 (by decide +kernel) rfl) (cq_ok (cr_iload_n (k := 2) (by decide +kernel) rfl rfl) (cq_ok (cr_aload_n (k := 0) (by decide +kernel) rfl rfl) (cq_ok (cr_getf (idx := 7) zc_9 (by decide) zl_441 (by decide +kernel) rfl) (cq_ok (cr_iload_n (k := 2) (by decide +kernel) rfl rfl) (cq_ok (cr_ald (ins := .iaload) rfl (by decide +kernel) (Or.inl ⟨rfl, rfl⟩)) (cq_ok (cr_ast (ins := .iastore) rfl (by decide +kernel) (Or.inl ⟨rfl, rfl⟩)) (cq_ok (ci_inc_ok (by decide) (by decide +kernel) rfl) (cr_goto (off := -21) (by decide +kernel) (by decide))))))))))
set_option maxRecDepth 100000 in
theorem cb_X9_judge_38 : ci_ok yX9_judge cX9_judge 6 38 (ci_seq (ci_push (.int (-4)) 40) 40 (ci_seq (ci_store 0 2 41) 41 (ci_seq (ci_push (.int (-4)) 43) 43 (ci_seq (ci_store 0 3 44) 44 (ci_seq (ci_push (.int 0) 45) 45 (ci_store 0 4 47)))))) := cq_ok (cr_bipush (n := -4) (by decide +kernel) (by decide +kernel) rfl) (cq_ok (cr_istore_n (k := 2) (by decide +kernel) rfl (by decide) rfl) (cq_ok (cr_bipush (n := -4) (by decide +kernel) (by decide +kernel) rfl) (cq_ok (cr_istore_n (k := 3) (by decide +kernel) rfl (by decide) rfl) (cq_ok (cr_iconst2 (n := 0) (by decide +kernel) (by decide +kernel) rfl) (cr_istore (by decide +kernel) (by decide) rfl)))))
set_option maxRecDepth 100000 in
theorem cb_X9_judge_47 : ci_ok yX9_judge cX9_judge 6 47 (ci_seq (ci_load 0 4 49) 49 (ci_seq (ci_load 2 0 50) 50 (ci_seq (ci_getf 9 0 53) 53 (ci_seq (ci_push (.int 32) 55) 55 (ci_seq (ci_ald .int 56) 56 (ci_ic (fun x y => decide (y ≤ x)) 130 59)))))) := cq_ok (cr_iload (by decide +kernel) rfl) (cq_ok (cr_aload_n (k := 0) (by decide +kernel) rfl rfl) (cq_ok (cr_getf (idx := 7) zc_9 (by decide) zl_441 (by decide +kernel) rfl) (cq_ok (cr_bipush (n := 32) (by decide +kernel) (by decide +kernel) rfl) (cq_ok (cr_ald (ins := .iaload) rfl (by decide +kernel) (Or.inl ⟨rfl, rfl⟩)) (cr_ic_ge (off := 74) (by decide +kernel) (by decide) rfl)))))
set_option maxRecDepth 100000 in
theorem cb_X9_judge_59 : ci_ok yX9_judge cX9_judge 6 59 (ci_seq (ci_load 0 2 60) 60 (ci_seq (ci_push (.int (-4)) 62) 62 (ci_ic (fun x y => !decide (x = y)) 130 65))) := cq_ok (cr_iload_n (k := 2) (by decide +kernel) rfl rfl) (cq_ok (cr_bipush (n := -4) (by decide +kernel) (by decide +kernel) rfl) (cr_ic_ne (off := 68) (by decide +kernel) (by decide) rfl))
set_option maxRecDepth 100000 in
theorem cb_X9_judge_65 : ci_ok yX9_judge cX9_judge 6 65 (ci_seq (ci_load 2 0 66) 66 (ci_seq (ci_load 2 0 67) 67 (ci_seq (ci_getf 9 0 70) 70 (ci_seq (ci_push (.int 33) 72) 72 (ci_seq (ci_load 0 4 74) 74 (ci_seq (ci_bin (fun a b => a + b) 75) 75 (ci_ald .int 76))))))) := cq_ok (cr_aload_n (k := 0) (by decide +kernel) rfl rfl) (cq_ok (cr_aload_n (k := 0) (by decide +kernel) rfl rfl) (cq_ok (cr_getf (idx := 7) zc_9 (by decide) zl_441 (by decide +kernel) rfl) (cq_ok (cr_bipush (n := 33) (by decide +kernel) (by decide +kernel) rfl) (cq_ok (cr_iload (by decide +kernel) rfl) (cq_ok (cr_iadd (by decide +kernel) rfl) (cr_ald (ins := .iaload) rfl (by decide +kernel) (Or.inl ⟨rfl, rfl⟩)))))))
set_option maxRecDepth 100000 in
theorem cl_X9_judge_76 : ci_calls yX9_judge cX9_judge 6 76 yX9_firstWrong 2 (some 9) := cr_callV (idx := 268) zl_1038 ⟨by decide, by decide⟩ (by decide +kernel) zc_9 zl_562 zl_563 (Or.inl zl_561) (by decide +kernel)
set_option maxRecDepth 100000 in
theorem cb_X9_judge_79 : ci_ok yX9_judge cX9_judge 6 79 (ci_seq (ci_store 0 5 81) 81 (ci_seq (ci_load 0 5 83) 83 (ci_seq (ci_push (.int 3) 84) 84 (ci_ic (fun x y => !decide (x = y)) 104 87)))) := cq_ok (cr_istore (by decide +kernel) (by decide) rfl) (cq_ok (cr_iload (by decide +kernel) rfl) (cq_ok (cr_iconst2 (n := 3) (by decide +kernel) (by decide +kernel) rfl) (cr_ic_ne (off := 20) (by decide +kernel) (by decide) rfl)))
set_option maxRecDepth 100000 in
theorem cb_X9_judge_87 : ci_ok yX9_judge cX9_judge 6 87 (ci_seq (ci_load 2 0 88) 88 (ci_seq (ci_load 2 0 89) 89 (ci_seq (ci_getf 9 0 92) 92 (ci_seq (ci_push (.int 33) 94) 94 (ci_seq (ci_load 0 4 96) 96 (ci_seq (ci_bin (fun a b => a + b) 97) 97 (ci_ald .int 98))))))) := cq_ok (cr_aload_n (k := 0) (by decide +kernel) rfl rfl) (cq_ok (cr_aload_n (k := 0) (by decide +kernel) rfl rfl) (cq_ok (cr_getf (idx := 7) zc_9 (by decide) zl_441 (by decide +kernel) rfl) (cq_ok (cr_bipush (n := 33) (by decide +kernel) (by decide +kernel) rfl) (cq_ok (cr_iload (by decide +kernel) rfl) (cq_ok (cr_iadd (by decide +kernel) rfl) (cr_ald (ins := .iaload) rfl (by decide +kernel) (Or.inl ⟨rfl, rfl⟩)))))))
set_option maxRecDepth 100000 in
theorem cl_X9_judge_98 : ci_calls yX9_judge cX9_judge 6 98 yX9_goes 2 (some 9) := cr_callV (idx := 280) zl_1041 ⟨by decide, by decide⟩ (by decide +kernel) zc_9 zl_573 zl_574 (Or.inl zl_572) (by decide +kernel)
set_option maxRecDepth 100000 in
theorem cb_X9_judge_101 : ci_ok yX9_judge cX9_judge 6 101 (ci_go 124) := cr_goto (off := 23) (by decide +kernel) (by decide)
set_option maxRecDepth 100000 in
theorem cb_X9_judge_104 : ci_ok yX9_judge cX9_judge 6 104 (ci_seq (ci_load 0 4 106) 106 (ci_seq (ci_store 0 2 107) 107 (ci_seq (ci_load 0 5 109) 109 (ci_seq (ci_load 2 0 110) 110 (ci_seq (ci_getf 9 4 113) 113 (ci_ic (fun x y => decide (y ≤ x)) 121 116)))))) := cq_ok (cr_iload (by decide +kernel) rfl) (cq_ok (cr_istore_n (k := 2) (by decide +kernel) rfl (by decide) rfl) (cq_ok (cr_iload (by decide +kernel) rfl) (cq_ok (cr_aload_n (k := 0) (by decide +kernel) rfl rfl) (cq_ok (cr_getf (idx := 126) zc_9 (by decide) zl_461 (by decide +kernel) rfl) (cr_ic_ge (off := 8) (by decide +kernel) (by decide) rfl)))))
set_option maxRecDepth 100000 in
theorem cb_X9_judge_116 : ci_ok yX9_judge cX9_judge 6 116 (ci_seq (ci_load 0 5 118) 118 (ci_go 123)) := cq_ok (cr_iload (by decide +kernel) rfl) (cr_goto (off := 5) (by decide +kernel) (by decide))
set_option maxRecDepth 100000 in
theorem cb_X9_judge_121 : ci_ok yX9_judge cX9_judge 6 121 (ci_push (.int (-4)) 123) := cr_bipush (n := -4) (by decide +kernel) (by decide +kernel) rfl
set_option maxRecDepth 100000 in
theorem cb_X9_judge_123 : ci_ok yX9_judge cX9_judge 6 123 (ci_store 0 3 124) := cr_istore_n (k := 3) (by decide +kernel) rfl (by decide) rfl
set_option maxRecDepth 100000 in
theorem cb_X9_judge_124 : ci_ok yX9_judge cX9_judge 6 124 (ci_seq (ci_inc 4 1 127) 127 (ci_go 47)) := cq_ok (ci_inc_ok (by decide) (by decide +kernel) rfl) (cr_goto (off := -80) (by decide +kernel) (by decide))
set_option maxRecDepth 100000 in
theorem cb_X9_judge_130 : ci_ok yX9_judge cX9_judge 6 130 (ci_seq (ci_push (.int 0) 131) 131 (ci_store 0 4 133)) := cq_ok (cr_iconst2 (n := 0) (by decide +kernel) (by decide +kernel) rfl) (cr_istore (by decide +kernel) (by decide) rfl)
set_option maxRecDepth 100000 in
theorem cb_X9_judge_133 : ci_ok yX9_judge cX9_judge 6 133 (ci_seq (ci_load 0 4 135) 135 (ci_seq (ci_push (.int 25) 137) 137 (ci_ic (fun x y => decide (y ≤ x)) 160 140))) := cq_ok (cr_iload (by decide +kernel) rfl) (cq_ok (cr_bipush (n := 25) (by decide +kernel) (by decide +kernel) rfl) (cr_ic_ge (off := 23) (by decide +kernel) (by decide) rfl))
set_option maxRecDepth 100000 in
theorem cb_X9_judge_140 : ci_ok yX9_judge cX9_judge 6 140 (ci_seq (ci_load 2 0 141) 141 (ci_seq (ci_getf 9 0 144) 144 (ci_seq (ci_load 0 4 146) 146 (ci_seq (ci_load 2 0 147) 147 (ci_seq (ci_getf 9 34 150) 150 (ci_seq (ci_load 0 4 152) 152 (ci_seq (ci_ald .int 153) 153 (ci_seq (ci_ast .int 154) 154 (ci_seq (ci_inc 4 1 157) 157 (ci_go 133)))))))))) := cq_ok (cr_aload_n (k := 0) (by decide +kernel) rfl rfl) (cq_ok (cr_getf (idx := 7) zc_9 (by decide) zl_441 (by decide +kernel) rfl) (cq_ok (cr_iload (by decide +kernel) rfl) (cq_ok (cr_aload_n (k := 0) (by decide +kernel) rfl rfl) (cq_ok (cr_getf (idx := 41) zc_9 (by decide) zl_430 (by decide +kernel) rfl) (cq_ok (cr_iload (by decide +kernel) rfl) (cq_ok (cr_ald (ins := .iaload) rfl (by decide +kernel) (Or.inl ⟨rfl, rfl⟩)) (cq_ok (cr_ast (ins := .iastore) rfl (by decide +kernel) (Or.inl ⟨rfl, rfl⟩)) (cq_ok (ci_inc_ok (by decide) (by decide +kernel) rfl) (cr_goto (off := -24) (by decide +kernel) (by decide))))))))))
set_option maxRecDepth 100000 in
theorem cb_X9_judge_160 : ci_ok yX9_judge cX9_judge 6 160 (ci_seq (ci_load 0 1 161) 161 (ci_if (fun x => !decide (x = 0)) 168 164)) := cq_ok (cr_iload_n (k := 1) (by decide +kernel) rfl rfl) (cr_if_ne (off := 7) (by decide +kernel) (by decide) rfl)
set_option maxRecDepth 100000 in
theorem cb_X9_judge_164 : ci_ok yX9_judge cX9_judge 6 164 (ci_seq (ci_load 0 2 165) 165 (ci_go 169)) := cq_ok (cr_iload_n (k := 2) (by decide +kernel) rfl rfl) (cr_goto (off := 4) (by decide +kernel) (by decide))
set_option maxRecDepth 100000 in
theorem cb_X9_judge_168 : ci_ok yX9_judge cX9_judge 6 168 (ci_load 0 3 169) := cr_iload_n (k := 3) (by decide +kernel) rfl rfl
set_option maxRecDepth 100000 in
theorem cd_X9_judge_169 : decode cX9_judge 169 = .ok (zi_rop (some .int), 1) := by decide +kernel
set_option maxRecDepth 100000 in
theorem cb_X9_findOptions_0 : ci_ok yX9_findOptions cX9_findOptions 4 0 (ci_seq (ci_push (.int 0) 1) 1 (ci_store 0 1 2)) := cq_ok (cr_iconst2 (n := 0) (by decide +kernel) (by decide +kernel) rfl) (cr_istore_n (k := 1) (by decide +kernel) rfl (by decide) rfl)
set_option maxRecDepth 100000 in
theorem cb_X9_findOptions_2 : ci_ok yX9_findOptions cX9_findOptions 4 2 (ci_seq (ci_load 0 1 3) 3 (ci_seq (ci_push (.int 3) 4) 4 (ci_ic (fun x y => decide (y ≤ x)) 112 7))) := cq_ok (cr_iload_n (k := 1) (by decide +kernel) rfl rfl) (cq_ok (cr_iconst2 (n := 3) (by decide +kernel) (by decide +kernel) rfl) (cr_ic_ge (off := 108) (by decide +kernel) (by decide) rfl))
set_option maxRecDepth 100000 in
theorem cb_X9_findOptions_7 : ci_ok yX9_findOptions cX9_findOptions 4 7 (ci_seq (ci_load 0 1 8) 8 (ci_seq (ci_load 2 0 9) 9 (ci_seq (ci_getf 9 4 12) 12 (ci_ic (fun x y => decide (y ≤ x)) 23 15)))) := cq_ok (cr_iload_n (k := 1) (by decide +kernel) rfl rfl) (cq_ok (cr_aload_n (k := 0) (by decide +kernel) rfl rfl) (cq_ok (cr_getf (idx := 126) zc_9 (by decide) zl_461 (by decide +kernel) rfl) (cr_ic_ge (off := 11) (by decide +kernel) (by decide) rfl)))
set_option maxRecDepth 100000 in
theorem cb_X9_findOptions_15 : ci_ok yX9_findOptions cX9_findOptions 4 15 (ci_seq (ci_load 2 0 16) 16 (ci_load 0 1 17)) := cq_ok (cr_aload_n (k := 0) (by decide +kernel) rfl rfl) (cr_iload_n (k := 1) (by decide +kernel) rfl rfl)
set_option maxRecDepth 100000 in
theorem cl_X9_findOptions_17 : ci_calls yX9_findOptions cX9_findOptions 4 17 yX9_mayCut 2 (some 9) := cr_callV (idx := 253) zl_1023 ⟨by decide, by decide⟩ (by decide +kernel) zc_9 zl_551 zl_552 (Or.inl zl_550) (by decide +kernel)
set_option maxRecDepth 100000 in
theorem cb_X9_findOptions_20 : ci_ok yX9_findOptions cX9_findOptions 4 20 (ci_go 24) := cr_goto (off := 4) (by decide +kernel) (by decide)
set_option maxRecDepth 100000 in
theorem cb_X9_findOptions_23 : ci_ok yX9_findOptions cX9_findOptions 4 23 (ci_push (.int 0) 24) := cr_iconst2 (n := 0) (by decide +kernel) (by decide +kernel) rfl
set_option maxRecDepth 100000 in
theorem cb_X9_findOptions_24 : ci_ok yX9_findOptions cX9_findOptions 4 24 (ci_seq (ci_store 0 2 25) 25 (ci_seq (ci_load 2 0 26) 26 (ci_seq (ci_getf 9 35 29) 29 (ci_seq (ci_push (.int 9) 31) 31 (ci_seq (ci_load 0 1 32) 32 (ci_seq (ci_bin (fun a b => a * b) 33) 33 (ci_seq (ci_push (.int 0) 34) 34 (ci_seq (ci_ast .int 35) 35 (ci_seq (ci_load 2 0 36) 36 (ci_seq (ci_getf 9 36 39) 39 (ci_seq (ci_load 0 1 40) 40 (ci_seq (ci_push (.int 1) 41) 41 (ci_seq (ci_ast .int 42) 42 (ci_seq (ci_push (.int 0) 43) 43 (ci_store 0 3 44))))))))))))))) := cq_ok (cr_istore_n (k := 2) (by decide +kernel) rfl (by decide) rfl) (cq_ok (cr_aload_n (k := 0) (by decide +kernel) rfl rfl) (cq_ok (cr_getf (idx := 44) zc_9 (by decide) zl_429 (by decide +kernel) rfl) (cq_ok (cr_bipush (n := 9) (by decide +kernel) (by decide +kernel) rfl) (cq_ok (cr_iload_n (k := 1) (by decide +kernel) rfl rfl) (cq_ok (cr_imul (by decide +kernel) rfl) (cq_ok (cr_iconst2 (n := 0) (by decide +kernel) (by decide +kernel) rfl) (cq_ok (cr_ast (ins := .iastore) rfl (by decide +kernel) (Or.inl ⟨rfl, rfl⟩)) (cq_ok (cr_aload_n (k := 0) (by decide +kernel) rfl rfl) (cq_ok (cr_getf (idx := 47) zc_9 (by decide) zl_428 (by decide +kernel) rfl) (cq_ok (cr_iload_n (k := 1) (by decide +kernel) rfl rfl) (cq_ok (cr_iconst2 (n := 1) (by decide +kernel) (by decide +kernel) rfl) (cq_ok (cr_ast (ins := .iastore) rfl (by decide +kernel) (Or.inl ⟨rfl, rfl⟩)) (cq_ok (cr_iconst2 (n := 0) (by decide +kernel) (by decide +kernel) rfl) (cr_istore_n (k := 3) (by decide +kernel) rfl (by decide) rfl))))))))))))))
set_option maxRecDepth 100000 in
theorem cb_X9_findOptions_44 : ci_ok yX9_findOptions cX9_findOptions 4 44 (ci_seq (ci_load 0 3 45) 45 (ci_seq (ci_load 2 0 46) 46 (ci_seq (ci_getf 9 2 49) 49 (ci_seq (ci_load 2 0 50) 50 (ci_seq (ci_getf 9 3 53) 53 (ci_seq (ci_bin (fun a b => a * b) 54) 54 (ci_ic (fun x y => decide (y ≤ x)) 106 57))))))) := cq_ok (cr_iload_n (k := 3) (by decide +kernel) rfl rfl) (cq_ok (cr_aload_n (k := 0) (by decide +kernel) rfl rfl) (cq_ok (cr_getf (idx := 120) zc_9 (by decide) zl_463 (by decide +kernel) rfl) (cq_ok (cr_aload_n (k := 0) (by decide +kernel) rfl rfl) (cq_ok (cr_getf (idx := 123) zc_9 (by decide) zl_462 (by decide +kernel) rfl) (cq_ok (cr_imul (by decide +kernel) rfl) (cr_ic_ge (off := 52) (by decide +kernel) (by decide) rfl))))))
set_option maxRecDepth 100000 in
theorem cb_X9_findOptions_57 : ci_ok yX9_findOptions cX9_findOptions 4 57 (ci_seq (ci_load 0 2 58) 58 (ci_seq (ci_load 0 3 59) 59 (ci_seq (ci_bin (fun a b => a >>> (b &&& 31)) 60) 60 (ci_seq (ci_push (.int 1) 61) 61 (ci_seq (ci_bin (fun a b => a &&& b) 62) 62 (ci_seq (ci_push (.int 1) 63) 63 (ci_ic (fun x y => !decide (x = y)) 100 66))))))) := cq_ok (cr_iload_n (k := 2) (by decide +kernel) rfl rfl) (cq_ok (cr_iload_n (k := 3) (by decide +kernel) rfl rfl) (cq_ok (cr_ishr (by decide +kernel) rfl) (cq_ok (cr_iconst2 (n := 1) (by decide +kernel) (by decide +kernel) rfl) (cq_ok (cr_iand (by decide +kernel) rfl) (cq_ok (cr_iconst2 (n := 1) (by decide +kernel) (by decide +kernel) rfl) (cr_ic_ne (off := 37) (by decide +kernel) (by decide) rfl))))))
set_option maxRecDepth 100000 in
theorem cb_X9_findOptions_66 : ci_ok yX9_findOptions cX9_findOptions 4 66 (ci_seq (ci_load 2 0 67) 67 (ci_seq (ci_getf 9 35 70) 70 (ci_seq (ci_push (.int 9) 72) 72 (ci_seq (ci_load 0 1 73) 73 (ci_seq (ci_bin (fun a b => a * b) 74) 74 (ci_seq (ci_load 2 0 75) 75 (ci_seq (ci_getf 9 36 78) 78 (ci_seq (ci_load 0 1 79) 79 (ci_seq (ci_ald .int 80) 80 (ci_seq (ci_bin (fun a b => a + b) 81) 81 (ci_load 0 1 82))))))))))) := cq_ok (cr_aload_n (k := 0) (by decide +kernel) rfl rfl) (cq_ok (cr_getf (idx := 44) zc_9 (by decide) zl_429 (by decide +kernel) rfl) (cq_ok (cr_bipush (n := 9) (by decide +kernel) (by decide +kernel) rfl) (cq_ok (cr_iload_n (k := 1) (by decide +kernel) rfl rfl) (cq_ok (cr_imul (by decide +kernel) rfl) (cq_ok (cr_aload_n (k := 0) (by decide +kernel) rfl rfl) (cq_ok (cr_getf (idx := 47) zc_9 (by decide) zl_428 (by decide +kernel) rfl) (cq_ok (cr_iload_n (k := 1) (by decide +kernel) rfl rfl) (cq_ok (cr_ald (ins := .iaload) rfl (by decide +kernel) (Or.inl ⟨rfl, rfl⟩)) (cq_ok (cr_iadd (by decide +kernel) rfl) (cr_iload_n (k := 1) (by decide +kernel) rfl rfl))))))))))
set_option maxRecDepth 100000 in
theorem cl_X9_findOptions_82 : ci_calls yX9_findOptions cX9_findOptions 4 82 yX9_timesOf 1 none := cr_callS (idx := 292) zl_1037 zl_654 ⟨by decide, by decide⟩ (by decide +kernel) zl_585 (Or.inl zl_584) (by decide +kernel)
set_option maxRecDepth 100000 in
theorem cb_X9_findOptions_85 : ci_ok yX9_findOptions cX9_findOptions 4 85 (ci_seq (ci_load 0 3 86) 86 (ci_seq (ci_push (.int 1) 87) 87 (ci_seq (ci_bin (fun a b => a + b) 88) 88 (ci_seq (ci_bin (fun a b => a * b) 89) 89 (ci_seq (ci_ast .int 90) 90 (ci_seq (ci_load 2 0 91) 91 (ci_seq (ci_getf 9 36 94) 94 (ci_seq (ci_load 0 1 95) 95 (ci_seq (ci_dup2 96) 96 (ci_seq (ci_ald .int 97) 97 (ci_seq (ci_push (.int 1) 98) 98 (ci_seq (ci_bin (fun a b => a + b) 99) 99 (ci_ast .int 100))))))))))))) := cq_ok (cr_iload_n (k := 3) (by decide +kernel) rfl rfl) (cq_ok (cr_iconst2 (n := 1) (by decide +kernel) (by decide +kernel) rfl) (cq_ok (cr_iadd (by decide +kernel) rfl) (cq_ok (cr_imul (by decide +kernel) rfl) (cq_ok (cr_ast (ins := .iastore) rfl (by decide +kernel) (Or.inl ⟨rfl, rfl⟩)) (cq_ok (cr_aload_n (k := 0) (by decide +kernel) rfl rfl) (cq_ok (cr_getf (idx := 47) zc_9 (by decide) zl_428 (by decide +kernel) rfl) (cq_ok (cr_iload_n (k := 1) (by decide +kernel) rfl rfl) (cq_ok (cr_dup2 (by decide +kernel) rfl) (cq_ok (cr_ald (ins := .iaload) rfl (by decide +kernel) (Or.inl ⟨rfl, rfl⟩)) (cq_ok (cr_iconst2 (n := 1) (by decide +kernel) (by decide +kernel) rfl) (cq_ok (cr_iadd (by decide +kernel) rfl) (cr_ast (ins := .iastore) rfl (by decide +kernel) (Or.inl ⟨rfl, rfl⟩)))))))))))))
set_option maxRecDepth 100000 in
theorem cb_X9_findOptions_100 : ci_ok yX9_findOptions cX9_findOptions 4 100 (ci_seq (ci_inc 3 1 103) 103 (ci_go 44)) := cq_ok (ci_inc_ok (by decide) (by decide +kernel) rfl) (cr_goto (off := -59) (by decide +kernel) (by decide))
set_option maxRecDepth 100000 in
theorem cb_X9_findOptions_106 : ci_ok yX9_findOptions cX9_findOptions 4 106 (ci_seq (ci_inc 1 1 109) 109 (ci_go 2)) := cq_ok (ci_inc_ok (by decide) (by decide +kernel) rfl) (cr_goto (off := -107) (by decide +kernel) (by decide))
set_option maxRecDepth 100000 in
theorem cd_X9_findOptions_112 : decode cX9_findOptions 112 = .ok (zi_rop none, 1) := by decide +kernel
set_option maxRecDepth 100000 in
theorem cb_X9_allOptions_0 : ci_ok yX9_allOptions cX9_allOptions 1 0 (ci_seq (ci_load 2 0 1) 1 (ci_seq (ci_getf 9 36 4) 4 (ci_seq (ci_push (.int 0) 5) 5 (ci_seq (ci_ald .int 6) 6 (ci_seq (ci_load 2 0 7) 7 (ci_seq (ci_getf 9 36 10) 10 (ci_seq (ci_push (.int 1) 11) 11 (ci_seq (ci_ald .int 12) 12 (ci_seq (ci_bin (fun a b => a * b) 13) 13 (ci_seq (ci_load 2 0 14) 14 (ci_seq (ci_getf 9 36 17) 17 (ci_seq (ci_push (.int 2) 18) 18 (ci_seq (ci_ald .int 19) 19 (ci_bin (fun a b => a * b) 20)))))))))))))) := cq_ok (cr_aload_n (k := 0) (by decide +kernel) rfl rfl) (cq_ok (cr_getf (idx := 47) zc_9 (by decide) zl_428 (by decide +kernel) rfl) (cq_ok (cr_iconst2 (n := 0) (by decide +kernel) (by decide +kernel) rfl) (cq_ok (cr_ald (ins := .iaload) rfl (by decide +kernel) (Or.inl ⟨rfl, rfl⟩)) (cq_ok (cr_aload_n (k := 0) (by decide +kernel) rfl rfl) (cq_ok (cr_getf (idx := 47) zc_9 (by decide) zl_428 (by decide +kernel) rfl) (cq_ok (cr_iconst2 (n := 1) (by decide +kernel) (by decide +kernel) rfl) (cq_ok (cr_ald (ins := .iaload) rfl (by decide +kernel) (Or.inl ⟨rfl, rfl⟩)) (cq_ok (cr_imul (by decide +kernel) rfl) (cq_ok (cr_aload_n (k := 0) (by decide +kernel) rfl rfl) (cq_ok (cr_getf (idx := 47) zc_9 (by decide) zl_428 (by decide +kernel) rfl) (cq_ok (cr_iconst2 (n := 2) (by decide +kernel) (by decide +kernel) rfl) (cq_ok (cr_ald (ins := .iaload) rfl (by decide +kernel) (Or.inl ⟨rfl, rfl⟩)) (cr_imul (by decide +kernel) rfl)))))))))))))
set_option maxRecDepth 100000 in
theorem cd_X9_allOptions_20 : decode cX9_allOptions 20 = .ok (zi_rop (some .int), 1) := by decide +kernel
set_option maxRecDepth 100000 in
theorem cb_X9_yearOf_0 : ci_ok yX9_yearOf cX9_yearOf 4 0 (ci_seq (ci_load 2 0 1) 1 (ci_seq (ci_getf 9 35 4) 4 (ci_seq (ci_load 0 1 5) 5 (ci_seq (ci_ald .int 6) 6 (ci_seq (ci_load 2 0 7) 7 (ci_seq (ci_getf 9 35 10) 10 (ci_seq (ci_push (.int 9) 12) 12 (ci_seq (ci_load 0 2 13) 13 (ci_seq (ci_bin (fun a b => a + b) 14) 14 (ci_seq (ci_ald .int 15) 15 (ci_seq (ci_bin (fun a b => a + b) 16) 16 (ci_seq (ci_load 2 0 17) 17 (ci_seq (ci_getf 9 35 20) 20 (ci_seq (ci_push (.int 18) 22) 22 (ci_seq (ci_load 0 3 23) 23 (ci_seq (ci_bin (fun a b => a + b) 24) 24 (ci_seq (ci_ald .int 25) 25 (ci_bin (fun a b => a + b) 26)))))))))))))))))) := cq_ok (cr_aload_n (k := 0) (by decide +kernel) rfl rfl) (cq_ok (cr_getf (idx := 44) zc_9 (by decide) zl_429 (by decide +kernel) rfl) (cq_ok (cr_iload_n (k := 1) (by decide +kernel) rfl rfl) (cq_ok (cr_ald (ins := .iaload) rfl (by decide +kernel) (Or.inl ⟨rfl, rfl⟩)) (cq_ok (cr_aload_n (k := 0) (by decide +kernel) rfl rfl) (cq_ok (cr_getf (idx := 44) zc_9 (by decide) zl_429 (by decide +kernel) rfl) (cq_ok (cr_bipush (n := 9) (by decide +kernel) (by decide +kernel) rfl) (cq_ok (cr_iload_n (k := 2) (by decide +kernel) rfl rfl) (cq_ok (cr_iadd (by decide +kernel) rfl) (cq_ok (cr_ald (ins := .iaload) rfl (by decide +kernel) (Or.inl ⟨rfl, rfl⟩)) (cq_ok (cr_iadd (by decide +kernel) rfl) (cq_ok (cr_aload_n (k := 0) (by decide +kernel) rfl rfl) (cq_ok (cr_getf (idx := 44) zc_9 (by decide) zl_429 (by decide +kernel) rfl) (cq_ok (cr_bipush (n := 18) (by decide +kernel) (by decide +kernel) rfl) (cq_ok (cr_iload_n (k := 3) (by decide +kernel) rfl rfl) (cq_ok (cr_iadd (by decide +kernel) rfl) (cq_ok (cr_ald (ins := .iaload) rfl (by decide +kernel) (Or.inl ⟨rfl, rfl⟩)) (cr_iadd (by decide +kernel) rfl)))))))))))))))))
set_option maxRecDepth 100000 in
theorem cd_X9_yearOf_26 : decode cX9_yearOf 26 = .ok (zi_rop (some .int), 1) := by decide +kernel
set_option maxRecDepth 100000 in
theorem cb_X9_yearAt_0 : ci_ok yX9_yearAt cX9_yearAt 2 0 (ci_seq (ci_load 2 0 1) 1 (ci_seq (ci_load 0 1 2) 2 (ci_seq (ci_load 2 0 3) 3 (ci_seq (ci_getf 9 36 6) 6 (ci_seq (ci_push (.int 0) 7) 7 (ci_seq (ci_ald .int 8) 8 (ci_seq (ci_dv (fun a b => a - a / b * b) 9) 9 (ci_seq (ci_load 0 1 10) 10 (ci_seq (ci_load 2 0 11) 11 (ci_seq (ci_getf 9 36 14) 14 (ci_seq (ci_push (.int 0) 15) 15 (ci_seq (ci_ald .int 16) 16 (ci_seq (ci_dv (fun a b => a / b) 17) 17 (ci_seq (ci_load 2 0 18) 18 (ci_seq (ci_getf 9 36 21) 21 (ci_seq (ci_push (.int 1) 22) 22 (ci_seq (ci_ald .int 23) 23 (ci_seq (ci_dv (fun a b => a - a / b * b) 24) 24 (ci_seq (ci_load 0 1 25) 25 (ci_seq (ci_load 2 0 26) 26 (ci_seq (ci_getf 9 36 29) 29 (ci_seq (ci_push (.int 0) 30) 30 (ci_seq (ci_ald .int 31) 31 (ci_seq (ci_load 2 0 32) 32 (ci_seq (ci_getf 9 36 35) 35 (ci_seq (ci_push (.int 1) 36) 36 (ci_seq (ci_ald .int 37) 37 (ci_seq (ci_bin (fun a b => a * b) 38) 38 (ci_dv (fun a b => a / b) 39))))))))))))))))))))))))))))) := cq_ok (cr_aload_n (k := 0) (by decide +kernel) rfl rfl) (cq_ok (cr_iload_n (k := 1) (by decide +kernel) rfl rfl) (cq_ok (cr_aload_n (k := 0) (by decide +kernel) rfl rfl) (cq_ok (cr_getf (idx := 47) zc_9 (by decide) zl_428 (by decide +kernel) rfl) (cq_ok (cr_iconst2 (n := 0) (by decide +kernel) (by decide +kernel) rfl) (cq_ok (cr_ald (ins := .iaload) rfl (by decide +kernel) (Or.inl ⟨rfl, rfl⟩)) (cq_ok (cr_irem (by decide +kernel) rfl) (cq_ok (cr_iload_n (k := 1) (by decide +kernel) rfl rfl) (cq_ok (cr_aload_n (k := 0) (by decide +kernel) rfl rfl) (cq_ok (cr_getf (idx := 47) zc_9 (by decide) zl_428 (by decide +kernel) rfl) (cq_ok (cr_iconst2 (n := 0) (by decide +kernel) (by decide +kernel) rfl) (cq_ok (cr_ald (ins := .iaload) rfl (by decide +kernel) (Or.inl ⟨rfl, rfl⟩)) (cq_ok (cr_idiv (by decide +kernel) rfl) (cq_ok (cr_aload_n (k := 0) (by decide +kernel) rfl rfl) (cq_ok (cr_getf (idx := 47) zc_9 (by decide) zl_428 (by decide +kernel) rfl) (cq_ok (cr_iconst2 (n := 1) (by decide +kernel) (by decide +kernel) rfl) (cq_ok (cr_ald (ins := .iaload) rfl (by decide +kernel) (Or.inl ⟨rfl, rfl⟩)) (cq_ok (cr_irem (by decide +kernel) rfl) (cq_ok (cr_iload_n (k := 1) (by decide +kernel) rfl rfl) (cq_ok (cr_aload_n (k := 0) (by decide +kernel) rfl rfl) (cq_ok (cr_getf (idx := 47) zc_9 (by decide) zl_428 (by decide +kernel) rfl) (cq_ok (cr_iconst2 (n := 0) (by decide +kernel) (by decide +kernel) rfl) (cq_ok (cr_ald (ins := .iaload) rfl (by decide +kernel) (Or.inl ⟨rfl, rfl⟩)) (cq_ok (cr_aload_n (k := 0) (by decide +kernel) rfl rfl) (cq_ok (cr_getf (idx := 47) zc_9 (by decide) zl_428 (by decide +kernel) rfl) (cq_ok (cr_iconst2 (n := 1) (by decide +kernel) (by decide +kernel) rfl) (cq_ok (cr_ald (ins := .iaload) rfl (by decide +kernel) (Or.inl ⟨rfl, rfl⟩)) (cq_ok (cr_imul (by decide +kernel) rfl) (cr_idiv (by decide +kernel) rfl))))))))))))))))))))))))))))
set_option maxRecDepth 100000 in
theorem cl_X9_yearAt_39 : ci_calls yX9_yearAt cX9_yearAt 2 39 yX9_yearOf 4 (some 9) := cr_callV (idx := 295) zl_1051 ⟨by decide, by decide⟩ (by decide +kernel) zc_9 zl_587 zl_588 (Or.inl zl_586) (by decide +kernel)
set_option maxRecDepth 100000 in
theorem cd_X9_yearAt_42 : decode cX9_yearAt 42 = .ok (zi_rop (some .int), 1) := by decide +kernel
set_option maxRecDepth 100000 in
theorem cb_X9_enters_0 : ci_ok yX9_enters cX9_enters 5 0 (ci_seq (ci_push (.int 0) 1) 1 (ci_store 0 3 2)) := cq_ok (cr_iconst2 (n := 0) (by decide +kernel) (by decide +kernel) rfl) (cr_istore_n (k := 3) (by decide +kernel) rfl (by decide) rfl)
set_option maxRecDepth 100000 in
theorem cb_X9_enters_2 : ci_ok yX9_enters cX9_enters 5 2 (ci_seq (ci_load 0 3 3) 3 (ci_seq (ci_push (.int 25) 5) 5 (ci_ic (fun x y => decide (y ≤ x)) 31 8))) := cq_ok (cr_iload_n (k := 3) (by decide +kernel) rfl rfl) (cq_ok (cr_bipush (n := 25) (by decide +kernel) (by decide +kernel) rfl) (cr_ic_ge (off := 26) (by decide +kernel) (by decide) rfl))
set_option maxRecDepth 100000 in
theorem cb_X9_enters_8 : ci_ok yX9_enters cX9_enters 5 8 (ci_seq (ci_load 2 0 9) 9 (ci_seq (ci_getf 9 37 12) 12 (ci_seq (ci_push (.int 25) 14) 14 (ci_seq (ci_load 0 2 15) 15 (ci_seq (ci_bin (fun a b => a * b) 16) 16 (ci_seq (ci_load 0 3 17) 17 (ci_seq (ci_bin (fun a b => a + b) 18) 18 (ci_seq (ci_load 2 0 19) 19 (ci_seq (ci_getf 9 0 22) 22 (ci_seq (ci_load 0 3 23) 23 (ci_seq (ci_ald .int 24) 24 (ci_seq (ci_ast .int 25) 25 (ci_seq (ci_inc 3 1 28) 28 (ci_go 2)))))))))))))) := cq_ok (cr_aload_n (k := 0) (by decide +kernel) rfl rfl) (cq_ok (cr_getf (idx := 50) zc_9 (by decide) zl_427 (by decide +kernel) rfl) (cq_ok (cr_bipush (n := 25) (by decide +kernel) (by decide +kernel) rfl) (cq_ok (cr_iload_n (k := 2) (by decide +kernel) rfl rfl) (cq_ok (cr_imul (by decide +kernel) rfl) (cq_ok (cr_iload_n (k := 3) (by decide +kernel) rfl rfl) (cq_ok (cr_iadd (by decide +kernel) rfl) (cq_ok (cr_aload_n (k := 0) (by decide +kernel) rfl rfl) (cq_ok (cr_getf (idx := 7) zc_9 (by decide) zl_441 (by decide +kernel) rfl) (cq_ok (cr_iload_n (k := 3) (by decide +kernel) rfl rfl) (cq_ok (cr_ald (ins := .iaload) rfl (by decide +kernel) (Or.inl ⟨rfl, rfl⟩)) (cq_ok (cr_ast (ins := .iastore) rfl (by decide +kernel) (Or.inl ⟨rfl, rfl⟩)) (cq_ok (ci_inc_ok (by decide) (by decide +kernel) rfl) (cr_goto (off := -26) (by decide +kernel) (by decide))))))))))))))
set_option maxRecDepth 100000 in
theorem cb_X9_enters_31 : ci_ok yX9_enters cX9_enters 5 31 (ci_seq (ci_load 2 0 32) 32 (ci_load 0 1 33)) := cq_ok (cr_aload_n (k := 0) (by decide +kernel) rfl rfl) (cr_iload_n (k := 1) (by decide +kernel) rfl rfl)
set_option maxRecDepth 100000 in
theorem cl_X9_enters_33 : ci_calls yX9_enters cX9_enters 5 33 yX9_mayCut 2 (some 9) := cr_callV (idx := 253) zl_1023 ⟨by decide, by decide⟩ (by decide +kernel) zc_9 zl_551 zl_552 (Or.inl zl_550) (by decide +kernel)
set_option maxRecDepth 100000 in
theorem cb_X9_enters_36 : ci_ok yX9_enters cX9_enters 5 36 (ci_seq (ci_store 0 3 37) 37 (ci_seq (ci_load 2 0 38) 38 (ci_seq (ci_getf 9 39 41) 41 (ci_seq (ci_push (.int 9) 43) 43 (ci_seq (ci_load 0 2 44) 44 (ci_seq (ci_bin (fun a b => a * b) 45) 45 (ci_seq (ci_push (.int 25) 47) 47 (ci_seq (ci_ast .int 48) 48 (ci_seq (ci_load 2 0 49) 49 (ci_seq (ci_getf 9 40 52) 52 (ci_seq (ci_load 0 2 53) 53 (ci_seq (ci_push (.int 1) 54) 54 (ci_seq (ci_ast .int 55) 55 (ci_seq (ci_push (.int 0) 56) 56 (ci_store 0 4 58))))))))))))))) := cq_ok (cr_istore_n (k := 3) (by decide +kernel) rfl (by decide) rfl) (cq_ok (cr_aload_n (k := 0) (by decide +kernel) rfl rfl) (cq_ok (cr_getf (idx := 56) zc_9 (by decide) zl_425 (by decide +kernel) rfl) (cq_ok (cr_bipush (n := 9) (by decide +kernel) (by decide +kernel) rfl) (cq_ok (cr_iload_n (k := 2) (by decide +kernel) rfl rfl) (cq_ok (cr_imul (by decide +kernel) rfl) (cq_ok (cr_bipush (n := 25) (by decide +kernel) (by decide +kernel) rfl) (cq_ok (cr_ast (ins := .iastore) rfl (by decide +kernel) (Or.inl ⟨rfl, rfl⟩)) (cq_ok (cr_aload_n (k := 0) (by decide +kernel) rfl rfl) (cq_ok (cr_getf (idx := 59) zc_9 (by decide) zl_424 (by decide +kernel) rfl) (cq_ok (cr_iload_n (k := 2) (by decide +kernel) rfl rfl) (cq_ok (cr_iconst2 (n := 1) (by decide +kernel) (by decide +kernel) rfl) (cq_ok (cr_ast (ins := .iastore) rfl (by decide +kernel) (Or.inl ⟨rfl, rfl⟩)) (cq_ok (cr_iconst2 (n := 0) (by decide +kernel) (by decide +kernel) rfl) (cr_istore (by decide +kernel) (by decide) rfl))))))))))))))
set_option maxRecDepth 100000 in
theorem cb_X9_enters_58 : ci_ok yX9_enters cX9_enters 5 58 (ci_seq (ci_load 0 4 60) 60 (ci_seq (ci_load 2 0 61) 61 (ci_seq (ci_getf 9 2 64) 64 (ci_seq (ci_load 2 0 65) 65 (ci_seq (ci_getf 9 3 68) 68 (ci_seq (ci_bin (fun a b => a * b) 69) 69 (ci_ic (fun x y => decide (y ≤ x)) 116 72))))))) := cq_ok (cr_iload (by decide +kernel) rfl) (cq_ok (cr_aload_n (k := 0) (by decide +kernel) rfl rfl) (cq_ok (cr_getf (idx := 120) zc_9 (by decide) zl_463 (by decide +kernel) rfl) (cq_ok (cr_aload_n (k := 0) (by decide +kernel) rfl rfl) (cq_ok (cr_getf (idx := 123) zc_9 (by decide) zl_462 (by decide +kernel) rfl) (cq_ok (cr_imul (by decide +kernel) rfl) (cr_ic_ge (off := 47) (by decide +kernel) (by decide) rfl))))))
set_option maxRecDepth 100000 in
theorem cb_X9_enters_72 : ci_ok yX9_enters cX9_enters 5 72 (ci_seq (ci_load 0 3 73) 73 (ci_seq (ci_load 0 4 75) 75 (ci_seq (ci_bin (fun a b => a >>> (b &&& 31)) 76) 76 (ci_seq (ci_push (.int 1) 77) 77 (ci_seq (ci_bin (fun a b => a &&& b) 78) 78 (ci_seq (ci_push (.int 1) 79) 79 (ci_ic (fun x y => !decide (x = y)) 110 82))))))) := cq_ok (cr_iload_n (k := 3) (by decide +kernel) rfl rfl) (cq_ok (cr_iload (by decide +kernel) rfl) (cq_ok (cr_ishr (by decide +kernel) rfl) (cq_ok (cr_iconst2 (n := 1) (by decide +kernel) (by decide +kernel) rfl) (cq_ok (cr_iand (by decide +kernel) rfl) (cq_ok (cr_iconst2 (n := 1) (by decide +kernel) (by decide +kernel) rfl) (cr_ic_ne (off := 31) (by decide +kernel) (by decide) rfl))))))
set_option maxRecDepth 100000 in
theorem cb_X9_enters_82 : ci_ok yX9_enters cX9_enters 5 82 (ci_seq (ci_load 2 0 83) 83 (ci_seq (ci_getf 9 39 86) 86 (ci_seq (ci_push (.int 9) 88) 88 (ci_seq (ci_load 0 2 89) 89 (ci_seq (ci_bin (fun a b => a * b) 90) 90 (ci_seq (ci_load 2 0 91) 91 (ci_seq (ci_getf 9 40 94) 94 (ci_seq (ci_load 0 2 95) 95 (ci_seq (ci_ald .int 96) 96 (ci_seq (ci_bin (fun a b => a + b) 97) 97 (ci_seq (ci_load 0 4 99) 99 (ci_seq (ci_ast .int 100) 100 (ci_seq (ci_load 2 0 101) 101 (ci_seq (ci_getf 9 40 104) 104 (ci_seq (ci_load 0 2 105) 105 (ci_seq (ci_dup2 106) 106 (ci_seq (ci_ald .int 107) 107 (ci_seq (ci_push (.int 1) 108) 108 (ci_seq (ci_bin (fun a b => a + b) 109) 109 (ci_ast .int 110)))))))))))))))))))) := cq_ok (cr_aload_n (k := 0) (by decide +kernel) rfl rfl) (cq_ok (cr_getf (idx := 56) zc_9 (by decide) zl_425 (by decide +kernel) rfl) (cq_ok (cr_bipush (n := 9) (by decide +kernel) (by decide +kernel) rfl) (cq_ok (cr_iload_n (k := 2) (by decide +kernel) rfl rfl) (cq_ok (cr_imul (by decide +kernel) rfl) (cq_ok (cr_aload_n (k := 0) (by decide +kernel) rfl rfl) (cq_ok (cr_getf (idx := 59) zc_9 (by decide) zl_424 (by decide +kernel) rfl) (cq_ok (cr_iload_n (k := 2) (by decide +kernel) rfl rfl) (cq_ok (cr_ald (ins := .iaload) rfl (by decide +kernel) (Or.inl ⟨rfl, rfl⟩)) (cq_ok (cr_iadd (by decide +kernel) rfl) (cq_ok (cr_iload (by decide +kernel) rfl) (cq_ok (cr_ast (ins := .iastore) rfl (by decide +kernel) (Or.inl ⟨rfl, rfl⟩)) (cq_ok (cr_aload_n (k := 0) (by decide +kernel) rfl rfl) (cq_ok (cr_getf (idx := 59) zc_9 (by decide) zl_424 (by decide +kernel) rfl) (cq_ok (cr_iload_n (k := 2) (by decide +kernel) rfl rfl) (cq_ok (cr_dup2 (by decide +kernel) rfl) (cq_ok (cr_ald (ins := .iaload) rfl (by decide +kernel) (Or.inl ⟨rfl, rfl⟩)) (cq_ok (cr_iconst2 (n := 1) (by decide +kernel) (by decide +kernel) rfl) (cq_ok (cr_iadd (by decide +kernel) rfl) (cr_ast (ins := .iastore) rfl (by decide +kernel) (Or.inl ⟨rfl, rfl⟩))))))))))))))))))))
set_option maxRecDepth 100000 in
theorem cb_X9_enters_110 : ci_ok yX9_enters cX9_enters 5 110 (ci_seq (ci_inc 4 1 113) 113 (ci_go 58)) := cq_ok (ci_inc_ok (by decide) (by decide +kernel) rfl) (cr_goto (off := -55) (by decide +kernel) (by decide))
set_option maxRecDepth 100000 in
theorem cd_X9_enters_116 : decode cX9_enters 116 = .ok (zi_rop none, 1) := by decide +kernel
set_option maxRecDepth 100000 in
theorem cb_X9_leaves_0 : ci_ok yX9_leaves cX9_leaves 3 0 (ci_seq (ci_push (.int 0) 1) 1 (ci_store 0 2 2)) := cq_ok (cr_iconst2 (n := 0) (by decide +kernel) (by decide +kernel) rfl) (cr_istore_n (k := 2) (by decide +kernel) rfl (by decide) rfl)
set_option maxRecDepth 100000 in
theorem cb_X9_leaves_2 : ci_ok yX9_leaves cX9_leaves 3 2 (ci_seq (ci_load 0 2 3) 3 (ci_seq (ci_push (.int 25) 5) 5 (ci_ic (fun x y => decide (y ≤ x)) 31 8))) := cq_ok (cr_iload_n (k := 2) (by decide +kernel) rfl rfl) (cq_ok (cr_bipush (n := 25) (by decide +kernel) (by decide +kernel) rfl) (cr_ic_ge (off := 26) (by decide +kernel) (by decide) rfl))
set_option maxRecDepth 100000 in
theorem cb_X9_leaves_8 : ci_ok yX9_leaves cX9_leaves 3 8 (ci_seq (ci_load 2 0 9) 9 (ci_seq (ci_getf 9 0 12) 12 (ci_seq (ci_load 0 2 13) 13 (ci_seq (ci_load 2 0 14) 14 (ci_seq (ci_getf 9 37 17) 17 (ci_seq (ci_push (.int 25) 19) 19 (ci_seq (ci_load 0 1 20) 20 (ci_seq (ci_bin (fun a b => a * b) 21) 21 (ci_seq (ci_load 0 2 22) 22 (ci_seq (ci_bin (fun a b => a + b) 23) 23 (ci_seq (ci_ald .int 24) 24 (ci_seq (ci_ast .int 25) 25 (ci_seq (ci_inc 2 1 28) 28 (ci_go 2)))))))))))))) := cq_ok (cr_aload_n (k := 0) (by decide +kernel) rfl rfl) (cq_ok (cr_getf (idx := 7) zc_9 (by decide) zl_441 (by decide +kernel) rfl) (cq_ok (cr_iload_n (k := 2) (by decide +kernel) rfl rfl) (cq_ok (cr_aload_n (k := 0) (by decide +kernel) rfl rfl) (cq_ok (cr_getf (idx := 50) zc_9 (by decide) zl_427 (by decide +kernel) rfl) (cq_ok (cr_bipush (n := 25) (by decide +kernel) (by decide +kernel) rfl) (cq_ok (cr_iload_n (k := 1) (by decide +kernel) rfl rfl) (cq_ok (cr_imul (by decide +kernel) rfl) (cq_ok (cr_iload_n (k := 2) (by decide +kernel) rfl rfl) (cq_ok (cr_iadd (by decide +kernel) rfl) (cq_ok (cr_ald (ins := .iaload) rfl (by decide +kernel) (Or.inl ⟨rfl, rfl⟩)) (cq_ok (cr_ast (ins := .iastore) rfl (by decide +kernel) (Or.inl ⟨rfl, rfl⟩)) (cq_ok (ci_inc_ok (by decide) (by decide +kernel) rfl) (cr_goto (off := -26) (by decide +kernel) (by decide))))))))))))))
set_option maxRecDepth 100000 in
theorem cd_X9_leaves_31 : decode cX9_leaves 31 = .ok (zi_rop none, 1) := by decide +kernel
set_option maxRecDepth 100000 in
theorem cb_X9_isBrought_0 : ci_ok yX9_isBrought cX9_isBrought 7 0 (ci_seq (ci_load 2 0 1) 1 (ci_seq (ci_load 0 1 2) 2 (ci_push (.int 0) 3))) := cq_ok (cr_aload_n (k := 0) (by decide +kernel) rfl rfl) (cq_ok (cr_iload_n (k := 1) (by decide +kernel) rfl rfl) (cr_iconst2 (n := 0) (by decide +kernel) (by decide +kernel) rfl))
set_option maxRecDepth 100000 in
theorem cl_X9_isBrought_3 : ci_calls yX9_isBrought cX9_isBrought 7 3 yX9_enters 3 (some 9) := cr_callV (idx := 299) zl_1053 ⟨by decide, by decide⟩ (by decide +kernel) zc_9 zl_590 zl_591 (Or.inl zl_589) (by decide +kernel)
set_option maxRecDepth 100000 in
theorem cb_X9_isBrought_6 : ci_ok yX9_isBrought cX9_isBrought 7 6 (ci_seq (ci_push (.int 0) 7) 7 (ci_seq (ci_store 0 4 9) 9 (ci_seq (ci_load 0 3 10) 10 (ci_if (fun x => !decide (x = 0)) 29 13)))) := cq_ok (cr_iconst2 (n := 0) (by decide +kernel) (by decide +kernel) rfl) (cq_ok (cr_istore (by decide +kernel) (by decide) rfl) (cq_ok (cr_iload_n (k := 3) (by decide +kernel) rfl rfl) (cr_if_ne (off := 19) (by decide +kernel) (by decide) rfl)))
set_option maxRecDepth 100000 in
theorem cb_X9_isBrought_13 : ci_ok yX9_isBrought cX9_isBrought 7 13 (ci_load 2 0 14) := cr_aload_n (k := 0) (by decide +kernel) rfl rfl
set_option maxRecDepth 100000 in
theorem cl_X9_isBrought_14 : ci_calls yX9_isBrought cX9_isBrought 7 14 yX9_bedNow 1 (some 9) := cr_callV (idx := 230) zl_1020 ⟨by decide, by decide⟩ (by decide +kernel) zc_9 zl_533 zl_534 (Or.inl zl_532) (by decide +kernel)
set_option maxRecDepth 100000 in
theorem cb_X9_isBrought_17 : ci_ok yX9_isBrought cX9_isBrought 7 17 (ci_seq (ci_load 0 2 18) 18 (ci_seq (ci_bin (fun a b => a >>> (b &&& 31)) 19) 19 (ci_seq (ci_push (.int 1) 20) 20 (ci_seq (ci_bin (fun a b => a &&& b) 21) 21 (ci_seq (ci_push (.int 1) 22) 22 (ci_ic (fun x y => !decide (x = y)) 29 25)))))) := cq_ok (cr_iload_n (k := 2) (by decide +kernel) rfl rfl) (cq_ok (cr_ishr (by decide +kernel) rfl) (cq_ok (cr_iconst2 (n := 1) (by decide +kernel) (by decide +kernel) rfl) (cq_ok (cr_iand (by decide +kernel) rfl) (cq_ok (cr_iconst2 (n := 1) (by decide +kernel) (by decide +kernel) rfl) (cr_ic_ne (off := 7) (by decide +kernel) (by decide) rfl)))))
set_option maxRecDepth 100000 in
theorem cb_X9_isBrought_25 : ci_ok yX9_isBrought cX9_isBrought 7 25 (ci_seq (ci_push (.int 1) 26) 26 (ci_go 30)) := cq_ok (cr_iconst2 (n := 1) (by decide +kernel) (by decide +kernel) rfl) (cr_goto (off := 4) (by decide +kernel) (by decide))
set_option maxRecDepth 100000 in
theorem cb_X9_isBrought_29 : ci_ok yX9_isBrought cX9_isBrought 7 29 (ci_push (.int 0) 30) := cr_iconst2 (n := 0) (by decide +kernel) (by decide +kernel) rfl
set_option maxRecDepth 100000 in
theorem cb_X9_isBrought_30 : ci_ok yX9_isBrought cX9_isBrought 7 30 (ci_seq (ci_store 0 5 32) 32 (ci_seq (ci_load 0 3 33) 33 (ci_if (fun x => decide (x ≤ 0)) 43 36))) := cq_ok (cr_istore (by decide +kernel) (by decide) rfl) (cq_ok (cr_iload_n (k := 3) (by decide +kernel) rfl rfl) (cr_if_le (off := 10) (by decide +kernel) (by decide) rfl))
set_option maxRecDepth 100000 in
theorem cb_X9_isBrought_36 : ci_ok yX9_isBrought cX9_isBrought 7 36 (ci_seq (ci_load 2 0 37) 37 (ci_seq (ci_getf 9 38 40) 40 (ci_seq (ci_push (.int 0) 41) 41 (ci_seq (ci_push (.int 0) 42) 42 (ci_ast .int 43))))) := cq_ok (cr_aload_n (k := 0) (by decide +kernel) rfl rfl) (cq_ok (cr_getf (idx := 53) zc_9 (by decide) zl_426 (by decide +kernel) rfl) (cq_ok (cr_iconst2 (n := 0) (by decide +kernel) (by decide +kernel) rfl) (cq_ok (cr_iconst2 (n := 0) (by decide +kernel) (by decide +kernel) rfl) (cr_ast (ins := .iastore) rfl (by decide +kernel) (Or.inl ⟨rfl, rfl⟩)))))
set_option maxRecDepth 100000 in
theorem cb_X9_isBrought_43 : ci_ok yX9_isBrought cX9_isBrought 7 43 (ci_seq (ci_load 0 3 44) 44 (ci_if (fun x => decide (x ≤ 0)) 220 47)) := cq_ok (cr_iload_n (k := 3) (by decide +kernel) rfl rfl) (cr_if_le (off := 176) (by decide +kernel) (by decide) rfl)
set_option maxRecDepth 100000 in
theorem cb_X9_isBrought_47 : ci_ok yX9_isBrought cX9_isBrought 7 47 (ci_seq (ci_load 0 4 49) 49 (ci_if (fun x => decide (x < 0)) 220 52)) := cq_ok (cr_iload (by decide +kernel) rfl) (cr_if_lt (off := 171) (by decide +kernel) (by decide) rfl)
set_option maxRecDepth 100000 in
theorem cb_X9_isBrought_52 : ci_ok yX9_isBrought cX9_isBrought 7 52 (ci_seq (ci_load 0 5 54) 54 (ci_if (fun x => !decide (x = 0)) 220 57)) := cq_ok (cr_iload (by decide +kernel) rfl) (cr_if_ne (off := 166) (by decide +kernel) (by decide) rfl)
set_option maxRecDepth 100000 in
theorem cb_X9_isBrought_57 : ci_ok yX9_isBrought cX9_isBrought 7 57 (ci_seq (ci_load 2 0 58) 58 (ci_seq (ci_getf 9 38 61) 61 (ci_seq (ci_load 0 4 63) 63 (ci_seq (ci_ald .int 64) 64 (ci_seq (ci_load 2 0 65) 65 (ci_seq (ci_getf 9 40 68) 68 (ci_seq (ci_load 0 4 70) 70 (ci_seq (ci_ald .int 71) 71 (ci_ic (fun x y => !decide (x = y)) 96 74))))))))) := cq_ok (cr_aload_n (k := 0) (by decide +kernel) rfl rfl) (cq_ok (cr_getf (idx := 53) zc_9 (by decide) zl_426 (by decide +kernel) rfl) (cq_ok (cr_iload (by decide +kernel) rfl) (cq_ok (cr_ald (ins := .iaload) rfl (by decide +kernel) (Or.inl ⟨rfl, rfl⟩)) (cq_ok (cr_aload_n (k := 0) (by decide +kernel) rfl rfl) (cq_ok (cr_getf (idx := 59) zc_9 (by decide) zl_424 (by decide +kernel) rfl) (cq_ok (cr_iload (by decide +kernel) rfl) (cq_ok (cr_ald (ins := .iaload) rfl (by decide +kernel) (Or.inl ⟨rfl, rfl⟩)) (cr_ic_ne (off := 25) (by decide +kernel) (by decide) rfl))))))))
set_option maxRecDepth 100000 in
theorem cb_X9_isBrought_74 : ci_ok yX9_isBrought cX9_isBrought 7 74 (ci_seq (ci_inc 4 (-1) 77) 77 (ci_seq (ci_load 0 4 79) 79 (ci_if (fun x => decide (x < 0)) 43 82))) := cq_ok (ci_inc_ok (by decide) (by decide +kernel) rfl) (cq_ok (cr_iload (by decide +kernel) rfl) (cr_if_lt (off := -36) (by decide +kernel) (by decide) rfl))
set_option maxRecDepth 100000 in
theorem cb_X9_isBrought_82 : ci_ok yX9_isBrought cX9_isBrought 7 82 (ci_seq (ci_load 2 0 83) 83 (ci_seq (ci_getf 9 38 86) 86 (ci_seq (ci_load 0 4 88) 88 (ci_seq (ci_dup2 89) 89 (ci_seq (ci_ald .int 90) 90 (ci_seq (ci_push (.int 1) 91) 91 (ci_seq (ci_bin (fun a b => a + b) 92) 92 (ci_seq (ci_ast .int 93) 93 (ci_go 43))))))))) := cq_ok (cr_aload_n (k := 0) (by decide +kernel) rfl rfl) (cq_ok (cr_getf (idx := 53) zc_9 (by decide) zl_426 (by decide +kernel) rfl) (cq_ok (cr_iload (by decide +kernel) rfl) (cq_ok (cr_dup2 (by decide +kernel) rfl) (cq_ok (cr_ald (ins := .iaload) rfl (by decide +kernel) (Or.inl ⟨rfl, rfl⟩)) (cq_ok (cr_iconst2 (n := 1) (by decide +kernel) (by decide +kernel) rfl) (cq_ok (cr_iadd (by decide +kernel) rfl) (cq_ok (cr_ast (ins := .iastore) rfl (by decide +kernel) (Or.inl ⟨rfl, rfl⟩)) (cr_goto (off := -50) (by decide +kernel) (by decide)))))))))
set_option maxRecDepth 100000 in
theorem cb_X9_isBrought_96 : ci_ok yX9_isBrought cX9_isBrought 7 96 (ci_seq (ci_load 2 0 97) 97 (ci_load 0 4 99)) := cq_ok (cr_aload_n (k := 0) (by decide +kernel) rfl rfl) (cr_iload (by decide +kernel) rfl)
set_option maxRecDepth 100000 in
theorem cl_X9_isBrought_99 : ci_calls yX9_isBrought cX9_isBrought 7 99 yX9_leaves 2 (some 9) := cr_callV (idx := 303) zl_1054 ⟨by decide, by decide⟩ (by decide +kernel) zc_9 zl_593 zl_594 (Or.inl zl_592) (by decide +kernel)
set_option maxRecDepth 100000 in
theorem cb_X9_isBrought_102 : ci_ok yX9_isBrought cX9_isBrought 7 102 (ci_seq (ci_load 2 0 103) 103 (ci_seq (ci_getf 9 39 106) 106 (ci_seq (ci_push (.int 9) 108) 108 (ci_seq (ci_load 0 4 110) 110 (ci_seq (ci_bin (fun a b => a * b) 111) 111 (ci_seq (ci_load 2 0 112) 112 (ci_seq (ci_getf 9 38 115) 115 (ci_seq (ci_load 0 4 117) 117 (ci_seq (ci_ald .int 118) 118 (ci_seq (ci_bin (fun a b => a + b) 119) 119 (ci_seq (ci_ald .int 120) 120 (ci_seq (ci_store 0 6 122) 122 (ci_seq (ci_load 2 0 123) 123 (ci_seq (ci_load 0 6 125) 125 (ci_seq (ci_push (.int 25) 127) 127 (ci_ic (fun x y => !decide (x = y)) 134 130)))))))))))))))) := cq_ok (cr_aload_n (k := 0) (by decide +kernel) rfl rfl) (cq_ok (cr_getf (idx := 56) zc_9 (by decide) zl_425 (by decide +kernel) rfl) (cq_ok (cr_bipush (n := 9) (by decide +kernel) (by decide +kernel) rfl) (cq_ok (cr_iload (by decide +kernel) rfl) (cq_ok (cr_imul (by decide +kernel) rfl) (cq_ok (cr_aload_n (k := 0) (by decide +kernel) rfl rfl) (cq_ok (cr_getf (idx := 53) zc_9 (by decide) zl_426 (by decide +kernel) rfl) (cq_ok (cr_iload (by decide +kernel) rfl) (cq_ok (cr_ald (ins := .iaload) rfl (by decide +kernel) (Or.inl ⟨rfl, rfl⟩)) (cq_ok (cr_iadd (by decide +kernel) rfl) (cq_ok (cr_ald (ins := .iaload) rfl (by decide +kernel) (Or.inl ⟨rfl, rfl⟩)) (cq_ok (cr_istore (by decide +kernel) (by decide) rfl) (cq_ok (cr_aload_n (k := 0) (by decide +kernel) rfl rfl) (cq_ok (cr_iload (by decide +kernel) rfl) (cq_ok (cr_bipush (n := 25) (by decide +kernel) (by decide +kernel) rfl) (cr_ic_ne (off := 7) (by decide +kernel) (by decide) rfl)))))))))))))))
set_option maxRecDepth 100000 in
theorem cb_X9_isBrought_130 : ci_ok yX9_isBrought cX9_isBrought 7 130 (ci_seq (ci_push (.int 0) 131) 131 (ci_go 143)) := cq_ok (cr_iconst2 (n := 0) (by decide +kernel) (by decide +kernel) rfl) (cr_goto (off := 12) (by decide +kernel) (by decide))
set_option maxRecDepth 100000 in
theorem cb_X9_isBrought_134 : ci_ok yX9_isBrought cX9_isBrought 7 134 (ci_load 0 1 135) := cr_iload_n (k := 1) (by decide +kernel) rfl rfl
set_option maxRecDepth 100000 in
theorem cl_X9_isBrought_135 : ci_calls yX9_isBrought cX9_isBrought 7 135 yX9_timesOf 1 none := cr_callS (idx := 292) zl_1037 zl_654 ⟨by decide, by decide⟩ (by decide +kernel) zl_585 (Or.inl zl_584) (by decide +kernel)
set_option maxRecDepth 100000 in
theorem cb_X9_isBrought_138 : ci_ok yX9_isBrought cX9_isBrought 7 138 (ci_seq (ci_load 0 6 140) 140 (ci_seq (ci_push (.int 1) 141) 141 (ci_seq (ci_bin (fun a b => a + b) 142) 142 (ci_bin (fun a b => a * b) 143)))) := cq_ok (cr_iload (by decide +kernel) rfl) (cq_ok (cr_iconst2 (n := 1) (by decide +kernel) (by decide +kernel) rfl) (cq_ok (cr_iadd (by decide +kernel) rfl) (cr_imul (by decide +kernel) rfl)))
set_option maxRecDepth 100000 in
theorem cl_X9_isBrought_143 : ci_calls yX9_isBrought cX9_isBrought 7 143 yX9_goes 2 (some 9) := cr_callV (idx := 280) zl_1041 ⟨by decide, by decide⟩ (by decide +kernel) zc_9 zl_573 zl_574 (Or.inl zl_572) (by decide +kernel)
set_option maxRecDepth 100000 in
theorem cb_X9_isBrought_146 : ci_ok yX9_isBrought cX9_isBrought 7 146 (ci_seq (ci_load 0 4 148) 148 (ci_seq (ci_load 0 3 149) 149 (ci_seq (ci_push (.int 1) 150) 150 (ci_seq (ci_bin (fun a b => a - b) 151) 151 (ci_ic (fun x y => !decide (x = y)) 199 154))))) := cq_ok (cr_iload (by decide +kernel) rfl) (cq_ok (cr_iload_n (k := 3) (by decide +kernel) rfl rfl) (cq_ok (cr_iconst2 (n := 1) (by decide +kernel) (by decide +kernel) rfl) (cq_ok (cr_isub (by decide +kernel) rfl) (cr_ic_ne (off := 48) (by decide +kernel) (by decide) rfl))))
set_option maxRecDepth 100000 in
theorem cb_X9_isBrought_154 : ci_ok yX9_isBrought cX9_isBrought 7 154 (ci_load 2 0 155) := cr_aload_n (k := 0) (by decide +kernel) rfl rfl
set_option maxRecDepth 100000 in
theorem cl_X9_isBrought_155 : ci_calls yX9_isBrought cX9_isBrought 7 155 yX9_bedNow 1 (some 9) := cr_callV (idx := 230) zl_1020 ⟨by decide, by decide⟩ (by decide +kernel) zc_9 zl_533 zl_534 (Or.inl zl_532) (by decide +kernel)
set_option maxRecDepth 100000 in
theorem cb_X9_isBrought_158 : ci_ok yX9_isBrought cX9_isBrought 7 158 (ci_seq (ci_load 0 2 159) 159 (ci_seq (ci_bin (fun a b => a >>> (b &&& 31)) 160) 160 (ci_seq (ci_push (.int 1) 161) 161 (ci_seq (ci_bin (fun a b => a &&& b) 162) 162 (ci_seq (ci_push (.int 1) 163) 163 (ci_ic (fun x y => !decide (x = y)) 170 166)))))) := cq_ok (cr_iload_n (k := 2) (by decide +kernel) rfl rfl) (cq_ok (cr_ishr (by decide +kernel) rfl) (cq_ok (cr_iconst2 (n := 1) (by decide +kernel) (by decide +kernel) rfl) (cq_ok (cr_iand (by decide +kernel) rfl) (cq_ok (cr_iconst2 (n := 1) (by decide +kernel) (by decide +kernel) rfl) (cr_ic_ne (off := 7) (by decide +kernel) (by decide) rfl)))))
set_option maxRecDepth 100000 in
theorem cb_X9_isBrought_166 : ci_ok yX9_isBrought cX9_isBrought 7 166 (ci_seq (ci_push (.int 1) 167) 167 (ci_go 171)) := cq_ok (cr_iconst2 (n := 1) (by decide +kernel) (by decide +kernel) rfl) (cr_goto (off := 4) (by decide +kernel) (by decide))
set_option maxRecDepth 100000 in
theorem cb_X9_isBrought_170 : ci_ok yX9_isBrought cX9_isBrought 7 170 (ci_push (.int 0) 171) := cr_iconst2 (n := 0) (by decide +kernel) (by decide +kernel) rfl
set_option maxRecDepth 100000 in
theorem cb_X9_isBrought_171 : ci_ok yX9_isBrought cX9_isBrought 7 171 (ci_seq (ci_store 0 5 173) 173 (ci_seq (ci_load 2 0 174) 174 (ci_seq (ci_getf 9 38 177) 177 (ci_seq (ci_load 0 4 179) 179 (ci_seq (ci_dup2 180) 180 (ci_seq (ci_ald .int 181) 181 (ci_seq (ci_load 0 5 183) 183 (ci_if (fun x => !decide (x = 0)) 190 186)))))))) := cq_ok (cr_istore (by decide +kernel) (by decide) rfl) (cq_ok (cr_aload_n (k := 0) (by decide +kernel) rfl rfl) (cq_ok (cr_getf (idx := 53) zc_9 (by decide) zl_426 (by decide +kernel) rfl) (cq_ok (cr_iload (by decide +kernel) rfl) (cq_ok (cr_dup2 (by decide +kernel) rfl) (cq_ok (cr_ald (ins := .iaload) rfl (by decide +kernel) (Or.inl ⟨rfl, rfl⟩)) (cq_ok (cr_iload (by decide +kernel) rfl) (cr_if_ne (off := 7) (by decide +kernel) (by decide) rfl)))))))
set_option maxRecDepth 100000 in
theorem cb_X9_isBrought_186 : ci_ok yX9_isBrought cX9_isBrought 7 186 (ci_seq (ci_push (.int 1) 187) 187 (ci_go 191)) := cq_ok (cr_iconst2 (n := 1) (by decide +kernel) (by decide +kernel) rfl) (cr_goto (off := 4) (by decide +kernel) (by decide))
set_option maxRecDepth 100000 in
theorem cb_X9_isBrought_190 : ci_ok yX9_isBrought cX9_isBrought 7 190 (ci_push (.int 0) 191) := cr_iconst2 (n := 0) (by decide +kernel) (by decide +kernel) rfl
set_option maxRecDepth 100000 in
theorem cl_X9_isBrought_191 : ci_calls yX9_isBrought cX9_isBrought 7 191 yX9_flag 1 none := cr_callS (idx := 237) zl_993 zl_654 ⟨by decide, by decide⟩ (by decide +kernel) zl_539 (Or.inl zl_538) (by decide +kernel)
set_option maxRecDepth 100000 in
theorem cb_X9_isBrought_194 : ci_ok yX9_isBrought cX9_isBrought 7 194 (ci_seq (ci_bin (fun a b => a + b) 195) 195 (ci_seq (ci_ast .int 196) 196 (ci_go 217))) := cq_ok (cr_iadd (by decide +kernel) rfl) (cq_ok (cr_ast (ins := .iastore) rfl (by decide +kernel) (Or.inl ⟨rfl, rfl⟩)) (cr_goto (off := 21) (by decide +kernel) (by decide)))
set_option maxRecDepth 100000 in
theorem cb_X9_isBrought_199 : ci_ok yX9_isBrought cX9_isBrought 7 199 (ci_seq (ci_inc 4 1 202) 202 (ci_seq (ci_load 2 0 203) 203 (ci_seq (ci_load 0 1 204) 204 (ci_load 0 4 206)))) := cq_ok (ci_inc_ok (by decide) (by decide +kernel) rfl) (cq_ok (cr_aload_n (k := 0) (by decide +kernel) rfl rfl) (cq_ok (cr_iload_n (k := 1) (by decide +kernel) rfl rfl) (cr_iload (by decide +kernel) rfl)))
set_option maxRecDepth 100000 in
theorem cl_X9_isBrought_206 : ci_calls yX9_isBrought cX9_isBrought 7 206 yX9_enters 3 (some 9) := cr_callV (idx := 299) zl_1053 ⟨by decide, by decide⟩ (by decide +kernel) zc_9 zl_590 zl_591 (Or.inl zl_589) (by decide +kernel)
set_option maxRecDepth 100000 in
theorem cb_X9_isBrought_209 : ci_ok yX9_isBrought cX9_isBrought 7 209 (ci_seq (ci_load 2 0 210) 210 (ci_seq (ci_getf 9 38 213) 213 (ci_seq (ci_load 0 4 215) 215 (ci_seq (ci_push (.int 0) 216) 216 (ci_ast .int 217))))) := cq_ok (cr_aload_n (k := 0) (by decide +kernel) rfl rfl) (cq_ok (cr_getf (idx := 53) zc_9 (by decide) zl_426 (by decide +kernel) rfl) (cq_ok (cr_iload (by decide +kernel) rfl) (cq_ok (cr_iconst2 (n := 0) (by decide +kernel) (by decide +kernel) rfl) (cr_ast (ins := .iastore) rfl (by decide +kernel) (Or.inl ⟨rfl, rfl⟩)))))
set_option maxRecDepth 100000 in
theorem cb_X9_isBrought_217 : ci_ok yX9_isBrought cX9_isBrought 7 217 (ci_go 43) := cr_goto (off := -174) (by decide +kernel) (by decide)
set_option maxRecDepth 100000 in
theorem cb_X9_isBrought_220 : ci_ok yX9_isBrought cX9_isBrought 7 220 (ci_seq (ci_load 2 0 221) 221 (ci_push (.int 0) 222)) := cq_ok (cr_aload_n (k := 0) (by decide +kernel) rfl rfl) (cr_iconst2 (n := 0) (by decide +kernel) (by decide +kernel) rfl)
set_option maxRecDepth 100000 in
theorem cl_X9_isBrought_222 : ci_calls yX9_isBrought cX9_isBrought 7 222 yX9_leaves 2 (some 9) := cr_callV (idx := 303) zl_1054 ⟨by decide, by decide⟩ (by decide +kernel) zc_9 zl_593 zl_594 (Or.inl zl_592) (by decide +kernel)
set_option maxRecDepth 100000 in
theorem cb_X9_isBrought_225 : ci_ok yX9_isBrought cX9_isBrought 7 225 (ci_load 0 5 227) := cr_iload (by decide +kernel) rfl
set_option maxRecDepth 100000 in
theorem cd_X9_isBrought_227 : decode cX9_isBrought 227 = .ok (zi_rop (some .boolean), 1) := by decide +kernel
set_option maxRecDepth 100000 in
theorem cb_X9_alone_0 : ci_ok yX9_alone cX9_alone 5 0 (ci_seq (ci_load 2 0 1) 1 (ci_load 0 1 2)) := cq_ok (cr_aload_n (k := 0) (by decide +kernel) rfl rfl) (cr_iload_n (k := 1) (by decide +kernel) rfl rfl)
set_option maxRecDepth 100000 in
theorem cl_X9_alone_2 : ci_calls yX9_alone cX9_alone 5 2 yX9_isFarm 2 (some 9) := cr_callV (idx := 245) zl_1015 ⟨by decide, by decide⟩ (by decide +kernel) zc_9 zl_544 zl_545 (Or.inl zl_543) (by decide +kernel)
set_option maxRecDepth 100000 in
theorem cb_X9_alone_5 : ci_ok yX9_alone cX9_alone 5 5 (ci_if (fun x => decide (x = 0)) 34 8) := cr_if_eq (off := 29) (by decide +kernel) (by decide) rfl
set_option maxRecDepth 100000 in
theorem cb_X9_alone_8 : ci_ok yX9_alone cX9_alone 5 8 (ci_seq (ci_load 2 0 9) 9 (ci_load 0 2 10)) := cq_ok (cr_aload_n (k := 0) (by decide +kernel) rfl rfl) (cr_iload_n (k := 2) (by decide +kernel) rfl rfl)
set_option maxRecDepth 100000 in
theorem cl_X9_alone_10 : ci_calls yX9_alone cX9_alone 5 10 yX9_isCell 2 (some 9) := cr_callV (idx := 241) zl_1014 ⟨by decide, by decide⟩ (by decide +kernel) zc_9 zl_541 zl_542 (Or.inl zl_540) (by decide +kernel)
set_option maxRecDepth 100000 in
theorem cb_X9_alone_13 : ci_ok yX9_alone cX9_alone 5 13 (ci_if (fun x => decide (x = 0)) 34 16) := cr_if_eq (off := 21) (by decide +kernel) (by decide) rfl
set_option maxRecDepth 100000 in
theorem cb_X9_alone_16 : ci_ok yX9_alone cX9_alone 5 16 (ci_seq (ci_load 0 3 17) 17 (ci_if (fun x => decide (x = 0)) 36 20)) := cq_ok (cr_iload_n (k := 3) (by decide +kernel) rfl rfl) (cr_if_eq (off := 19) (by decide +kernel) (by decide) rfl)
set_option maxRecDepth 100000 in
theorem cb_X9_alone_20 : ci_ok yX9_alone cX9_alone 5 20 (ci_seq (ci_load 0 3 21) 21 (ci_seq (ci_i2l 22) 22 (ci_seq (ci_push (.long 10) 25) 25 (ci_push (.long 12) 28)))) := cq_ok (cr_iload_n (k := 3) (by decide +kernel) rfl rfl) (cq_ok (cr_i2l (by decide +kernel) rfl) (cq_ok (cr_ldc2 zl_596 (by decide +kernel) rfl) (cr_ldc2 zl_595 (by decide +kernel) rfl)))
set_option maxRecDepth 100000 in
theorem cl_X9_alone_28 : ci_calls yX9_alone cX9_alone 5 28 yX9_in 3 none := cr_callS (idx := 134) zl_992 zl_654 ⟨by decide, by decide⟩ (by decide +kernel) zl_467 (Or.inl zl_466) (by decide +kernel)
set_option maxRecDepth 100000 in
theorem cb_X9_alone_31 : ci_ok yX9_alone cX9_alone 5 31 (ci_if (fun x => !decide (x = 0)) 36 34) := cr_if_ne (off := 5) (by decide +kernel) (by decide) rfl
set_option maxRecDepth 100000 in
theorem cb_X9_alone_34 : ci_ok yX9_alone cX9_alone 5 34 (ci_push (.int (-1)) 35) := cr_iconst2 (n := -1) (by decide +kernel) (by decide +kernel) rfl
set_option maxRecDepth 100000 in
theorem cd_X9_alone_35 : decode cX9_alone 35 = .ok (zi_rop (some .int), 1) := by decide +kernel
set_option maxRecDepth 100000 in
theorem cb_X9_alone_36 : ci_ok yX9_alone cX9_alone 5 36 (ci_seq (ci_push (.int 0) 37) 37 (ci_store 0 4 39)) := cq_ok (cr_iconst2 (n := 0) (by decide +kernel) (by decide +kernel) rfl) (cr_istore (by decide +kernel) (by decide) rfl)
set_option maxRecDepth 100000 in
theorem cb_X9_alone_39 : ci_ok yX9_alone cX9_alone 5 39 (ci_seq (ci_load 0 4 41) 41 (ci_seq (ci_push (.int 3) 42) 42 (ci_ic (fun x y => decide (y < x)) 108 45))) := cq_ok (cr_iload (by decide +kernel) rfl) (cq_ok (cr_iconst2 (n := 3) (by decide +kernel) (by decide +kernel) rfl) (cr_ic_gt (off := 66) (by decide +kernel) (by decide) rfl))
set_option maxRecDepth 100000 in
theorem cb_X9_alone_45 : ci_ok yX9_alone cX9_alone 5 45 (ci_seq (ci_load 2 0 46) 46 (ci_seq (ci_load 0 1 47) 47 (ci_seq (ci_load 0 2 48) 48 (ci_load 0 4 50)))) := cq_ok (cr_aload_n (k := 0) (by decide +kernel) rfl rfl) (cq_ok (cr_iload_n (k := 1) (by decide +kernel) rfl rfl) (cq_ok (cr_iload_n (k := 2) (by decide +kernel) rfl rfl) (cr_iload (by decide +kernel) rfl)))
set_option maxRecDepth 100000 in
theorem cl_X9_alone_50 : ci_calls yX9_alone cX9_alone 5 50 yX9_isBrought 4 (some 9) := cr_callV (idx := 310) zl_1055 ⟨by decide, by decide⟩ (by decide +kernel) zc_9 zl_598 zl_599 (Or.inl zl_597) (by decide +kernel)
set_option maxRecDepth 100000 in
theorem cb_X9_alone_53 : ci_ok yX9_alone cX9_alone 5 53 (ci_if (fun x => decide (x = 0)) 102 56) := cr_if_eq (off := 49) (by decide +kernel) (by decide) rfl
set_option maxRecDepth 100000 in
theorem cb_X9_alone_56 : ci_ok yX9_alone cX9_alone 5 56 (ci_seq (ci_load 0 3 57) 57 (ci_if (fun x => !decide (x = 0)) 65 60)) := cq_ok (cr_iload_n (k := 3) (by decide +kernel) rfl rfl) (cr_if_ne (off := 8) (by decide +kernel) (by decide) rfl)
set_option maxRecDepth 100000 in
theorem cb_X9_alone_60 : ci_ok yX9_alone cX9_alone 5 60 (ci_seq (ci_load 0 4 62) 62 (ci_go 101)) := cq_ok (cr_iload (by decide +kernel) rfl) (cr_goto (off := 39) (by decide +kernel) (by decide))
set_option maxRecDepth 100000 in
theorem cb_X9_alone_65 : ci_ok yX9_alone cX9_alone 5 65 (ci_seq (ci_load 0 3 66) 66 (ci_seq (ci_push (.int 10) 68) 68 (ci_seq (ci_bin (fun a b => a - b) 69) 69 (ci_seq (ci_load 0 4 71) 71 (ci_ic (fun x y => decide (y ≤ x)) 99 74))))) := cq_ok (cr_iload_n (k := 3) (by decide +kernel) rfl rfl) (cq_ok (cr_bipush (n := 10) (by decide +kernel) (by decide +kernel) rfl) (cq_ok (cr_isub (by decide +kernel) rfl) (cq_ok (cr_iload (by decide +kernel) rfl) (cr_ic_ge (off := 28) (by decide +kernel) (by decide) rfl))))
set_option maxRecDepth 100000 in
theorem cb_X9_alone_74 : ci_ok yX9_alone cX9_alone 5 74 (ci_seq (ci_load 2 0 75) 75 (ci_seq (ci_getf 9 39 78) 78 (ci_seq (ci_push (.int 9) 80) 80 (ci_seq (ci_load 0 3 81) 81 (ci_seq (ci_push (.int 10) 83) 83 (ci_seq (ci_bin (fun a b => a - b) 84) 84 (ci_seq (ci_bin (fun a b => a * b) 85) 85 (ci_seq (ci_load 2 0 86) 86 (ci_seq (ci_getf 9 38 89) 89 (ci_seq (ci_load 0 3 90) 90 (ci_seq (ci_push (.int 10) 92) 92 (ci_seq (ci_bin (fun a b => a - b) 93) 93 (ci_seq (ci_ald .int 94) 94 (ci_seq (ci_bin (fun a b => a + b) 95) 95 (ci_seq (ci_ald .int 96) 96 (ci_go 101)))))))))))))))) := cq_ok (cr_aload_n (k := 0) (by decide +kernel) rfl rfl) (cq_ok (cr_getf (idx := 56) zc_9 (by decide) zl_425 (by decide +kernel) rfl) (cq_ok (cr_bipush (n := 9) (by decide +kernel) (by decide +kernel) rfl) (cq_ok (cr_iload_n (k := 3) (by decide +kernel) rfl rfl) (cq_ok (cr_bipush (n := 10) (by decide +kernel) (by decide +kernel) rfl) (cq_ok (cr_isub (by decide +kernel) rfl) (cq_ok (cr_imul (by decide +kernel) rfl) (cq_ok (cr_aload_n (k := 0) (by decide +kernel) rfl rfl) (cq_ok (cr_getf (idx := 53) zc_9 (by decide) zl_426 (by decide +kernel) rfl) (cq_ok (cr_iload_n (k := 3) (by decide +kernel) rfl rfl) (cq_ok (cr_bipush (n := 10) (by decide +kernel) (by decide +kernel) rfl) (cq_ok (cr_isub (by decide +kernel) rfl) (cq_ok (cr_ald (ins := .iaload) rfl (by decide +kernel) (Or.inl ⟨rfl, rfl⟩)) (cq_ok (cr_iadd (by decide +kernel) rfl) (cq_ok (cr_ald (ins := .iaload) rfl (by decide +kernel) (Or.inl ⟨rfl, rfl⟩)) (cr_goto (off := 5) (by decide +kernel) (by decide))))))))))))))))
set_option maxRecDepth 100000 in
theorem cb_X9_alone_99 : ci_ok yX9_alone cX9_alone 5 99 (ci_push (.int (-4)) 101) := cr_bipush (n := -4) (by decide +kernel) (by decide +kernel) rfl
set_option maxRecDepth 100000 in
theorem cd_X9_alone_101 : decode cX9_alone 101 = .ok (zi_rop (some .int), 1) := by decide +kernel
set_option maxRecDepth 100000 in
theorem cb_X9_alone_102 : ci_ok yX9_alone cX9_alone 5 102 (ci_seq (ci_inc 4 1 105) 105 (ci_go 39)) := cq_ok (ci_inc_ok (by decide) (by decide +kernel) rfl) (cr_goto (off := -66) (by decide +kernel) (by decide))
set_option maxRecDepth 100000 in
theorem cb_X9_alone_108 : ci_ok yX9_alone cX9_alone 5 108 (ci_push (.int (-4)) 110) := cr_bipush (n := -4) (by decide +kernel) (by decide +kernel) rfl
set_option maxRecDepth 100000 in
theorem cd_X9_alone_110 : decode cX9_alone 110 = .ok (zi_rop (some .int), 1) := by decide +kernel
set_option maxRecDepth 100000 in
theorem cb_X9_cutsOf_0 : ci_ok yX9_cutsOf cX9_cutsOf 3 0 (ci_seq (ci_push (.int 0) 1) 1 (ci_seq (ci_store 0 1 2) 2 (ci_seq (ci_push (.int 0) 3) 3 (ci_store 0 2 4)))) := cq_ok (cr_iconst2 (n := 0) (by decide +kernel) (by decide +kernel) rfl) (cq_ok (cr_istore_n (k := 1) (by decide +kernel) rfl (by decide) rfl) (cq_ok (cr_iconst2 (n := 0) (by decide +kernel) (by decide +kernel) rfl) (cr_istore_n (k := 2) (by decide +kernel) rfl (by decide) rfl)))
set_option maxRecDepth 100000 in
theorem cb_X9_cutsOf_4 : ci_ok yX9_cutsOf cX9_cutsOf 3 4 (ci_seq (ci_load 0 2 5) 5 (ci_seq (ci_push (.int 3) 6) 6 (ci_ic (fun x y => decide (y ≤ x)) 34 9))) := cq_ok (cr_iload_n (k := 2) (by decide +kernel) rfl rfl) (cq_ok (cr_iconst2 (n := 3) (by decide +kernel) (by decide +kernel) rfl) (cr_ic_ge (off := 28) (by decide +kernel) (by decide) rfl))
set_option maxRecDepth 100000 in
theorem cb_X9_cutsOf_9 : ci_ok yX9_cutsOf cX9_cutsOf 3 9 (ci_seq (ci_load 0 1 10) 10 (ci_seq (ci_load 0 0 11) 11 (ci_load 0 2 12))) := cq_ok (cr_iload_n (k := 1) (by decide +kernel) rfl rfl) (cq_ok (cr_iload_n (k := 0) (by decide +kernel) rfl rfl) (cr_iload_n (k := 2) (by decide +kernel) rfl rfl))
set_option maxRecDepth 100000 in
theorem cl_X9_cutsOf_12 : ci_calls yX9_cutsOf cX9_cutsOf 3 12 yX9_cutOf 2 none := cr_callS (idx := 265) zl_1036 zl_654 ⟨by decide, by decide⟩ (by decide +kernel) zl_560 (Or.inl zl_559) (by decide +kernel)
set_option maxRecDepth 100000 in
theorem cb_X9_cutsOf_15 : ci_ok yX9_cutsOf cX9_cutsOf 3 15 (ci_if (fun x => decide (x < 0)) 22 18) := cr_if_lt (off := 7) (by decide +kernel) (by decide) rfl
set_option maxRecDepth 100000 in
theorem cb_X9_cutsOf_18 : ci_ok yX9_cutsOf cX9_cutsOf 3 18 (ci_seq (ci_push (.int 1) 19) 19 (ci_go 23)) := cq_ok (cr_iconst2 (n := 1) (by decide +kernel) (by decide +kernel) rfl) (cr_goto (off := 4) (by decide +kernel) (by decide))
set_option maxRecDepth 100000 in
theorem cb_X9_cutsOf_22 : ci_ok yX9_cutsOf cX9_cutsOf 3 22 (ci_push (.int 0) 23) := cr_iconst2 (n := 0) (by decide +kernel) (by decide +kernel) rfl
set_option maxRecDepth 100000 in
theorem cl_X9_cutsOf_23 : ci_calls yX9_cutsOf cX9_cutsOf 3 23 yX9_flag 1 none := cr_callS (idx := 237) zl_993 zl_654 ⟨by decide, by decide⟩ (by decide +kernel) zl_539 (Or.inl zl_538) (by decide +kernel)
set_option maxRecDepth 100000 in
theorem cb_X9_cutsOf_26 : ci_ok yX9_cutsOf cX9_cutsOf 3 26 (ci_seq (ci_bin (fun a b => a + b) 27) 27 (ci_seq (ci_store 0 1 28) 28 (ci_seq (ci_inc 2 1 31) 31 (ci_go 4)))) := cq_ok (cr_iadd (by decide +kernel) rfl) (cq_ok (cr_istore_n (k := 1) (by decide +kernel) rfl (by decide) rfl) (cq_ok (ci_inc_ok (by decide) (by decide +kernel) rfl) (cr_goto (off := -27) (by decide +kernel) (by decide))))
set_option maxRecDepth 100000 in
theorem cb_X9_cutsOf_34 : ci_ok yX9_cutsOf cX9_cutsOf 3 34 (ci_load 0 1 35) := cr_iload_n (k := 1) (by decide +kernel) rfl rfl
set_option maxRecDepth 100000 in
theorem cd_X9_cutsOf_35 : decode cX9_cutsOf 35 = .ok (zi_rop (some .int), 1) := by decide +kernel
set_option maxRecDepth 100000 in
theorem cb_X9_together_0 : ci_ok yX9_together cX9_together 9 0 (ci_seq (ci_load 2 0 1) 1 (ci_load 0 1 2)) := cq_ok (cr_aload_n (k := 0) (by decide +kernel) rfl rfl) (cr_iload_n (k := 1) (by decide +kernel) rfl rfl)
set_option maxRecDepth 100000 in
theorem cl_X9_together_2 : ci_calls yX9_together cX9_together 9 2 yX9_isCell 2 (some 9) := cr_callV (idx := 241) zl_1014 ⟨by decide, by decide⟩ (by decide +kernel) zc_9 zl_541 zl_542 (Or.inl zl_540) (by decide +kernel)
set_option maxRecDepth 100000 in
theorem cb_X9_together_5 : ci_ok yX9_together cX9_together 9 5 (ci_if (fun x => decide (x = 0)) 18 8) := cr_if_eq (off := 13) (by decide +kernel) (by decide) rfl
set_option maxRecDepth 100000 in
theorem cb_X9_together_8 : ci_ok yX9_together cX9_together 9 8 (ci_seq (ci_load 0 2 9) 9 (ci_seq (ci_i2l 10) 10 (ci_seq (ci_push (.long 0) 11) 11 (ci_push (.long 1) 12)))) := cq_ok (cr_iload_n (k := 2) (by decide +kernel) rfl rfl) (cq_ok (cr_i2l (by decide +kernel) rfl) (cq_ok (cr_lconst (n := 0) (by decide +kernel) (by decide +kernel) rfl) (cr_lconst (n := 1) (by decide +kernel) (by decide +kernel) rfl)))
set_option maxRecDepth 100000 in
theorem cl_X9_together_12 : ci_calls yX9_together cX9_together 9 12 yX9_in 3 none := cr_callS (idx := 134) zl_992 zl_654 ⟨by decide, by decide⟩ (by decide +kernel) zl_467 (Or.inl zl_466) (by decide +kernel)
set_option maxRecDepth 100000 in
theorem cb_X9_together_15 : ci_ok yX9_together cX9_together 9 15 (ci_if (fun x => !decide (x = 0)) 20 18) := cr_if_ne (off := 5) (by decide +kernel) (by decide) rfl
set_option maxRecDepth 100000 in
theorem cb_X9_together_18 : ci_ok yX9_together cX9_together 9 18 (ci_push (.int (-1)) 19) := cr_iconst2 (n := -1) (by decide +kernel) (by decide +kernel) rfl
set_option maxRecDepth 100000 in
theorem cd_X9_together_19 : decode cX9_together 19 = .ok (zi_rop (some .int), 1) := by decide +kernel
set_option maxRecDepth 100000 in
theorem cb_X9_together_20 : ci_ok yX9_together cX9_together 9 20 (ci_load 2 0 21) := cr_aload_n (k := 0) (by decide +kernel) rfl rfl
set_option maxRecDepth 100000 in
theorem cl_X9_together_21 : ci_calls yX9_together cX9_together 9 21 yX9_findOptions 1 (some 9) := cr_callV (idx := 313) zl_1049 ⟨by decide, by decide⟩ (by decide +kernel) zc_9 zl_601 zl_602 (Or.inl zl_600) (by decide +kernel)
set_option maxRecDepth 100000 in
theorem cb_X9_together_24 : ci_ok yX9_together cX9_together 9 24 (ci_seq (ci_push (.int (-4)) 26) 26 (ci_seq (ci_store 0 3 27) 27 (ci_seq (ci_push (.int (-4)) 29) 29 (ci_seq (ci_store 0 4 31) 31 (ci_seq (ci_push (.int 0) 32) 32 (ci_store 0 5 34)))))) := cq_ok (cr_bipush (n := -4) (by decide +kernel) (by decide +kernel) rfl) (cq_ok (cr_istore_n (k := 3) (by decide +kernel) rfl (by decide) rfl) (cq_ok (cr_bipush (n := -4) (by decide +kernel) (by decide +kernel) rfl) (cq_ok (cr_istore (by decide +kernel) (by decide) rfl) (cq_ok (cr_iconst2 (n := 0) (by decide +kernel) (by decide +kernel) rfl) (cr_istore (by decide +kernel) (by decide) rfl)))))
set_option maxRecDepth 100000 in
theorem cb_X9_together_34 : ci_ok yX9_together cX9_together 9 34 (ci_seq (ci_load 0 5 36) 36 (ci_load 2 0 37)) := cq_ok (cr_iload (by decide +kernel) rfl) (cr_aload_n (k := 0) (by decide +kernel) rfl rfl)
set_option maxRecDepth 100000 in
theorem cl_X9_together_37 : ci_calls yX9_together cX9_together 9 37 yX9_allOptions 1 (some 9) := cr_callV (idx := 316) zl_1050 ⟨by decide, by decide⟩ (by decide +kernel) zc_9 zl_604 zl_605 (Or.inl zl_603) (by decide +kernel)
set_option maxRecDepth 100000 in
theorem cb_X9_together_40 : ci_ok yX9_together cX9_together 9 40 (ci_ic (fun x y => decide (y ≤ x)) 136 43) := cr_ic_ge (off := 96) (by decide +kernel) (by decide) rfl
set_option maxRecDepth 100000 in
theorem cb_X9_together_43 : ci_ok yX9_together cX9_together 9 43 (ci_seq (ci_load 2 0 44) 44 (ci_load 0 5 46)) := cq_ok (cr_aload_n (k := 0) (by decide +kernel) rfl rfl) (cr_iload (by decide +kernel) rfl)
set_option maxRecDepth 100000 in
theorem cl_X9_together_46 : ci_calls yX9_together cX9_together 9 46 yX9_yearAt 2 (some 9) := cr_callV (idx := 319) zl_1052 ⟨by decide, by decide⟩ (by decide +kernel) zc_9 zl_610 zl_611 (Or.inl zl_609) (by decide +kernel)
set_option maxRecDepth 100000 in
theorem cb_X9_together_49 : ci_ok yX9_together cX9_together 9 49 (ci_seq (ci_store 0 6 51) 51 (ci_seq (ci_load 2 0 52) 52 (ci_load 0 6 54))) := cq_ok (cr_istore (by decide +kernel) (by decide) rfl) (cq_ok (cr_aload_n (k := 0) (by decide +kernel) rfl rfl) (cr_iload (by decide +kernel) rfl))
set_option maxRecDepth 100000 in
theorem cl_X9_together_54 : ci_calls yX9_together cX9_together 9 54 yX9_bedBy 2 (some 9) := cr_callV (idx := 322) zl_1044 ⟨by decide, by decide⟩ (by decide +kernel) zc_9 zl_607 zl_608 (Or.inl zl_606) (by decide +kernel)
set_option maxRecDepth 100000 in
theorem cb_X9_together_57 : ci_ok yX9_together cX9_together 9 57 (ci_seq (ci_load 0 1 58) 58 (ci_seq (ci_bin (fun a b => a >>> (b &&& 31)) 59) 59 (ci_seq (ci_push (.int 1) 60) 60 (ci_seq (ci_bin (fun a b => a &&& b) 61) 61 (ci_seq (ci_push (.int 1) 62) 62 (ci_ic (fun x y => !decide (x = y)) 130 65)))))) := cq_ok (cr_iload_n (k := 1) (by decide +kernel) rfl rfl) (cq_ok (cr_ishr (by decide +kernel) rfl) (cq_ok (cr_iconst2 (n := 1) (by decide +kernel) (by decide +kernel) rfl) (cq_ok (cr_iand (by decide +kernel) rfl) (cq_ok (cr_iconst2 (n := 1) (by decide +kernel) (by decide +kernel) rfl) (cr_ic_ne (off := 68) (by decide +kernel) (by decide) rfl)))))
set_option maxRecDepth 100000 in
theorem cb_X9_together_65 : ci_ok yX9_together cX9_together 9 65 (ci_load 0 6 67) := cr_iload (by decide +kernel) rfl
set_option maxRecDepth 100000 in
theorem cl_X9_together_67 : ci_calls yX9_together cX9_together 9 67 yX9_cutsOf 1 none := cr_callS (idx := 325) zl_1057 zl_654 ⟨by decide, by decide⟩ (by decide +kernel) zl_613 (Or.inl zl_612) (by decide +kernel)
set_option maxRecDepth 100000 in
theorem cb_X9_together_70 : ci_ok yX9_together cX9_together 9 70 (ci_seq (ci_store 0 7 72) 72 (ci_seq (ci_load 0 3 73) 73 (ci_seq (ci_push (.int (-4)) 75) 75 (ci_ic (fun x y => decide (x = y)) 97 78)))) := cq_ok (cr_istore (by decide +kernel) (by decide) rfl) (cq_ok (cr_iload_n (k := 3) (by decide +kernel) rfl rfl) (cq_ok (cr_bipush (n := -4) (by decide +kernel) (by decide +kernel) rfl) (cr_ic_eq (off := 22) (by decide +kernel) (by decide) rfl)))
set_option maxRecDepth 100000 in
theorem cb_X9_together_78 : ci_ok yX9_together cX9_together 9 78 (ci_seq (ci_load 0 7 80) 80 (ci_seq (ci_load 0 3 81) 81 (ci_ic (fun x y => decide (x < y)) 97 84))) := cq_ok (cr_iload (by decide +kernel) rfl) (cq_ok (cr_iload_n (k := 3) (by decide +kernel) rfl rfl) (cr_ic_lt (off := 16) (by decide +kernel) (by decide) rfl))
set_option maxRecDepth 100000 in
theorem cb_X9_together_84 : ci_ok yX9_together cX9_together 9 84 (ci_seq (ci_load 0 7 86) 86 (ci_seq (ci_load 0 3 87) 87 (ci_ic (fun x y => !decide (x = y)) 101 90))) := cq_ok (cr_iload (by decide +kernel) rfl) (cq_ok (cr_iload_n (k := 3) (by decide +kernel) rfl rfl) (cr_ic_ne (off := 14) (by decide +kernel) (by decide) rfl))
set_option maxRecDepth 100000 in
theorem cb_X9_together_90 : ci_ok yX9_together cX9_together 9 90 (ci_seq (ci_load 0 6 92) 92 (ci_seq (ci_load 0 4 94) 94 (ci_ic (fun x y => decide (y ≤ x)) 101 97))) := cq_ok (cr_iload (by decide +kernel) rfl) (cq_ok (cr_iload (by decide +kernel) rfl) (cr_ic_ge (off := 7) (by decide +kernel) (by decide) rfl))
set_option maxRecDepth 100000 in
theorem cb_X9_together_97 : ci_ok yX9_together cX9_together 9 97 (ci_seq (ci_push (.int 1) 98) 98 (ci_go 102)) := cq_ok (cr_iconst2 (n := 1) (by decide +kernel) (by decide +kernel) rfl) (cr_goto (off := 4) (by decide +kernel) (by decide))
set_option maxRecDepth 100000 in
theorem cb_X9_together_101 : ci_ok yX9_together cX9_together 9 101 (ci_push (.int 0) 102) := cr_iconst2 (n := 0) (by decide +kernel) (by decide +kernel) rfl
set_option maxRecDepth 100000 in
theorem cb_X9_together_102 : ci_ok yX9_together cX9_together 9 102 (ci_seq (ci_store 0 8 104) 104 (ci_seq (ci_load 0 8 106) 106 (ci_if (fun x => decide (x = 0)) 114 109))) := cq_ok (cr_istore (by decide +kernel) (by decide) rfl) (cq_ok (cr_iload (by decide +kernel) rfl) (cr_if_eq (off := 8) (by decide +kernel) (by decide) rfl))
set_option maxRecDepth 100000 in
theorem cb_X9_together_109 : ci_ok yX9_together cX9_together 9 109 (ci_seq (ci_load 0 7 111) 111 (ci_go 115)) := cq_ok (cr_iload (by decide +kernel) rfl) (cr_goto (off := 4) (by decide +kernel) (by decide))
set_option maxRecDepth 100000 in
theorem cb_X9_together_114 : ci_ok yX9_together cX9_together 9 114 (ci_load 0 3 115) := cr_iload_n (k := 3) (by decide +kernel) rfl rfl
set_option maxRecDepth 100000 in
theorem cb_X9_together_115 : ci_ok yX9_together cX9_together 9 115 (ci_seq (ci_store 0 3 116) 116 (ci_seq (ci_load 0 8 118) 118 (ci_if (fun x => decide (x = 0)) 126 121))) := cq_ok (cr_istore_n (k := 3) (by decide +kernel) rfl (by decide) rfl) (cq_ok (cr_iload (by decide +kernel) rfl) (cr_if_eq (off := 8) (by decide +kernel) (by decide) rfl))
set_option maxRecDepth 100000 in
theorem cb_X9_together_121 : ci_ok yX9_together cX9_together 9 121 (ci_seq (ci_load 0 6 123) 123 (ci_go 128)) := cq_ok (cr_iload (by decide +kernel) rfl) (cr_goto (off := 5) (by decide +kernel) (by decide))
set_option maxRecDepth 100000 in
theorem cb_X9_together_126 : ci_ok yX9_together cX9_together 9 126 (ci_load 0 4 128) := cr_iload (by decide +kernel) rfl
set_option maxRecDepth 100000 in
theorem cb_X9_together_128 : ci_ok yX9_together cX9_together 9 128 (ci_store 0 4 130) := cr_istore (by decide +kernel) (by decide) rfl
set_option maxRecDepth 100000 in
theorem cb_X9_together_130 : ci_ok yX9_together cX9_together 9 130 (ci_seq (ci_inc 5 1 133) 133 (ci_go 34)) := cq_ok (ci_inc_ok (by decide) (by decide +kernel) rfl) (cr_goto (off := -99) (by decide +kernel) (by decide))
set_option maxRecDepth 100000 in
theorem cb_X9_together_136 : ci_ok yX9_together cX9_together 9 136 (ci_seq (ci_load 0 2 137) 137 (ci_if (fun x => !decide (x = 0)) 144 140)) := cq_ok (cr_iload_n (k := 2) (by decide +kernel) rfl rfl) (cr_if_ne (off := 7) (by decide +kernel) (by decide) rfl)
set_option maxRecDepth 100000 in
theorem cb_X9_together_140 : ci_ok yX9_together cX9_together 9 140 (ci_seq (ci_load 0 3 141) 141 (ci_go 146)) := cq_ok (cr_iload_n (k := 3) (by decide +kernel) rfl rfl) (cr_goto (off := 5) (by decide +kernel) (by decide))
set_option maxRecDepth 100000 in
theorem cb_X9_together_144 : ci_ok yX9_together cX9_together 9 144 (ci_load 0 4 146) := cr_iload (by decide +kernel) rfl
set_option maxRecDepth 100000 in
theorem cd_X9_together_146 : decode cX9_together 146 = .ok (zi_rop (some .int), 1) := by decide +kernel
set_option maxRecDepth 100000 in
theorem cb_X9_lastOf_0 : ci_ok yX9_lastOf cX9_lastOf 7 0 (ci_seq (ci_push (.int 0) 1) 1 (ci_seq (ci_store 0 3 2) 2 (ci_seq (ci_push (.int (-4)) 4) 4 (ci_seq (ci_store 0 4 6) 6 (ci_seq (ci_push (.int 0) 7) 7 (ci_store 0 5 9)))))) := cq_ok (cr_iconst2 (n := 0) (by decide +kernel) (by decide +kernel) rfl) (cq_ok (cr_istore_n (k := 3) (by decide +kernel) rfl (by decide) rfl) (cq_ok (cr_bipush (n := -4) (by decide +kernel) (by decide +kernel) rfl) (cq_ok (cr_istore (by decide +kernel) (by decide) rfl) (cq_ok (cr_iconst2 (n := 0) (by decide +kernel) (by decide +kernel) rfl) (cr_istore (by decide +kernel) (by decide) rfl)))))
set_option maxRecDepth 100000 in
theorem cb_X9_lastOf_9 : ci_ok yX9_lastOf cX9_lastOf 7 9 (ci_seq (ci_load 0 5 11) 11 (ci_seq (ci_load 2 0 12) 12 (ci_seq (ci_getf 9 36 15) 15 (ci_seq (ci_push (.int 2) 16) 16 (ci_seq (ci_ald .int 17) 17 (ci_ic (fun x y => decide (y ≤ x)) 83 20)))))) := cq_ok (cr_iload (by decide +kernel) rfl) (cq_ok (cr_aload_n (k := 0) (by decide +kernel) rfl rfl) (cq_ok (cr_getf (idx := 47) zc_9 (by decide) zl_428 (by decide +kernel) rfl) (cq_ok (cr_iconst2 (n := 2) (by decide +kernel) (by decide +kernel) rfl) (cq_ok (cr_ald (ins := .iaload) rfl (by decide +kernel) (Or.inl ⟨rfl, rfl⟩)) (cr_ic_ge (off := 66) (by decide +kernel) (by decide) rfl)))))
set_option maxRecDepth 100000 in
theorem cb_X9_lastOf_20 : ci_ok yX9_lastOf cX9_lastOf 7 20 (ci_seq (ci_load 2 0 21) 21 (ci_seq (ci_getf 9 4 24) 24 (ci_seq (ci_push (.int 2) 25) 25 (ci_ic (fun x y => decide (x ≤ y)) 44 28)))) := cq_ok (cr_aload_n (k := 0) (by decide +kernel) rfl rfl) (cq_ok (cr_getf (idx := 126) zc_9 (by decide) zl_461 (by decide +kernel) rfl) (cq_ok (cr_iconst2 (n := 2) (by decide +kernel) (by decide +kernel) rfl) (cr_ic_le (off := 19) (by decide +kernel) (by decide) rfl)))
set_option maxRecDepth 100000 in
theorem cb_X9_lastOf_28 : ci_ok yX9_lastOf cX9_lastOf 7 28 (ci_seq (ci_load 2 0 29) 29 (ci_seq (ci_load 2 0 30) 30 (ci_seq (ci_load 0 1 31) 31 (ci_seq (ci_load 0 2 32) 32 (ci_load 0 5 34))))) := cq_ok (cr_aload_n (k := 0) (by decide +kernel) rfl rfl) (cq_ok (cr_aload_n (k := 0) (by decide +kernel) rfl rfl) (cq_ok (cr_iload_n (k := 1) (by decide +kernel) rfl rfl) (cq_ok (cr_iload_n (k := 2) (by decide +kernel) rfl rfl) (cr_iload (by decide +kernel) rfl))))
