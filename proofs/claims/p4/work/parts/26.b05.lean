set_option maxRecDepth 100000 in
theorem cl_X8_odds_5 : ci_calls yX8_odds cX8_odds 5 5 yX3_hasCell 2 (some 3) := cr_callV (idx := 138) zl_905 ⟨by decide, by decide⟩ (by decide +kernel) zc_3 zl_312 zl_313 (Or.inl zl_311) (by decide +kernel)
set_option maxRecDepth 100000 in
theorem cb_X8_odds_8 : ci_ok yX8_odds cX8_odds 5 8 (ci_if (fun x => decide (x = 0)) 20 11) := cr_if_eq (off := 12) (by decide +kernel) (by decide) rfl
set_option maxRecDepth 100000 in
theorem cb_X8_odds_11 : ci_ok yX8_odds cX8_odds 5 11 (ci_seq (ci_load 0 2 12) 12 (ci_if (fun x => decide (x < 0)) 20 15)) := cq_ok (cr_iload_n (k := 2) (by decide +kernel) rfl rfl) (cr_if_lt (off := 8) (by decide +kernel) (by decide) rfl)
set_option maxRecDepth 100000 in
theorem cb_X8_odds_15 : ci_ok yX8_odds cX8_odds 5 15 (ci_seq (ci_load 0 2 16) 16 (ci_seq (ci_push (.int 1) 17) 17 (ci_ic (fun x y => decide (x ≤ y)) 24 20))) := cq_ok (cr_iload_n (k := 2) (by decide +kernel) rfl rfl) (cq_ok (cr_iconst2 (n := 1) (by decide +kernel) (by decide +kernel) rfl) (cr_ic_le (off := 7) (by decide +kernel) (by decide) rfl))
set_option maxRecDepth 100000 in
theorem cb_X8_odds_20 : ci_ok yX8_odds cX8_odds 5 20 (ci_push (.long (-1)) 23) := cr_ldc2 zl_378 (by decide +kernel) rfl
set_option maxRecDepth 100000 in
theorem cd_X8_odds_23 : decode cX8_odds 23 = .ok (zi_rop (some .long), 1) := by decide +kernel
set_option maxRecDepth 100000 in
theorem cb_X8_odds_24 : ci_ok yX8_odds cX8_odds 5 24 (ci_load 2 0 25) := cr_aload_n (k := 0) (by decide +kernel) rfl rfl
set_option maxRecDepth 100000 in
theorem cl_X8_odds_25 : ci_calls yX8_odds cX8_odds 5 25 yX8_lookAhead 1 (some 8) := cr_callV (idx := 208) zl_968 ⟨by decide, by decide⟩ (by decide +kernel) zc_8 zl_348 zl_349 (Or.inl zl_347) (by decide +kernel)
set_option maxRecDepth 100000 in
theorem cb_X8_odds_28 : ci_ok yX8_odds cX8_odds 5 28 (ci_seq (ci_push (.int 0) 29) 29 (ci_seq (ci_store 0 3 30) 30 (ci_seq (ci_push (.int 0) 31) 31 (ci_store 0 4 33)))) := cq_ok (cr_iconst2 (n := 0) (by decide +kernel) (by decide +kernel) rfl) (cq_ok (cr_istore_n (k := 3) (by decide +kernel) rfl (by decide) rfl) (cq_ok (cr_iconst2 (n := 0) (by decide +kernel) (by decide +kernel) rfl) (cr_istore (by decide +kernel) (by decide) rfl)))
set_option maxRecDepth 100000 in
theorem cb_X8_odds_33 : ci_ok yX8_odds cX8_odds 5 33 (ci_seq (ci_load 0 4 35) 35 (ci_seq (ci_load 2 0 36) 36 (ci_seq (ci_getf 8 5 39) 39 (ci_seq (ci_getf 4 5 42) 42 (ci_ic (fun x y => decide (y ≤ x)) 71 45))))) := cq_ok (cr_iload (by decide +kernel) rfl) (cq_ok (cr_aload_n (k := 0) (by decide +kernel) rfl rfl) (cq_ok (cr_getf (idx := 41) zc_8 (by decide) zl_269 (by decide +kernel) rfl) (cq_ok (cr_getf (idx := 211) zc_4 (by decide) zl_350 (by decide +kernel) rfl) (cr_ic_ge (off := 29) (by decide +kernel) (by decide) rfl))))
set_option maxRecDepth 100000 in
theorem cb_X8_odds_45 : ci_ok yX8_odds cX8_odds 5 45 (ci_seq (ci_load 2 0 46) 46 (ci_seq (ci_getf 8 5 49) 49 (ci_seq (ci_getf 4 4 52) 52 (ci_seq (ci_load 0 4 54) 54 (ci_seq (ci_ald .int 55) 55 (ci_load 0 1 56)))))) := cq_ok (cr_aload_n (k := 0) (by decide +kernel) rfl rfl) (cq_ok (cr_getf (idx := 41) zc_8 (by decide) zl_269 (by decide +kernel) rfl) (cq_ok (cr_getf (idx := 224) zc_4 (by decide) zl_352 (by decide +kernel) rfl) (cq_ok (cr_iload (by decide +kernel) rfl) (cq_ok (cr_ald (ins := .iaload) rfl (by decide +kernel) (Or.inl ⟨rfl, rfl⟩)) (cr_iload_n (k := 1) (by decide +kernel) rfl rfl)))))
set_option maxRecDepth 100000 in
theorem cl_X8_odds_56 : ci_calls yX8_odds cX8_odds 5 56 yX8_has 2 none := cr_callS (idx := 227) zl_965 zl_659 ⟨by decide, by decide⟩ (by decide +kernel) zl_17 (Or.inl zl_351) (by decide +kernel)
set_option maxRecDepth 100000 in
theorem cb_X8_odds_59 : ci_ok yX8_odds cX8_odds 5 59 (ci_if (fun x => decide (x = 0)) 65 62) := cr_if_eq (off := 6) (by decide +kernel) (by decide) rfl
set_option maxRecDepth 100000 in
theorem cb_X8_odds_62 : ci_ok yX8_odds cX8_odds 5 62 (ci_inc 3 1 65) := ci_inc_ok (by decide) (by decide +kernel) rfl
set_option maxRecDepth 100000 in
theorem cb_X8_odds_65 : ci_ok yX8_odds cX8_odds 5 65 (ci_seq (ci_inc 4 1 68) 68 (ci_go 33)) := cq_ok (ci_inc_ok (by decide) (by decide +kernel) rfl) (cr_goto (off := -35) (by decide +kernel) (by decide))
set_option maxRecDepth 100000 in
theorem cb_X8_odds_71 : ci_ok yX8_odds cX8_odds 5 71 (ci_seq (ci_load 2 0 72) 72 (ci_seq (ci_getf 8 5 75) 75 (ci_seq (ci_getf 4 5 78) 78 (ci_load 0 3 79)))) := cq_ok (cr_aload_n (k := 0) (by decide +kernel) rfl rfl) (cq_ok (cr_getf (idx := 41) zc_8 (by decide) zl_269 (by decide +kernel) rfl) (cq_ok (cr_getf (idx := 211) zc_4 (by decide) zl_350 (by decide +kernel) rfl) (cr_iload_n (k := 3) (by decide +kernel) rfl rfl)))
set_option maxRecDepth 100000 in
theorem cl_X8_odds_79 : ci_calls yX8_odds cX8_odds 5 79 yX8_commonDivisor 2 none := cr_callS (idx := 266) zl_979 zl_659 ⟨by decide, by decide⟩ (by decide +kernel) zl_380 (Or.inl zl_379) (by decide +kernel)
set_option maxRecDepth 100000 in
theorem cb_X8_odds_82 : ci_ok yX8_odds cX8_odds 5 82 (ci_seq (ci_store 0 4 84) 84 (ci_seq (ci_load 0 4 86) 86 (ci_seq (ci_push (.int 1) 87) 87 (ci_ic (fun x y => decide (y ≤ x)) 94 90)))) := cq_ok (cr_istore (by decide +kernel) (by decide) rfl) (cq_ok (cr_iload (by decide +kernel) rfl) (cq_ok (cr_iconst2 (n := 1) (by decide +kernel) (by decide +kernel) rfl) (cr_ic_ge (off := 7) (by decide +kernel) (by decide) rfl)))
set_option maxRecDepth 100000 in
theorem cb_X8_odds_90 : ci_ok yX8_odds cX8_odds 5 90 (ci_seq (ci_push (.long 0) 91) 91 (ci_go 113)) := cq_ok (cr_lconst (n := 0) (by decide +kernel) (by decide +kernel) rfl) (cr_goto (off := 22) (by decide +kernel) (by decide))
set_option maxRecDepth 100000 in
theorem cb_X8_odds_94 : ci_ok yX8_odds cX8_odds 5 94 (ci_seq (ci_load 0 2 95) 95 (ci_if (fun x => !decide (x = 0)) 102 98)) := cq_ok (cr_iload_n (k := 2) (by decide +kernel) rfl rfl) (cr_if_ne (off := 7) (by decide +kernel) (by decide) rfl)
set_option maxRecDepth 100000 in
theorem cb_X8_odds_98 : ci_ok yX8_odds cX8_odds 5 98 (ci_seq (ci_load 0 3 99) 99 (ci_go 109)) := cq_ok (cr_iload_n (k := 3) (by decide +kernel) rfl rfl) (cr_goto (off := 10) (by decide +kernel) (by decide))
set_option maxRecDepth 100000 in
theorem cb_X8_odds_102 : ci_ok yX8_odds cX8_odds 5 102 (ci_seq (ci_load 2 0 103) 103 (ci_seq (ci_getf 8 5 106) 106 (ci_getf 4 5 109))) := cq_ok (cr_aload_n (k := 0) (by decide +kernel) rfl rfl) (cq_ok (cr_getf (idx := 41) zc_8 (by decide) zl_269 (by decide +kernel) rfl) (cr_getf (idx := 211) zc_4 (by decide) zl_350 (by decide +kernel) rfl))
set_option maxRecDepth 100000 in
theorem cb_X8_odds_109 : ci_ok yX8_odds cX8_odds 5 109 (ci_seq (ci_load 0 4 111) 111 (ci_seq (ci_dv (fun a b => a / b) 112) 112 (ci_i2l 113))) := cq_ok (cr_iload (by decide +kernel) rfl) (cq_ok (cr_idiv (by decide +kernel) rfl) (cr_i2l (by decide +kernel) rfl))
set_option maxRecDepth 100000 in
theorem cd_X8_odds_113 : decode cX8_odds 113 = .ok (zi_rop (some .long), 1) := by decide +kernel
set_option maxRecDepth 100000 in
theorem cb_X8_commonDivisor_0 : ci_ok yX8_commonDivisor cX8_commonDivisor 6 0 (ci_seq (ci_load 0 0 1) 1 (ci_seq (ci_store 0 2 2) 2 (ci_seq (ci_load 0 1 3) 3 (ci_seq (ci_store 0 3 4) 4 (ci_seq (ci_push (.int 0) 5) 5 (ci_store 0 4 7)))))) := cq_ok (cr_iload_n (k := 0) (by decide +kernel) rfl rfl) (cq_ok (cr_istore_n (k := 2) (by decide +kernel) rfl (by decide) rfl) (cq_ok (cr_iload_n (k := 1) (by decide +kernel) rfl rfl) (cq_ok (cr_istore_n (k := 3) (by decide +kernel) rfl (by decide) rfl) (cq_ok (cr_iconst2 (n := 0) (by decide +kernel) (by decide +kernel) rfl) (cr_istore (by decide +kernel) (by decide) rfl)))))
set_option maxRecDepth 100000 in
theorem cb_X8_commonDivisor_7 : ci_ok yX8_commonDivisor cX8_commonDivisor 6 7 (ci_seq (ci_load 0 4 9) 9 (ci_seq (ci_push (.int 64) 11) 11 (ci_ic (fun x y => decide (y ≤ x)) 34 14))) := cq_ok (cr_iload (by decide +kernel) rfl) (cq_ok (cr_bipush (n := 64) (by decide +kernel) (by decide +kernel) rfl) (cr_ic_ge (off := 23) (by decide +kernel) (by decide) rfl))
set_option maxRecDepth 100000 in
theorem cb_X8_commonDivisor_14 : ci_ok yX8_commonDivisor cX8_commonDivisor 6 14 (ci_seq (ci_load 0 3 15) 15 (ci_if (fun x => decide (x = 0)) 34 18)) := cq_ok (cr_iload_n (k := 3) (by decide +kernel) rfl rfl) (cr_if_eq (off := 19) (by decide +kernel) (by decide) rfl)
set_option maxRecDepth 100000 in
theorem cb_X8_commonDivisor_18 : ci_ok yX8_commonDivisor cX8_commonDivisor 6 18 (ci_seq (ci_load 0 2 19) 19 (ci_seq (ci_load 0 3 20) 20 (ci_seq (ci_dv (fun a b => a - a / b * b) 21) 21 (ci_seq (ci_store 0 5 23) 23 (ci_seq (ci_load 0 3 24) 24 (ci_seq (ci_store 0 2 25) 25 (ci_seq (ci_load 0 5 27) 27 (ci_seq (ci_store 0 3 28) 28 (ci_seq (ci_inc 4 1 31) 31 (ci_go 7)))))))))) := cq_ok (cr_iload_n (k := 2) (by decide +kernel) rfl rfl) (cq_ok (cr_iload_n (k := 3) (by decide +kernel) rfl rfl) (cq_ok (cr_irem (by decide +kernel) rfl) (cq_ok (cr_istore (by decide +kernel) (by decide) rfl) (cq_ok (cr_iload_n (k := 3) (by decide +kernel) rfl rfl) (cq_ok (cr_istore_n (k := 2) (by decide +kernel) rfl (by decide) rfl) (cq_ok (cr_iload (by decide +kernel) rfl) (cq_ok (cr_istore_n (k := 3) (by decide +kernel) rfl (by decide) rfl) (cq_ok (ci_inc_ok (by decide) (by decide +kernel) rfl) (cr_goto (off := -24) (by decide +kernel) (by decide))))))))))
set_option maxRecDepth 100000 in
theorem cb_X8_commonDivisor_34 : ci_ok yX8_commonDivisor cX8_commonDivisor 6 34 (ci_load 0 2 35) := cr_iload_n (k := 2) (by decide +kernel) rfl rfl
set_option maxRecDepth 100000 in
theorem cd_X8_commonDivisor_35 : decode cX8_commonDivisor 35 = .ok (zi_rop (some .int), 1) := by decide +kernel
set_option maxRecDepth 100000 in
theorem cb_X8_see_0 : ci_ok yX8_see cX8_see 3 0 (ci_seq (ci_load 2 0 1) 1 (ci_seq (ci_getf 8 0 4) 4 (ci_load 0 1 5))) := cq_ok (cr_aload_n (k := 0) (by decide +kernel) rfl rfl) (cq_ok (cr_getf (idx := 10) zc_8 (by decide) zl_242 (by decide +kernel) rfl) (cr_iload_n (k := 1) (by decide +kernel) rfl rfl))
set_option maxRecDepth 100000 in
theorem cl_X8_see_5 : ci_calls yX8_see cX8_see 3 5 yX3_hasCell 2 (some 3) := cr_callV (idx := 138) zl_905 ⟨by decide, by decide⟩ (by decide +kernel) zc_3 zl_312 zl_313 (Or.inl zl_311) (by decide +kernel)
set_option maxRecDepth 100000 in
theorem cb_X8_see_8 : ci_ok yX8_see cX8_see 3 8 (ci_if (fun x => !decide (x = 0)) 13 11) := cr_if_ne (off := 5) (by decide +kernel) (by decide) rfl
set_option maxRecDepth 100000 in
theorem cb_X8_see_11 : ci_ok yX8_see cX8_see 3 11 (ci_push (.int (-1)) 12) := cr_iconst2 (n := -1) (by decide +kernel) (by decide +kernel) rfl
set_option maxRecDepth 100000 in
theorem cd_X8_see_12 : decode cX8_see 12 = .ok (zi_rop (some .int), 1) := by decide +kernel
set_option maxRecDepth 100000 in
theorem cb_X8_see_13 : ci_ok yX8_see cX8_see 3 13 (ci_seq (ci_load 2 0 14) 14 (ci_seq (ci_getf 8 1 17) 17 (ci_seq (ci_getf 7 6 20) 20 (ci_seq (ci_push (.int 8) 22) 22 (ci_ic (fun x y => decide (x < y)) 28 25))))) := cq_ok (cr_aload_n (k := 0) (by decide +kernel) rfl rfl) (cq_ok (cr_getf (idx := 21) zc_8 (by decide) zl_241 (by decide +kernel) rfl) (cq_ok (cr_getf (idx := 269) zc_7 (by decide) zl_381 (by decide +kernel) rfl) (cq_ok (cr_bipush (n := 8) (by decide +kernel) (by decide +kernel) rfl) (cr_ic_lt (off := 6) (by decide +kernel) (by decide) rfl))))
set_option maxRecDepth 100000 in
theorem cb_X8_see_25 : ci_ok yX8_see cX8_see 3 25 (ci_push (.int (-3)) 27) := cr_bipush (n := -3) (by decide +kernel) (by decide +kernel) rfl
set_option maxRecDepth 100000 in
theorem cd_X8_see_27 : decode cX8_see 27 = .ok (zi_rop (some .int), 1) := by decide +kernel
set_option maxRecDepth 100000 in
theorem cb_X8_see_28 : ci_ok yX8_see cX8_see 3 28 (ci_seq (ci_load 2 0 29) 29 (ci_seq (ci_getf 8 1 32) 32 (ci_seq (ci_getf 7 3 35) 35 (ci_seq (ci_load 2 0 36) 36 (ci_seq (ci_getf 8 1 39) 39 (ci_seq (ci_getf 7 6 42) 42 (ci_seq (ci_load 0 2 43) 43 (ci_if (fun x => decide (x = 0)) 50 46)))))))) := cq_ok (cr_aload_n (k := 0) (by decide +kernel) rfl rfl) (cq_ok (cr_getf (idx := 21) zc_8 (by decide) zl_241 (by decide +kernel) rfl) (cq_ok (cr_getf (idx := 272) zc_7 (by decide) zl_382 (by decide +kernel) rfl) (cq_ok (cr_aload_n (k := 0) (by decide +kernel) rfl rfl) (cq_ok (cr_getf (idx := 21) zc_8 (by decide) zl_241 (by decide +kernel) rfl) (cq_ok (cr_getf (idx := 269) zc_7 (by decide) zl_381 (by decide +kernel) rfl) (cq_ok (cr_iload_n (k := 2) (by decide +kernel) rfl rfl) (cr_if_eq (off := 7) (by decide +kernel) (by decide) rfl)))))))
set_option maxRecDepth 100000 in
theorem cb_X8_see_46 : ci_ok yX8_see cX8_see 3 46 (ci_seq (ci_load 0 1 47) 47 (ci_go 54)) := cq_ok (cr_iload_n (k := 1) (by decide +kernel) rfl rfl) (cr_goto (off := 7) (by decide +kernel) (by decide))
set_option maxRecDepth 100000 in
theorem cb_X8_see_50 : ci_ok yX8_see cX8_see 3 50 (ci_seq (ci_load 0 1 51) 51 (ci_seq (ci_push (.int 25) 53) 53 (ci_bin (fun a b => a - b) 54))) := cq_ok (cr_iload_n (k := 1) (by decide +kernel) rfl rfl) (cq_ok (cr_bipush (n := 25) (by decide +kernel) (by decide +kernel) rfl) (cr_isub (by decide +kernel) rfl))
set_option maxRecDepth 100000 in
theorem cb_X8_see_54 : ci_ok yX8_see cX8_see 3 54 (ci_seq (ci_ast .int 55) 55 (ci_seq (ci_load 2 0 56) 56 (ci_seq (ci_getf 8 1 59) 59 (ci_seq (ci_dup 60) 60 (ci_seq (ci_getf 7 6 63) 63 (ci_seq (ci_push (.int 1) 64) 64 (ci_seq (ci_bin (fun a b => a + b) 65) 65 (ci_seq (ci_putf 7 6 .int 68) 68 (ci_seq (ci_load 2 0 69) 69 (ci_seq (ci_getf 8 1 72) 72 (ci_getf 7 6 75))))))))))) := cq_ok (cr_ast (ins := .iastore) rfl (by decide +kernel) (Or.inl ⟨rfl, rfl⟩)) (cq_ok (cr_aload_n (k := 0) (by decide +kernel) rfl rfl) (cq_ok (cr_getf (idx := 21) zc_8 (by decide) zl_241 (by decide +kernel) rfl) (cq_ok (cr_dup (by decide +kernel) rfl) (cq_ok (cr_getf (idx := 269) zc_7 (by decide) zl_381 (by decide +kernel) rfl) (cq_ok (cr_iconst2 (n := 1) (by decide +kernel) (by decide +kernel) rfl) (cq_ok (cr_iadd (by decide +kernel) rfl) (cq_ok (cr_putf (idx := 269) zc_7 (by decide) (by decide +kernel) rfl zl_381 (by decide +kernel) rfl) (cq_ok (cr_aload_n (k := 0) (by decide +kernel) rfl rfl) (cq_ok (cr_getf (idx := 21) zc_8 (by decide) zl_241 (by decide +kernel) rfl) (cr_getf (idx := 269) zc_7 (by decide) zl_381 (by decide +kernel) rfl))))))))))
set_option maxRecDepth 100000 in
theorem cd_X8_see_75 : decode cX8_see 75 = .ok (zi_rop (some .int), 1) := by decide +kernel
set_option maxRecDepth 100000 in
theorem cb_X8_forget_0 : ci_ok yX8_forget cX8_forget 3 0 (ci_seq (ci_load 0 1 1) 1 (ci_if (fun x => decide (x < 0)) 15 4)) := cq_ok (cr_iload_n (k := 1) (by decide +kernel) rfl rfl) (cr_if_lt (off := 14) (by decide +kernel) (by decide) rfl)
set_option maxRecDepth 100000 in
theorem cb_X8_forget_4 : ci_ok yX8_forget cX8_forget 3 4 (ci_seq (ci_load 0 1 5) 5 (ci_seq (ci_load 2 0 6) 6 (ci_seq (ci_getf 8 1 9) 9 (ci_seq (ci_getf 7 6 12) 12 (ci_ic (fun x y => decide (x ≤ y)) 17 15))))) := cq_ok (cr_iload_n (k := 1) (by decide +kernel) rfl rfl) (cq_ok (cr_aload_n (k := 0) (by decide +kernel) rfl rfl) (cq_ok (cr_getf (idx := 21) zc_8 (by decide) zl_241 (by decide +kernel) rfl) (cq_ok (cr_getf (idx := 269) zc_7 (by decide) zl_381 (by decide +kernel) rfl) (cr_ic_le (off := 5) (by decide +kernel) (by decide) rfl))))
set_option maxRecDepth 100000 in
theorem cb_X8_forget_15 : ci_ok yX8_forget cX8_forget 3 15 (ci_push (.int (-1)) 16) := cr_iconst2 (n := -1) (by decide +kernel) (by decide +kernel) rfl
set_option maxRecDepth 100000 in
theorem cd_X8_forget_16 : decode cX8_forget 16 = .ok (zi_rop (some .int), 1) := by decide +kernel
set_option maxRecDepth 100000 in
theorem cb_X8_forget_17 : ci_ok yX8_forget cX8_forget 3 17 (ci_seq (ci_load 2 0 18) 18 (ci_seq (ci_getf 8 1 21) 21 (ci_seq (ci_getf 7 6 24) 24 (ci_seq (ci_store 0 2 25) 25 (ci_seq (ci_load 2 0 26) 26 (ci_seq (ci_getf 8 1 29) 29 (ci_seq (ci_load 0 1 30) 30 (ci_seq (ci_putf 7 6 .int 33) 33 (ci_load 0 2 34))))))))) := cq_ok (cr_aload_n (k := 0) (by decide +kernel) rfl rfl) (cq_ok (cr_getf (idx := 21) zc_8 (by decide) zl_241 (by decide +kernel) rfl) (cq_ok (cr_getf (idx := 269) zc_7 (by decide) zl_381 (by decide +kernel) rfl) (cq_ok (cr_istore_n (k := 2) (by decide +kernel) rfl (by decide) rfl) (cq_ok (cr_aload_n (k := 0) (by decide +kernel) rfl rfl) (cq_ok (cr_getf (idx := 21) zc_8 (by decide) zl_241 (by decide +kernel) rfl) (cq_ok (cr_iload_n (k := 1) (by decide +kernel) rfl rfl) (cq_ok (cr_putf (idx := 269) zc_7 (by decide) (by decide +kernel) rfl zl_381 (by decide +kernel) rfl) (cr_iload_n (k := 2) (by decide +kernel) rfl rfl))))))))
set_option maxRecDepth 100000 in
theorem cd_X8_forget_34 : decode cX8_forget 34 = .ok (zi_rop (some .int), 1) := by decide +kernel
set_option maxRecDepth 100000 in
theorem cb_X8_fits_0 : ci_ok yX8_fits cX8_fits 8 0 (ci_seq (ci_load 0 1 1) 1 (ci_if (fun x => decide (x < 0)) 9 4)) := cq_ok (cr_iload_n (k := 1) (by decide +kernel) rfl rfl) (cr_if_lt (off := 8) (by decide +kernel) (by decide) rfl)
set_option maxRecDepth 100000 in
theorem cb_X8_fits_4 : ci_ok yX8_fits cX8_fits 8 4 (ci_seq (ci_load 0 1 5) 5 (ci_seq (ci_push (.int 3) 6) 6 (ci_ic (fun x y => decide (x ≤ y)) 11 9))) := cq_ok (cr_iload_n (k := 1) (by decide +kernel) rfl rfl) (cq_ok (cr_iconst2 (n := 3) (by decide +kernel) (by decide +kernel) rfl) (cr_ic_le (off := 5) (by decide +kernel) (by decide) rfl))
set_option maxRecDepth 100000 in
theorem cb_X8_fits_9 : ci_ok yX8_fits cX8_fits 8 9 (ci_push (.int (-1)) 10) := cr_iconst2 (n := -1) (by decide +kernel) (by decide +kernel) rfl
set_option maxRecDepth 100000 in
theorem cd_X8_fits_10 : decode cX8_fits 10 = .ok (zi_rop (some .int), 1) := by decide +kernel
set_option maxRecDepth 100000 in
theorem cb_X8_fits_11 : ci_ok yX8_fits cX8_fits 8 11 (ci_load 2 0 12) := cr_aload_n (k := 0) (by decide +kernel) rfl rfl
set_option maxRecDepth 100000 in
theorem cl_X8_fits_12 : ci_calls yX8_fits cX8_fits 8 12 yX8_lookAhead 1 (some 8) := cr_callV (idx := 208) zl_968 ⟨by decide, by decide⟩ (by decide +kernel) zc_8 zl_348 zl_349 (Or.inl zl_347) (by decide +kernel)
set_option maxRecDepth 100000 in
theorem cb_X8_fits_15 : ci_ok yX8_fits cX8_fits 8 15 (ci_seq (ci_push (.int 0) 16) 16 (ci_seq (ci_store 0 2 17) 17 (ci_seq (ci_push (.int (-4)) 19) 19 (ci_seq (ci_store 0 3 20) 20 (ci_seq (ci_push (.int 1) 21) 21 (ci_seq (ci_load 2 0 22) 22 (ci_seq (ci_getf 8 0 25) 25 (ci_seq (ci_getf 3 4 28) 28 (ci_seq (ci_bin (fun a b => a <<< (b &&& 31)) 29) 29 (ci_seq (ci_push (.int 1) 30) 30 (ci_seq (ci_bin (fun a b => a - b) 31) 31 (ci_seq (ci_store 0 4 33) 33 (ci_seq (ci_load 0 4 35) 35 (ci_seq (ci_store 0 5 37) 37 (ci_seq (ci_push (.int 0) 38) 38 (ci_store 0 6 40)))))))))))))))) := cq_ok (cr_iconst2 (n := 0) (by decide +kernel) (by decide +kernel) rfl) (cq_ok (cr_istore_n (k := 2) (by decide +kernel) rfl (by decide) rfl) (cq_ok (cr_bipush (n := -4) (by decide +kernel) (by decide +kernel) rfl) (cq_ok (cr_istore_n (k := 3) (by decide +kernel) rfl (by decide) rfl) (cq_ok (cr_iconst2 (n := 1) (by decide +kernel) (by decide +kernel) rfl) (cq_ok (cr_aload_n (k := 0) (by decide +kernel) rfl rfl) (cq_ok (cr_getf (idx := 10) zc_8 (by decide) zl_242 (by decide +kernel) rfl) (cq_ok (cr_getf (idx := 126) zc_3 (by decide) zl_307 (by decide +kernel) rfl) (cq_ok (cr_ishl (by decide +kernel) rfl) (cq_ok (cr_iconst2 (n := 1) (by decide +kernel) (by decide +kernel) rfl) (cq_ok (cr_isub (by decide +kernel) rfl) (cq_ok (cr_istore (by decide +kernel) (by decide) rfl) (cq_ok (cr_iload (by decide +kernel) rfl) (cq_ok (cr_istore (by decide +kernel) (by decide) rfl) (cq_ok (cr_iconst2 (n := 0) (by decide +kernel) (by decide +kernel) rfl) (cr_istore (by decide +kernel) (by decide) rfl)))))))))))))))
set_option maxRecDepth 100000 in
theorem cb_X8_fits_40 : ci_ok yX8_fits cX8_fits 8 40 (ci_seq (ci_load 0 6 42) 42 (ci_seq (ci_load 2 0 43) 43 (ci_seq (ci_getf 8 5 46) 46 (ci_seq (ci_getf 4 5 49) 49 (ci_ic (fun x y => decide (y ≤ x)) 131 52))))) := cq_ok (cr_iload (by decide +kernel) rfl) (cq_ok (cr_aload_n (k := 0) (by decide +kernel) rfl rfl) (cq_ok (cr_getf (idx := 41) zc_8 (by decide) zl_269 (by decide +kernel) rfl) (cq_ok (cr_getf (idx := 211) zc_4 (by decide) zl_350 (by decide +kernel) rfl) (cr_ic_ge (off := 82) (by decide +kernel) (by decide) rfl))))
set_option maxRecDepth 100000 in
theorem cb_X8_fits_52 : ci_ok yX8_fits cX8_fits 8 52 (ci_seq (ci_load 2 0 53) 53 (ci_seq (ci_getf 8 1 56) 56 (ci_seq (ci_load 2 0 57) 57 (ci_seq (ci_getf 8 5 60) 60 (ci_seq (ci_getf 4 4 63) 63 (ci_seq (ci_load 0 6 65) 65 (ci_ald .int 66))))))) := cq_ok (cr_aload_n (k := 0) (by decide +kernel) rfl rfl) (cq_ok (cr_getf (idx := 21) zc_8 (by decide) zl_241 (by decide +kernel) rfl) (cq_ok (cr_aload_n (k := 0) (by decide +kernel) rfl rfl) (cq_ok (cr_getf (idx := 41) zc_8 (by decide) zl_269 (by decide +kernel) rfl) (cq_ok (cr_getf (idx := 224) zc_4 (by decide) zl_352 (by decide +kernel) rfl) (cq_ok (cr_iload (by decide +kernel) rfl) (cr_ald (ins := .iaload) rfl (by decide +kernel) (Or.inl ⟨rfl, rfl⟩)))))))
set_option maxRecDepth 100000 in
theorem cl_X8_fits_66 : ci_calls yX8_fits cX8_fits 8 66 yX7_agrees 2 (some 7) := cr_callV (idx := 275) zl_940 ⟨by decide, by decide⟩ (by decide +kernel) zc_7 zl_384 zl_385 (Or.inl zl_383) (by decide +kernel)
set_option maxRecDepth 100000 in
theorem cb_X8_fits_69 : ci_ok yX8_fits cX8_fits 8 69 (ci_if (fun x => decide (x = 0)) 125 72) := cr_if_eq (off := 56) (by decide +kernel) (by decide) rfl
set_option maxRecDepth 100000 in
theorem cb_X8_fits_72 : ci_ok yX8_fits cX8_fits 8 72 (ci_seq (ci_load 2 0 73) 73 (ci_seq (ci_getf 8 5 76) 76 (ci_seq (ci_getf 4 3 79) 79 (ci_seq (ci_load 0 6 81) 81 (ci_ald .int 82))))) := cq_ok (cr_aload_n (k := 0) (by decide +kernel) rfl rfl) (cq_ok (cr_getf (idx := 41) zc_8 (by decide) zl_269 (by decide +kernel) rfl) (cq_ok (cr_getf (idx := 214) zc_4 (by decide) zl_356 (by decide +kernel) rfl) (cq_ok (cr_iload (by decide +kernel) rfl) (cr_ald (ins := .iaload) rfl (by decide +kernel) (Or.inl ⟨rfl, rfl⟩)))))
set_option maxRecDepth 100000 in
theorem cl_X8_fits_82 : ci_calls yX8_fits cX8_fits 8 82 yX8_cutters 1 none := cr_callS (idx := 216) zl_969 zl_659 ⟨by decide, by decide⟩ (by decide +kernel) zl_355 (Or.inl zl_354) (by decide +kernel)
set_option maxRecDepth 100000 in
theorem cb_X8_fits_85 : ci_ok yX8_fits cX8_fits 8 85 (ci_seq (ci_store 0 7 87) 87 (ci_seq (ci_load 0 2 88) 88 (ci_if (fun x => !decide (x = 0)) 104 91))) := cq_ok (cr_istore (by decide +kernel) (by decide) rfl) (cq_ok (cr_iload_n (k := 2) (by decide +kernel) rfl rfl) (cr_if_ne (off := 16) (by decide +kernel) (by decide) rfl))
set_option maxRecDepth 100000 in
theorem cb_X8_fits_91 : ci_ok yX8_fits cX8_fits 8 91 (ci_seq (ci_load 2 0 92) 92 (ci_seq (ci_getf 8 5 95) 95 (ci_seq (ci_getf 4 3 98) 98 (ci_seq (ci_load 0 6 100) 100 (ci_seq (ci_ald .int 101) 101 (ci_go 105)))))) := cq_ok (cr_aload_n (k := 0) (by decide +kernel) rfl rfl) (cq_ok (cr_getf (idx := 41) zc_8 (by decide) zl_269 (by decide +kernel) rfl) (cq_ok (cr_getf (idx := 214) zc_4 (by decide) zl_356 (by decide +kernel) rfl) (cq_ok (cr_iload (by decide +kernel) rfl) (cq_ok (cr_ald (ins := .iaload) rfl (by decide +kernel) (Or.inl ⟨rfl, rfl⟩)) (cr_goto (off := 4) (by decide +kernel) (by decide))))))
set_option maxRecDepth 100000 in
theorem cb_X8_fits_104 : ci_ok yX8_fits cX8_fits 8 104 (ci_load 0 3 105) := cr_iload_n (k := 3) (by decide +kernel) rfl rfl
set_option maxRecDepth 100000 in
theorem cb_X8_fits_105 : ci_ok yX8_fits cX8_fits 8 105 (ci_seq (ci_store 0 3 106) 106 (ci_seq (ci_load 0 4 108) 108 (ci_seq (ci_load 0 7 110) 110 (ci_seq (ci_bin (fun a b => a &&& b) 111) 111 (ci_seq (ci_store 0 4 113) 113 (ci_seq (ci_load 0 5 115) 115 (ci_seq (ci_load 0 7 117) 117 (ci_seq (ci_push (.int (-1)) 118) 118 (ci_seq (ci_bin (fun a b => a ^^^ b) 119) 119 (ci_seq (ci_bin (fun a b => a &&& b) 120) 120 (ci_seq (ci_store 0 5 122) 122 (ci_inc 2 1 125)))))))))))) := cq_ok (cr_istore_n (k := 3) (by decide +kernel) rfl (by decide) rfl) (cq_ok (cr_iload (by decide +kernel) rfl) (cq_ok (cr_iload (by decide +kernel) rfl) (cq_ok (cr_iand (by decide +kernel) rfl) (cq_ok (cr_istore (by decide +kernel) (by decide) rfl) (cq_ok (cr_iload (by decide +kernel) rfl) (cq_ok (cr_iload (by decide +kernel) rfl) (cq_ok (cr_iconst2 (n := -1) (by decide +kernel) (by decide +kernel) rfl) (cq_ok (cr_ixor (by decide +kernel) rfl) (cq_ok (cr_iand (by decide +kernel) rfl) (cq_ok (cr_istore (by decide +kernel) (by decide) rfl) (ci_inc_ok (by decide) (by decide +kernel) rfl)))))))))))
set_option maxRecDepth 100000 in
theorem cb_X8_fits_125 : ci_ok yX8_fits cX8_fits 8 125 (ci_seq (ci_inc 6 1 128) 128 (ci_go 40)) := cq_ok (ci_inc_ok (by decide) (by decide +kernel) rfl) (cr_goto (off := -88) (by decide +kernel) (by decide))
set_option maxRecDepth 100000 in
theorem cb_X8_fits_131 : ci_ok yX8_fits cX8_fits 8 131 (ci_seq (ci_load 0 1 132) 132 (ci_if (fun x => decide (x = 0)) 139 135)) := cq_ok (cr_iload_n (k := 1) (by decide +kernel) rfl rfl) (cr_if_eq (off := 7) (by decide +kernel) (by decide) rfl)
set_option maxRecDepth 100000 in
theorem cb_X8_fits_135 : ci_ok yX8_fits cX8_fits 8 135 (ci_seq (ci_load 0 2 136) 136 (ci_if (fun x => !decide (x = 0)) 150 139)) := cq_ok (cr_iload_n (k := 2) (by decide +kernel) rfl rfl) (cr_if_ne (off := 14) (by decide +kernel) (by decide) rfl)
set_option maxRecDepth 100000 in
theorem cb_X8_fits_139 : ci_ok yX8_fits cX8_fits 8 139 (ci_seq (ci_load 0 1 140) 140 (ci_if (fun x => !decide (x = 0)) 147 143)) := cq_ok (cr_iload_n (k := 1) (by decide +kernel) rfl rfl) (cr_if_ne (off := 7) (by decide +kernel) (by decide) rfl)
set_option maxRecDepth 100000 in
theorem cb_X8_fits_143 : ci_ok yX8_fits cX8_fits 8 143 (ci_seq (ci_load 0 2 144) 144 (ci_go 149)) := cq_ok (cr_iload_n (k := 2) (by decide +kernel) rfl rfl) (cr_goto (off := 5) (by decide +kernel) (by decide))
set_option maxRecDepth 100000 in
theorem cb_X8_fits_147 : ci_ok yX8_fits cX8_fits 8 147 (ci_push (.int (-4)) 149) := cr_bipush (n := -4) (by decide +kernel) (by decide +kernel) rfl
set_option maxRecDepth 100000 in
theorem cd_X8_fits_149 : decode cX8_fits 149 = .ok (zi_rop (some .int), 1) := by decide +kernel
set_option maxRecDepth 100000 in
theorem cb_X8_fits_150 : ci_ok yX8_fits cX8_fits 8 150 (ci_seq (ci_load 0 1 151) 151 (ci_seq (ci_push (.int 1) 152) 152 (ci_ic (fun x y => !decide (x = y)) 159 155))) := cq_ok (cr_iload_n (k := 1) (by decide +kernel) rfl rfl) (cq_ok (cr_iconst2 (n := 1) (by decide +kernel) (by decide +kernel) rfl) (cr_ic_ne (off := 7) (by decide +kernel) (by decide) rfl))
set_option maxRecDepth 100000 in
theorem cb_X8_fits_155 : ci_ok yX8_fits cX8_fits 8 155 (ci_seq (ci_load 0 3 156) 156 (ci_go 171)) := cq_ok (cr_iload_n (k := 3) (by decide +kernel) rfl rfl) (cr_goto (off := 15) (by decide +kernel) (by decide))
set_option maxRecDepth 100000 in
theorem cb_X8_fits_159 : ci_ok yX8_fits cX8_fits 8 159 (ci_seq (ci_load 0 1 160) 160 (ci_seq (ci_push (.int 2) 161) 161 (ci_ic (fun x y => !decide (x = y)) 169 164))) := cq_ok (cr_iload_n (k := 1) (by decide +kernel) rfl rfl) (cq_ok (cr_iconst2 (n := 2) (by decide +kernel) (by decide +kernel) rfl) (cr_ic_ne (off := 8) (by decide +kernel) (by decide) rfl))
set_option maxRecDepth 100000 in
theorem cb_X8_fits_164 : ci_ok yX8_fits cX8_fits 8 164 (ci_seq (ci_load 0 4 166) 166 (ci_go 171)) := cq_ok (cr_iload (by decide +kernel) rfl) (cr_goto (off := 5) (by decide +kernel) (by decide))
set_option maxRecDepth 100000 in
theorem cb_X8_fits_169 : ci_ok yX8_fits cX8_fits 8 169 (ci_load 0 5 171) := cr_iload (by decide +kernel) rfl
set_option maxRecDepth 100000 in
theorem cd_X8_fits_171 : decode cX8_fits 171 = .ok (zi_rop (some .int), 1) := by decide +kernel
set_option maxRecDepth 100000 in
theorem cb_X8_keep_0 : ci_ok yX8_keep cX8_keep 3 0 (ci_seq (ci_load 0 1 1) 1 (ci_if (fun x => decide (x < 0)) 9 4)) := cq_ok (cr_iload_n (k := 1) (by decide +kernel) rfl rfl) (cr_if_lt (off := 8) (by decide +kernel) (by decide) rfl)
set_option maxRecDepth 100000 in
theorem cb_X8_keep_4 : ci_ok yX8_keep cX8_keep 3 4 (ci_seq (ci_load 0 1 5) 5 (ci_seq (ci_push (.int 2) 6) 6 (ci_ic (fun x y => decide (x < y)) 11 9))) := cq_ok (cr_iload_n (k := 1) (by decide +kernel) rfl rfl) (cq_ok (cr_iconst2 (n := 2) (by decide +kernel) (by decide +kernel) rfl) (cr_ic_lt (off := 5) (by decide +kernel) (by decide) rfl))
set_option maxRecDepth 100000 in
theorem cb_X8_keep_9 : ci_ok yX8_keep cX8_keep 3 9 (ci_push (.int (-1)) 10) := cr_iconst2 (n := -1) (by decide +kernel) (by decide +kernel) rfl
set_option maxRecDepth 100000 in
theorem cd_X8_keep_10 : decode cX8_keep 10 = .ok (zi_rop (some .int), 1) := by decide +kernel
set_option maxRecDepth 100000 in
theorem cb_X8_keep_11 : ci_ok yX8_keep cX8_keep 3 11 (ci_seq (ci_load 2 0 12) 12 (ci_seq (ci_getf 8 11 15) 15 (ci_seq (ci_load 0 1 16) 16 (ci_seq (ci_bin (fun a b => a >>> (b &&& 31)) 17) 17 (ci_seq (ci_push (.int 1) 18) 18 (ci_seq (ci_bin (fun a b => a &&& b) 19) 19 (ci_seq (ci_store 0 2 20) 20 (ci_seq (ci_load 2 0 21) 21 (ci_load 0 1 22))))))))) := cq_ok (cr_aload_n (k := 0) (by decide +kernel) rfl rfl) (cq_ok (cr_getf (idx := 111) zc_8 (by decide) zl_301 (by decide +kernel) rfl) (cq_ok (cr_iload_n (k := 1) (by decide +kernel) rfl rfl) (cq_ok (cr_ishr (by decide +kernel) rfl) (cq_ok (cr_iconst2 (n := 1) (by decide +kernel) (by decide +kernel) rfl) (cq_ok (cr_iand (by decide +kernel) rfl) (cq_ok (cr_istore_n (k := 2) (by decide +kernel) rfl (by decide) rfl) (cq_ok (cr_aload_n (k := 0) (by decide +kernel) rfl rfl) (cr_iload_n (k := 1) (by decide +kernel) rfl rfl))))))))
set_option maxRecDepth 100000 in
theorem cl_X8_keep_22 : ci_calls yX8_keep cX8_keep 3 22 yX8_imageOf 2 (some 8) := cr_callV (idx := 278) zl_985 ⟨by decide, by decide⟩ (by decide +kernel) zc_8 zl_390 zl_391 (Or.inl zl_389) (by decide +kernel)
set_option maxRecDepth 100000 in
theorem cb_X8_keep_25 : ci_ok yX8_keep cX8_keep 3 25 (ci_seq (ci_load 2 0 26) 26 (ci_getf 8 1 29)) := cq_ok (cr_aload_n (k := 0) (by decide +kernel) rfl rfl) (cr_getf (idx := 21) zc_8 (by decide) zl_241 (by decide +kernel) rfl)
set_option maxRecDepth 100000 in
theorem cl_X8_keep_29 : ci_calls yX8_keep cX8_keep 3 29 yX7_copy 2 (some 7) := cr_callV (idx := 282) zl_938 ⟨by decide, by decide⟩ (by decide +kernel) zc_7 zl_387 zl_388 (Or.inl zl_386) (by decide +kernel)
set_option maxRecDepth 100000 in
theorem cb_X8_keep_32 : ci_ok yX8_keep cX8_keep 3 32 (ci_seq (ci_load 2 0 33) 33 (ci_seq (ci_dup 34) 34 (ci_seq (ci_getf 8 11 37) 37 (ci_seq (ci_push (.int 1) 38) 38 (ci_seq (ci_load 0 1 39) 39 (ci_seq (ci_bin (fun a b => a <<< (b &&& 31)) 40) 40 (ci_seq (ci_bin (fun a b => a ||| b) 41) 41 (ci_seq (ci_putf 8 11 .int 44) 44 (ci_load 0 2 45))))))))) := cq_ok (cr_aload_n (k := 0) (by decide +kernel) rfl rfl) (cq_ok (cr_dup (by decide +kernel) rfl) (cq_ok (cr_getf (idx := 111) zc_8 (by decide) zl_301 (by decide +kernel) rfl) (cq_ok (cr_iconst2 (n := 1) (by decide +kernel) (by decide +kernel) rfl) (cq_ok (cr_iload_n (k := 1) (by decide +kernel) rfl rfl) (cq_ok (cr_ishl (by decide +kernel) rfl) (cq_ok (cr_ior (by decide +kernel) rfl) (cq_ok (cr_putf (idx := 111) zc_8 (by decide) (by decide +kernel) rfl zl_301 (by decide +kernel) rfl) (cr_iload_n (k := 2) (by decide +kernel) rfl rfl))))))))
set_option maxRecDepth 100000 in
theorem cd_X8_keep_45 : decode cX8_keep 45 = .ok (zi_rop (some .int), 1) := by decide +kernel
set_option maxRecDepth 100000 in
theorem cb_X8_back_0 : ci_ok yX8_back cX8_back 2 0 (ci_seq (ci_load 0 1 1) 1 (ci_if (fun x => decide (x < 0)) 9 4)) := cq_ok (cr_iload_n (k := 1) (by decide +kernel) rfl rfl) (cr_if_lt (off := 8) (by decide +kernel) (by decide) rfl)
set_option maxRecDepth 100000 in
theorem cb_X8_back_4 : ci_ok yX8_back cX8_back 2 4 (ci_seq (ci_load 0 1 5) 5 (ci_seq (ci_push (.int 2) 6) 6 (ci_ic (fun x y => decide (x < y)) 11 9))) := cq_ok (cr_iload_n (k := 1) (by decide +kernel) rfl rfl) (cq_ok (cr_iconst2 (n := 2) (by decide +kernel) (by decide +kernel) rfl) (cr_ic_lt (off := 5) (by decide +kernel) (by decide) rfl))
set_option maxRecDepth 100000 in
theorem cb_X8_back_9 : ci_ok yX8_back cX8_back 2 9 (ci_push (.int (-1)) 10) := cr_iconst2 (n := -1) (by decide +kernel) (by decide +kernel) rfl
set_option maxRecDepth 100000 in
theorem cd_X8_back_10 : decode cX8_back 10 = .ok (zi_rop (some .int), 1) := by decide +kernel
set_option maxRecDepth 100000 in
theorem cb_X8_back_11 : ci_ok yX8_back cX8_back 2 11 (ci_seq (ci_load 2 0 12) 12 (ci_seq (ci_getf 8 11 15) 15 (ci_load 0 1 16))) := cq_ok (cr_aload_n (k := 0) (by decide +kernel) rfl rfl) (cq_ok (cr_getf (idx := 111) zc_8 (by decide) zl_301 (by decide +kernel) rfl) (cr_iload_n (k := 1) (by decide +kernel) rfl rfl))
set_option maxRecDepth 100000 in
theorem cl_X8_back_16 : ci_calls yX8_back cX8_back 2 16 yX8_has 2 none := cr_callS (idx := 227) zl_965 zl_659 ⟨by decide, by decide⟩ (by decide +kernel) zl_17 (Or.inl zl_351) (by decide +kernel)
set_option maxRecDepth 100000 in
theorem cb_X8_back_19 : ci_ok yX8_back cX8_back 2 19 (ci_if (fun x => !decide (x = 0)) 25 22) := cr_if_ne (off := 6) (by decide +kernel) (by decide) rfl
set_option maxRecDepth 100000 in
theorem cb_X8_back_22 : ci_ok yX8_back cX8_back 2 22 (ci_push (.int (-2)) 24) := cr_bipush (n := -2) (by decide +kernel) (by decide +kernel) rfl
set_option maxRecDepth 100000 in
theorem cd_X8_back_24 : decode cX8_back 24 = .ok (zi_rop (some .int), 1) := by decide +kernel
set_option maxRecDepth 100000 in
theorem cb_X8_back_25 : ci_ok yX8_back cX8_back 2 25 (ci_seq (ci_load 2 0 26) 26 (ci_seq (ci_getf 8 1 29) 29 (ci_seq (ci_load 2 0 30) 30 (ci_load 0 1 31)))) := cq_ok (cr_aload_n (k := 0) (by decide +kernel) rfl rfl) (cq_ok (cr_getf (idx := 21) zc_8 (by decide) zl_241 (by decide +kernel) rfl) (cq_ok (cr_aload_n (k := 0) (by decide +kernel) rfl rfl) (cr_iload_n (k := 1) (by decide +kernel) rfl rfl)))
set_option maxRecDepth 100000 in
theorem cl_X8_back_31 : ci_calls yX8_back cX8_back 2 31 yX8_imageOf 2 (some 8) := cr_callV (idx := 278) zl_985 ⟨by decide, by decide⟩ (by decide +kernel) zc_8 zl_390 zl_391 (Or.inl zl_389) (by decide +kernel)
set_option maxRecDepth 100000 in
theorem cl_X8_back_34 : ci_calls yX8_back cX8_back 2 34 yX7_copy 2 (some 7) := cr_callV (idx := 282) zl_938 ⟨by decide, by decide⟩ (by decide +kernel) zc_7 zl_387 zl_388 (Or.inl zl_386) (by decide +kernel)
set_option maxRecDepth 100000 in
theorem cb_X8_back_37 : ci_ok yX8_back cX8_back 2 37 (ci_seq (ci_load 2 0 38) 38 (ci_seq (ci_getf 8 5 41) 41 (ci_seq (ci_push (.int 0) 42) 42 (ci_seq (ci_putf 4 6 .boolean 45) 45 (ci_seq (ci_load 2 0 46) 46 (ci_seq (ci_getf 8 1 49) 49 (ci_getf 7 4 52))))))) := cq_ok (cr_aload_n (k := 0) (by decide +kernel) rfl rfl) (cq_ok (cr_getf (idx := 41) zc_8 (by decide) zl_269 (by decide +kernel) rfl) (cq_ok (cr_iconst2 (n := 0) (by decide +kernel) (by decide +kernel) rfl) (cq_ok (cr_putf (idx := 107) zc_4 (by decide) (by decide +kernel) rfl zl_302 (by decide +kernel) rfl) (cq_ok (cr_aload_n (k := 0) (by decide +kernel) rfl rfl) (cq_ok (cr_getf (idx := 21) zc_8 (by decide) zl_241 (by decide +kernel) rfl) (cr_getf (idx := 135) zc_7 (by decide) zl_310 (by decide +kernel) rfl))))))
set_option maxRecDepth 100000 in
theorem cd_X8_back_52 : decode cX8_back 52 = .ok (zi_rop (some .int), 1) := by decide +kernel
set_option maxRecDepth 100000 in
theorem cb_X8_imageOf_0 : ci_ok yX8_imageOf cX8_imageOf 2 0 (ci_seq (ci_load 0 1 1) 1 (ci_if (fun x => !decide (x = 0)) 11 4)) := cq_ok (cr_iload_n (k := 1) (by decide +kernel) rfl rfl) (cr_if_ne (off := 10) (by decide +kernel) (by decide) rfl)
set_option maxRecDepth 100000 in
theorem cb_X8_imageOf_4 : ci_ok yX8_imageOf cX8_imageOf 2 4 (ci_seq (ci_load 2 0 5) 5 (ci_seq (ci_getf 8 2 8) 8 (ci_go 15))) := cq_ok (cr_aload_n (k := 0) (by decide +kernel) rfl rfl) (cq_ok (cr_getf (idx := 25) zc_8 (by decide) zl_284 (by decide +kernel) rfl) (cr_goto (off := 7) (by decide +kernel) (by decide)))
set_option maxRecDepth 100000 in
theorem cb_X8_imageOf_11 : ci_ok yX8_imageOf cX8_imageOf 2 11 (ci_seq (ci_load 2 0 12) 12 (ci_getf 8 3 15)) := cq_ok (cr_aload_n (k := 0) (by decide +kernel) rfl rfl) (cr_getf (idx := 28) zc_8 (by decide) zl_278 (by decide +kernel) rfl)
set_option maxRecDepth 100000 in
theorem cd_X8_imageOf_15 : decode cX8_imageOf 15 = .ok (zi_rop (some (.object "RiverDiggers$Times")), 1) := by decide +kernel
set_option maxRecDepth 100000 in
theorem cb_X8_sheet_0 : ci_ok yX8_sheet cX8_sheet 4 0 (ci_seq (ci_load 2 0 1) 1 (ci_seq (ci_getf 8 9 4) 4 (ci_load 0 1 5))) := cq_ok (cr_aload_n (k := 0) (by decide +kernel) rfl rfl) (cq_ok (cr_getf (idx := 71) zc_8 (by decide) zl_246 (by decide +kernel) rfl) (cr_iload_n (k := 1) (by decide +kernel) rfl rfl))
set_option maxRecDepth 100000 in
theorem cl_X8_sheet_5 : ci_calls yX8_sheet cX8_sheet 4 5 yX5_hasSheet 2 (some 5) := cr_callV (idx := 285) zl_918 ⟨by decide, by decide⟩ (by decide +kernel) zc_5 zl_393 zl_394 (Or.inl zl_392) (by decide +kernel)
set_option maxRecDepth 100000 in
theorem cb_X8_sheet_8 : ci_ok yX8_sheet cX8_sheet 4 8 (ci_if (fun x => decide (x = 0)) 28 11) := cr_if_eq (off := 20) (by decide +kernel) (by decide) rfl
set_option maxRecDepth 100000 in
theorem cb_X8_sheet_11 : ci_ok yX8_sheet cX8_sheet 4 11 (ci_seq (ci_load 2 0 12) 12 (ci_seq (ci_getf 8 9 15) 15 (ci_load 0 2 16))) := cq_ok (cr_aload_n (k := 0) (by decide +kernel) rfl rfl) (cq_ok (cr_getf (idx := 71) zc_8 (by decide) zl_246 (by decide +kernel) rfl) (cr_iload_n (k := 2) (by decide +kernel) rfl rfl))
set_option maxRecDepth 100000 in
theorem cl_X8_sheet_16 : ci_calls yX8_sheet cX8_sheet 4 16 yX5_hasLane 2 (some 5) := cr_callV (idx := 288) zl_919 ⟨by decide, by decide⟩ (by decide +kernel) zc_5 zl_396 zl_397 (Or.inl zl_395) (by decide +kernel)
set_option maxRecDepth 100000 in
theorem cb_X8_sheet_19 : ci_ok yX8_sheet cX8_sheet 4 19 (ci_if (fun x => decide (x = 0)) 28 22) := cr_if_eq (off := 9) (by decide +kernel) (by decide) rfl
set_option maxRecDepth 100000 in
theorem cb_X8_sheet_22 : ci_ok yX8_sheet cX8_sheet 4 22 (ci_seq (ci_load 0 3 23) 23 (ci_seq (ci_push (.int 40) 25) 25 (ci_ic (fun x y => decide (x ≤ y)) 30 28))) := cq_ok (cr_iload_n (k := 3) (by decide +kernel) rfl rfl) (cq_ok (cr_bipush (n := 40) (by decide +kernel) (by decide +kernel) rfl) (cr_ic_le (off := 5) (by decide +kernel) (by decide) rfl))
set_option maxRecDepth 100000 in
theorem cb_X8_sheet_28 : ci_ok yX8_sheet cX8_sheet 4 28 (ci_push (.int (-1)) 29) := cr_iconst2 (n := -1) (by decide +kernel) (by decide +kernel) rfl
set_option maxRecDepth 100000 in
theorem cd_X8_sheet_29 : decode cX8_sheet 29 = .ok (zi_rop (some .int), 1) := by decide +kernel
set_option maxRecDepth 100000 in
theorem cb_X8_sheet_30 : ci_ok yX8_sheet cX8_sheet 4 30 (ci_seq (ci_load 0 3 31) 31 (ci_if (fun x => decide (0 ≤ x)) 37 34)) := cq_ok (cr_iload_n (k := 3) (by decide +kernel) rfl rfl) (cr_if_ge (off := 6) (by decide +kernel) (by decide) rfl)
set_option maxRecDepth 100000 in
theorem cb_X8_sheet_34 : ci_ok yX8_sheet cX8_sheet 4 34 (ci_push (.int (-14)) 36) := cr_bipush (n := -14) (by decide +kernel) (by decide +kernel) rfl
set_option maxRecDepth 100000 in
theorem cd_X8_sheet_36 : decode cX8_sheet 36 = .ok (zi_rop (some .int), 1) := by decide +kernel
set_option maxRecDepth 100000 in
theorem cb_X8_sheet_37 : ci_ok yX8_sheet cX8_sheet 4 37 (ci_seq (ci_load 2 0 38) 38 (ci_seq (ci_getf 8 9 41) 41 (ci_seq (ci_load 0 1 42) 42 (ci_seq (ci_load 0 2 43) 43 (ci_load 0 3 44))))) := cq_ok (cr_aload_n (k := 0) (by decide +kernel) rfl rfl) (cq_ok (cr_getf (idx := 71) zc_8 (by decide) zl_246 (by decide +kernel) rfl) (cq_ok (cr_iload_n (k := 1) (by decide +kernel) rfl rfl) (cq_ok (cr_iload_n (k := 2) (by decide +kernel) rfl rfl) (cr_iload_n (k := 3) (by decide +kernel) rfl rfl))))
set_option maxRecDepth 100000 in
theorem cl_X8_sheet_44 : ci_calls yX8_sheet cX8_sheet 4 44 yX5_renew 4 (some 5) := cr_callV (idx := 291) zl_920 ⟨by decide, by decide⟩ (by decide +kernel) zc_5 zl_399 zl_400 (Or.inl zl_398) (by decide +kernel)
set_option maxRecDepth 100000 in
theorem cb_X8_sheet_47 : ci_ok yX8_sheet cX8_sheet 4 47 (ci_push (.int 1) 48) := cr_iconst2 (n := 1) (by decide +kernel) (by decide +kernel) rfl
set_option maxRecDepth 100000 in
theorem cd_X8_sheet_48 : decode cX8_sheet 48 = .ok (zi_rop (some .int), 1) := by decide +kernel
set_option maxRecDepth 100000 in
theorem cb_X8_lay_0 : ci_ok yX8_lay cX8_lay 5 0 (ci_seq (ci_load 2 0 1) 1 (ci_seq (ci_getf 8 9 4) 4 (ci_load 0 1 5))) := cq_ok (cr_aload_n (k := 0) (by decide +kernel) rfl rfl) (cq_ok (cr_getf (idx := 71) zc_8 (by decide) zl_246 (by decide +kernel) rfl) (cr_iload_n (k := 1) (by decide +kernel) rfl rfl))
set_option maxRecDepth 100000 in
theorem cl_X8_lay_5 : ci_calls yX8_lay cX8_lay 5 5 yX5_hasSheet 2 (some 5) := cr_callV (idx := 285) zl_918 ⟨by decide, by decide⟩ (by decide +kernel) zc_5 zl_393 zl_394 (Or.inl zl_392) (by decide +kernel)
set_option maxRecDepth 100000 in
theorem cb_X8_lay_8 : ci_ok yX8_lay cX8_lay 5 8 (ci_if (fun x => !decide (x = 0)) 13 11) := cr_if_ne (off := 5) (by decide +kernel) (by decide) rfl
set_option maxRecDepth 100000 in
theorem cb_X8_lay_11 : ci_ok yX8_lay cX8_lay 5 11 (ci_push (.int (-1)) 12) := cr_iconst2 (n := -1) (by decide +kernel) (by decide +kernel) rfl
set_option maxRecDepth 100000 in
theorem cd_X8_lay_12 : decode cX8_lay 12 = .ok (zi_rop (some .int), 1) := by decide +kernel
set_option maxRecDepth 100000 in
theorem cb_X8_lay_13 : ci_ok yX8_lay cX8_lay 5 13 (ci_seq (ci_load 2 0 14) 14 (ci_seq (ci_getf 8 9 17) 17 (ci_seq (ci_load 0 1 18) 18 (ci_load 0 2 19)))) := cq_ok (cr_aload_n (k := 0) (by decide +kernel) rfl rfl) (cq_ok (cr_getf (idx := 71) zc_8 (by decide) zl_246 (by decide +kernel) rfl) (cq_ok (cr_iload_n (k := 1) (by decide +kernel) rfl rfl) (cr_iload_n (k := 2) (by decide +kernel) rfl rfl)))
set_option maxRecDepth 100000 in
theorem cl_X8_lay_19 : ci_calls yX8_lay cX8_lay 5 19 yX5_reachFault 3 (some 5) := cr_callV (idx := 295) zl_922 ⟨by decide, by decide⟩ (by decide +kernel) zc_5 zl_202 zl_203 (Or.inl zl_401) (by decide +kernel)
set_option maxRecDepth 100000 in
theorem cb_X8_lay_22 : ci_ok yX8_lay cX8_lay 5 22 (ci_seq (ci_store 0 4 24) 24 (ci_seq (ci_load 0 4 26) 26 (ci_if (fun x => decide (x = 0)) 35 29))) := cq_ok (cr_istore (by decide +kernel) (by decide) rfl) (cq_ok (cr_iload (by decide +kernel) rfl) (cr_if_eq (off := 9) (by decide +kernel) (by decide) rfl))
set_option maxRecDepth 100000 in
theorem cb_X8_lay_29 : ci_ok yX8_lay cX8_lay 5 29 (ci_seq (ci_push (.int (-10)) 31) 31 (ci_seq (ci_load 0 4 33) 33 (ci_bin (fun a b => a - b) 34))) := cq_ok (cr_bipush (n := -10) (by decide +kernel) (by decide +kernel) rfl) (cq_ok (cr_iload (by decide +kernel) rfl) (cr_isub (by decide +kernel) rfl))
set_option maxRecDepth 100000 in
theorem cd_X8_lay_34 : decode cX8_lay 34 = .ok (zi_rop (some .int), 1) := by decide +kernel
set_option maxRecDepth 100000 in
theorem cb_X8_lay_35 : ci_ok yX8_lay cX8_lay 5 35 (ci_seq (ci_load 2 0 36) 36 (ci_seq (ci_getf 8 9 39) 39 (ci_seq (ci_load 0 1 40) 40 (ci_seq (ci_load 0 2 41) 41 (ci_load 0 3 42))))) := cq_ok (cr_aload_n (k := 0) (by decide +kernel) rfl rfl) (cq_ok (cr_getf (idx := 71) zc_8 (by decide) zl_246 (by decide +kernel) rfl) (cq_ok (cr_iload_n (k := 1) (by decide +kernel) rfl rfl) (cq_ok (cr_iload_n (k := 2) (by decide +kernel) rfl rfl) (cr_iload_n (k := 3) (by decide +kernel) rfl rfl))))
set_option maxRecDepth 100000 in
theorem cl_X8_lay_42 : ci_calls yX8_lay cX8_lay 5 42 yX5_put 4 (some 5) := cr_callV (idx := 298) zl_924 ⟨by decide, by decide⟩ (by decide +kernel) zc_5 zl_403 zl_404 (Or.inl zl_402) (by decide +kernel)
set_option maxRecDepth 100000 in
theorem cb_X8_lay_45 : ci_ok yX8_lay cX8_lay 5 45 (ci_push (.int 1) 46) := cr_iconst2 (n := 1) (by decide +kernel) (by decide +kernel) rfl
set_option maxRecDepth 100000 in
theorem cd_X8_lay_46 : decode cX8_lay 46 = .ok (zi_rop (some .int), 1) := by decide +kernel
set_option maxRecDepth 100000 in
theorem cb_X8_read_0 : ci_ok yX8_read cX8_read 9 0 (ci_seq (ci_load 2 0 1) 1 (ci_seq (ci_getf 8 9 4) 4 (ci_load 0 1 5))) := cq_ok (cr_aload_n (k := 0) (by decide +kernel) rfl rfl) (cq_ok (cr_getf (idx := 71) zc_8 (by decide) zl_246 (by decide +kernel) rfl) (cr_iload_n (k := 1) (by decide +kernel) rfl rfl))
set_option maxRecDepth 100000 in
theorem cl_X8_read_5 : ci_calls yX8_read cX8_read 9 5 yX5_hasSheet 2 (some 5) := cr_callV (idx := 285) zl_918 ⟨by decide, by decide⟩ (by decide +kernel) zc_5 zl_393 zl_394 (Or.inl zl_392) (by decide +kernel)
set_option maxRecDepth 100000 in
theorem cb_X8_read_8 : ci_ok yX8_read cX8_read 9 8 (ci_if (fun x => decide (x = 0)) 34 11) := cr_if_eq (off := 26) (by decide +kernel) (by decide) rfl
set_option maxRecDepth 100000 in
theorem cb_X8_read_11 : ci_ok yX8_read cX8_read 9 11 (ci_seq (ci_load 2 0 12) 12 (ci_seq (ci_getf 8 9 15) 15 (ci_load 0 2 16))) := cq_ok (cr_aload_n (k := 0) (by decide +kernel) rfl rfl) (cq_ok (cr_getf (idx := 71) zc_8 (by decide) zl_246 (by decide +kernel) rfl) (cr_iload_n (k := 2) (by decide +kernel) rfl rfl))
set_option maxRecDepth 100000 in
theorem cl_X8_read_16 : ci_calls yX8_read cX8_read 9 16 yX5_hasLane 2 (some 5) := cr_callV (idx := 288) zl_919 ⟨by decide, by decide⟩ (by decide +kernel) zc_5 zl_396 zl_397 (Or.inl zl_395) (by decide +kernel)
set_option maxRecDepth 100000 in
theorem cb_X8_read_19 : ci_ok yX8_read cX8_read 9 19 (ci_if (fun x => decide (x = 0)) 34 22) := cr_if_eq (off := 15) (by decide +kernel) (by decide) rfl
set_option maxRecDepth 100000 in
theorem cb_X8_read_22 : ci_ok yX8_read cX8_read 9 22 (ci_seq (ci_load 0 4 24) 24 (ci_if (fun x => decide (x < 0)) 34 27)) := cq_ok (cr_iload (by decide +kernel) rfl) (cr_if_lt (off := 10) (by decide +kernel) (by decide) rfl)
set_option maxRecDepth 100000 in
theorem cb_X8_read_27 : ci_ok yX8_read cX8_read 9 27 (ci_seq (ci_load 0 4 29) 29 (ci_seq (ci_push (.int 20) 31) 31 (ci_ic (fun x y => decide (x ≤ y)) 36 34))) := cq_ok (cr_iload (by decide +kernel) rfl) (cq_ok (cr_bipush (n := 20) (by decide +kernel) (by decide +kernel) rfl) (cr_ic_le (off := 5) (by decide +kernel) (by decide) rfl))
set_option maxRecDepth 100000 in
theorem cb_X8_read_34 : ci_ok yX8_read cX8_read 9 34 (ci_push (.int (-1)) 35) := cr_iconst2 (n := -1) (by decide +kernel) (by decide +kernel) rfl
set_option maxRecDepth 100000 in
theorem cd_X8_read_35 : decode cX8_read 35 = .ok (zi_rop (some .int), 1) := by decide +kernel
set_option maxRecDepth 100000 in
theorem cb_X8_read_36 : ci_ok yX8_read cX8_read 9 36 (ci_seq (ci_load 2 0 37) 37 (ci_seq (ci_getf 8 4 40) 40 (ci_seq (ci_load 2 0 41) 41 (ci_seq (ci_getf 8 1 44) 44 (ci_getf 7 0 47))))) := cq_ok (cr_aload_n (k := 0) (by decide +kernel) rfl rfl) (cq_ok (cr_getf (idx := 34) zc_8 (by decide) zl_275 (by decide +kernel) rfl) (cq_ok (cr_aload_n (k := 0) (by decide +kernel) rfl rfl) (cq_ok (cr_getf (idx := 21) zc_8 (by decide) zl_241 (by decide +kernel) rfl) (cr_getf (idx := 120) zc_7 (by decide) zl_306 (by decide +kernel) rfl))))
set_option maxRecDepth 100000 in
theorem cl_X8_read_47 : ci_calls yX8_read cX8_read 9 47 yX2_copy 2 (some 2) := cr_callV (idx := 192) zl_895 ⟨by decide, by decide⟩ (by decide +kernel) zc_2 zl_11 zl_12 (Or.inl zl_338) (by decide +kernel)
set_option maxRecDepth 100000 in
theorem cb_X8_read_50 : ci_ok yX8_read cX8_read 9 50 (ci_seq (ci_push (.int 0) 51) 51 (ci_seq (ci_store 0 5 53) 53 (ci_seq (ci_push (.int 0) 54) 54 (ci_seq (ci_store 0 6 56) 56 (ci_seq (ci_push (.int 0) 57) 57 (ci_store 0 7 59)))))) := cq_ok (cr_iconst2 (n := 0) (by decide +kernel) (by decide +kernel) rfl) (cq_ok (cr_istore (by decide +kernel) (by decide) rfl) (cq_ok (cr_iconst2 (n := 0) (by decide +kernel) (by decide +kernel) rfl) (cq_ok (cr_istore (by decide +kernel) (by decide) rfl) (cq_ok (cr_iconst2 (n := 0) (by decide +kernel) (by decide +kernel) rfl) (cr_istore (by decide +kernel) (by decide) rfl)))))
set_option maxRecDepth 100000 in
theorem cb_X8_read_59 : ci_ok yX8_read cX8_read 9 59 (ci_seq (ci_load 0 7 61) 61 (ci_seq (ci_load 0 4 63) 63 (ci_ic (fun x y => decide (y ≤ x)) 151 66))) := cq_ok (cr_iload (by decide +kernel) rfl) (cq_ok (cr_iload (by decide +kernel) rfl) (cr_ic_ge (off := 88) (by decide +kernel) (by decide) rfl))
set_option maxRecDepth 100000 in
theorem cb_X8_read_66 : ci_ok yX8_read cX8_read 9 66 (ci_seq (ci_load 0 6 68) 68 (ci_if (fun x => !decide (x = 0)) 151 71)) := cq_ok (cr_iload (by decide +kernel) rfl) (cr_if_ne (off := 83) (by decide +kernel) (by decide) rfl)
set_option maxRecDepth 100000 in
theorem cb_X8_read_71 : ci_ok yX8_read cX8_read 9 71 (ci_seq (ci_load 2 0 72) 72 (ci_seq (ci_getf 8 9 75) 75 (ci_seq (ci_load 0 1 76) 76 (ci_seq (ci_load 0 2 77) 77 (ci_seq (ci_load 0 3 78) 78 (ci_seq (ci_load 0 7 80) 80 (ci_bin (fun a b => a + b) 81))))))) := cq_ok (cr_aload_n (k := 0) (by decide +kernel) rfl rfl) (cq_ok (cr_getf (idx := 71) zc_8 (by decide) zl_246 (by decide +kernel) rfl) (cq_ok (cr_iload_n (k := 1) (by decide +kernel) rfl rfl) (cq_ok (cr_iload_n (k := 2) (by decide +kernel) rfl rfl) (cq_ok (cr_iload_n (k := 3) (by decide +kernel) rfl rfl) (cq_ok (cr_iload (by decide +kernel) rfl) (cr_iadd (by decide +kernel) rfl))))))
set_option maxRecDepth 100000 in
theorem cl_X8_read_81 : ci_calls yX8_read cX8_read 9 81 yX5_takeFault 4 (some 5) := cr_callV (idx := 301) zl_921 ⟨by decide, by decide⟩ (by decide +kernel) zc_5 zl_406 zl_407 (Or.inl zl_405) (by decide +kernel)
set_option maxRecDepth 100000 in
theorem cb_X8_read_84 : ci_ok yX8_read cX8_read 9 84 (ci_seq (ci_store 0 6 86) 86 (ci_seq (ci_load 0 6 88) 88 (ci_if (fun x => !decide (x = 0)) 145 91))) := cq_ok (cr_istore (by decide +kernel) (by decide) rfl) (cq_ok (cr_iload (by decide +kernel) rfl) (cr_if_ne (off := 57) (by decide +kernel) (by decide) rfl))
set_option maxRecDepth 100000 in
theorem cb_X8_read_91 : ci_ok yX8_read cX8_read 9 91 (ci_seq (ci_load 2 0 92) 92 (ci_seq (ci_getf 8 9 95) 95 (ci_seq (ci_load 0 1 96) 96 (ci_seq (ci_load 0 3 97) 97 (ci_seq (ci_load 0 7 99) 99 (ci_bin (fun a b => a + b) 100)))))) := cq_ok (cr_aload_n (k := 0) (by decide +kernel) rfl rfl) (cq_ok (cr_getf (idx := 71) zc_8 (by decide) zl_246 (by decide +kernel) rfl) (cq_ok (cr_iload_n (k := 1) (by decide +kernel) rfl rfl) (cq_ok (cr_iload_n (k := 3) (by decide +kernel) rfl rfl) (cq_ok (cr_iload (by decide +kernel) rfl) (cr_iadd (by decide +kernel) rfl)))))
set_option maxRecDepth 100000 in
theorem cl_X8_read_100 : ci_calls yX8_read cX8_read 9 100 yX5_valueAt 3 (some 5) := cr_callV (idx := 305) zl_923 ⟨by decide, by decide⟩ (by decide +kernel) zc_5 zl_409 zl_410 (Or.inl zl_408) (by decide +kernel)
set_option maxRecDepth 100000 in
theorem cb_X8_read_103 : ci_ok yX8_read cX8_read 9 103 (ci_seq (ci_store 0 8 105) 105 (ci_seq (ci_load 2 0 106) 106 (ci_seq (ci_getf 8 4 109) 109 (ci_seq (ci_load 0 8 111) 111 (ci_seq (ci_load 2 0 112) 112 (ci_seq (ci_getf 8 1 115) 115 (ci_seq (ci_getf 7 4 118) 118 (ci_seq (ci_load 0 7 120) 120 (ci_bin (fun a b => a + b) 121))))))))) := cq_ok (cr_istore (by decide +kernel) (by decide) rfl) (cq_ok (cr_aload_n (k := 0) (by decide +kernel) rfl rfl) (cq_ok (cr_getf (idx := 34) zc_8 (by decide) zl_275 (by decide +kernel) rfl) (cq_ok (cr_iload (by decide +kernel) rfl) (cq_ok (cr_aload_n (k := 0) (by decide +kernel) rfl rfl) (cq_ok (cr_getf (idx := 21) zc_8 (by decide) zl_241 (by decide +kernel) rfl) (cq_ok (cr_getf (idx := 135) zc_7 (by decide) zl_310 (by decide +kernel) rfl) (cq_ok (cr_iload (by decide +kernel) rfl) (cr_iadd (by decide +kernel) rfl))))))))
set_option maxRecDepth 100000 in
theorem cl_X8_read_121 : ci_calls yX8_read cX8_read 9 121 yX8_refusal 3 none := cr_callS (idx := 178) zl_961 zl_659 ⟨by decide, by decide⟩ (by decide +kernel) zl_331 (Or.inl zl_330) (by decide +kernel)
set_option maxRecDepth 100000 in
theorem cb_X8_read_124 : ci_ok yX8_read cX8_read 9 124 (ci_if (fun x => decide (x = 0)) 133 127) := cr_if_eq (off := 9) (by decide +kernel) (by decide) rfl
set_option maxRecDepth 100000 in
theorem cb_X8_read_127 : ci_ok yX8_read cX8_read 9 127 (ci_seq (ci_push (.int (-20)) 129) 129 (ci_seq (ci_load 0 7 131) 131 (ci_bin (fun a b => a - b) 132))) := cq_ok (cr_bipush (n := -20) (by decide +kernel) (by decide +kernel) rfl) (cq_ok (cr_iload (by decide +kernel) rfl) (cr_isub (by decide +kernel) rfl))
set_option maxRecDepth 100000 in
theorem cd_X8_read_132 : decode cX8_read 132 = .ok (zi_rop (some .int), 1) := by decide +kernel
set_option maxRecDepth 100000 in
theorem cb_X8_read_133 : ci_ok yX8_read cX8_read 9 133 (ci_seq (ci_load 2 0 134) 134 (ci_seq (ci_getf 8 4 137) 137 (ci_load 0 8 139))) := cq_ok (cr_aload_n (k := 0) (by decide +kernel) rfl rfl) (cq_ok (cr_getf (idx := 34) zc_8 (by decide) zl_275 (by decide +kernel) rfl) (cr_iload (by decide +kernel) rfl))
set_option maxRecDepth 100000 in
theorem cl_X8_read_139 : ci_calls yX8_read cX8_read 9 139 yX2_pass 2 (some 2) := cr_callV (idx := 182) zl_902 ⟨by decide, by decide⟩ (by decide +kernel) zc_2 zl_23 zl_24 (Or.inl zl_332) (by decide +kernel)
set_option maxRecDepth 100000 in
theorem cb_X8_read_142 : ci_ok yX8_read cX8_read 9 142 (ci_inc 5 1 145) := ci_inc_ok (by decide) (by decide +kernel) rfl
set_option maxRecDepth 100000 in
theorem cb_X8_read_145 : ci_ok yX8_read cX8_read 9 145 (ci_seq (ci_inc 7 1 148) 148 (ci_go 59)) := cq_ok (ci_inc_ok (by decide) (by decide +kernel) rfl) (cr_goto (off := -89) (by decide +kernel) (by decide))
set_option maxRecDepth 100000 in
theorem cb_X8_read_151 : ci_ok yX8_read cX8_read 9 151 (ci_seq (ci_load 2 0 152) 152 (ci_seq (ci_getf 8 1 155) 155 (ci_seq (ci_getf 7 0 158) 158 (ci_seq (ci_load 2 0 159) 159 (ci_getf 8 4 162))))) := cq_ok (cr_aload_n (k := 0) (by decide +kernel) rfl rfl) (cq_ok (cr_getf (idx := 21) zc_8 (by decide) zl_241 (by decide +kernel) rfl) (cq_ok (cr_getf (idx := 120) zc_7 (by decide) zl_306 (by decide +kernel) rfl) (cq_ok (cr_aload_n (k := 0) (by decide +kernel) rfl rfl) (cr_getf (idx := 34) zc_8 (by decide) zl_275 (by decide +kernel) rfl))))
set_option maxRecDepth 100000 in
theorem cl_X8_read_162 : ci_calls yX8_read cX8_read 9 162 yX2_copy 2 (some 2) := cr_callV (idx := 192) zl_895 ⟨by decide, by decide⟩ (by decide +kernel) zc_2 zl_11 zl_12 (Or.inl zl_338) (by decide +kernel)
set_option maxRecDepth 100000 in
theorem cb_X8_read_165 : ci_ok yX8_read cX8_read 9 165 (ci_seq (ci_load 2 0 166) 166 (ci_seq (ci_getf 8 1 169) 169 (ci_seq (ci_dup 170) 170 (ci_seq (ci_getf 7 4 173) 173 (ci_seq (ci_load 0 5 175) 175 (ci_seq (ci_bin (fun a b => a + b) 176) 176 (ci_seq (ci_putf 7 4 .int 179) 179 (ci_seq (ci_load 2 0 180) 180 (ci_seq (ci_getf 8 5 183) 183 (ci_seq (ci_push (.int 0) 184) 184 (ci_seq (ci_putf 4 6 .boolean 187) 187 (ci_seq (ci_load 2 0 188) 188 (ci_seq (ci_load 0 6 190) 190 (ci_seq (ci_putf 8 13 .int 193) 193 (ci_load 0 5 195))))))))))))))) := cq_ok (cr_aload_n (k := 0) (by decide +kernel) rfl rfl) (cq_ok (cr_getf (idx := 21) zc_8 (by decide) zl_241 (by decide +kernel) rfl) (cq_ok (cr_dup (by decide +kernel) rfl) (cq_ok (cr_getf (idx := 135) zc_7 (by decide) zl_310 (by decide +kernel) rfl) (cq_ok (cr_iload (by decide +kernel) rfl) (cq_ok (cr_iadd (by decide +kernel) rfl) (cq_ok (cr_putf (idx := 135) zc_7 (by decide) (by decide +kernel) rfl zl_310 (by decide +kernel) rfl) (cq_ok (cr_aload_n (k := 0) (by decide +kernel) rfl rfl) (cq_ok (cr_getf (idx := 41) zc_8 (by decide) zl_269 (by decide +kernel) rfl) (cq_ok (cr_iconst2 (n := 0) (by decide +kernel) (by decide +kernel) rfl) (cq_ok (cr_putf (idx := 107) zc_4 (by decide) (by decide +kernel) rfl zl_302 (by decide +kernel) rfl) (cq_ok (cr_aload_n (k := 0) (by decide +kernel) rfl rfl) (cq_ok (cr_iload (by decide +kernel) rfl) (cq_ok (cr_putf (idx := 308) zc_8 (by decide) (by decide +kernel) rfl zl_411 (by decide +kernel) rfl) (cr_iload (by decide +kernel) rfl))))))))))))))
set_option maxRecDepth 100000 in
theorem cd_X8_read_195 : decode cX8_read 195 = .ok (zi_rop (some .int), 1) := by decide +kernel
set_option maxRecDepth 100000 in
theorem cb_X8_torn_0 : ci_ok yX8_torn cX8_torn 1 0 (ci_seq (ci_load 2 0 1) 1 (ci_getf 8 13 4)) := cq_ok (cr_aload_n (k := 0) (by decide +kernel) rfl rfl) (cr_getf (idx := 308) zc_8 (by decide) zl_411 (by decide +kernel) rfl)
set_option maxRecDepth 100000 in
theorem cd_X8_torn_4 : decode cX8_torn 4 = .ok (zi_rop (some .int), 1) := by decide +kernel
set_option maxRecDepth 100000 in
theorem cb_X8_count_0 : ci_ok yX8_count cX8_count 2 0 (ci_seq (ci_load 0 1 1) 1 (ci_tsw 0 7 [48, 59, 67, 75, 83, 91, 118, 129] 140)) := cq_ok (cr_iload_n (k := 1) (by decide +kernel) rfl rfl) (cr_tsw (dflt := 139) (lo := 0) (hi := 7) (offs := #[47, 58, 66, 74, 82, 90, 117, 128]) (len := 47) (by decide +kernel) (by decide) (by decide +kernel))
set_option maxRecDepth 100000 in
theorem cb_X8_count_48 : ci_ok yX8_count cX8_count 2 48 (ci_seq (ci_load 2 0 49) 49 (ci_seq (ci_getf 8 1 52) 52 (ci_seq (ci_getf 7 0 55) 55 (ci_getf 2 3 58)))) := cq_ok (cr_aload_n (k := 0) (by decide +kernel) rfl rfl) (cq_ok (cr_getf (idx := 21) zc_8 (by decide) zl_241 (by decide +kernel) rfl) (cq_ok (cr_getf (idx := 120) zc_7 (by decide) zl_306 (by decide +kernel) rfl) (cr_getf (idx := 168) zc_2 (by decide) zl_324 (by decide +kernel) rfl)))
set_option maxRecDepth 100000 in
theorem cd_X8_count_58 : decode cX8_count 58 = .ok (zi_rop (some .int), 1) := by decide +kernel
set_option maxRecDepth 100000 in
theorem cb_X8_count_59 : ci_ok yX8_count cX8_count 2 59 (ci_seq (ci_load 2 0 60) 60 (ci_seq (ci_getf 8 1 63) 63 (ci_getf 7 5 66))) := cq_ok (cr_aload_n (k := 0) (by decide +kernel) rfl rfl) (cq_ok (cr_getf (idx := 21) zc_8 (by decide) zl_241 (by decide +kernel) rfl) (cr_getf (idx := 196) zc_7 (by decide) zl_339 (by decide +kernel) rfl))
set_option maxRecDepth 100000 in
theorem cd_X8_count_66 : decode cX8_count 66 = .ok (zi_rop (some .int), 1) := by decide +kernel
set_option maxRecDepth 100000 in
theorem cb_X8_count_67 : ci_ok yX8_count cX8_count 2 67 (ci_seq (ci_load 2 0 68) 68 (ci_seq (ci_getf 8 1 71) 71 (ci_getf 7 6 74))) := cq_ok (cr_aload_n (k := 0) (by decide +kernel) rfl rfl) (cq_ok (cr_getf (idx := 21) zc_8 (by decide) zl_241 (by decide +kernel) rfl) (cr_getf (idx := 269) zc_7 (by decide) zl_381 (by decide +kernel) rfl))
set_option maxRecDepth 100000 in
theorem cd_X8_count_74 : decode cX8_count 74 = .ok (zi_rop (some .int), 1) := by decide +kernel
set_option maxRecDepth 100000 in
theorem cb_X8_count_75 : ci_ok yX8_count cX8_count 2 75 (ci_seq (ci_load 2 0 76) 76 (ci_getf 8 11 79)) := cq_ok (cr_aload_n (k := 0) (by decide +kernel) rfl rfl) (cr_getf (idx := 111) zc_8 (by decide) zl_301 (by decide +kernel) rfl)
set_option maxRecDepth 100000 in
theorem cl_X8_count_79 : ci_calls yX8_count cX8_count 2 79 yJ6_bitCount_0f7a4 1 none := cr_callS (idx := 219) zl_1085 zl_1086 ⟨by decide, by decide⟩ (by decide +kernel) zl_104 (Or.inl zl_353) (by decide +kernel)
set_option maxRecDepth 100000 in
theorem cd_X8_count_82 : decode cX8_count 82 = .ok (zi_rop (some .int), 1) := by decide +kernel
set_option maxRecDepth 100000 in
theorem cb_X8_count_83 : ci_ok yX8_count cX8_count 2 83 (ci_seq (ci_load 2 0 84) 84 (ci_seq (ci_getf 8 7 87) 87 (ci_getf 6 1 90))) := cq_ok (cr_aload_n (k := 0) (by decide +kernel) rfl rfl) (cq_ok (cr_getf (idx := 57) zc_8 (by decide) zl_257 (by decide +kernel) rfl) (cr_getf (idx := 90) zc_6 (by decide) zl_294 (by decide +kernel) rfl))
set_option maxRecDepth 100000 in
theorem cd_X8_count_90 : decode cX8_count 90 = .ok (zi_rop (some .int), 1) := by decide +kernel
set_option maxRecDepth 100000 in
theorem cb_X8_count_91 : ci_ok yX8_count cX8_count 2 91 (ci_seq (ci_load 2 0 92) 92 (ci_seq (ci_getf 8 9 95) 95 (ci_seq (ci_getf 5 1 98) 98 (ci_seq (ci_push (.int 0) 99) 99 (ci_seq (ci_ald .int 100) 100 (ci_if (fun x => decide (0 ≤ x)) 108 103)))))) := cq_ok (cr_aload_n (k := 0) (by decide +kernel) rfl rfl) (cq_ok (cr_getf (idx := 71) zc_8 (by decide) zl_246 (by decide +kernel) rfl) (cq_ok (cr_getf (idx := 311) zc_5 (by decide) zl_412 (by decide +kernel) rfl) (cq_ok (cr_iconst2 (n := 0) (by decide +kernel) (by decide +kernel) rfl) (cq_ok (cr_ald (ins := .iaload) rfl (by decide +kernel) (Or.inl ⟨rfl, rfl⟩)) (cr_if_ge (off := 8) (by decide +kernel) (by decide) rfl)))))
set_option maxRecDepth 100000 in
theorem cb_X8_count_103 : ci_ok yX8_count cX8_count 2 103 (ci_seq (ci_push (.int (-4)) 105) 105 (ci_go 117)) := cq_ok (cr_bipush (n := -4) (by decide +kernel) (by decide +kernel) rfl) (cr_goto (off := 12) (by decide +kernel) (by decide))
set_option maxRecDepth 100000 in
theorem cb_X8_count_108 : ci_ok yX8_count cX8_count 2 108 (ci_seq (ci_load 2 0 109) 109 (ci_seq (ci_getf 8 9 112) 112 (ci_seq (ci_getf 5 1 115) 115 (ci_seq (ci_push (.int 0) 116) 116 (ci_ald .int 117))))) := cq_ok (cr_aload_n (k := 0) (by decide +kernel) rfl rfl) (cq_ok (cr_getf (idx := 71) zc_8 (by decide) zl_246 (by decide +kernel) rfl) (cq_ok (cr_getf (idx := 311) zc_5 (by decide) zl_412 (by decide +kernel) rfl) (cq_ok (cr_iconst2 (n := 0) (by decide +kernel) (by decide +kernel) rfl) (cr_ald (ins := .iaload) rfl (by decide +kernel) (Or.inl ⟨rfl, rfl⟩)))))
set_option maxRecDepth 100000 in
theorem cd_X8_count_117 : decode cX8_count 117 = .ok (zi_rop (some .int), 1) := by decide +kernel
set_option maxRecDepth 100000 in
theorem cb_X8_count_118 : ci_ok yX8_count cX8_count 2 118 (ci_seq (ci_load 2 0 119) 119 (ci_seq (ci_getf 8 1 122) 122 (ci_getf 7 0 125))) := cq_ok (cr_aload_n (k := 0) (by decide +kernel) rfl rfl) (cq_ok (cr_getf (idx := 21) zc_8 (by decide) zl_241 (by decide +kernel) rfl) (cr_getf (idx := 120) zc_7 (by decide) zl_306 (by decide +kernel) rfl))
set_option maxRecDepth 100000 in
theorem cl_X8_count_125 : ci_calls yX8_count cX8_count 2 125 yX2_allParts 1 (some 2) := cr_callV (idx := 314) zl_901 ⟨by decide, by decide⟩ (by decide +kernel) zc_2 zl_414 zl_415 (Or.inl zl_413) (by decide +kernel)
set_option maxRecDepth 100000 in
theorem cd_X8_count_128 : decode cX8_count 128 = .ok (zi_rop (some .int), 1) := by decide +kernel
set_option maxRecDepth 100000 in
theorem cb_X8_count_129 : ci_ok yX8_count cX8_count 2 129 (ci_seq (ci_load 2 0 130) 130 (ci_seq (ci_getf 8 1 133) 133 (ci_getf 7 0 136))) := cq_ok (cr_aload_n (k := 0) (by decide +kernel) rfl rfl) (cq_ok (cr_getf (idx := 21) zc_8 (by decide) zl_241 (by decide +kernel) rfl) (cr_getf (idx := 120) zc_7 (by decide) zl_306 (by decide +kernel) rfl))
set_option maxRecDepth 100000 in
theorem cl_X8_count_136 : ci_calls yX8_count cX8_count 2 136 yX2_possibleYears 1 (some 2) := cr_callV (idx := 318) zl_900 ⟨by decide, by decide⟩ (by decide +kernel) zc_2 zl_417 zl_418 (Or.inl zl_416) (by decide +kernel)
set_option maxRecDepth 100000 in
theorem cd_X8_count_139 : decode cX8_count 139 = .ok (zi_rop (some .int), 1) := by decide +kernel
set_option maxRecDepth 100000 in
theorem cb_X8_count_140 : ci_ok yX8_count cX8_count 2 140 (ci_push (.int (-1)) 141) := cr_iconst2 (n := -1) (by decide +kernel) (by decide +kernel) rfl
set_option maxRecDepth 100000 in
theorem cd_X8_count_141 : decode cX8_count 141 = .ok (zi_rop (some .int), 1) := by decide +kernel
set_option maxRecDepth 100000 in
theorem cb_X9_in_0 : ci_ok yX9_in cX9_in 6 0 (ci_seq (ci_load 1 0 1) 1 (ci_seq (ci_load 1 2 2) 2 (ci_seq (ci_lcmp 3) 3 (ci_if (fun x => decide (x < 0)) 17 6)))) := cq_ok (cr_lload_n (k := 0) (by decide +kernel) rfl rfl) (cq_ok (cr_lload_n (k := 2) (by decide +kernel) rfl rfl) (cq_ok (cr_lcmp (by decide +kernel) rfl) (cr_if_lt (off := 14) (by decide +kernel) (by decide) rfl)))
set_option maxRecDepth 100000 in
theorem cb_X9_in_6 : ci_ok yX9_in cX9_in 6 6 (ci_seq (ci_load 1 0 7) 7 (ci_seq (ci_load 1 4 9) 9 (ci_seq (ci_lcmp 10) 10 (ci_if (fun x => decide (0 < x)) 17 13)))) := cq_ok (cr_lload_n (k := 0) (by decide +kernel) rfl rfl) (cq_ok (cr_lload (by decide +kernel) rfl) (cq_ok (cr_lcmp (by decide +kernel) rfl) (cr_if_gt (off := 7) (by decide +kernel) (by decide) rfl)))
set_option maxRecDepth 100000 in
theorem cb_X9_in_13 : ci_ok yX9_in cX9_in 6 13 (ci_seq (ci_push (.int 1) 14) 14 (ci_go 18)) := cq_ok (cr_iconst2 (n := 1) (by decide +kernel) (by decide +kernel) rfl) (cr_goto (off := 4) (by decide +kernel) (by decide))
set_option maxRecDepth 100000 in
theorem cb_X9_in_17 : ci_ok yX9_in cX9_in 6 17 (ci_push (.int 0) 18) := cr_iconst2 (n := 0) (by decide +kernel) (by decide +kernel) rfl
set_option maxRecDepth 100000 in
theorem cd_X9_in_18 : decode cX9_in 18 = .ok (zi_rop (some .boolean), 1) := by decide +kernel
set_option maxRecDepth 100000 in
theorem cb_X9_flag_0 : ci_ok yX9_flag cX9_flag 1 0 (ci_seq (ci_load 0 0 1) 1 (ci_if (fun x => decide (x = 0)) 8 4)) := cq_ok (cr_iload_n (k := 0) (by decide +kernel) rfl rfl) (cr_if_eq (off := 7) (by decide +kernel) (by decide) rfl)
set_option maxRecDepth 100000 in
theorem cb_X9_flag_4 : ci_ok yX9_flag cX9_flag 1 4 (ci_seq (ci_push (.int 1) 5) 5 (ci_go 9)) := cq_ok (cr_iconst2 (n := 1) (by decide +kernel) (by decide +kernel) rfl) (cr_goto (off := 4) (by decide +kernel) (by decide))
set_option maxRecDepth 100000 in
theorem cb_X9_flag_8 : ci_ok yX9_flag cX9_flag 1 8 (ci_push (.int 0) 9) := cr_iconst2 (n := 0) (by decide +kernel) (by decide +kernel) rfl
set_option maxRecDepth 100000 in
theorem cd_X9_flag_9 : decode cX9_flag 9 = .ok (zi_rop (some .int), 1) := by decide +kernel
set_option maxRecDepth 100000 in
theorem cb_X9_firstDraft_0 : ci_ok yX9_firstDraft cX9_firstDraft 2 0 (ci_seq (ci_load 2 0 1) 1 (ci_seq (ci_push (.int 3) 2) 2 (ci_seq (ci_putf 9 6 .int 5) 5 (ci_seq (ci_load 2 0 6) 6 (ci_seq (ci_push (.int 3) 7) 7 (ci_seq (ci_putf 9 7 .int 10) 10 (ci_seq (ci_load 2 0 11) 11 (ci_seq (ci_push (.int 0) 12) 12 (ci_seq (ci_putf 9 8 .int 15) 15 (ci_seq (ci_load 2 0 16) 16 (ci_seq (ci_push (.int 0) 17) 17 (ci_seq (ci_putf 9 9 .int 20) 20 (ci_seq (ci_load 2 0 21) 21 (ci_seq (ci_push (.int 0) 22) 22 (ci_seq (ci_putf 9 10 .int 25) 25 (ci_seq (ci_load 2 0 26) 26 (ci_seq (ci_push (.int 0) 27) 27 (ci_seq (ci_putf 9 11 .int 30) 30 (ci_seq (ci_push (.int 0) 31) 31 (ci_store 0 1 32)))))))))))))))))))) := cq_ok (cr_aload_n (k := 0) (by decide +kernel) rfl rfl) (cq_ok (cr_iconst2 (n := 3) (by decide +kernel) (by decide +kernel) rfl) (cq_ok (cr_putf (idx := 83) zc_9 (by decide) (by decide +kernel) rfl zl_454 (by decide +kernel) rfl) (cq_ok (cr_aload_n (k := 0) (by decide +kernel) rfl rfl) (cq_ok (cr_iconst2 (n := 3) (by decide +kernel) (by decide +kernel) rfl) (cq_ok (cr_putf (idx := 87) zc_9 (by decide) (by decide +kernel) rfl zl_453 (by decide +kernel) rfl) (cq_ok (cr_aload_n (k := 0) (by decide +kernel) rfl rfl) (cq_ok (cr_iconst2 (n := 0) (by decide +kernel) (by decide +kernel) rfl) (cq_ok (cr_putf (idx := 90) zc_9 (by decide) (by decide +kernel) rfl zl_452 (by decide +kernel) rfl) (cq_ok (cr_aload_n (k := 0) (by decide +kernel) rfl rfl) (cq_ok (cr_iconst2 (n := 0) (by decide +kernel) (by decide +kernel) rfl) (cq_ok (cr_putf (idx := 93) zc_9 (by decide) (by decide +kernel) rfl zl_451 (by decide +kernel) rfl) (cq_ok (cr_aload_n (k := 0) (by decide +kernel) rfl rfl) (cq_ok (cr_iconst2 (n := 0) (by decide +kernel) (by decide +kernel) rfl) (cq_ok (cr_putf (idx := 96) zc_9 (by decide) (by decide +kernel) rfl zl_450 (by decide +kernel) rfl) (cq_ok (cr_aload_n (k := 0) (by decide +kernel) rfl rfl) (cq_ok (cr_iconst2 (n := 0) (by decide +kernel) (by decide +kernel) rfl) (cq_ok (cr_putf (idx := 99) zc_9 (by decide) (by decide +kernel) rfl zl_449 (by decide +kernel) rfl) (cq_ok (cr_iconst2 (n := 0) (by decide +kernel) (by decide +kernel) rfl) (cr_istore_n (k := 1) (by decide +kernel) rfl (by decide) rfl)))))))))))))))))))
set_option maxRecDepth 100000 in
theorem cb_X9_firstDraft_32 : ci_ok yX9_firstDraft cX9_firstDraft 2 32 (ci_seq (ci_load 0 1 33) 33 (ci_seq (ci_push (.int 25) 35) 35 (ci_ic (fun x y => decide (y ≤ x)) 59 38))) := cq_ok (cr_iload_n (k := 1) (by decide +kernel) rfl rfl) (cq_ok (cr_bipush (n := 25) (by decide +kernel) (by decide +kernel) rfl) (cr_ic_ge (off := 24) (by decide +kernel) (by decide) rfl))
set_option maxRecDepth 100000 in
theorem cb_X9_firstDraft_38 : ci_ok yX9_firstDraft cX9_firstDraft 2 38 (ci_seq (ci_load 2 0 39) 39 (ci_seq (ci_getf 9 12 42) 42 (ci_seq (ci_load 0 1 43) 43 (ci_seq (ci_push (.int 0) 44) 44 (ci_seq (ci_ast .int 45) 45 (ci_seq (ci_load 2 0 46) 46 (ci_seq (ci_getf 9 14 49) 49 (ci_seq (ci_load 0 1 50) 50 (ci_seq (ci_push (.int (-4)) 52) 52 (ci_seq (ci_ast .int 53) 53 (ci_seq (ci_inc 1 1 56) 56 (ci_go 32)))))))))))) := cq_ok (cr_aload_n (k := 0) (by decide +kernel) rfl rfl) (cq_ok (cr_getf (idx := 20) zc_9 (by decide) zl_437 (by decide +kernel) rfl) (cq_ok (cr_iload_n (k := 1) (by decide +kernel) rfl rfl) (cq_ok (cr_iconst2 (n := 0) (by decide +kernel) (by decide +kernel) rfl) (cq_ok (cr_ast (ins := .iastore) rfl (by decide +kernel) (Or.inl ⟨rfl, rfl⟩)) (cq_ok (cr_aload_n (k := 0) (by decide +kernel) rfl rfl) (cq_ok (cr_getf (idx := 26) zc_9 (by decide) zl_435 (by decide +kernel) rfl) (cq_ok (cr_iload_n (k := 1) (by decide +kernel) rfl rfl) (cq_ok (cr_bipush (n := -4) (by decide +kernel) (by decide +kernel) rfl) (cq_ok (cr_ast (ins := .iastore) rfl (by decide +kernel) (Or.inl ⟨rfl, rfl⟩)) (cq_ok (ci_inc_ok (by decide) (by decide +kernel) rfl) (cr_goto (off := -24) (by decide +kernel) (by decide))))))))))))
set_option maxRecDepth 100000 in
theorem cb_X9_firstDraft_59 : ci_ok yX9_firstDraft cX9_firstDraft 2 59 (ci_seq (ci_push (.int 0) 60) 60 (ci_store 0 1 61)) := cq_ok (cr_iconst2 (n := 0) (by decide +kernel) (by decide +kernel) rfl) (cr_istore_n (k := 1) (by decide +kernel) rfl (by decide) rfl)
set_option maxRecDepth 100000 in
theorem cb_X9_firstDraft_61 : ci_ok yX9_firstDraft cX9_firstDraft 2 61 (ci_seq (ci_load 0 1 62) 62 (ci_seq (ci_push (.int 3) 63) 63 (ci_ic (fun x y => decide (y ≤ x)) 86 66))) := cq_ok (cr_iload_n (k := 1) (by decide +kernel) rfl rfl) (cq_ok (cr_iconst2 (n := 3) (by decide +kernel) (by decide +kernel) rfl) (cr_ic_ge (off := 23) (by decide +kernel) (by decide) rfl))
set_option maxRecDepth 100000 in
theorem cb_X9_firstDraft_66 : ci_ok yX9_firstDraft cX9_firstDraft 2 66 (ci_seq (ci_load 2 0 67) 67 (ci_seq (ci_getf 9 15 70) 70 (ci_seq (ci_load 0 1 71) 71 (ci_seq (ci_push (.int 0) 72) 72 (ci_seq (ci_ast .int 73) 73 (ci_seq (ci_load 2 0 74) 74 (ci_seq (ci_getf 9 13 77) 77 (ci_seq (ci_load 0 1 78) 78 (ci_seq (ci_push (.int 0) 79) 79 (ci_seq (ci_ast .int 80) 80 (ci_seq (ci_inc 1 1 83) 83 (ci_go 61)))))))))))) := cq_ok (cr_aload_n (k := 0) (by decide +kernel) rfl rfl) (cq_ok (cr_getf (idx := 29) zc_9 (by decide) zl_434 (by decide +kernel) rfl) (cq_ok (cr_iload_n (k := 1) (by decide +kernel) rfl rfl) (cq_ok (cr_iconst2 (n := 0) (by decide +kernel) (by decide +kernel) rfl) (cq_ok (cr_ast (ins := .iastore) rfl (by decide +kernel) (Or.inl ⟨rfl, rfl⟩)) (cq_ok (cr_aload_n (k := 0) (by decide +kernel) rfl rfl) (cq_ok (cr_getf (idx := 23) zc_9 (by decide) zl_436 (by decide +kernel) rfl) (cq_ok (cr_iload_n (k := 1) (by decide +kernel) rfl rfl) (cq_ok (cr_iconst2 (n := 0) (by decide +kernel) (by decide +kernel) rfl) (cq_ok (cr_ast (ins := .iastore) rfl (by decide +kernel) (Or.inl ⟨rfl, rfl⟩)) (cq_ok (ci_inc_ok (by decide) (by decide +kernel) rfl) (cr_goto (off := -22) (by decide +kernel) (by decide))))))))))))
set_option maxRecDepth 100000 in
theorem cb_X9_firstDraft_86 : ci_ok yX9_firstDraft cX9_firstDraft 2 86 (ci_seq (ci_load 2 0 87) 87 (ci_seq (ci_push (.int 0) 88) 88 (ci_seq (ci_putf 9 16 .int 91) 91 (ci_seq (ci_load 2 0 92) 92 (ci_seq (ci_push (.int 0) 93) 93 (ci_seq (ci_putf 9 17 .int 96) 96 (ci_seq (ci_load 2 0 97) 97 (ci_seq (ci_push (.int (-4)) 99) 99 (ci_seq (ci_putf 9 18 .int 102) 102 (ci_seq (ci_load 2 0 103) 103 (ci_seq (ci_push (.int (-4)) 105) 105 (ci_seq (ci_putf 9 19 .int 108) 108 (ci_seq (ci_load 2 0 109) 109 (ci_seq (ci_push (.int (-4)) 111) 111 (ci_seq (ci_putf 9 20 .int 114) 114 (ci_seq (ci_load 2 0 115) 115 (ci_seq (ci_push (.int (-4)) 117) 117 (ci_putf 9 21 .int 120)))))))))))))))))) := cq_ok (cr_aload_n (k := 0) (by decide +kernel) rfl rfl) (cq_ok (cr_iconst2 (n := 0) (by decide +kernel) (by decide +kernel) rfl) (cq_ok (cr_putf (idx := 102) zc_9 (by decide) (by decide +kernel) rfl zl_460 (by decide +kernel) rfl) (cq_ok (cr_aload_n (k := 0) (by decide +kernel) rfl rfl) (cq_ok (cr_iconst2 (n := 0) (by decide +kernel) (by decide +kernel) rfl) (cq_ok (cr_putf (idx := 105) zc_9 (by decide) (by decide +kernel) rfl zl_459 (by decide +kernel) rfl) (cq_ok (cr_aload_n (k := 0) (by decide +kernel) rfl rfl) (cq_ok (cr_bipush (n := -4) (by decide +kernel) (by decide +kernel) rfl) (cq_ok (cr_putf (idx := 108) zc_9 (by decide) (by decide +kernel) rfl zl_458 (by decide +kernel) rfl) (cq_ok (cr_aload_n (k := 0) (by decide +kernel) rfl rfl) (cq_ok (cr_bipush (n := -4) (by decide +kernel) (by decide +kernel) rfl) (cq_ok (cr_putf (idx := 111) zc_9 (by decide) (by decide +kernel) rfl zl_457 (by decide +kernel) rfl) (cq_ok (cr_aload_n (k := 0) (by decide +kernel) rfl rfl) (cq_ok (cr_bipush (n := -4) (by decide +kernel) (by decide +kernel) rfl) (cq_ok (cr_putf (idx := 114) zc_9 (by decide) (by decide +kernel) rfl zl_456 (by decide +kernel) rfl) (cq_ok (cr_aload_n (k := 0) (by decide +kernel) rfl rfl) (cq_ok (cr_bipush (n := -4) (by decide +kernel) (by decide +kernel) rfl) (cr_putf (idx := 117) zc_9 (by decide) (by decide +kernel) rfl zl_455 (by decide +kernel) rfl)))))))))))))))))
set_option maxRecDepth 100000 in
theorem cd_X9_firstDraft_120 : decode cX9_firstDraft 120 = .ok (zi_rop none, 1) := by decide +kernel
set_option maxRecDepth 100000 in
theorem cb_X9_keepDraft_0 : ci_ok yX9_keepDraft cX9_keepDraft 2 0 (ci_seq (ci_push (.int 0) 1) 1 (ci_store 0 1 2)) := cq_ok (cr_iconst2 (n := 0) (by decide +kernel) (by decide +kernel) rfl) (cr_istore_n (k := 1) (by decide +kernel) rfl (by decide) rfl)
set_option maxRecDepth 100000 in
theorem cb_X9_keepDraft_2 : ci_ok yX9_keepDraft cX9_keepDraft 2 2 (ci_seq (ci_load 0 1 3) 3 (ci_seq (ci_push (.int 56) 5) 5 (ci_ic (fun x y => decide (y ≤ x)) 21 8))) := cq_ok (cr_iload_n (k := 1) (by decide +kernel) rfl rfl) (cq_ok (cr_bipush (n := 56) (by decide +kernel) (by decide +kernel) rfl) (cr_ic_ge (off := 16) (by decide +kernel) (by decide) rfl))
set_option maxRecDepth 100000 in
theorem cb_X9_keepDraft_8 : ci_ok yX9_keepDraft cX9_keepDraft 2 8 (ci_seq (ci_load 2 0 9) 9 (ci_seq (ci_getf 9 0 12) 12 (ci_seq (ci_load 0 1 13) 13 (ci_seq (ci_push (.int 0) 14) 14 (ci_seq (ci_ast .int 15) 15 (ci_seq (ci_inc 1 1 18) 18 (ci_go 2))))))) := cq_ok (cr_aload_n (k := 0) (by decide +kernel) rfl rfl) (cq_ok (cr_getf (idx := 7) zc_9 (by decide) zl_441 (by decide +kernel) rfl) (cq_ok (cr_iload_n (k := 1) (by decide +kernel) rfl rfl) (cq_ok (cr_iconst2 (n := 0) (by decide +kernel) (by decide +kernel) rfl) (cq_ok (cr_ast (ins := .iastore) rfl (by decide +kernel) (Or.inl ⟨rfl, rfl⟩)) (cq_ok (ci_inc_ok (by decide) (by decide +kernel) rfl) (cr_goto (off := -16) (by decide +kernel) (by decide)))))))
set_option maxRecDepth 100000 in
theorem cb_X9_keepDraft_21 : ci_ok yX9_keepDraft cX9_keepDraft 2 21 (ci_seq (ci_load 2 0 22) 22 (ci_seq (ci_load 2 0 23) 23 (ci_seq (ci_getf 9 6 26) 26 (ci_seq (ci_putf 9 2 .int 29) 29 (ci_seq (ci_load 2 0 30) 30 (ci_seq (ci_load 2 0 31) 31 (ci_seq (ci_getf 9 7 34) 34 (ci_seq (ci_putf 9 3 .int 37) 37 (ci_seq (ci_load 2 0 38) 38 (ci_seq (ci_load 2 0 39) 39 (ci_seq (ci_getf 9 9 42) 42 (ci_seq (ci_putf 9 4 .int 45) 45 (ci_seq (ci_push (.int 0) 46) 46 (ci_store 0 1 47)))))))))))))) := cq_ok (cr_aload_n (k := 0) (by decide +kernel) rfl rfl) (cq_ok (cr_aload_n (k := 0) (by decide +kernel) rfl rfl) (cq_ok (cr_getf (idx := 83) zc_9 (by decide) zl_454 (by decide +kernel) rfl) (cq_ok (cr_putf (idx := 120) zc_9 (by decide) (by decide +kernel) rfl zl_463 (by decide +kernel) rfl) (cq_ok (cr_aload_n (k := 0) (by decide +kernel) rfl rfl) (cq_ok (cr_aload_n (k := 0) (by decide +kernel) rfl rfl) (cq_ok (cr_getf (idx := 87) zc_9 (by decide) zl_453 (by decide +kernel) rfl) (cq_ok (cr_putf (idx := 123) zc_9 (by decide) (by decide +kernel) rfl zl_462 (by decide +kernel) rfl) (cq_ok (cr_aload_n (k := 0) (by decide +kernel) rfl rfl) (cq_ok (cr_aload_n (k := 0) (by decide +kernel) rfl rfl) (cq_ok (cr_getf (idx := 93) zc_9 (by decide) zl_451 (by decide +kernel) rfl) (cq_ok (cr_putf (idx := 126) zc_9 (by decide) (by decide +kernel) rfl zl_461 (by decide +kernel) rfl) (cq_ok (cr_iconst2 (n := 0) (by decide +kernel) (by decide +kernel) rfl) (cr_istore_n (k := 1) (by decide +kernel) rfl (by decide) rfl)))))))))))))
set_option maxRecDepth 100000 in
theorem cb_X9_keepDraft_47 : ci_ok yX9_keepDraft cX9_keepDraft 2 47 (ci_seq (ci_load 0 1 48) 48 (ci_seq (ci_push (.int 25) 50) 50 (ci_ic (fun x y => decide (y ≤ x)) 116 53))) := cq_ok (cr_iload_n (k := 1) (by decide +kernel) rfl rfl) (cq_ok (cr_bipush (n := 25) (by decide +kernel) (by decide +kernel) rfl) (cr_ic_ge (off := 66) (by decide +kernel) (by decide) rfl))
set_option maxRecDepth 100000 in
theorem cb_X9_keepDraft_53 : ci_ok yX9_keepDraft cX9_keepDraft 2 53 (ci_seq (ci_load 2 0 54) 54 (ci_seq (ci_getf 9 5 57) 57 (ci_seq (ci_load 0 1 58) 58 (ci_seq (ci_load 2 0 59) 59 (ci_seq (ci_getf 9 14 62) 62 (ci_seq (ci_load 0 1 63) 63 (ci_seq (ci_ald .int 64) 64 (ci_seq (ci_ast .int 65) 65 (ci_seq (ci_load 2 0 66) 66 (ci_seq (ci_getf 9 0 69) 69 (ci_seq (ci_load 0 1 70) 70 (ci_seq (ci_load 0 1 71) 71 (ci_seq (ci_load 2 0 72) 72 (ci_seq (ci_getf 9 2 75) 75 (ci_seq (ci_load 2 0 76) 76 (ci_seq (ci_getf 9 3 79) 79 (ci_seq (ci_bin (fun a b => a * b) 80) 80 (ci_ic (fun x y => decide (y ≤ x)) 108 83)))))))))))))))))) := cq_ok (cr_aload_n (k := 0) (by decide +kernel) rfl rfl) (cq_ok (cr_getf (idx := 17) zc_9 (by decide) zl_438 (by decide +kernel) rfl) (cq_ok (cr_iload_n (k := 1) (by decide +kernel) rfl rfl) (cq_ok (cr_aload_n (k := 0) (by decide +kernel) rfl rfl) (cq_ok (cr_getf (idx := 26) zc_9 (by decide) zl_435 (by decide +kernel) rfl) (cq_ok (cr_iload_n (k := 1) (by decide +kernel) rfl rfl) (cq_ok (cr_ald (ins := .iaload) rfl (by decide +kernel) (Or.inl ⟨rfl, rfl⟩)) (cq_ok (cr_ast (ins := .iastore) rfl (by decide +kernel) (Or.inl ⟨rfl, rfl⟩)) (cq_ok (cr_aload_n (k := 0) (by decide +kernel) rfl rfl) (cq_ok (cr_getf (idx := 7) zc_9 (by decide) zl_441 (by decide +kernel) rfl) (cq_ok (cr_iload_n (k := 1) (by decide +kernel) rfl rfl) (cq_ok (cr_iload_n (k := 1) (by decide +kernel) rfl rfl) (cq_ok (cr_aload_n (k := 0) (by decide +kernel) rfl rfl) (cq_ok (cr_getf (idx := 120) zc_9 (by decide) zl_463 (by decide +kernel) rfl) (cq_ok (cr_aload_n (k := 0) (by decide +kernel) rfl rfl) (cq_ok (cr_getf (idx := 123) zc_9 (by decide) zl_462 (by decide +kernel) rfl) (cq_ok (cr_imul (by decide +kernel) rfl) (cr_ic_ge (off := 28) (by decide +kernel) (by decide) rfl)))))))))))))))))
set_option maxRecDepth 100000 in
theorem cb_X9_keepDraft_83 : ci_ok yX9_keepDraft cX9_keepDraft 2 83 (ci_seq (ci_push (.int 3) 84) 84 (ci_seq (ci_load 2 0 85) 85 (ci_seq (ci_getf 9 12 88) 88 (ci_seq (ci_push (.int 5) 89) 89 (ci_seq (ci_load 0 1 90) 90 (ci_seq (ci_load 2 0 91) 91 (ci_seq (ci_getf 9 2 94) 94 (ci_seq (ci_dv (fun a b => a / b) 95) 95 (ci_seq (ci_bin (fun a b => a * b) 96) 96 (ci_seq (ci_load 0 1 97) 97 (ci_seq (ci_load 2 0 98) 98 (ci_seq (ci_getf 9 2 101) 101 (ci_seq (ci_dv (fun a b => a - a / b * b) 102) 102 (ci_seq (ci_bin (fun a b => a + b) 103) 103 (ci_seq (ci_ald .int 104) 104 (ci_seq (ci_bin (fun a b => a * b) 105) 105 (ci_go 109))))))))))))))))) := cq_ok (cr_iconst2 (n := 3) (by decide +kernel) (by decide +kernel) rfl) (cq_ok (cr_aload_n (k := 0) (by decide +kernel) rfl rfl) (cq_ok (cr_getf (idx := 20) zc_9 (by decide) zl_437 (by decide +kernel) rfl) (cq_ok (cr_iconst2 (n := 5) (by decide +kernel) (by decide +kernel) rfl) (cq_ok (cr_iload_n (k := 1) (by decide +kernel) rfl rfl) (cq_ok (cr_aload_n (k := 0) (by decide +kernel) rfl rfl) (cq_ok (cr_getf (idx := 120) zc_9 (by decide) zl_463 (by decide +kernel) rfl) (cq_ok (cr_idiv (by decide +kernel) rfl) (cq_ok (cr_imul (by decide +kernel) rfl) (cq_ok (cr_iload_n (k := 1) (by decide +kernel) rfl rfl) (cq_ok (cr_aload_n (k := 0) (by decide +kernel) rfl rfl) (cq_ok (cr_getf (idx := 120) zc_9 (by decide) zl_463 (by decide +kernel) rfl) (cq_ok (cr_irem (by decide +kernel) rfl) (cq_ok (cr_iadd (by decide +kernel) rfl) (cq_ok (cr_ald (ins := .iaload) rfl (by decide +kernel) (Or.inl ⟨rfl, rfl⟩)) (cq_ok (cr_imul (by decide +kernel) rfl) (cr_goto (off := 4) (by decide +kernel) (by decide)))))))))))))))))
