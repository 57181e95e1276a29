set_option maxRecDepth 100000 in
theorem cb_X3_hasCell_0 : ci_ok yX3_hasCell cX3_hasCell 2 0 (ci_seq (ci_load 0 1 1) 1 (ci_if (fun x => decide (x < 0)) 21 4)) := cq_ok (cr_iload_n (k := 1) (by decide +kernel) rfl rfl) (cr_if_lt (off := 20) (by decide +kernel) (by decide) rfl)
set_option maxRecDepth 100000 in
theorem cb_X3_hasCell_4 : ci_ok yX3_hasCell cX3_hasCell 2 4 (ci_seq (ci_load 0 1 5) 5 (ci_seq (ci_load 2 0 6) 6 (ci_seq (ci_getf 3 2 9) 9 (ci_seq (ci_load 2 0 10) 10 (ci_seq (ci_getf 3 3 13) 13 (ci_seq (ci_bin (fun a b => a * b) 14) 14 (ci_ic (fun x y => decide (y ≤ x)) 21 17))))))) := cq_ok (cr_iload_n (k := 1) (by decide +kernel) rfl rfl) (cq_ok (cr_aload_n (k := 0) (by decide +kernel) rfl rfl) (cq_ok (cr_getf (idx := 18) zc_3 (by decide) zl_166 (by decide +kernel) rfl) (cq_ok (cr_aload_n (k := 0) (by decide +kernel) rfl rfl) (cq_ok (cr_getf (idx := 22) zc_3 (by decide) zl_165 (by decide +kernel) rfl) (cq_ok (cr_imul (by decide +kernel) rfl) (cr_ic_ge (off := 7) (by decide +kernel) (by decide) rfl))))))
set_option maxRecDepth 100000 in
theorem cb_X3_hasCell_17 : ci_ok yX3_hasCell cX3_hasCell 2 17 (ci_seq (ci_push (.int 1) 18) 18 (ci_go 22)) := cq_ok (cr_iconst2 (n := 1) (by decide +kernel) (by decide +kernel) rfl) (cr_goto (off := 4) (by decide +kernel) (by decide))
set_option maxRecDepth 100000 in
theorem cb_X3_hasCell_21 : ci_ok yX3_hasCell cX3_hasCell 2 21 (ci_push (.int 0) 22) := cr_iconst2 (n := 0) (by decide +kernel) (by decide +kernel) rfl
set_option maxRecDepth 100000 in
theorem cd_X3_hasCell_22 : decode cX3_hasCell 22 = .ok (zi_rop (some .boolean), 1) := by decide +kernel
set_option maxRecDepth 100000 in
theorem cb_X3_hasFarm_0 : ci_ok yX3_hasFarm cX3_hasFarm 2 0 (ci_seq (ci_load 0 1 1) 1 (ci_if (fun x => decide (x < 0)) 16 4)) := cq_ok (cr_iload_n (k := 1) (by decide +kernel) rfl rfl) (cr_if_lt (off := 15) (by decide +kernel) (by decide) rfl)
set_option maxRecDepth 100000 in
theorem cb_X3_hasFarm_4 : ci_ok yX3_hasFarm cX3_hasFarm 2 4 (ci_seq (ci_load 0 1 5) 5 (ci_seq (ci_load 2 0 6) 6 (ci_seq (ci_getf 3 4 9) 9 (ci_ic (fun x y => decide (y ≤ x)) 16 12)))) := cq_ok (cr_iload_n (k := 1) (by decide +kernel) rfl rfl) (cq_ok (cr_aload_n (k := 0) (by decide +kernel) rfl rfl) (cq_ok (cr_getf (idx := 25) zc_3 (by decide) zl_167 (by decide +kernel) rfl) (cr_ic_ge (off := 7) (by decide +kernel) (by decide) rfl)))
set_option maxRecDepth 100000 in
theorem cb_X3_hasFarm_12 : ci_ok yX3_hasFarm cX3_hasFarm 2 12 (ci_seq (ci_push (.int 1) 13) 13 (ci_go 17)) := cq_ok (cr_iconst2 (n := 1) (by decide +kernel) (by decide +kernel) rfl) (cr_goto (off := 4) (by decide +kernel) (by decide))
set_option maxRecDepth 100000 in
theorem cb_X3_hasFarm_16 : ci_ok yX3_hasFarm cX3_hasFarm 2 16 (ci_push (.int 0) 17) := cr_iconst2 (n := 0) (by decide +kernel) (by decide +kernel) rfl
set_option maxRecDepth 100000 in
theorem cd_X3_hasFarm_17 : decode cX3_hasFarm 17 = .ok (zi_rop (some .boolean), 1) := by decide +kernel
set_option maxRecDepth 100000 in
theorem cb_X5_renew_0 : ci_ok yX5_renew cX5_renew 5 0 (ci_seq (ci_load 2 0 1) 1 (ci_seq (ci_getf 5 0 4) 4 (ci_seq (ci_load 0 1 5) 5 (ci_seq (ci_load 0 2 6) 6 (ci_seq (ci_ast .int 7) 7 (ci_seq (ci_load 2 0 8) 8 (ci_seq (ci_getf 5 1 11) 11 (ci_seq (ci_load 0 1 12) 12 (ci_seq (ci_load 0 3 13) 13 (ci_seq (ci_ast .int 14) 14 (ci_seq (ci_push (.int 0) 15) 15 (ci_store 0 4 17)))))))))))) := cq_ok (cr_aload_n (k := 0) (by decide +kernel) rfl rfl) (cq_ok (cr_getf (idx := 9) zc_5 (by decide) zl_199 (by decide +kernel) rfl) (cq_ok (cr_iload_n (k := 1) (by decide +kernel) rfl rfl) (cq_ok (cr_iload_n (k := 2) (by decide +kernel) rfl rfl) (cq_ok (cr_ast (ins := .iastore) rfl (by decide +kernel) (Or.inl ⟨rfl, rfl⟩)) (cq_ok (cr_aload_n (k := 0) (by decide +kernel) rfl rfl) (cq_ok (cr_getf (idx := 15) zc_5 (by decide) zl_197 (by decide +kernel) rfl) (cq_ok (cr_iload_n (k := 1) (by decide +kernel) rfl rfl) (cq_ok (cr_iload_n (k := 3) (by decide +kernel) rfl rfl) (cq_ok (cr_ast (ins := .iastore) rfl (by decide +kernel) (Or.inl ⟨rfl, rfl⟩)) (cq_ok (cr_iconst2 (n := 0) (by decide +kernel) (by decide +kernel) rfl) (cr_istore (by decide +kernel) (by decide) rfl)))))))))))
set_option maxRecDepth 100000 in
theorem cb_X5_renew_17 : ci_ok yX5_renew cX5_renew 5 17 (ci_seq (ci_load 0 4 19) 19 (ci_seq (ci_push (.int 40) 21) 21 (ci_ic (fun x y => decide (y ≤ x)) 43 24))) := cq_ok (cr_iload (by decide +kernel) rfl) (cq_ok (cr_bipush (n := 40) (by decide +kernel) (by decide +kernel) rfl) (cr_ic_ge (off := 22) (by decide +kernel) (by decide) rfl))
set_option maxRecDepth 100000 in
theorem cb_X5_renew_24 : ci_ok yX5_renew cX5_renew 5 24 (ci_seq (ci_load 2 0 25) 25 (ci_seq (ci_getf 5 2 28) 28 (ci_seq (ci_load 0 1 29) 29 (ci_seq (ci_push (.int 40) 31) 31 (ci_seq (ci_bin (fun a b => a * b) 32) 32 (ci_seq (ci_load 0 4 34) 34 (ci_seq (ci_bin (fun a b => a + b) 35) 35 (ci_seq (ci_push (.int 0) 36) 36 (ci_seq (ci_ast .int 37) 37 (ci_seq (ci_inc 4 1 40) 40 (ci_go 17))))))))))) := cq_ok (cr_aload_n (k := 0) (by decide +kernel) rfl rfl) (cq_ok (cr_getf (idx := 18) zc_5 (by decide) zl_198 (by decide +kernel) rfl) (cq_ok (cr_iload_n (k := 1) (by decide +kernel) rfl rfl) (cq_ok (cr_bipush (n := 40) (by decide +kernel) (by decide +kernel) rfl) (cq_ok (cr_imul (by decide +kernel) rfl) (cq_ok (cr_iload (by decide +kernel) rfl) (cq_ok (cr_iadd (by decide +kernel) rfl) (cq_ok (cr_iconst2 (n := 0) (by decide +kernel) (by decide +kernel) rfl) (cq_ok (cr_ast (ins := .iastore) rfl (by decide +kernel) (Or.inl ⟨rfl, rfl⟩)) (cq_ok (ci_inc_ok (by decide) (by decide +kernel) rfl) (cr_goto (off := -23) (by decide +kernel) (by decide)))))))))))
set_option maxRecDepth 100000 in
theorem cd_X5_renew_43 : decode cX5_renew 43 = .ok (zi_rop none, 1) := by decide +kernel
set_option maxRecDepth 100000 in
theorem cb_X6_append_0 : ci_ok yX6_append cX6_append 4 0 (ci_seq (ci_load 2 0 1) 1 (ci_seq (ci_getf 6 1 4) 4 (ci_seq (ci_push (.int 8) 6) 6 (ci_seq (ci_bin (fun a b => a + b) 7) 7 (ci_seq (ci_push (.int 320) 10) 10 (ci_ic (fun x y => decide (x ≤ y)) 15 13)))))) := cq_ok (cr_aload_n (k := 0) (by decide +kernel) rfl rfl) (cq_ok (cr_getf (idx := 15) zc_6 (by decide) zl_207 (by decide +kernel) rfl) (cq_ok (cr_bipush (n := 8) (by decide +kernel) (by decide +kernel) rfl) (cq_ok (cr_iadd (by decide +kernel) rfl) (cq_ok (cr_sipush (n := 320) (by decide +kernel) (by decide +kernel) rfl) (cr_ic_le (off := 5) (by decide +kernel) (by decide) rfl)))))
set_option maxRecDepth 100000 in
theorem cb_X6_append_13 : ci_ok yX6_append cX6_append 4 13 (ci_push (.int 0) 14) := cr_iconst2 (n := 0) (by decide +kernel) (by decide +kernel) rfl
set_option maxRecDepth 100000 in
theorem cd_X6_append_14 : decode cX6_append 14 = .ok (zi_rop (some .boolean), 1) := by decide +kernel
set_option maxRecDepth 100000 in
theorem cb_X6_append_15 : ci_ok yX6_append cX6_append 4 15 (ci_seq (ci_push (.int 0) 16) 16 (ci_store 0 3 17)) := cq_ok (cr_iconst2 (n := 0) (by decide +kernel) (by decide +kernel) rfl) (cr_istore_n (k := 3) (by decide +kernel) rfl (by decide) rfl)
set_option maxRecDepth 100000 in
theorem cb_X6_append_17 : ci_ok yX6_append cX6_append 4 17 (ci_seq (ci_load 0 3 18) 18 (ci_seq (ci_push (.int 8) 20) 20 (ci_ic (fun x y => decide (y ≤ x)) 51 23))) := cq_ok (cr_iload_n (k := 3) (by decide +kernel) rfl rfl) (cq_ok (cr_bipush (n := 8) (by decide +kernel) (by decide +kernel) rfl) (cr_ic_ge (off := 31) (by decide +kernel) (by decide) rfl))
set_option maxRecDepth 100000 in
theorem cb_X6_append_23 : ci_ok yX6_append cX6_append 4 23 (ci_seq (ci_load 2 0 24) 24 (ci_seq (ci_getf 6 0 27) 27 (ci_seq (ci_load 2 0 28) 28 (ci_seq (ci_getf 6 1 31) 31 (ci_seq (ci_load 0 3 32) 32 (ci_seq (ci_bin (fun a b => a + b) 33) 33 (ci_seq (ci_load 1 1 34) 34 (ci_seq (ci_push (.int 8) 36) 36 (ci_seq (ci_push (.int 7) 38) 38 (ci_seq (ci_load 0 3 39) 39 (ci_seq (ci_bin (fun a b => a - b) 40) 40 (ci_seq (ci_bin (fun a b => a * b) 41) 41 (ci_seq (ci_shfl (fun a b => a >>> (b.toInt64 &&& 63)) 42) 42 (ci_seq (ci_l2i 43) 43 (ci_seq (ci_un (fun x => x.toInt8.toInt32) 44) 44 (ci_seq (ci_ast .byte 45) 45 (ci_seq (ci_inc 3 1 48) 48 (ci_go 17)))))))))))))))))) := cq_ok (cr_aload_n (k := 0) (by decide +kernel) rfl rfl) (cq_ok (cr_getf (idx := 9) zc_6 (by decide) zl_204 (by decide +kernel) rfl) (cq_ok (cr_aload_n (k := 0) (by decide +kernel) rfl rfl) (cq_ok (cr_getf (idx := 15) zc_6 (by decide) zl_207 (by decide +kernel) rfl) (cq_ok (cr_iload_n (k := 3) (by decide +kernel) rfl rfl) (cq_ok (cr_iadd (by decide +kernel) rfl) (cq_ok (cr_lload_n (k := 1) (by decide +kernel) rfl rfl) (cq_ok (cr_bipush (n := 8) (by decide +kernel) (by decide +kernel) rfl) (cq_ok (cr_bipush (n := 7) (by decide +kernel) (by decide +kernel) rfl) (cq_ok (cr_iload_n (k := 3) (by decide +kernel) rfl rfl) (cq_ok (cr_isub (by decide +kernel) rfl) (cq_ok (cr_imul (by decide +kernel) rfl) (cq_ok (cr_lshr (by decide +kernel) rfl) (cq_ok (cr_l2i (by decide +kernel) rfl) (cq_ok (cr_i2b (by decide +kernel) rfl) (cq_ok (cr_ast (ins := .bastore) rfl (by decide +kernel) (Or.inr (Or.inl ⟨rfl, rfl⟩))) (cq_ok (ci_inc_ok (by decide) (by decide +kernel) rfl) (cr_goto (off := -31) (by decide +kernel) (by decide))))))))))))))))))
set_option maxRecDepth 100000 in
theorem cb_X6_append_51 : ci_ok yX6_append cX6_append 4 51 (ci_seq (ci_load 2 0 52) 52 (ci_seq (ci_dup 53) 53 (ci_seq (ci_getf 6 1 56) 56 (ci_seq (ci_push (.int 8) 58) 58 (ci_seq (ci_bin (fun a b => a + b) 59) 59 (ci_seq (ci_putf 6 1 .int 62) 62 (ci_push (.int 1) 63))))))) := cq_ok (cr_aload_n (k := 0) (by decide +kernel) rfl rfl) (cq_ok (cr_dup (by decide +kernel) rfl) (cq_ok (cr_getf (idx := 15) zc_6 (by decide) zl_207 (by decide +kernel) rfl) (cq_ok (cr_bipush (n := 8) (by decide +kernel) (by decide +kernel) rfl) (cq_ok (cr_iadd (by decide +kernel) rfl) (cq_ok (cr_putf (idx := 15) zc_6 (by decide) (by decide +kernel) rfl zl_207 (by decide +kernel) rfl) (cr_iconst2 (n := 1) (by decide +kernel) (by decide +kernel) rfl))))))
set_option maxRecDepth 100000 in
theorem cd_X6_append_63 : decode cX6_append 63 = .ok (zi_rop (some .boolean), 1) := by decide +kernel
set_option maxRecDepth 100000 in
theorem cb_X8_option_0 : ci_ok yX8_option cX8_option 2 0 (ci_seq (ci_load 0 1 1) 1 (ci_tsw 0 2 [28, 33, 41] 50)) := cq_ok (cr_iload_n (k := 1) (by decide +kernel) rfl rfl) (cr_tsw (dflt := 49) (lo := 0) (hi := 2) (offs := #[27, 32, 40]) (len := 27) (by decide +kernel) (by decide) (by decide +kernel))
set_option maxRecDepth 100000 in
theorem cb_X8_option_28 : ci_ok yX8_option cX8_option 2 28 (ci_seq (ci_load 0 0 29) 29 (ci_seq (ci_push (.int 26) 31) 31 (ci_dv (fun a b => a - a / b * b) 32))) := cq_ok (cr_iload_n (k := 0) (by decide +kernel) rfl rfl) (cq_ok (cr_bipush (n := 26) (by decide +kernel) (by decide +kernel) rfl) (cr_irem (by decide +kernel) rfl))
set_option maxRecDepth 100000 in
theorem cd_X8_option_32 : decode cX8_option 32 = .ok (zi_rop (some .int), 1) := by decide +kernel
set_option maxRecDepth 100000 in
theorem cb_X8_option_33 : ci_ok yX8_option cX8_option 2 33 (ci_seq (ci_load 0 0 34) 34 (ci_seq (ci_push (.int 26) 36) 36 (ci_seq (ci_dv (fun a b => a / b) 37) 37 (ci_seq (ci_push (.int 26) 39) 39 (ci_dv (fun a b => a - a / b * b) 40))))) := cq_ok (cr_iload_n (k := 0) (by decide +kernel) rfl rfl) (cq_ok (cr_bipush (n := 26) (by decide +kernel) (by decide +kernel) rfl) (cq_ok (cr_idiv (by decide +kernel) rfl) (cq_ok (cr_bipush (n := 26) (by decide +kernel) (by decide +kernel) rfl) (cr_irem (by decide +kernel) rfl))))
set_option maxRecDepth 100000 in
theorem cd_X8_option_40 : decode cX8_option 40 = .ok (zi_rop (some .int), 1) := by decide +kernel
set_option maxRecDepth 100000 in
theorem cb_X8_option_41 : ci_ok yX8_option cX8_option 2 41 (ci_seq (ci_load 0 0 42) 42 (ci_seq (ci_push (.int 676) 45) 45 (ci_seq (ci_dv (fun a b => a / b) 46) 46 (ci_seq (ci_push (.int 26) 48) 48 (ci_dv (fun a b => a - a / b * b) 49))))) := cq_ok (cr_iload_n (k := 0) (by decide +kernel) rfl rfl) (cq_ok (cr_sipush (n := 676) (by decide +kernel) (by decide +kernel) rfl) (cq_ok (cr_idiv (by decide +kernel) rfl) (cq_ok (cr_bipush (n := 26) (by decide +kernel) (by decide +kernel) rfl) (cr_irem (by decide +kernel) rfl))))
set_option maxRecDepth 100000 in
theorem cd_X8_option_49 : decode cX8_option 49 = .ok (zi_rop (some .int), 1) := by decide +kernel
set_option maxRecDepth 100000 in
theorem cb_X8_option_50 : ci_ok yX8_option cX8_option 2 50 (ci_push (.int 0) 51) := cr_iconst2 (n := 0) (by decide +kernel) (by decide +kernel) rfl
set_option maxRecDepth 100000 in
theorem cd_X8_option_51 : decode cX8_option 51 = .ok (zi_rop (some .int), 1) := by decide +kernel
set_option maxRecDepth 100000 in
theorem cb_X8_has_0 : ci_ok yX8_has cX8_has 2 0 (ci_seq (ci_load 0 0 1) 1 (ci_seq (ci_load 0 1 2) 2 (ci_seq (ci_bin (fun a b => a >>> (b &&& 31)) 3) 3 (ci_seq (ci_push (.int 1) 4) 4 (ci_seq (ci_bin (fun a b => a &&& b) 5) 5 (ci_if (fun x => decide (x = 0)) 12 8)))))) := cq_ok (cr_iload_n (k := 0) (by decide +kernel) rfl rfl) (cq_ok (cr_iload_n (k := 1) (by decide +kernel) rfl rfl) (cq_ok (cr_ishr (by decide +kernel) rfl) (cq_ok (cr_iconst2 (n := 1) (by decide +kernel) (by decide +kernel) rfl) (cq_ok (cr_iand (by decide +kernel) rfl) (cr_if_eq (off := 7) (by decide +kernel) (by decide) rfl)))))
set_option maxRecDepth 100000 in
theorem cb_X8_has_8 : ci_ok yX8_has cX8_has 2 8 (ci_seq (ci_push (.int 1) 9) 9 (ci_go 13)) := cq_ok (cr_iconst2 (n := 1) (by decide +kernel) (by decide +kernel) rfl) (cr_goto (off := 4) (by decide +kernel) (by decide))
set_option maxRecDepth 100000 in
theorem cb_X8_has_12 : ci_ok yX8_has cX8_has 2 12 (ci_push (.int 0) 13) := cr_iconst2 (n := 0) (by decide +kernel) (by decide +kernel) rfl
set_option maxRecDepth 100000 in
theorem cd_X8_has_13 : decode cX8_has 13 = .ok (zi_rop (some .boolean), 1) := by decide +kernel
