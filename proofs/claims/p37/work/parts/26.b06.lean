set_option maxRecDepth 100000 in
theorem cb_X9_keepDraft_108 : ci_ok yX9_keepDraft cX9_keepDraft 2 108 (ci_push (.int 0) 109) := cr_iconst2 (n := 0) (dq_3 (by decide +kernel)) (by decide +kernel) rfl
set_option maxRecDepth 100000 in
theorem cb_X9_keepDraft_109 : ci_ok yX9_keepDraft cX9_keepDraft 2 109 (ci_seq (ci_ast .int 110) 110 (ci_seq (ci_inc 1 1 113) 113 (ci_go 47))) := cq_ok (cr_ast (ins := .iastore) rfl (dq_79 (by decide +kernel)) (Or.inl ⟨rfl, rfl⟩)) (cq_ok (ci_inc_ok (by decide) (dq_132 (a := 1) (b := 1) (by decide +kernel) rfl) rfl) (cr_goto (off := -66) (dq_167 (a := 255) (b := 190) (by decide +kernel) rfl) (by decide)))
set_option maxRecDepth 100000 in
theorem cb_X9_keepDraft_116 : ci_ok yX9_keepDraft cX9_keepDraft 2 116 (ci_seq (ci_load 2 0 117) 117 (ci_seq (ci_getf 9 0 120) 120 (ci_seq (ci_push (.int 25) 122) 122 (ci_seq (ci_load 2 0 123) 123 (ci_seq (ci_getf 9 8 126) 126 (ci_seq (ci_ast .int 127) 127 (ci_seq (ci_load 2 0 128) 128 (ci_seq (ci_getf 9 0 131) 131 (ci_seq (ci_push (.int 26) 133) 133 (ci_seq (ci_load 2 0 134) 134 (ci_seq (ci_getf 9 10 137) 137 (ci_seq (ci_ast .int 138) 138 (ci_seq (ci_load 2 0 139) 139 (ci_seq (ci_getf 9 0 142) 142 (ci_seq (ci_push (.int 27) 144) 144 (ci_seq (ci_load 2 0 145) 145 (ci_seq (ci_getf 9 11 148) 148 (ci_seq (ci_ast .int 149) 149 (ci_seq (ci_push (.int 0) 150) 150 (ci_store 0 1 151)))))))))))))))))))) := cq_ok (cr_aload_n (k := 0) (dq_42 (by decide +kernel)) rfl rfl) (cq_ok (cr_getf (idx := 7) zc_9 (by decide) zl_441 (dq_180 (a := 0) (b := 7) (by decide +kernel) rfl) rfl) (cq_ok (cr_bipush (n := 25) (dq_16 (a := 25) (by decide +kernel) rfl) (by decide +kernel) rfl) (cq_ok (cr_aload_n (k := 0) (dq_42 (by decide +kernel)) rfl rfl) (cq_ok (cr_getf (idx := 90) zc_9 (by decide) zl_452 (dq_180 (a := 0) (b := 90) (by decide +kernel) rfl) rfl) (cq_ok (cr_ast (ins := .iastore) rfl (dq_79 (by decide +kernel)) (Or.inl ⟨rfl, rfl⟩)) (cq_ok (cr_aload_n (k := 0) (dq_42 (by decide +kernel)) rfl rfl) (cq_ok (cr_getf (idx := 7) zc_9 (by decide) zl_441 (dq_180 (a := 0) (b := 7) (by decide +kernel) rfl) rfl) (cq_ok (cr_bipush (n := 26) (dq_16 (a := 26) (by decide +kernel) rfl) (by decide +kernel) rfl) (cq_ok (cr_aload_n (k := 0) (dq_42 (by decide +kernel)) rfl rfl) (cq_ok (cr_getf (idx := 96) zc_9 (by decide) zl_450 (dq_180 (a := 0) (b := 96) (by decide +kernel) rfl) rfl) (cq_ok (cr_ast (ins := .iastore) rfl (dq_79 (by decide +kernel)) (Or.inl ⟨rfl, rfl⟩)) (cq_ok (cr_aload_n (k := 0) (dq_42 (by decide +kernel)) rfl rfl) (cq_ok (cr_getf (idx := 7) zc_9 (by decide) zl_441 (dq_180 (a := 0) (b := 7) (by decide +kernel) rfl) rfl) (cq_ok (cr_bipush (n := 27) (dq_16 (a := 27) (by decide +kernel) rfl) (by decide +kernel) rfl) (cq_ok (cr_aload_n (k := 0) (dq_42 (by decide +kernel)) rfl rfl) (cq_ok (cr_getf (idx := 99) zc_9 (by decide) zl_449 (dq_180 (a := 0) (b := 99) (by decide +kernel) rfl) rfl) (cq_ok (cr_ast (ins := .iastore) rfl (dq_79 (by decide +kernel)) (Or.inl ⟨rfl, rfl⟩)) (cq_ok (cr_iconst2 (n := 0) (dq_3 (by decide +kernel)) (by decide +kernel) rfl) (cr_istore_n (k := 1) (dq_60 (by decide +kernel)) rfl (by decide) rfl)))))))))))))))))))
set_option maxRecDepth 100000 in
theorem cb_X9_keepDraft_151 : ci_ok yX9_keepDraft cX9_keepDraft 2 151 (ci_seq (ci_load 0 1 152) 152 (ci_seq (ci_push (.int 3) 153) 153 (ci_ic (fun x y => decide (y ≤ x)) 177 156))) := cq_ok (cr_iload_n (k := 1) (dq_27 (by decide +kernel)) rfl rfl) (cq_ok (cr_iconst2 (n := 3) (dq_6 (by decide +kernel)) (by decide +kernel) rfl) (cr_ic_ge (off := 24) (dq_162 (a := 0) (b := 24) (by decide +kernel) rfl) (by decide) rfl))
set_option maxRecDepth 100000 in
theorem cb_X9_keepDraft_156 : ci_ok yX9_keepDraft cX9_keepDraft 2 156 (ci_seq (ci_load 2 0 157) 157 (ci_seq (ci_getf 9 0 160) 160 (ci_seq (ci_push (.int 28) 162) 162 (ci_seq (ci_load 0 1 163) 163 (ci_seq (ci_bin (fun a b => a + b) 164) 164 (ci_seq (ci_load 2 0 165) 165 (ci_seq (ci_getf 9 13 168) 168 (ci_seq (ci_load 0 1 169) 169 (ci_seq (ci_ald .int 170) 170 (ci_seq (ci_ast .int 171) 171 (ci_seq (ci_inc 1 1 174) 174 (ci_go 151)))))))))))) := cq_ok (cr_aload_n (k := 0) (dq_42 (by decide +kernel)) rfl rfl) (cq_ok (cr_getf (idx := 7) zc_9 (by decide) zl_441 (dq_180 (a := 0) (b := 7) (by decide +kernel) rfl) rfl) (cq_ok (cr_bipush (n := 28) (dq_16 (a := 28) (by decide +kernel) rfl) (by decide +kernel) rfl) (cq_ok (cr_iload_n (k := 1) (dq_27 (by decide +kernel)) rfl rfl) (cq_ok (cr_iadd (dq_96 (by decide +kernel)) rfl) (cq_ok (cr_aload_n (k := 0) (dq_42 (by decide +kernel)) rfl rfl) (cq_ok (cr_getf (idx := 23) zc_9 (by decide) zl_436 (dq_180 (a := 0) (b := 23) (by decide +kernel) rfl) rfl) (cq_ok (cr_iload_n (k := 1) (dq_27 (by decide +kernel)) rfl rfl) (cq_ok (cr_ald (ins := .iaload) rfl (dq_46 (by decide +kernel)) (Or.inl ⟨rfl, rfl⟩)) (cq_ok (cr_ast (ins := .iastore) rfl (dq_79 (by decide +kernel)) (Or.inl ⟨rfl, rfl⟩)) (cq_ok (ci_inc_ok (by decide) (dq_132 (a := 1) (b := 1) (by decide +kernel) rfl) rfl) (cr_goto (off := -23) (dq_167 (a := 255) (b := 233) (by decide +kernel) rfl) (by decide))))))))))))
set_option maxRecDepth 100000 in
theorem cb_X9_keepDraft_177 : ci_ok yX9_keepDraft cX9_keepDraft 2 177 (ci_seq (ci_load 2 0 178) 178 (ci_seq (ci_getf 9 1 181) 181 (ci_seq (ci_push (.int 0) 182) 182 (ci_seq (ci_push (.int 0) 183) 183 (ci_seq (ci_ast .boolean 184) 184 (ci_seq (ci_load 2 0 185) 185 (ci_seq (ci_getf 9 1 188) 188 (ci_seq (ci_push (.int 1) 189) 189 (ci_seq (ci_push (.int 0) 190) 190 (ci_ast .boolean 191)))))))))) := cq_ok (cr_aload_n (k := 0) (dq_42 (by decide +kernel)) rfl rfl) (cq_ok (cr_getf (idx := 13) zc_9 (by decide) zl_439 (dq_180 (a := 0) (b := 13) (by decide +kernel) rfl) rfl) (cq_ok (cr_iconst2 (n := 0) (dq_3 (by decide +kernel)) (by decide +kernel) rfl) (cq_ok (cr_iconst2 (n := 0) (dq_3 (by decide +kernel)) (by decide +kernel) rfl) (cq_ok (cr_ast (ins := .bastore) rfl (dq_84 (by decide +kernel)) (Or.inr (Or.inr ⟨rfl, rfl⟩))) (cq_ok (cr_aload_n (k := 0) (dq_42 (by decide +kernel)) rfl rfl) (cq_ok (cr_getf (idx := 13) zc_9 (by decide) zl_439 (dq_180 (a := 0) (b := 13) (by decide +kernel) rfl) rfl) (cq_ok (cr_iconst2 (n := 1) (dq_4 (by decide +kernel)) (by decide +kernel) rfl) (cq_ok (cr_iconst2 (n := 0) (dq_3 (by decide +kernel)) (by decide +kernel) rfl) (cr_ast (ins := .bastore) rfl (dq_84 (by decide +kernel)) (Or.inr (Or.inr ⟨rfl, rfl⟩)))))))))))
set_option maxRecDepth 100000 in
theorem cd_X9_keepDraft_191 : decode cX9_keepDraft 191 = .ok (zi_rop none, 1) := (dq_177 (by decide +kernel))
set_option maxRecDepth 100000 in
theorem cb_X9_feed_0 : ci_ok yX9_feed cX9_feed 4 0 (ci_seq (ci_load 2 0 1) 1 (ci_seq (ci_getf 9 23 4) 4 (ci_seq (ci_push (.int 8) 6) 6 (ci_seq (ci_bin (fun a b => a + b) 7) 7 (ci_seq (ci_push (.int 320) 10) 10 (ci_ic (fun x y => decide (x ≤ y)) 16 13)))))) := cq_ok (cr_aload_n (k := 0) (dq_42 (by decide +kernel)) rfl rfl) (cq_ok (cr_getf (idx := 129) zc_9 (by decide) zl_464 (dq_180 (a := 0) (b := 129) (by decide +kernel) rfl) rfl) (cq_ok (cr_bipush (n := 8) (dq_16 (a := 8) (by decide +kernel) rfl) (by decide +kernel) rfl) (cq_ok (cr_iadd (dq_96 (by decide +kernel)) rfl) (cq_ok (cr_sipush (n := 320) (dq_17 (a := 1) (b := 64) (by decide +kernel) rfl) (by decide +kernel) rfl) (cr_ic_le (off := 6) (dq_164 (a := 0) (b := 6) (by decide +kernel) rfl) (by decide) rfl)))))
set_option maxRecDepth 100000 in
theorem cb_X9_feed_13 : ci_ok yX9_feed cX9_feed 4 13 (ci_push (.int (-3)) 15) := cr_bipush (n := -3) (dq_16 (a := 253) (by decide +kernel) rfl) (by decide +kernel) rfl
set_option maxRecDepth 100000 in
theorem cd_X9_feed_15 : decode cX9_feed 15 = .ok (zi_rop (some .int), 1) := (dq_172 (by decide +kernel))
set_option maxRecDepth 100000 in
theorem cb_X9_feed_16 : ci_ok yX9_feed cX9_feed 4 16 (ci_seq (ci_push (.int 56) 18) 18 (ci_store 0 3 19)) := cq_ok (cr_bipush (n := 56) (dq_16 (a := 56) (by decide +kernel) rfl) (by decide +kernel) rfl) (cr_istore_n (k := 3) (dq_62 (by decide +kernel)) rfl (by decide) rfl)
set_option maxRecDepth 100000 in
theorem cb_X9_feed_19 : ci_ok yX9_feed cX9_feed 4 19 (ci_seq (ci_load 0 3 20) 20 (ci_if (fun x => decide (x < 0)) 56 23)) := cq_ok (cr_iload_n (k := 3) (dq_29 (by decide +kernel)) rfl rfl) (cr_if_lt (off := 36) (dq_155 (a := 0) (b := 36) (by decide +kernel) rfl) (by decide) rfl)
set_option maxRecDepth 100000 in
theorem cb_X9_feed_23 : ci_ok yX9_feed cX9_feed 4 23 (ci_seq (ci_load 2 0 24) 24 (ci_seq (ci_getf 9 22 27) 27 (ci_seq (ci_load 2 0 28) 28 (ci_seq (ci_getf 9 23 31) 31 (ci_seq (ci_load 1 1 32) 32 (ci_seq (ci_load 0 3 33) 33 (ci_seq (ci_shfl (fun a b => a >>> (b.toInt64 &&& 63)) 34) 34 (ci_seq (ci_push (.long 255) 37) 37 (ci_seq (ci_binl (fun a b => a &&& b) 38) 38 (ci_seq (ci_l2i 39) 39 (ci_seq (ci_ast .int 40) 40 (ci_seq (ci_load 2 0 41) 41 (ci_seq (ci_dup 42) 42 (ci_seq (ci_getf 9 23 45) 45 (ci_seq (ci_push (.int 1) 46) 46 (ci_seq (ci_bin (fun a b => a + b) 47) 47 (ci_seq (ci_putf 9 23 .int 50) 50 (ci_seq (ci_inc 3 (-8) 53) 53 (ci_go 19))))))))))))))))))) := cq_ok (cr_aload_n (k := 0) (dq_42 (by decide +kernel)) rfl rfl) (cq_ok (cr_getf (idx := 32) zc_9 (by decide) zl_433 (dq_180 (a := 0) (b := 32) (by decide +kernel) rfl) rfl) (cq_ok (cr_aload_n (k := 0) (dq_42 (by decide +kernel)) rfl rfl) (cq_ok (cr_getf (idx := 129) zc_9 (by decide) zl_464 (dq_180 (a := 0) (b := 129) (by decide +kernel) rfl) rfl) (cq_ok (cr_lload_n (k := 1) (dq_31 (by decide +kernel)) rfl rfl) (cq_ok (cr_iload_n (k := 3) (dq_29 (by decide +kernel)) rfl rfl) (cq_ok (cr_lshr (dq_123 (by decide +kernel)) rfl) (cq_ok (cr_ldc2 zl_465 (dq_20 (a := 0) (b := 132) (by decide +kernel) rfl) rfl) (cq_ok (cr_land (dq_127 (by decide +kernel)) rfl) (cq_ok (cr_l2i (dq_136 (by decide +kernel)) rfl) (cq_ok (cr_ast (ins := .iastore) rfl (dq_79 (by decide +kernel)) (Or.inl ⟨rfl, rfl⟩)) (cq_ok (cr_aload_n (k := 0) (dq_42 (by decide +kernel)) rfl rfl) (cq_ok (cr_dup (dq_89 (by decide +kernel)) rfl) (cq_ok (cr_getf (idx := 129) zc_9 (by decide) zl_464 (dq_180 (a := 0) (b := 129) (by decide +kernel) rfl) rfl) (cq_ok (cr_iconst2 (n := 1) (dq_4 (by decide +kernel)) (by decide +kernel) rfl) (cq_ok (cr_iadd (dq_96 (by decide +kernel)) rfl) (cq_ok (cr_putf (idx := 129) zc_9 (by decide) (by decide +kernel) rfl zl_464 (dq_181 (a := 0) (b := 129) (by decide +kernel) rfl) rfl) (cq_ok (ci_inc_ok (by decide) (dq_132 (a := 3) (b := 248) (by decide +kernel) rfl) rfl) (cr_goto (off := -34) (dq_167 (a := 255) (b := 222) (by decide +kernel) rfl) (by decide)))))))))))))))))))
set_option maxRecDepth 100000 in
theorem cb_X9_feed_56 : ci_ok yX9_feed cX9_feed 4 56 (ci_seq (ci_load 2 0 57) 57 (ci_getf 9 23 60)) := cq_ok (cr_aload_n (k := 0) (dq_42 (by decide +kernel)) rfl rfl) (cr_getf (idx := 129) zc_9 (by decide) zl_464 (dq_180 (a := 0) (b := 129) (by decide +kernel) rfl) rfl)
set_option maxRecDepth 100000 in
theorem cd_X9_feed_60 : decode cX9_feed 60 = .ok (zi_rop (some .int), 1) := (dq_172 (by decide +kernel))
set_option maxRecDepth 100000 in
theorem cb_X9_end_0 : ci_ok yX9_end cX9_end 3 0 (ci_seq (ci_load 0 1 1) 1 (ci_seq (ci_i2l 2) 2 (ci_seq (ci_push (.long 0) 3) 3 (ci_seq (ci_load 2 0 4) 4 (ci_seq (ci_getf 9 23 7) 7 (ci_i2l 8)))))) := cq_ok (cr_iload_n (k := 1) (dq_27 (by decide +kernel)) rfl rfl) (cq_ok (cr_i2l (dq_133 (by decide +kernel)) rfl) (cq_ok (cr_lconst (n := 0) (dq_9 (by decide +kernel)) (by decide +kernel) rfl) (cq_ok (cr_aload_n (k := 0) (dq_42 (by decide +kernel)) rfl rfl) (cq_ok (cr_getf (idx := 129) zc_9 (by decide) zl_464 (dq_180 (a := 0) (b := 129) (by decide +kernel) rfl) rfl) (cr_i2l (dq_133 (by decide +kernel)) rfl)))))
set_option maxRecDepth 100000 in
theorem cl_X9_end_8 : ci_calls yX9_end cX9_end 3 8 yX9_in 3 none := cr_callS (idx := 134) zl_992 zl_654 ⟨by decide, by decide⟩ hp_X9_in zl_467 (Or.inl zl_466) (dq_184 (a := 0) (b := 134) (by decide +kernel) rfl)
set_option maxRecDepth 100000 in
theorem cb_X9_end_11 : ci_ok yX9_end cX9_end 3 11 (ci_if (fun x => !decide (x = 0)) 16 14) := cr_if_ne (off := 5) (dq_154 (a := 0) (b := 5) (by decide +kernel) rfl) (by decide) rfl
set_option maxRecDepth 100000 in
theorem cb_X9_end_14 : ci_ok yX9_end cX9_end 3 14 (ci_push (.int (-1)) 15) := cr_iconst2 (n := -1) (dq_2 (by decide +kernel)) (by decide +kernel) rfl
set_option maxRecDepth 100000 in
theorem cd_X9_end_15 : decode cX9_end 15 = .ok (zi_rop (some .int), 1) := (dq_172 (by decide +kernel))
set_option maxRecDepth 100000 in
theorem cb_X9_end_16 : ci_ok yX9_end cX9_end 3 16 (ci_seq (ci_load 2 0 17) 17 (ci_seq (ci_getf 9 23 20) 20 (ci_seq (ci_store 0 2 21) 21 (ci_seq (ci_load 2 0 22) 22 (ci_seq (ci_load 0 1 23) 23 (ci_seq (ci_putf 9 23 .int 26) 26 (ci_load 0 2 27))))))) := cq_ok (cr_aload_n (k := 0) (dq_42 (by decide +kernel)) rfl rfl) (cq_ok (cr_getf (idx := 129) zc_9 (by decide) zl_464 (dq_180 (a := 0) (b := 129) (by decide +kernel) rfl) rfl) (cq_ok (cr_istore_n (k := 2) (dq_61 (by decide +kernel)) rfl (by decide) rfl) (cq_ok (cr_aload_n (k := 0) (dq_42 (by decide +kernel)) rfl rfl) (cq_ok (cr_iload_n (k := 1) (dq_27 (by decide +kernel)) rfl rfl) (cq_ok (cr_putf (idx := 129) zc_9 (by decide) (by decide +kernel) rfl zl_464 (dq_181 (a := 0) (b := 129) (by decide +kernel) rfl) rfl) (cr_iload_n (k := 2) (dq_28 (by decide +kernel)) rfl rfl))))))
set_option maxRecDepth 100000 in
theorem cd_X9_end_27 : decode cX9_end 27 = .ok (zi_rop (some .int), 1) := (dq_172 (by decide +kernel))
set_option maxRecDepth 100000 in
theorem cb_X9_needs_0 : ci_ok yX9_needs cX9_needs 3 0 (ci_seq (ci_load 0 1 1) 1 (ci_if (fun x => !decide (x = 0)) 24 4)) := cq_ok (cr_iload_n (k := 1) (dq_27 (by decide +kernel)) rfl rfl) (cr_if_ne (off := 23) (dq_154 (a := 0) (b := 23) (by decide +kernel) rfl) (by decide) rfl)
set_option maxRecDepth 100000 in
theorem cb_X9_needs_4 : ci_ok yX9_needs cX9_needs 3 4 (ci_seq (ci_load 2 0 5) 5 (ci_seq (ci_getf 9 28 8) 8 (ci_if (fun x => !decide (x = 0)) 24 11))) := cq_ok (cr_aload_n (k := 0) (dq_42 (by decide +kernel)) rfl rfl) (cq_ok (cr_getf (idx := 138) zc_9 (by decide) zl_468 (dq_180 (a := 0) (b := 138) (by decide +kernel) rfl) rfl) (cr_if_ne (off := 16) (dq_154 (a := 0) (b := 16) (by decide +kernel) rfl) (by decide) rfl))
set_option maxRecDepth 100000 in
theorem cb_X9_needs_11 : ci_ok yX9_needs cX9_needs 3 11 (ci_seq (ci_load 2 0 12) 12 (ci_seq (ci_load 0 2 13) 13 (ci_seq (ci_putf 9 28 .int 16) 16 (ci_seq (ci_load 2 0 17) 17 (ci_seq (ci_load 2 0 18) 18 (ci_seq (ci_getf 9 25 21) 21 (ci_putf 9 29 .int 24))))))) := cq_ok (cr_aload_n (k := 0) (dq_42 (by decide +kernel)) rfl rfl) (cq_ok (cr_iload_n (k := 2) (dq_28 (by decide +kernel)) rfl rfl) (cq_ok (cr_putf (idx := 138) zc_9 (by decide) (by decide +kernel) rfl zl_468 (dq_181 (a := 0) (b := 138) (by decide +kernel) rfl) rfl) (cq_ok (cr_aload_n (k := 0) (dq_42 (by decide +kernel)) rfl rfl) (cq_ok (cr_aload_n (k := 0) (dq_42 (by decide +kernel)) rfl rfl) (cq_ok (cr_getf (idx := 141) zc_9 (by decide) zl_470 (dq_180 (a := 0) (b := 141) (by decide +kernel) rfl) rfl) (cr_putf (idx := 144) zc_9 (by decide) (by decide +kernel) rfl zl_469 (dq_181 (a := 0) (b := 144) (by decide +kernel) rfl) rfl))))))
set_option maxRecDepth 100000 in
theorem cd_X9_needs_24 : decode cX9_needs 24 = .ok (zi_rop none, 1) := (dq_177 (by decide +kernel))
set_option maxRecDepth 100000 in
theorem cb_X9_look_0 : ci_ok yX9_look cX9_look 2 0 (ci_seq (ci_load 0 1 1) 1 (ci_seq (ci_load 2 0 2) 2 (ci_seq (ci_getf 9 23 5) 5 (ci_ic (fun x y => decide (y ≤ x)) 17 8)))) := cq_ok (cr_iload_n (k := 1) (dq_27 (by decide +kernel)) rfl rfl) (cq_ok (cr_aload_n (k := 0) (dq_42 (by decide +kernel)) rfl rfl) (cq_ok (cr_getf (idx := 129) zc_9 (by decide) zl_464 (dq_180 (a := 0) (b := 129) (by decide +kernel) rfl) rfl) (cr_ic_ge (off := 12) (dq_162 (a := 0) (b := 12) (by decide +kernel) rfl) (by decide) rfl)))
set_option maxRecDepth 100000 in
theorem cb_X9_look_8 : ci_ok yX9_look cX9_look 2 8 (ci_seq (ci_load 2 0 9) 9 (ci_seq (ci_getf 9 22 12) 12 (ci_seq (ci_load 0 1 13) 13 (ci_seq (ci_ald .int 14) 14 (ci_go 18))))) := cq_ok (cr_aload_n (k := 0) (dq_42 (by decide +kernel)) rfl rfl) (cq_ok (cr_getf (idx := 32) zc_9 (by decide) zl_433 (dq_180 (a := 0) (b := 32) (by decide +kernel) rfl) rfl) (cq_ok (cr_iload_n (k := 1) (dq_27 (by decide +kernel)) rfl rfl) (cq_ok (cr_ald (ins := .iaload) rfl (dq_46 (by decide +kernel)) (Or.inl ⟨rfl, rfl⟩)) (cr_goto (off := 4) (dq_167 (a := 0) (b := 4) (by decide +kernel) rfl) (by decide)))))
set_option maxRecDepth 100000 in
theorem cb_X9_look_17 : ci_ok yX9_look cX9_look 2 17 (ci_push (.int (-1)) 18) := cr_iconst2 (n := -1) (dq_2 (by decide +kernel)) (by decide +kernel) rfl
set_option maxRecDepth 100000 in
theorem cd_X9_look_18 : decode cX9_look 18 = .ok (zi_rop (some .int), 1) := (dq_172 (by decide +kernel))
set_option maxRecDepth 100000 in
theorem cb_X9_is_0 : ci_ok yX9_is cX9_is 5 0 (ci_seq (ci_load 2 0 1) 1 (ci_seq (ci_getf 9 24 4) 4 (ci_seq (ci_load 2 0 5) 5 (ci_seq (ci_getf 9 25 8) 8 (ci_seq (ci_bin (fun a b => a - b) 9) 9 (ci_seq (ci_load 0 1 10) 10 (ci_ic (fun x y => !decide (x = y)) 58 13))))))) := cq_ok (cr_aload_n (k := 0) (dq_42 (by decide +kernel)) rfl rfl) (cq_ok (cr_getf (idx := 147) zc_9 (by decide) zl_471 (dq_180 (a := 0) (b := 147) (by decide +kernel) rfl) rfl) (cq_ok (cr_aload_n (k := 0) (dq_42 (by decide +kernel)) rfl rfl) (cq_ok (cr_getf (idx := 141) zc_9 (by decide) zl_470 (dq_180 (a := 0) (b := 141) (by decide +kernel) rfl) rfl) (cq_ok (cr_isub (dq_100 (by decide +kernel)) rfl) (cq_ok (cr_iload_n (k := 1) (dq_27 (by decide +kernel)) rfl rfl) (cr_ic_ne (off := 48) (dq_160 (a := 0) (b := 48) (by decide +kernel) rfl) (by decide) rfl))))))
set_option maxRecDepth 100000 in
theorem cb_X9_is_13 : ci_ok yX9_is cX9_is 5 13 (ci_seq (ci_load 2 0 14) 14 (ci_seq (ci_load 2 0 15) 15 (ci_getf 9 25 18))) := cq_ok (cr_aload_n (k := 0) (dq_42 (by decide +kernel)) rfl rfl) (cq_ok (cr_aload_n (k := 0) (dq_42 (by decide +kernel)) rfl rfl) (cr_getf (idx := 141) zc_9 (by decide) zl_470 (dq_180 (a := 0) (b := 141) (by decide +kernel) rfl) rfl))
set_option maxRecDepth 100000 in
theorem cl_X9_is_18 : ci_calls yX9_is cX9_is 5 18 yX9_look 2 (some 9) := cr_callV (idx := 150) zl_999 ⟨by decide, by decide⟩ hp_X9_look zc_9 zl_473 zl_474 (Or.inl zl_472) (dq_182 (a := 0) (b := 150) (by decide +kernel) rfl)
set_option maxRecDepth 100000 in
theorem cb_X9_is_21 : ci_ok yX9_is cX9_is 5 21 (ci_seq (ci_load 0 2 22) 22 (ci_ic (fun x y => !decide (x = y)) 58 25)) := cq_ok (cr_iload_n (k := 2) (dq_28 (by decide +kernel)) rfl rfl) (cr_ic_ne (off := 36) (dq_160 (a := 0) (b := 36) (by decide +kernel) rfl) (by decide) rfl)
set_option maxRecDepth 100000 in
theorem cb_X9_is_25 : ci_ok yX9_is cX9_is 5 25 (ci_seq (ci_load 2 0 26) 26 (ci_seq (ci_load 2 0 27) 27 (ci_seq (ci_getf 9 25 30) 30 (ci_seq (ci_push (.int 1) 31) 31 (ci_bin (fun a b => a + b) 32))))) := cq_ok (cr_aload_n (k := 0) (dq_42 (by decide +kernel)) rfl rfl) (cq_ok (cr_aload_n (k := 0) (dq_42 (by decide +kernel)) rfl rfl) (cq_ok (cr_getf (idx := 141) zc_9 (by decide) zl_470 (dq_180 (a := 0) (b := 141) (by decide +kernel) rfl) rfl) (cq_ok (cr_iconst2 (n := 1) (dq_4 (by decide +kernel)) (by decide +kernel) rfl) (cr_iadd (dq_96 (by decide +kernel)) rfl))))
set_option maxRecDepth 100000 in
theorem cl_X9_is_32 : ci_calls yX9_is cX9_is 5 32 yX9_look 2 (some 9) := cr_callV (idx := 150) zl_999 ⟨by decide, by decide⟩ hp_X9_look zc_9 zl_473 zl_474 (Or.inl zl_472) (dq_182 (a := 0) (b := 150) (by decide +kernel) rfl)
set_option maxRecDepth 100000 in
theorem cb_X9_is_35 : ci_ok yX9_is cX9_is 5 35 (ci_seq (ci_load 0 3 36) 36 (ci_ic (fun x y => !decide (x = y)) 58 39)) := cq_ok (cr_iload_n (k := 3) (dq_29 (by decide +kernel)) rfl rfl) (cr_ic_ne (off := 22) (dq_160 (a := 0) (b := 22) (by decide +kernel) rfl) (by decide) rfl)
set_option maxRecDepth 100000 in
theorem cb_X9_is_39 : ci_ok yX9_is cX9_is 5 39 (ci_seq (ci_load 2 0 40) 40 (ci_seq (ci_load 2 0 41) 41 (ci_seq (ci_getf 9 25 44) 44 (ci_seq (ci_push (.int 2) 45) 45 (ci_bin (fun a b => a + b) 46))))) := cq_ok (cr_aload_n (k := 0) (dq_42 (by decide +kernel)) rfl rfl) (cq_ok (cr_aload_n (k := 0) (dq_42 (by decide +kernel)) rfl rfl) (cq_ok (cr_getf (idx := 141) zc_9 (by decide) zl_470 (dq_180 (a := 0) (b := 141) (by decide +kernel) rfl) rfl) (cq_ok (cr_iconst2 (n := 2) (dq_5 (by decide +kernel)) (by decide +kernel) rfl) (cr_iadd (dq_96 (by decide +kernel)) rfl))))
set_option maxRecDepth 100000 in
theorem cl_X9_is_46 : ci_calls yX9_is cX9_is 5 46 yX9_look 2 (some 9) := cr_callV (idx := 150) zl_999 ⟨by decide, by decide⟩ hp_X9_look zc_9 zl_473 zl_474 (Or.inl zl_472) (dq_182 (a := 0) (b := 150) (by decide +kernel) rfl)
set_option maxRecDepth 100000 in
theorem cb_X9_is_49 : ci_ok yX9_is cX9_is 5 49 (ci_seq (ci_load 0 4 51) 51 (ci_ic (fun x y => !decide (x = y)) 58 54)) := cq_ok (cr_iload (dq_21 (by decide +kernel)) rfl) (cr_ic_ne (off := 7) (dq_160 (a := 0) (b := 7) (by decide +kernel) rfl) (by decide) rfl)
set_option maxRecDepth 100000 in
theorem cb_X9_is_54 : ci_ok yX9_is cX9_is 5 54 (ci_seq (ci_push (.int 1) 55) 55 (ci_go 59)) := cq_ok (cr_iconst2 (n := 1) (dq_4 (by decide +kernel)) (by decide +kernel) rfl) (cr_goto (off := 4) (dq_167 (a := 0) (b := 4) (by decide +kernel) rfl) (by decide))
set_option maxRecDepth 100000 in
theorem cb_X9_is_58 : ci_ok yX9_is cX9_is 5 58 (ci_push (.int 0) 59) := cr_iconst2 (n := 0) (dq_3 (by decide +kernel)) (by decide +kernel) rfl
set_option maxRecDepth 100000 in
theorem cd_X9_is_59 : decode cX9_is 59 = .ok (zi_rop (some .boolean), 1) := (dq_172 (by decide +kernel))
set_option maxRecDepth 100000 in
theorem cb_X9_ends_0 : ci_ok yX9_ends cX9_ends 4 0 (ci_seq (ci_load 2 0 1) 1 (ci_seq (ci_load 2 0 2) 2 (ci_seq (ci_getf 9 25 5) 5 (ci_seq (ci_push (.int 3) 6) 6 (ci_bin (fun a b => a + b) 7))))) := cq_ok (cr_aload_n (k := 0) (dq_42 (by decide +kernel)) rfl rfl) (cq_ok (cr_aload_n (k := 0) (dq_42 (by decide +kernel)) rfl rfl) (cq_ok (cr_getf (idx := 141) zc_9 (by decide) zl_470 (dq_180 (a := 0) (b := 141) (by decide +kernel) rfl) rfl) (cq_ok (cr_iconst2 (n := 3) (dq_6 (by decide +kernel)) (by decide +kernel) rfl) (cr_iadd (dq_96 (by decide +kernel)) rfl))))
set_option maxRecDepth 100000 in
theorem cl_X9_ends_7 : ci_calls yX9_ends cX9_ends 4 7 yX9_look 2 (some 9) := cr_callV (idx := 150) zl_999 ⟨by decide, by decide⟩ hp_X9_look zc_9 zl_473 zl_474 (Or.inl zl_472) (dq_182 (a := 0) (b := 150) (by decide +kernel) rfl)
set_option maxRecDepth 100000 in
theorem cb_X9_ends_10 : ci_ok yX9_ends cX9_ends 4 10 (ci_seq (ci_load 0 1 11) 11 (ci_ic (fun x y => !decide (x = y)) 54 14)) := cq_ok (cr_iload_n (k := 1) (dq_27 (by decide +kernel)) rfl rfl) (cr_ic_ne (off := 43) (dq_160 (a := 0) (b := 43) (by decide +kernel) rfl) (by decide) rfl)
set_option maxRecDepth 100000 in
theorem cb_X9_ends_14 : ci_ok yX9_ends cX9_ends 4 14 (ci_seq (ci_load 0 2 15) 15 (ci_if (fun x => decide (x = 0)) 32 18)) := cq_ok (cr_iload_n (k := 2) (dq_28 (by decide +kernel)) rfl rfl) (cr_if_eq (off := 17) (dq_153 (a := 0) (b := 17) (by decide +kernel) rfl) (by decide) rfl)
set_option maxRecDepth 100000 in
theorem cb_X9_ends_18 : ci_ok yX9_ends cX9_ends 4 18 (ci_seq (ci_load 2 0 19) 19 (ci_seq (ci_load 2 0 20) 20 (ci_seq (ci_getf 9 25 23) 23 (ci_seq (ci_push (.int 4) 24) 24 (ci_bin (fun a b => a + b) 25))))) := cq_ok (cr_aload_n (k := 0) (dq_42 (by decide +kernel)) rfl rfl) (cq_ok (cr_aload_n (k := 0) (dq_42 (by decide +kernel)) rfl rfl) (cq_ok (cr_getf (idx := 141) zc_9 (by decide) zl_470 (dq_180 (a := 0) (b := 141) (by decide +kernel) rfl) rfl) (cq_ok (cr_iconst2 (n := 4) (dq_7 (by decide +kernel)) (by decide +kernel) rfl) (cr_iadd (dq_96 (by decide +kernel)) rfl))))
set_option maxRecDepth 100000 in
theorem cl_X9_ends_25 : ci_calls yX9_ends cX9_ends 4 25 yX9_look 2 (some 9) := cr_callV (idx := 150) zl_999 ⟨by decide, by decide⟩ hp_X9_look zc_9 zl_473 zl_474 (Or.inl zl_472) (dq_182 (a := 0) (b := 150) (by decide +kernel) rfl)
set_option maxRecDepth 100000 in
theorem cb_X9_ends_28 : ci_ok yX9_ends cX9_ends 4 28 (ci_seq (ci_load 0 2 29) 29 (ci_ic (fun x y => !decide (x = y)) 54 32)) := cq_ok (cr_iload_n (k := 2) (dq_28 (by decide +kernel)) rfl rfl) (cr_ic_ne (off := 25) (dq_160 (a := 0) (b := 25) (by decide +kernel) rfl) (by decide) rfl)
set_option maxRecDepth 100000 in
theorem cb_X9_ends_32 : ci_ok yX9_ends cX9_ends 4 32 (ci_seq (ci_load 0 3 33) 33 (ci_if (fun x => decide (x = 0)) 50 36)) := cq_ok (cr_iload_n (k := 3) (dq_29 (by decide +kernel)) rfl rfl) (cr_if_eq (off := 17) (dq_153 (a := 0) (b := 17) (by decide +kernel) rfl) (by decide) rfl)
set_option maxRecDepth 100000 in
theorem cb_X9_ends_36 : ci_ok yX9_ends cX9_ends 4 36 (ci_seq (ci_load 2 0 37) 37 (ci_seq (ci_load 2 0 38) 38 (ci_seq (ci_getf 9 25 41) 41 (ci_seq (ci_push (.int 5) 42) 42 (ci_bin (fun a b => a + b) 43))))) := cq_ok (cr_aload_n (k := 0) (dq_42 (by decide +kernel)) rfl rfl) (cq_ok (cr_aload_n (k := 0) (dq_42 (by decide +kernel)) rfl rfl) (cq_ok (cr_getf (idx := 141) zc_9 (by decide) zl_470 (dq_180 (a := 0) (b := 141) (by decide +kernel) rfl) rfl) (cq_ok (cr_iconst2 (n := 5) (dq_8 (by decide +kernel)) (by decide +kernel) rfl) (cr_iadd (dq_96 (by decide +kernel)) rfl))))
set_option maxRecDepth 100000 in
theorem cl_X9_ends_43 : ci_calls yX9_ends cX9_ends 4 43 yX9_look 2 (some 9) := cr_callV (idx := 150) zl_999 ⟨by decide, by decide⟩ hp_X9_look zc_9 zl_473 zl_474 (Or.inl zl_472) (dq_182 (a := 0) (b := 150) (by decide +kernel) rfl)
set_option maxRecDepth 100000 in
theorem cb_X9_ends_46 : ci_ok yX9_ends cX9_ends 4 46 (ci_seq (ci_load 0 3 47) 47 (ci_ic (fun x y => !decide (x = y)) 54 50)) := cq_ok (cr_iload_n (k := 3) (dq_29 (by decide +kernel)) rfl rfl) (cr_ic_ne (off := 7) (dq_160 (a := 0) (b := 7) (by decide +kernel) rfl) (by decide) rfl)
set_option maxRecDepth 100000 in
theorem cb_X9_ends_50 : ci_ok yX9_ends cX9_ends 4 50 (ci_seq (ci_push (.int 1) 51) 51 (ci_go 55)) := cq_ok (cr_iconst2 (n := 1) (dq_4 (by decide +kernel)) (by decide +kernel) rfl) (cr_goto (off := 4) (dq_167 (a := 0) (b := 4) (by decide +kernel) rfl) (by decide))
set_option maxRecDepth 100000 in
theorem cb_X9_ends_54 : ci_ok yX9_ends cX9_ends 4 54 (ci_push (.int 0) 55) := cr_iconst2 (n := 0) (dq_3 (by decide +kernel)) (by decide +kernel) rfl
set_option maxRecDepth 100000 in
theorem cd_X9_ends_55 : decode cX9_ends 55 = .ok (zi_rop (some .boolean), 1) := (dq_172 (by decide +kernel))
set_option maxRecDepth 100000 in
theorem cb_X9_ruleLine_0 : ci_ok yX9_ruleLine cX9_ruleLine 1 0 (ci_seq (ci_load 2 0 1) 1 (ci_seq (ci_push (.int 5) 2) 2 (ci_seq (ci_push (.int 112) 4) 4 (ci_seq (ci_push (.int 108) 6) 6 (ci_push (.int 97) 8))))) := cq_ok (cr_aload_n (k := 0) (dq_42 (by decide +kernel)) rfl rfl) (cq_ok (cr_iconst2 (n := 5) (dq_8 (by decide +kernel)) (by decide +kernel) rfl) (cq_ok (cr_bipush (n := 112) (dq_16 (a := 112) (by decide +kernel) rfl) (by decide +kernel) rfl) (cq_ok (cr_bipush (n := 108) (dq_16 (a := 108) (by decide +kernel) rfl) (by decide +kernel) rfl) (cr_bipush (n := 97) (dq_16 (a := 97) (by decide +kernel) rfl) (by decide +kernel) rfl))))
set_option maxRecDepth 100000 in
theorem cl_X9_ruleLine_8 : ci_calls yX9_ruleLine cX9_ruleLine 1 8 yX9_is 5 (some 9) := cr_callV (idx := 154) zl_1000 ⟨by decide, by decide⟩ hp_X9_is zc_9 zl_476 zl_477 (Or.inl zl_475) (dq_182 (a := 0) (b := 154) (by decide +kernel) rfl)
set_option maxRecDepth 100000 in
theorem cb_X9_ruleLine_11 : ci_ok yX9_ruleLine cX9_ruleLine 1 11 (ci_if (fun x => decide (x = 0)) 28 14) := cr_if_eq (off := 17) (dq_153 (a := 0) (b := 17) (by decide +kernel) rfl) (by decide) rfl
set_option maxRecDepth 100000 in
theorem cb_X9_ruleLine_14 : ci_ok yX9_ruleLine cX9_ruleLine 1 14 (ci_seq (ci_load 2 0 15) 15 (ci_seq (ci_push (.int 105) 17) 17 (ci_seq (ci_push (.int 110) 19) 19 (ci_push (.int 0) 20)))) := cq_ok (cr_aload_n (k := 0) (dq_42 (by decide +kernel)) rfl rfl) (cq_ok (cr_bipush (n := 105) (dq_16 (a := 105) (by decide +kernel) rfl) (by decide +kernel) rfl) (cq_ok (cr_bipush (n := 110) (dq_16 (a := 110) (by decide +kernel) rfl) (by decide +kernel) rfl) (cr_iconst2 (n := 0) (dq_3 (by decide +kernel)) (by decide +kernel) rfl)))
set_option maxRecDepth 100000 in
theorem cl_X9_ruleLine_20 : ci_calls yX9_ruleLine cX9_ruleLine 1 20 yX9_ends 4 (some 9) := cr_callV (idx := 158) zl_1001 ⟨by decide, by decide⟩ hp_X9_ends zc_9 zl_479 zl_480 (Or.inl zl_478) (dq_182 (a := 0) (b := 158) (by decide +kernel) rfl)
set_option maxRecDepth 100000 in
theorem cb_X9_ruleLine_23 : ci_ok yX9_ruleLine cX9_ruleLine 1 23 (ci_if (fun x => decide (x = 0)) 28 26) := cr_if_eq (off := 5) (dq_153 (a := 0) (b := 5) (by decide +kernel) rfl) (by decide) rfl
set_option maxRecDepth 100000 in
theorem cb_X9_ruleLine_26 : ci_ok yX9_ruleLine cX9_ruleLine 1 26 (ci_push (.int 0) 27) := cr_iconst2 (n := 0) (dq_3 (by decide +kernel)) (by decide +kernel) rfl
set_option maxRecDepth 100000 in
theorem cd_X9_ruleLine_27 : decode cX9_ruleLine 27 = .ok (zi_rop (some .int), 1) := (dq_172 (by decide +kernel))
set_option maxRecDepth 100000 in
theorem cb_X9_ruleLine_28 : ci_ok yX9_ruleLine cX9_ruleLine 1 28 (ci_seq (ci_load 2 0 29) 29 (ci_seq (ci_push (.int 6) 31) 31 (ci_seq (ci_push (.int 115) 33) 33 (ci_seq (ci_push (.int 112) 35) 35 (ci_push (.int 114) 37))))) := cq_ok (cr_aload_n (k := 0) (dq_42 (by decide +kernel)) rfl rfl) (cq_ok (cr_bipush (n := 6) (dq_16 (a := 6) (by decide +kernel) rfl) (by decide +kernel) rfl) (cq_ok (cr_bipush (n := 115) (dq_16 (a := 115) (by decide +kernel) rfl) (by decide +kernel) rfl) (cq_ok (cr_bipush (n := 112) (dq_16 (a := 112) (by decide +kernel) rfl) (by decide +kernel) rfl) (cr_bipush (n := 114) (dq_16 (a := 114) (by decide +kernel) rfl) (by decide +kernel) rfl))))
set_option maxRecDepth 100000 in
theorem cl_X9_ruleLine_37 : ci_calls yX9_ruleLine cX9_ruleLine 1 37 yX9_is 5 (some 9) := cr_callV (idx := 154) zl_1000 ⟨by decide, by decide⟩ hp_X9_is zc_9 zl_476 zl_477 (Or.inl zl_475) (dq_182 (a := 0) (b := 154) (by decide +kernel) rfl)
set_option maxRecDepth 100000 in
theorem cb_X9_ruleLine_40 : ci_ok yX9_ruleLine cX9_ruleLine 1 40 (ci_if (fun x => decide (x = 0)) 58 43) := cr_if_eq (off := 18) (dq_153 (a := 0) (b := 18) (by decide +kernel) rfl) (by decide) rfl
set_option maxRecDepth 100000 in
theorem cb_X9_ruleLine_43 : ci_ok yX9_ruleLine cX9_ruleLine 1 43 (ci_seq (ci_load 2 0 44) 44 (ci_seq (ci_push (.int 105) 46) 46 (ci_seq (ci_push (.int 110) 48) 48 (ci_push (.int 103) 50)))) := cq_ok (cr_aload_n (k := 0) (dq_42 (by decide +kernel)) rfl rfl) (cq_ok (cr_bipush (n := 105) (dq_16 (a := 105) (by decide +kernel) rfl) (by decide +kernel) rfl) (cq_ok (cr_bipush (n := 110) (dq_16 (a := 110) (by decide +kernel) rfl) (by decide +kernel) rfl) (cr_bipush (n := 103) (dq_16 (a := 103) (by decide +kernel) rfl) (by decide +kernel) rfl)))
set_option maxRecDepth 100000 in
theorem cl_X9_ruleLine_50 : ci_calls yX9_ruleLine cX9_ruleLine 1 50 yX9_ends 4 (some 9) := cr_callV (idx := 158) zl_1001 ⟨by decide, by decide⟩ hp_X9_ends zc_9 zl_479 zl_480 (Or.inl zl_478) (dq_182 (a := 0) (b := 158) (by decide +kernel) rfl)
set_option maxRecDepth 100000 in
theorem cb_X9_ruleLine_53 : ci_ok yX9_ruleLine cX9_ruleLine 1 53 (ci_if (fun x => decide (x = 0)) 58 56) := cr_if_eq (off := 5) (dq_153 (a := 0) (b := 5) (by decide +kernel) rfl) (by decide) rfl
set_option maxRecDepth 100000 in
theorem cb_X9_ruleLine_56 : ci_ok yX9_ruleLine cX9_ruleLine 1 56 (ci_push (.int 1) 57) := cr_iconst2 (n := 1) (dq_4 (by decide +kernel)) (by decide +kernel) rfl
set_option maxRecDepth 100000 in
theorem cd_X9_ruleLine_57 : decode cX9_ruleLine 57 = .ok (zi_rop (some .int), 1) := (dq_172 (by decide +kernel))
set_option maxRecDepth 100000 in
theorem cb_X9_ruleLine_58 : ci_ok yX9_ruleLine cX9_ruleLine 1 58 (ci_seq (ci_load 2 0 59) 59 (ci_seq (ci_push (.int 3) 60) 60 (ci_seq (ci_push (.int 108) 62) 62 (ci_seq (ci_push (.int 97) 64) 64 (ci_push (.int 119) 66))))) := cq_ok (cr_aload_n (k := 0) (dq_42 (by decide +kernel)) rfl rfl) (cq_ok (cr_iconst2 (n := 3) (dq_6 (by decide +kernel)) (by decide +kernel) rfl) (cq_ok (cr_bipush (n := 108) (dq_16 (a := 108) (by decide +kernel) rfl) (by decide +kernel) rfl) (cq_ok (cr_bipush (n := 97) (dq_16 (a := 97) (by decide +kernel) rfl) (by decide +kernel) rfl) (cr_bipush (n := 119) (dq_16 (a := 119) (by decide +kernel) rfl) (by decide +kernel) rfl))))
set_option maxRecDepth 100000 in
theorem cl_X9_ruleLine_66 : ci_calls yX9_ruleLine cX9_ruleLine 1 66 yX9_is 5 (some 9) := cr_callV (idx := 154) zl_1000 ⟨by decide, by decide⟩ hp_X9_is zc_9 zl_476 zl_477 (Or.inl zl_475) (dq_182 (a := 0) (b := 154) (by decide +kernel) rfl)
set_option maxRecDepth 100000 in
theorem cb_X9_ruleLine_69 : ci_ok yX9_ruleLine cX9_ruleLine 1 69 (ci_if (fun x => decide (x = 0)) 76 72) := cr_if_eq (off := 7) (dq_153 (a := 0) (b := 7) (by decide +kernel) rfl) (by decide) rfl
set_option maxRecDepth 100000 in
theorem cb_X9_ruleLine_72 : ci_ok yX9_ruleLine cX9_ruleLine 1 72 (ci_seq (ci_push (.int 2) 73) 73 (ci_go 107)) := cq_ok (cr_iconst2 (n := 2) (dq_5 (by decide +kernel)) (by decide +kernel) rfl) (cr_goto (off := 34) (dq_167 (a := 0) (b := 34) (by decide +kernel) rfl) (by decide))
set_option maxRecDepth 100000 in
theorem cb_X9_ruleLine_76 : ci_ok yX9_ruleLine cX9_ruleLine 1 76 (ci_seq (ci_load 2 0 77) 77 (ci_seq (ci_push (.int 4) 78) 78 (ci_seq (ci_push (.int 115) 80) 80 (ci_seq (ci_push (.int 105) 82) 82 (ci_push (.int 108) 84))))) := cq_ok (cr_aload_n (k := 0) (dq_42 (by decide +kernel)) rfl rfl) (cq_ok (cr_iconst2 (n := 4) (dq_7 (by decide +kernel)) (by decide +kernel) rfl) (cq_ok (cr_bipush (n := 115) (dq_16 (a := 115) (by decide +kernel) rfl) (by decide +kernel) rfl) (cq_ok (cr_bipush (n := 105) (dq_16 (a := 105) (by decide +kernel) rfl) (by decide +kernel) rfl) (cr_bipush (n := 108) (dq_16 (a := 108) (by decide +kernel) rfl) (by decide +kernel) rfl))))
set_option maxRecDepth 100000 in
theorem cl_X9_ruleLine_84 : ci_calls yX9_ruleLine cX9_ruleLine 1 84 yX9_is 5 (some 9) := cr_callV (idx := 154) zl_1000 ⟨by decide, by decide⟩ hp_X9_is zc_9 zl_476 zl_477 (Or.inl zl_475) (dq_182 (a := 0) (b := 154) (by decide +kernel) rfl)
set_option maxRecDepth 100000 in
theorem cb_X9_ruleLine_87 : ci_ok yX9_ruleLine cX9_ruleLine 1 87 (ci_if (fun x => decide (x = 0)) 105 90) := cr_if_eq (off := 18) (dq_153 (a := 0) (b := 18) (by decide +kernel) rfl) (by decide) rfl
set_option maxRecDepth 100000 in
theorem cb_X9_ruleLine_90 : ci_ok yX9_ruleLine cX9_ruleLine 1 90 (ci_seq (ci_load 2 0 91) 91 (ci_seq (ci_push (.int 116) 93) 93 (ci_seq (ci_push (.int 0) 94) 94 (ci_push (.int 0) 95)))) := cq_ok (cr_aload_n (k := 0) (dq_42 (by decide +kernel)) rfl rfl) (cq_ok (cr_bipush (n := 116) (dq_16 (a := 116) (by decide +kernel) rfl) (by decide +kernel) rfl) (cq_ok (cr_iconst2 (n := 0) (dq_3 (by decide +kernel)) (by decide +kernel) rfl) (cr_iconst2 (n := 0) (dq_3 (by decide +kernel)) (by decide +kernel) rfl)))
set_option maxRecDepth 100000 in
theorem cl_X9_ruleLine_95 : ci_calls yX9_ruleLine cX9_ruleLine 1 95 yX9_ends 4 (some 9) := cr_callV (idx := 158) zl_1001 ⟨by decide, by decide⟩ hp_X9_ends zc_9 zl_479 zl_480 (Or.inl zl_478) (dq_182 (a := 0) (b := 158) (by decide +kernel) rfl)
set_option maxRecDepth 100000 in
theorem cb_X9_ruleLine_98 : ci_ok yX9_ruleLine cX9_ruleLine 1 98 (ci_if (fun x => decide (x = 0)) 105 101) := cr_if_eq (off := 7) (dq_153 (a := 0) (b := 7) (by decide +kernel) rfl) (by decide) rfl
set_option maxRecDepth 100000 in
theorem cb_X9_ruleLine_101 : ci_ok yX9_ruleLine cX9_ruleLine 1 101 (ci_seq (ci_push (.int 3) 102) 102 (ci_go 107)) := cq_ok (cr_iconst2 (n := 3) (dq_6 (by decide +kernel)) (by decide +kernel) rfl) (cr_goto (off := 5) (dq_167 (a := 0) (b := 5) (by decide +kernel) rfl) (by decide))
set_option maxRecDepth 100000 in
theorem cb_X9_ruleLine_105 : ci_ok yX9_ruleLine cX9_ruleLine 1 105 (ci_push (.int (-4)) 107) := cr_bipush (n := -4) (dq_16 (a := 252) (by decide +kernel) rfl) (by decide +kernel) rfl
set_option maxRecDepth 100000 in
theorem cd_X9_ruleLine_107 : decode cX9_ruleLine 107 = .ok (zi_rop (some .int), 1) := (dq_172 (by decide +kernel))
set_option maxRecDepth 100000 in
theorem cb_X9_lineNow_0 : ci_ok yX9_lineNow cX9_lineNow 1 0 (ci_seq (ci_load 2 0 1) 1 (ci_seq (ci_push (.int 3) 2) 2 (ci_seq (ci_push (.int 114) 4) 4 (ci_seq (ci_push (.int 111) 6) 6 (ci_push (.int 119) 8))))) := cq_ok (cr_aload_n (k := 0) (dq_42 (by decide +kernel)) rfl rfl) (cq_ok (cr_iconst2 (n := 3) (dq_6 (by decide +kernel)) (by decide +kernel) rfl) (cq_ok (cr_bipush (n := 114) (dq_16 (a := 114) (by decide +kernel) rfl) (by decide +kernel) rfl) (cq_ok (cr_bipush (n := 111) (dq_16 (a := 111) (by decide +kernel) rfl) (by decide +kernel) rfl) (cr_bipush (n := 119) (dq_16 (a := 119) (by decide +kernel) rfl) (by decide +kernel) rfl))))
set_option maxRecDepth 100000 in
theorem cl_X9_lineNow_8 : ci_calls yX9_lineNow cX9_lineNow 1 8 yX9_is 5 (some 9) := cr_callV (idx := 154) zl_1000 ⟨by decide, by decide⟩ hp_X9_is zc_9 zl_476 zl_477 (Or.inl zl_475) (dq_182 (a := 0) (b := 154) (by decide +kernel) rfl)
set_option maxRecDepth 100000 in
theorem cb_X9_lineNow_11 : ci_ok yX9_lineNow cX9_lineNow 1 11 (ci_if (fun x => decide (x = 0)) 16 14) := cr_if_eq (off := 5) (dq_153 (a := 0) (b := 5) (by decide +kernel) rfl) (by decide) rfl
set_option maxRecDepth 100000 in
theorem cb_X9_lineNow_14 : ci_ok yX9_lineNow cX9_lineNow 1 14 (ci_push (.int 4) 15) := cr_iconst2 (n := 4) (dq_7 (by decide +kernel)) (by decide +kernel) rfl
set_option maxRecDepth 100000 in
theorem cd_X9_lineNow_15 : decode cX9_lineNow 15 = .ok (zi_rop (some .int), 1) := (dq_172 (by decide +kernel))
set_option maxRecDepth 100000 in
theorem cb_X9_lineNow_16 : ci_ok yX9_lineNow cX9_lineNow 1 16 (ci_seq (ci_load 2 0 17) 17 (ci_seq (ci_push (.int 4) 18) 18 (ci_seq (ci_push (.int 102) 20) 20 (ci_seq (ci_push (.int 97) 22) 22 (ci_push (.int 114) 24))))) := cq_ok (cr_aload_n (k := 0) (dq_42 (by decide +kernel)) rfl rfl) (cq_ok (cr_iconst2 (n := 4) (dq_7 (by decide +kernel)) (by decide +kernel) rfl) (cq_ok (cr_bipush (n := 102) (dq_16 (a := 102) (by decide +kernel) rfl) (by decide +kernel) rfl) (cq_ok (cr_bipush (n := 97) (dq_16 (a := 97) (by decide +kernel) rfl) (by decide +kernel) rfl) (cr_bipush (n := 114) (dq_16 (a := 114) (by decide +kernel) rfl) (by decide +kernel) rfl))))
set_option maxRecDepth 100000 in
theorem cl_X9_lineNow_24 : ci_calls yX9_lineNow cX9_lineNow 1 24 yX9_is 5 (some 9) := cr_callV (idx := 154) zl_1000 ⟨by decide, by decide⟩ hp_X9_is zc_9 zl_476 zl_477 (Or.inl zl_475) (dq_182 (a := 0) (b := 154) (by decide +kernel) rfl)
set_option maxRecDepth 100000 in
theorem cb_X9_lineNow_27 : ci_ok yX9_lineNow cX9_lineNow 1 27 (ci_if (fun x => decide (x = 0)) 43 30) := cr_if_eq (off := 16) (dq_153 (a := 0) (b := 16) (by decide +kernel) rfl) (by decide) rfl
set_option maxRecDepth 100000 in
theorem cb_X9_lineNow_30 : ci_ok yX9_lineNow cX9_lineNow 1 30 (ci_seq (ci_load 2 0 31) 31 (ci_seq (ci_push (.int 109) 33) 33 (ci_seq (ci_push (.int 0) 34) 34 (ci_push (.int 0) 35)))) := cq_ok (cr_aload_n (k := 0) (dq_42 (by decide +kernel)) rfl rfl) (cq_ok (cr_bipush (n := 109) (dq_16 (a := 109) (by decide +kernel) rfl) (by decide +kernel) rfl) (cq_ok (cr_iconst2 (n := 0) (dq_3 (by decide +kernel)) (by decide +kernel) rfl) (cr_iconst2 (n := 0) (dq_3 (by decide +kernel)) (by decide +kernel) rfl)))
set_option maxRecDepth 100000 in
theorem cl_X9_lineNow_35 : ci_calls yX9_lineNow cX9_lineNow 1 35 yX9_ends 4 (some 9) := cr_callV (idx := 158) zl_1001 ⟨by decide, by decide⟩ hp_X9_ends zc_9 zl_479 zl_480 (Or.inl zl_478) (dq_182 (a := 0) (b := 158) (by decide +kernel) rfl)
set_option maxRecDepth 100000 in
theorem cb_X9_lineNow_38 : ci_ok yX9_lineNow cX9_lineNow 1 38 (ci_if (fun x => decide (x = 0)) 43 41) := cr_if_eq (off := 5) (dq_153 (a := 0) (b := 5) (by decide +kernel) rfl) (by decide) rfl
set_option maxRecDepth 100000 in
theorem cb_X9_lineNow_41 : ci_ok yX9_lineNow cX9_lineNow 1 41 (ci_push (.int 5) 42) := cr_iconst2 (n := 5) (dq_8 (by decide +kernel)) (by decide +kernel) rfl
set_option maxRecDepth 100000 in
theorem cd_X9_lineNow_42 : decode cX9_lineNow 42 = .ok (zi_rop (some .int), 1) := (dq_172 (by decide +kernel))
set_option maxRecDepth 100000 in
theorem cb_X9_lineNow_43 : ci_ok yX9_lineNow cX9_lineNow 1 43 (ci_seq (ci_load 2 0 44) 44 (ci_seq (ci_push (.int 6) 46) 46 (ci_seq (ci_push (.int 103) 48) 48 (ci_seq (ci_push (.int 114) 50) 50 (ci_push (.int 111) 52))))) := cq_ok (cr_aload_n (k := 0) (dq_42 (by decide +kernel)) rfl rfl) (cq_ok (cr_bipush (n := 6) (dq_16 (a := 6) (by decide +kernel) rfl) (by decide +kernel) rfl) (cq_ok (cr_bipush (n := 103) (dq_16 (a := 103) (by decide +kernel) rfl) (by decide +kernel) rfl) (cq_ok (cr_bipush (n := 114) (dq_16 (a := 114) (by decide +kernel) rfl) (by decide +kernel) rfl) (cr_bipush (n := 111) (dq_16 (a := 111) (by decide +kernel) rfl) (by decide +kernel) rfl))))
set_option maxRecDepth 100000 in
theorem cl_X9_lineNow_52 : ci_calls yX9_lineNow cX9_lineNow 1 52 yX9_is 5 (some 9) := cr_callV (idx := 154) zl_1000 ⟨by decide, by decide⟩ hp_X9_is zc_9 zl_476 zl_477 (Or.inl zl_475) (dq_182 (a := 0) (b := 154) (by decide +kernel) rfl)
set_option maxRecDepth 100000 in
theorem cb_X9_lineNow_55 : ci_ok yX9_lineNow cX9_lineNow 1 55 (ci_if (fun x => decide (x = 0)) 76 58) := cr_if_eq (off := 21) (dq_153 (a := 0) (b := 21) (by decide +kernel) rfl) (by decide) rfl
set_option maxRecDepth 100000 in
theorem cb_X9_lineNow_58 : ci_ok yX9_lineNow cX9_lineNow 1 58 (ci_seq (ci_load 2 0 59) 59 (ci_seq (ci_push (.int 117) 61) 61 (ci_seq (ci_push (.int 110) 63) 63 (ci_push (.int 100) 65)))) := cq_ok (cr_aload_n (k := 0) (dq_42 (by decide +kernel)) rfl rfl) (cq_ok (cr_bipush (n := 117) (dq_16 (a := 117) (by decide +kernel) rfl) (by decide +kernel) rfl) (cq_ok (cr_bipush (n := 110) (dq_16 (a := 110) (by decide +kernel) rfl) (by decide +kernel) rfl) (cr_bipush (n := 100) (dq_16 (a := 100) (by decide +kernel) rfl) (by decide +kernel) rfl)))
set_option maxRecDepth 100000 in
theorem cl_X9_lineNow_65 : ci_calls yX9_lineNow cX9_lineNow 1 65 yX9_ends 4 (some 9) := cr_callV (idx := 158) zl_1001 ⟨by decide, by decide⟩ hp_X9_ends zc_9 zl_479 zl_480 (Or.inl zl_478) (dq_182 (a := 0) (b := 158) (by decide +kernel) rfl)
set_option maxRecDepth 100000 in
theorem cb_X9_lineNow_68 : ci_ok yX9_lineNow cX9_lineNow 1 68 (ci_if (fun x => decide (x = 0)) 76 71) := cr_if_eq (off := 8) (dq_153 (a := 0) (b := 8) (by decide +kernel) rfl) (by decide) rfl
set_option maxRecDepth 100000 in
theorem cb_X9_lineNow_71 : ci_ok yX9_lineNow cX9_lineNow 1 71 (ci_seq (ci_push (.int 6) 73) 73 (ci_go 80)) := cq_ok (cr_bipush (n := 6) (dq_16 (a := 6) (by decide +kernel) rfl) (by decide +kernel) rfl) (cr_goto (off := 7) (dq_167 (a := 0) (b := 7) (by decide +kernel) rfl) (by decide))
set_option maxRecDepth 100000 in
theorem cb_X9_lineNow_76 : ci_ok yX9_lineNow cX9_lineNow 1 76 (ci_load 2 0 77) := cr_aload_n (k := 0) (dq_42 (by decide +kernel)) rfl rfl
set_option maxRecDepth 100000 in
theorem cl_X9_lineNow_77 : ci_calls yX9_lineNow cX9_lineNow 1 77 yX9_ruleLine 1 (some 9) := cr_callV (idx := 162) zl_1002 ⟨by decide, by decide⟩ hp_X9_ruleLine zc_9 zl_482 zl_483 (Or.inl zl_481) (dq_182 (a := 0) (b := 162) (by decide +kernel) rfl)
set_option maxRecDepth 100000 in
theorem cd_X9_lineNow_80 : decode cX9_lineNow 80 = .ok (zi_rop (some .int), 1) := (dq_172 (by decide +kernel))
set_option maxRecDepth 100000 in
theorem cb_X9_next_0 : ci_ok yX9_next cX9_next 2 0 (ci_seq (ci_load 2 0 1) 1 (ci_seq (ci_getf 9 28 4) 4 (ci_if (fun x => decide (x ≤ 0)) 8 7))) := cq_ok (cr_aload_n (k := 0) (dq_42 (by decide +kernel)) rfl rfl) (cq_ok (cr_getf (idx := 138) zc_9 (by decide) zl_468 (dq_180 (a := 0) (b := 138) (by decide +kernel) rfl) rfl) (cr_if_le (off := 4) (dq_158 (a := 0) (b := 4) (by decide +kernel) rfl) (by decide) rfl))
set_option maxRecDepth 100000 in
theorem cd_X9_next_7 : decode cX9_next 7 = .ok (zi_rop none, 1) := (dq_177 (by decide +kernel))
set_option maxRecDepth 100000 in
theorem cb_X9_next_8 : ci_ok yX9_next cX9_next 2 8 (ci_seq (ci_load 2 0 9) 9 (ci_seq (ci_load 2 0 10) 10 (ci_getf 9 24 13))) := cq_ok (cr_aload_n (k := 0) (dq_42 (by decide +kernel)) rfl rfl) (cq_ok (cr_aload_n (k := 0) (dq_42 (by decide +kernel)) rfl rfl) (cr_getf (idx := 147) zc_9 (by decide) zl_471 (dq_180 (a := 0) (b := 147) (by decide +kernel) rfl) rfl))
set_option maxRecDepth 100000 in
theorem cl_X9_next_13 : ci_calls yX9_next cX9_next 2 13 yX9_look 2 (some 9) := cr_callV (idx := 150) zl_999 ⟨by decide, by decide⟩ hp_X9_look zc_9 zl_473 zl_474 (Or.inl zl_472) (dq_182 (a := 0) (b := 150) (by decide +kernel) rfl)
set_option maxRecDepth 100000 in
theorem cb_X9_next_16 : ci_ok yX9_next cX9_next 2 16 (ci_seq (ci_push (.int 32) 18) 18 (ci_ic (fun x y => !decide (x = y)) 34 21)) := cq_ok (cr_bipush (n := 32) (dq_16 (a := 32) (by decide +kernel) rfl) (by decide +kernel) rfl) (cr_ic_ne (off := 16) (dq_160 (a := 0) (b := 16) (by decide +kernel) rfl) (by decide) rfl)
set_option maxRecDepth 100000 in
theorem cb_X9_next_21 : ci_ok yX9_next cX9_next 2 21 (ci_seq (ci_load 2 0 22) 22 (ci_seq (ci_dup 23) 23 (ci_seq (ci_getf 9 24 26) 26 (ci_seq (ci_push (.int 1) 27) 27 (ci_seq (ci_bin (fun a b => a + b) 28) 28 (ci_seq (ci_putf 9 24 .int 31) 31 (ci_go 8))))))) := cq_ok (cr_aload_n (k := 0) (dq_42 (by decide +kernel)) rfl rfl) (cq_ok (cr_dup (dq_89 (by decide +kernel)) rfl) (cq_ok (cr_getf (idx := 147) zc_9 (by decide) zl_471 (dq_180 (a := 0) (b := 147) (by decide +kernel) rfl) rfl) (cq_ok (cr_iconst2 (n := 1) (dq_4 (by decide +kernel)) (by decide +kernel) rfl) (cq_ok (cr_iadd (dq_96 (by decide +kernel)) rfl) (cq_ok (cr_putf (idx := 147) zc_9 (by decide) (by decide +kernel) rfl zl_471 (dq_181 (a := 0) (b := 147) (by decide +kernel) rfl) rfl) (cr_goto (off := -23) (dq_167 (a := 255) (b := 233) (by decide +kernel) rfl) (by decide)))))))
set_option maxRecDepth 100000 in
theorem cb_X9_next_34 : ci_ok yX9_next cX9_next 2 34 (ci_seq (ci_load 2 0 35) 35 (ci_seq (ci_load 2 0 36) 36 (ci_seq (ci_getf 9 24 39) 39 (ci_seq (ci_putf 9 25 .int 42) 42 (ci_seq (ci_load 2 0 43) 43 (ci_seq (ci_load 2 0 44) 44 (ci_getf 9 24 47))))))) := cq_ok (cr_aload_n (k := 0) (dq_42 (by decide +kernel)) rfl rfl) (cq_ok (cr_aload_n (k := 0) (dq_42 (by decide +kernel)) rfl rfl) (cq_ok (cr_getf (idx := 147) zc_9 (by decide) zl_471 (dq_180 (a := 0) (b := 147) (by decide +kernel) rfl) rfl) (cq_ok (cr_putf (idx := 141) zc_9 (by decide) (by decide +kernel) rfl zl_470 (dq_181 (a := 0) (b := 141) (by decide +kernel) rfl) rfl) (cq_ok (cr_aload_n (k := 0) (dq_42 (by decide +kernel)) rfl rfl) (cq_ok (cr_aload_n (k := 0) (dq_42 (by decide +kernel)) rfl rfl) (cr_getf (idx := 147) zc_9 (by decide) zl_471 (dq_180 (a := 0) (b := 147) (by decide +kernel) rfl) rfl))))))
set_option maxRecDepth 100000 in
theorem cl_X9_next_47 : ci_calls yX9_next cX9_next 2 47 yX9_look 2 (some 9) := cr_callV (idx := 150) zl_999 ⟨by decide, by decide⟩ hp_X9_look zc_9 zl_473 zl_474 (Or.inl zl_472) (dq_182 (a := 0) (b := 150) (by decide +kernel) rfl)
set_option maxRecDepth 100000 in
theorem cb_X9_next_50 : ci_ok yX9_next cX9_next 2 50 (ci_seq (ci_store 0 1 51) 51 (ci_seq (ci_load 0 1 52) 52 (ci_if (fun x => decide (0 ≤ x)) 63 55))) := cq_ok (cr_istore_n (k := 1) (dq_60 (by decide +kernel)) rfl (by decide) rfl) (cq_ok (cr_iload_n (k := 1) (dq_27 (by decide +kernel)) rfl rfl) (cr_if_ge (off := 11) (dq_156 (a := 0) (b := 11) (by decide +kernel) rfl) (by decide) rfl))
set_option maxRecDepth 100000 in
theorem cb_X9_next_55 : ci_ok yX9_next cX9_next 2 55 (ci_seq (ci_load 2 0 56) 56 (ci_seq (ci_push (.int 0) 57) 57 (ci_seq (ci_putf 9 26 .int 60) 60 (ci_go 274)))) := cq_ok (cr_aload_n (k := 0) (dq_42 (by decide +kernel)) rfl rfl) (cq_ok (cr_iconst2 (n := 0) (dq_3 (by decide +kernel)) (by decide +kernel) rfl) (cq_ok (cr_putf (idx := 166) zc_9 (by decide) (by decide +kernel) rfl zl_484 (dq_181 (a := 0) (b := 166) (by decide +kernel) rfl) rfl) (cr_goto (off := 214) (dq_167 (a := 0) (b := 214) (by decide +kernel) rfl) (by decide))))
set_option maxRecDepth 100000 in
theorem cb_X9_next_63 : ci_ok yX9_next cX9_next 2 63 (ci_seq (ci_load 0 1 64) 64 (ci_seq (ci_i2l 65) 65 (ci_seq (ci_push (.long 97) 68) 68 (ci_push (.long 122) 71)))) := cq_ok (cr_iload_n (k := 1) (dq_27 (by decide +kernel)) rfl rfl) (cq_ok (cr_i2l (dq_133 (by decide +kernel)) rfl) (cq_ok (cr_ldc2 zl_486 (dq_20 (a := 0) (b := 169) (by decide +kernel) rfl) rfl) (cr_ldc2 zl_485 (dq_20 (a := 0) (b := 171) (by decide +kernel) rfl) rfl)))
set_option maxRecDepth 100000 in
theorem cl_X9_next_71 : ci_calls yX9_next cX9_next 2 71 yX9_in 3 none := cr_callS (idx := 134) zl_992 zl_654 ⟨by decide, by decide⟩ hp_X9_in zl_467 (Or.inl zl_466) (dq_184 (a := 0) (b := 134) (by decide +kernel) rfl)
set_option maxRecDepth 100000 in
theorem cb_X9_next_74 : ci_ok yX9_next cX9_next 2 74 (ci_if (fun x => decide (x = 0)) 116 77) := cr_if_eq (off := 42) (dq_153 (a := 0) (b := 42) (by decide +kernel) rfl) (by decide) rfl
set_option maxRecDepth 100000 in
theorem cb_X9_next_77 : ci_ok yX9_next cX9_next 2 77 (ci_seq (ci_load 2 0 78) 78 (ci_seq (ci_push (.int 1) 79) 79 (ci_putf 9 26 .int 82))) := cq_ok (cr_aload_n (k := 0) (dq_42 (by decide +kernel)) rfl rfl) (cq_ok (cr_iconst2 (n := 1) (dq_4 (by decide +kernel)) (by decide +kernel) rfl) (cr_putf (idx := 166) zc_9 (by decide) (by decide +kernel) rfl zl_484 (dq_181 (a := 0) (b := 166) (by decide +kernel) rfl) rfl))
set_option maxRecDepth 100000 in
theorem cb_X9_next_82 : ci_ok yX9_next cX9_next 2 82 (ci_seq (ci_load 2 0 83) 83 (ci_seq (ci_load 2 0 84) 84 (ci_getf 9 24 87))) := cq_ok (cr_aload_n (k := 0) (dq_42 (by decide +kernel)) rfl rfl) (cq_ok (cr_aload_n (k := 0) (dq_42 (by decide +kernel)) rfl rfl) (cr_getf (idx := 147) zc_9 (by decide) zl_471 (dq_180 (a := 0) (b := 147) (by decide +kernel) rfl) rfl))
set_option maxRecDepth 100000 in
theorem cl_X9_next_87 : ci_calls yX9_next cX9_next 2 87 yX9_look 2 (some 9) := cr_callV (idx := 150) zl_999 ⟨by decide, by decide⟩ hp_X9_look zc_9 zl_473 zl_474 (Or.inl zl_472) (dq_182 (a := 0) (b := 150) (by decide +kernel) rfl)
set_option maxRecDepth 100000 in
theorem cb_X9_next_90 : ci_ok yX9_next cX9_next 2 90 (ci_seq (ci_i2l 91) 91 (ci_seq (ci_push (.long 97) 94) 94 (ci_push (.long 122) 97))) := cq_ok (cr_i2l (dq_133 (by decide +kernel)) rfl) (cq_ok (cr_ldc2 zl_486 (dq_20 (a := 0) (b := 169) (by decide +kernel) rfl) rfl) (cr_ldc2 zl_485 (dq_20 (a := 0) (b := 171) (by decide +kernel) rfl) rfl))
set_option maxRecDepth 100000 in
theorem cl_X9_next_97 : ci_calls yX9_next cX9_next 2 97 yX9_in 3 none := cr_callS (idx := 134) zl_992 zl_654 ⟨by decide, by decide⟩ hp_X9_in zl_467 (Or.inl zl_466) (dq_184 (a := 0) (b := 134) (by decide +kernel) rfl)
set_option maxRecDepth 100000 in
theorem cb_X9_next_100 : ci_ok yX9_next cX9_next 2 100 (ci_if (fun x => decide (x = 0)) 274 103) := cr_if_eq (off := 174) (dq_153 (a := 0) (b := 174) (by decide +kernel) rfl) (by decide) rfl
set_option maxRecDepth 100000 in
theorem cb_X9_next_103 : ci_ok yX9_next cX9_next 2 103 (ci_seq (ci_load 2 0 104) 104 (ci_seq (ci_dup 105) 105 (ci_seq (ci_getf 9 24 108) 108 (ci_seq (ci_push (.int 1) 109) 109 (ci_seq (ci_bin (fun a b => a + b) 110) 110 (ci_seq (ci_putf 9 24 .int 113) 113 (ci_go 82))))))) := cq_ok (cr_aload_n (k := 0) (dq_42 (by decide +kernel)) rfl rfl) (cq_ok (cr_dup (dq_89 (by decide +kernel)) rfl) (cq_ok (cr_getf (idx := 147) zc_9 (by decide) zl_471 (dq_180 (a := 0) (b := 147) (by decide +kernel) rfl) rfl) (cq_ok (cr_iconst2 (n := 1) (dq_4 (by decide +kernel)) (by decide +kernel) rfl) (cq_ok (cr_iadd (dq_96 (by decide +kernel)) rfl) (cq_ok (cr_putf (idx := 147) zc_9 (by decide) (by decide +kernel) rfl zl_471 (dq_181 (a := 0) (b := 147) (by decide +kernel) rfl) rfl) (cr_goto (off := -31) (dq_167 (a := 255) (b := 225) (by decide +kernel) rfl) (by decide)))))))
set_option maxRecDepth 100000 in
theorem cb_X9_next_116 : ci_ok yX9_next cX9_next 2 116 (ci_seq (ci_load 0 1 117) 117 (ci_seq (ci_i2l 118) 118 (ci_seq (ci_push (.long 48) 121) 121 (ci_push (.long 57) 124)))) := cq_ok (cr_iload_n (k := 1) (dq_27 (by decide +kernel)) rfl rfl) (cq_ok (cr_i2l (dq_133 (by decide +kernel)) rfl) (cq_ok (cr_ldc2 zl_488 (dq_20 (a := 0) (b := 173) (by decide +kernel) rfl) rfl) (cr_ldc2 zl_487 (dq_20 (a := 0) (b := 175) (by decide +kernel) rfl) rfl)))
set_option maxRecDepth 100000 in
theorem cl_X9_next_124 : ci_calls yX9_next cX9_next 2 124 yX9_in 3 none := cr_callS (idx := 134) zl_992 zl_654 ⟨by decide, by decide⟩ hp_X9_in zl_467 (Or.inl zl_466) (dq_184 (a := 0) (b := 134) (by decide +kernel) rfl)
set_option maxRecDepth 100000 in
theorem cb_X9_next_127 : ci_ok yX9_next cX9_next 2 127 (ci_if (fun x => decide (x = 0)) 243 130) := cr_if_eq (off := 116) (dq_153 (a := 0) (b := 116) (by decide +kernel) rfl) (by decide) rfl
set_option maxRecDepth 100000 in
theorem cb_X9_next_130 : ci_ok yX9_next cX9_next 2 130 (ci_seq (ci_load 2 0 131) 131 (ci_seq (ci_push (.int 2) 132) 132 (ci_seq (ci_putf 9 26 .int 135) 135 (ci_seq (ci_load 2 0 136) 136 (ci_seq (ci_push (.int 0) 137) 137 (ci_putf 9 27 .int 140)))))) := cq_ok (cr_aload_n (k := 0) (dq_42 (by decide +kernel)) rfl rfl) (cq_ok (cr_iconst2 (n := 2) (dq_5 (by decide +kernel)) (by decide +kernel) rfl) (cq_ok (cr_putf (idx := 166) zc_9 (by decide) (by decide +kernel) rfl zl_484 (dq_181 (a := 0) (b := 166) (by decide +kernel) rfl) rfl) (cq_ok (cr_aload_n (k := 0) (dq_42 (by decide +kernel)) rfl rfl) (cq_ok (cr_iconst2 (n := 0) (dq_3 (by decide +kernel)) (by decide +kernel) rfl) (cr_putf (idx := 177) zc_9 (by decide) (by decide +kernel) rfl zl_489 (dq_181 (a := 0) (b := 177) (by decide +kernel) rfl) rfl)))))
set_option maxRecDepth 100000 in
theorem cb_X9_next_140 : ci_ok yX9_next cX9_next 2 140 (ci_seq (ci_load 2 0 141) 141 (ci_seq (ci_load 2 0 142) 142 (ci_getf 9 24 145))) := cq_ok (cr_aload_n (k := 0) (dq_42 (by decide +kernel)) rfl rfl) (cq_ok (cr_aload_n (k := 0) (dq_42 (by decide +kernel)) rfl rfl) (cr_getf (idx := 147) zc_9 (by decide) zl_471 (dq_180 (a := 0) (b := 147) (by decide +kernel) rfl) rfl))
set_option maxRecDepth 100000 in
theorem cl_X9_next_145 : ci_calls yX9_next cX9_next 2 145 yX9_look 2 (some 9) := cr_callV (idx := 150) zl_999 ⟨by decide, by decide⟩ hp_X9_look zc_9 zl_473 zl_474 (Or.inl zl_472) (dq_182 (a := 0) (b := 150) (by decide +kernel) rfl)
set_option maxRecDepth 100000 in
theorem cb_X9_next_148 : ci_ok yX9_next cX9_next 2 148 (ci_seq (ci_i2l 149) 149 (ci_seq (ci_push (.long 48) 152) 152 (ci_push (.long 57) 155))) := cq_ok (cr_i2l (dq_133 (by decide +kernel)) rfl) (cq_ok (cr_ldc2 zl_488 (dq_20 (a := 0) (b := 173) (by decide +kernel) rfl) rfl) (cr_ldc2 zl_487 (dq_20 (a := 0) (b := 175) (by decide +kernel) rfl) rfl))
set_option maxRecDepth 100000 in
theorem cl_X9_next_155 : ci_calls yX9_next cX9_next 2 155 yX9_in 3 none := cr_callS (idx := 134) zl_992 zl_654 ⟨by decide, by decide⟩ hp_X9_in zl_467 (Or.inl zl_466) (dq_184 (a := 0) (b := 134) (by decide +kernel) rfl)
set_option maxRecDepth 100000 in
theorem cb_X9_next_158 : ci_ok yX9_next cX9_next 2 158 (ci_if (fun x => decide (x = 0)) 217 161) := cr_if_eq (off := 59) (dq_153 (a := 0) (b := 59) (by decide +kernel) rfl) (by decide) rfl
set_option maxRecDepth 100000 in
theorem cb_X9_next_161 : ci_ok yX9_next cX9_next 2 161 (ci_seq (ci_load 2 0 162) 162 (ci_seq (ci_load 2 0 163) 163 (ci_seq (ci_getf 9 24 166) 166 (ci_seq (ci_load 2 0 167) 167 (ci_seq (ci_getf 9 25 170) 170 (ci_seq (ci_bin (fun a b => a - b) 171) 171 (ci_seq (ci_push (.int 2) 172) 172 (ci_ic (fun x y => decide (y ≤ x)) 197 175)))))))) := cq_ok (cr_aload_n (k := 0) (dq_42 (by decide +kernel)) rfl rfl) (cq_ok (cr_aload_n (k := 0) (dq_42 (by decide +kernel)) rfl rfl) (cq_ok (cr_getf (idx := 147) zc_9 (by decide) zl_471 (dq_180 (a := 0) (b := 147) (by decide +kernel) rfl) rfl) (cq_ok (cr_aload_n (k := 0) (dq_42 (by decide +kernel)) rfl rfl) (cq_ok (cr_getf (idx := 141) zc_9 (by decide) zl_470 (dq_180 (a := 0) (b := 141) (by decide +kernel) rfl) rfl) (cq_ok (cr_isub (dq_100 (by decide +kernel)) rfl) (cq_ok (cr_iconst2 (n := 2) (dq_5 (by decide +kernel)) (by decide +kernel) rfl) (cr_ic_ge (off := 25) (dq_162 (a := 0) (b := 25) (by decide +kernel) rfl) (by decide) rfl)))))))
set_option maxRecDepth 100000 in
theorem cb_X9_next_175 : ci_ok yX9_next cX9_next 2 175 (ci_seq (ci_push (.int 10) 177) 177 (ci_seq (ci_load 2 0 178) 178 (ci_seq (ci_getf 9 27 181) 181 (ci_seq (ci_bin (fun a b => a * b) 182) 182 (ci_seq (ci_load 2 0 183) 183 (ci_seq (ci_load 2 0 184) 184 (ci_getf 9 24 187))))))) := cq_ok (cr_bipush (n := 10) (dq_16 (a := 10) (by decide +kernel) rfl) (by decide +kernel) rfl) (cq_ok (cr_aload_n (k := 0) (dq_42 (by decide +kernel)) rfl rfl) (cq_ok (cr_getf (idx := 177) zc_9 (by decide) zl_489 (dq_180 (a := 0) (b := 177) (by decide +kernel) rfl) rfl) (cq_ok (cr_imul (dq_104 (by decide +kernel)) rfl) (cq_ok (cr_aload_n (k := 0) (dq_42 (by decide +kernel)) rfl rfl) (cq_ok (cr_aload_n (k := 0) (dq_42 (by decide +kernel)) rfl rfl) (cr_getf (idx := 147) zc_9 (by decide) zl_471 (dq_180 (a := 0) (b := 147) (by decide +kernel) rfl) rfl))))))
set_option maxRecDepth 100000 in
theorem cl_X9_next_187 : ci_calls yX9_next cX9_next 2 187 yX9_look 2 (some 9) := cr_callV (idx := 150) zl_999 ⟨by decide, by decide⟩ hp_X9_look zc_9 zl_473 zl_474 (Or.inl zl_472) (dq_182 (a := 0) (b := 150) (by decide +kernel) rfl)
set_option maxRecDepth 100000 in
theorem cb_X9_next_190 : ci_ok yX9_next cX9_next 2 190 (ci_seq (ci_bin (fun a b => a + b) 191) 191 (ci_seq (ci_push (.int 48) 193) 193 (ci_seq (ci_bin (fun a b => a - b) 194) 194 (ci_go 201)))) := cq_ok (cr_iadd (dq_96 (by decide +kernel)) rfl) (cq_ok (cr_bipush (n := 48) (dq_16 (a := 48) (by decide +kernel) rfl) (by decide +kernel) rfl) (cq_ok (cr_isub (dq_100 (by decide +kernel)) rfl) (cr_goto (off := 7) (dq_167 (a := 0) (b := 7) (by decide +kernel) rfl) (by decide))))
set_option maxRecDepth 100000 in
theorem cb_X9_next_197 : ci_ok yX9_next cX9_next 2 197 (ci_seq (ci_load 2 0 198) 198 (ci_getf 9 27 201)) := cq_ok (cr_aload_n (k := 0) (dq_42 (by decide +kernel)) rfl rfl) (cr_getf (idx := 177) zc_9 (by decide) zl_489 (dq_180 (a := 0) (b := 177) (by decide +kernel) rfl) rfl)
set_option maxRecDepth 100000 in
theorem cb_X9_next_201 : ci_ok yX9_next cX9_next 2 201 (ci_seq (ci_putf 9 27 .int 204) 204 (ci_seq (ci_load 2 0 205) 205 (ci_seq (ci_dup 206) 206 (ci_seq (ci_getf 9 24 209) 209 (ci_seq (ci_push (.int 1) 210) 210 (ci_seq (ci_bin (fun a b => a + b) 211) 211 (ci_seq (ci_putf 9 24 .int 214) 214 (ci_go 140)))))))) := cq_ok (cr_putf (idx := 177) zc_9 (by decide) (by decide +kernel) rfl zl_489 (dq_181 (a := 0) (b := 177) (by decide +kernel) rfl) rfl) (cq_ok (cr_aload_n (k := 0) (dq_42 (by decide +kernel)) rfl rfl) (cq_ok (cr_dup (dq_89 (by decide +kernel)) rfl) (cq_ok (cr_getf (idx := 147) zc_9 (by decide) zl_471 (dq_180 (a := 0) (b := 147) (by decide +kernel) rfl) rfl) (cq_ok (cr_iconst2 (n := 1) (dq_4 (by decide +kernel)) (by decide +kernel) rfl) (cq_ok (cr_iadd (dq_96 (by decide +kernel)) rfl) (cq_ok (cr_putf (idx := 147) zc_9 (by decide) (by decide +kernel) rfl zl_471 (dq_181 (a := 0) (b := 147) (by decide +kernel) rfl) rfl) (cr_goto (off := -74) (dq_167 (a := 255) (b := 182) (by decide +kernel) rfl) (by decide))))))))
set_option maxRecDepth 100000 in
theorem cb_X9_next_217 : ci_ok yX9_next cX9_next 2 217 (ci_seq (ci_load 2 0 218) 218 (ci_seq (ci_load 2 0 219) 219 (ci_seq (ci_getf 9 24 222) 222 (ci_seq (ci_load 2 0 223) 223 (ci_seq (ci_getf 9 25 226) 226 (ci_seq (ci_bin (fun a b => a - b) 227) 227 (ci_seq (ci_push (.int 2) 228) 228 (ci_ic (fun x y => decide (y < x)) 235 231)))))))) := cq_ok (cr_aload_n (k := 0) (dq_42 (by decide +kernel)) rfl rfl) (cq_ok (cr_aload_n (k := 0) (dq_42 (by decide +kernel)) rfl rfl) (cq_ok (cr_getf (idx := 147) zc_9 (by decide) zl_471 (dq_180 (a := 0) (b := 147) (by decide +kernel) rfl) rfl) (cq_ok (cr_aload_n (k := 0) (dq_42 (by decide +kernel)) rfl rfl) (cq_ok (cr_getf (idx := 141) zc_9 (by decide) zl_470 (dq_180 (a := 0) (b := 141) (by decide +kernel) rfl) rfl) (cq_ok (cr_isub (dq_100 (by decide +kernel)) rfl) (cq_ok (cr_iconst2 (n := 2) (dq_5 (by decide +kernel)) (by decide +kernel) rfl) (cr_ic_gt (off := 7) (dq_163 (a := 0) (b := 7) (by decide +kernel) rfl) (by decide) rfl)))))))
set_option maxRecDepth 100000 in
theorem cb_X9_next_231 : ci_ok yX9_next cX9_next 2 231 (ci_seq (ci_push (.int 1) 232) 232 (ci_go 236)) := cq_ok (cr_iconst2 (n := 1) (dq_4 (by decide +kernel)) (by decide +kernel) rfl) (cr_goto (off := 4) (dq_167 (a := 0) (b := 4) (by decide +kernel) rfl) (by decide))
set_option maxRecDepth 100000 in
theorem cb_X9_next_235 : ci_ok yX9_next cX9_next 2 235 (ci_push (.int 0) 236) := cr_iconst2 (n := 0) (dq_3 (by decide +kernel)) (by decide +kernel) rfl
set_option maxRecDepth 100000 in
theorem cb_X9_next_236 : ci_ok yX9_next cX9_next 2 236 (ci_push (.int 1) 237) := cr_iconst2 (n := 1) (dq_4 (by decide +kernel)) (by decide +kernel) rfl
set_option maxRecDepth 100000 in
theorem cl_X9_next_237 : ci_calls yX9_next cX9_next 2 237 yX9_needs 3 (some 9) := cr_callV (idx := 180) zl_998 ⟨by decide, by decide⟩ hp_X9_needs zc_9 zl_491 zl_492 (Or.inl zl_490) (dq_182 (a := 0) (b := 180) (by decide +kernel) rfl)
set_option maxRecDepth 100000 in
theorem cb_X9_next_240 : ci_ok yX9_next cX9_next 2 240 (ci_go 274) := cr_goto (off := 34) (dq_167 (a := 0) (b := 34) (by decide +kernel) rfl) (by decide)
set_option maxRecDepth 100000 in
theorem cb_X9_next_243 : ci_ok yX9_next cX9_next 2 243 (ci_seq (ci_load 2 0 244) 244 (ci_seq (ci_push (.int 3) 245) 245 (ci_seq (ci_putf 9 26 .int 248) 248 (ci_seq (ci_load 2 0 249) 249 (ci_seq (ci_load 0 1 250) 250 (ci_seq (ci_push (.int 59) 252) 252 (ci_ic (fun x y => !decide (x = y)) 259 255))))))) := cq_ok (cr_aload_n (k := 0) (dq_42 (by decide +kernel)) rfl rfl) (cq_ok (cr_iconst2 (n := 3) (dq_6 (by decide +kernel)) (by decide +kernel) rfl) (cq_ok (cr_putf (idx := 166) zc_9 (by decide) (by decide +kernel) rfl zl_484 (dq_181 (a := 0) (b := 166) (by decide +kernel) rfl) rfl) (cq_ok (cr_aload_n (k := 0) (dq_42 (by decide +kernel)) rfl rfl) (cq_ok (cr_iload_n (k := 1) (dq_27 (by decide +kernel)) rfl rfl) (cq_ok (cr_bipush (n := 59) (dq_16 (a := 59) (by decide +kernel) rfl) (by decide +kernel) rfl) (cr_ic_ne (off := 7) (dq_160 (a := 0) (b := 7) (by decide +kernel) rfl) (by decide) rfl))))))
set_option maxRecDepth 100000 in
theorem cb_X9_next_255 : ci_ok yX9_next cX9_next 2 255 (ci_seq (ci_push (.int 1) 256) 256 (ci_go 260)) := cq_ok (cr_iconst2 (n := 1) (dq_4 (by decide +kernel)) (by decide +kernel) rfl) (cr_goto (off := 4) (dq_167 (a := 0) (b := 4) (by decide +kernel) rfl) (by decide))
set_option maxRecDepth 100000 in
theorem cb_X9_next_259 : ci_ok yX9_next cX9_next 2 259 (ci_push (.int 0) 260) := cr_iconst2 (n := 0) (dq_3 (by decide +kernel)) (by decide +kernel) rfl
set_option maxRecDepth 100000 in
theorem cb_X9_next_260 : ci_ok yX9_next cX9_next 2 260 (ci_push (.int 1) 261) := cr_iconst2 (n := 1) (dq_4 (by decide +kernel)) (by decide +kernel) rfl
set_option maxRecDepth 100000 in
theorem cl_X9_next_261 : ci_calls yX9_next cX9_next 2 261 yX9_needs 3 (some 9) := cr_callV (idx := 180) zl_998 ⟨by decide, by decide⟩ hp_X9_needs zc_9 zl_491 zl_492 (Or.inl zl_490) (dq_182 (a := 0) (b := 180) (by decide +kernel) rfl)
set_option maxRecDepth 100000 in
theorem cb_X9_next_264 : ci_ok yX9_next cX9_next 2 264 (ci_seq (ci_load 2 0 265) 265 (ci_seq (ci_dup 266) 266 (ci_seq (ci_getf 9 24 269) 269 (ci_seq (ci_push (.int 1) 270) 270 (ci_seq (ci_bin (fun a b => a + b) 271) 271 (ci_putf 9 24 .int 274)))))) := cq_ok (cr_aload_n (k := 0) (dq_42 (by decide +kernel)) rfl rfl) (cq_ok (cr_dup (dq_89 (by decide +kernel)) rfl) (cq_ok (cr_getf (idx := 147) zc_9 (by decide) zl_471 (dq_180 (a := 0) (b := 147) (by decide +kernel) rfl) rfl) (cq_ok (cr_iconst2 (n := 1) (dq_4 (by decide +kernel)) (by decide +kernel) rfl) (cq_ok (cr_iadd (dq_96 (by decide +kernel)) rfl) (cr_putf (idx := 147) zc_9 (by decide) (by decide +kernel) rfl zl_471 (dq_181 (a := 0) (b := 147) (by decide +kernel) rfl) rfl)))))
set_option maxRecDepth 100000 in
theorem cd_X9_next_274 : decode cX9_next 274 = .ok (zi_rop none, 1) := (dq_177 (by decide +kernel))
set_option maxRecDepth 100000 in
theorem cb_X9_looked_0 : ci_ok yX9_looked cX9_looked 3 0 (ci_seq (ci_load 2 0 1) 1 (ci_seq (ci_getf 9 28 4) 4 (ci_if (fun x => !decide (x = 0)) 25 7))) := cq_ok (cr_aload_n (k := 0) (dq_42 (by decide +kernel)) rfl rfl) (cq_ok (cr_getf (idx := 138) zc_9 (by decide) zl_468 (dq_180 (a := 0) (b := 138) (by decide +kernel) rfl) rfl) (cr_if_ne (off := 21) (dq_154 (a := 0) (b := 21) (by decide +kernel) rfl) (by decide) rfl))
set_option maxRecDepth 100000 in
theorem cb_X9_looked_7 : ci_ok yX9_looked cX9_looked 3 7 (ci_seq (ci_load 2 0 8) 8 (ci_seq (ci_load 2 0 9) 9 (ci_seq (ci_getf 9 26 12) 12 (ci_seq (ci_push (.int 2) 13) 13 (ci_ic (fun x y => !decide (x = y)) 20 16))))) := cq_ok (cr_aload_n (k := 0) (dq_42 (by decide +kernel)) rfl rfl) (cq_ok (cr_aload_n (k := 0) (dq_42 (by decide +kernel)) rfl rfl) (cq_ok (cr_getf (idx := 166) zc_9 (by decide) zl_484 (dq_180 (a := 0) (b := 166) (by decide +kernel) rfl) rfl) (cq_ok (cr_iconst2 (n := 2) (dq_5 (by decide +kernel)) (by decide +kernel) rfl) (cr_ic_ne (off := 7) (dq_160 (a := 0) (b := 7) (by decide +kernel) rfl) (by decide) rfl))))
set_option maxRecDepth 100000 in
theorem cb_X9_looked_16 : ci_ok yX9_looked cX9_looked 3 16 (ci_seq (ci_push (.int 1) 17) 17 (ci_go 21)) := cq_ok (cr_iconst2 (n := 1) (dq_4 (by decide +kernel)) (by decide +kernel) rfl) (cr_goto (off := 4) (dq_167 (a := 0) (b := 4) (by decide +kernel) rfl) (by decide))
set_option maxRecDepth 100000 in
theorem cb_X9_looked_20 : ci_ok yX9_looked cX9_looked 3 20 (ci_push (.int 0) 21) := cr_iconst2 (n := 0) (dq_3 (by decide +kernel)) (by decide +kernel) rfl
set_option maxRecDepth 100000 in
theorem cb_X9_looked_21 : ci_ok yX9_looked cX9_looked 3 21 (ci_push (.int 2) 22) := cr_iconst2 (n := 2) (dq_5 (by decide +kernel)) (by decide +kernel) rfl
set_option maxRecDepth 100000 in
theorem cl_X9_looked_22 : ci_calls yX9_looked cX9_looked 3 22 yX9_needs 3 (some 9) := cr_callV (idx := 180) zl_998 ⟨by decide, by decide⟩ hp_X9_needs zc_9 zl_491 zl_492 (Or.inl zl_490) (dq_182 (a := 0) (b := 180) (by decide +kernel) rfl)
set_option maxRecDepth 100000 in
theorem cb_X9_looked_25 : ci_ok yX9_looked cX9_looked 3 25 (ci_seq (ci_load 2 0 26) 26 (ci_seq (ci_getf 9 28 29) 29 (ci_if (fun x => !decide (x = 0)) 49 32))) := cq_ok (cr_aload_n (k := 0) (dq_42 (by decide +kernel)) rfl rfl) (cq_ok (cr_getf (idx := 138) zc_9 (by decide) zl_468 (dq_180 (a := 0) (b := 138) (by decide +kernel) rfl) rfl) (cr_if_ne (off := 20) (dq_154 (a := 0) (b := 20) (by decide +kernel) rfl) (by decide) rfl))
set_option maxRecDepth 100000 in
theorem cb_X9_looked_32 : ci_ok yX9_looked cX9_looked 3 32 (ci_seq (ci_load 2 0 33) 33 (ci_seq (ci_load 2 0 34) 34 (ci_seq (ci_getf 9 27 37) 37 (ci_seq (ci_i2l 38) 38 (ci_seq (ci_load 0 1 39) 39 (ci_seq (ci_i2l 40) 40 (ci_seq (ci_load 0 2 41) 41 (ci_i2l 42)))))))) := cq_ok (cr_aload_n (k := 0) (dq_42 (by decide +kernel)) rfl rfl) (cq_ok (cr_aload_n (k := 0) (dq_42 (by decide +kernel)) rfl rfl) (cq_ok (cr_getf (idx := 177) zc_9 (by decide) zl_489 (dq_180 (a := 0) (b := 177) (by decide +kernel) rfl) rfl) (cq_ok (cr_i2l (dq_133 (by decide +kernel)) rfl) (cq_ok (cr_iload_n (k := 1) (dq_27 (by decide +kernel)) rfl rfl) (cq_ok (cr_i2l (dq_133 (by decide +kernel)) rfl) (cq_ok (cr_iload_n (k := 2) (dq_28 (by decide +kernel)) rfl rfl) (cr_i2l (dq_133 (by decide +kernel)) rfl)))))))
set_option maxRecDepth 100000 in
theorem cl_X9_looked_42 : ci_calls yX9_looked cX9_looked 3 42 yX9_in 3 none := cr_callS (idx := 134) zl_992 zl_654 ⟨by decide, by decide⟩ hp_X9_in zl_467 (Or.inl zl_466) (dq_184 (a := 0) (b := 134) (by decide +kernel) rfl)
set_option maxRecDepth 100000 in
theorem cb_X9_looked_45 : ci_ok yX9_looked cX9_looked 3 45 (ci_push (.int 3) 46) := cr_iconst2 (n := 3) (dq_6 (by decide +kernel)) (by decide +kernel) rfl
set_option maxRecDepth 100000 in
theorem cl_X9_looked_46 : ci_calls yX9_looked cX9_looked 3 46 yX9_needs 3 (some 9) := cr_callV (idx := 180) zl_998 ⟨by decide, by decide⟩ hp_X9_needs zc_9 zl_491 zl_492 (Or.inl zl_490) (dq_182 (a := 0) (b := 180) (by decide +kernel) rfl)
set_option maxRecDepth 100000 in
theorem cb_X9_looked_49 : ci_ok yX9_looked cX9_looked 3 49 (ci_seq (ci_load 2 0 50) 50 (ci_seq (ci_getf 9 28 53) 53 (ci_if (fun x => !decide (x = 0)) 63 56))) := cq_ok (cr_aload_n (k := 0) (dq_42 (by decide +kernel)) rfl rfl) (cq_ok (cr_getf (idx := 138) zc_9 (by decide) zl_468 (dq_180 (a := 0) (b := 138) (by decide +kernel) rfl) rfl) (cr_if_ne (off := 10) (dq_154 (a := 0) (b := 10) (by decide +kernel) rfl) (by decide) rfl))
set_option maxRecDepth 100000 in
theorem cb_X9_looked_56 : ci_ok yX9_looked cX9_looked 3 56 (ci_seq (ci_load 2 0 57) 57 (ci_seq (ci_getf 9 27 60) 60 (ci_go 64))) := cq_ok (cr_aload_n (k := 0) (dq_42 (by decide +kernel)) rfl rfl) (cq_ok (cr_getf (idx := 177) zc_9 (by decide) zl_489 (dq_180 (a := 0) (b := 177) (by decide +kernel) rfl) rfl) (cr_goto (off := 4) (dq_167 (a := 0) (b := 4) (by decide +kernel) rfl) (by decide)))
set_option maxRecDepth 100000 in
theorem cb_X9_looked_63 : ci_ok yX9_looked cX9_looked 3 63 (ci_push (.int 0) 64) := cr_iconst2 (n := 0) (dq_3 (by decide +kernel)) (by decide +kernel) rfl
set_option maxRecDepth 100000 in
theorem cd_X9_looked_64 : decode cX9_looked 64 = .ok (zi_rop (some .int), 1) := (dq_172 (by decide +kernel))
set_option maxRecDepth 100000 in
theorem cb_X9_readNumber_0 : ci_ok yX9_readNumber cX9_readNumber 4 0 (ci_seq (ci_load 2 0 1) 1 (ci_seq (ci_load 0 1 2) 2 (ci_load 0 2 3))) := cq_ok (cr_aload_n (k := 0) (dq_42 (by decide +kernel)) rfl rfl) (cq_ok (cr_iload_n (k := 1) (dq_27 (by decide +kernel)) rfl rfl) (cr_iload_n (k := 2) (dq_28 (by decide +kernel)) rfl rfl))
set_option maxRecDepth 100000 in
theorem cl_X9_readNumber_3 : ci_calls yX9_readNumber cX9_readNumber 4 3 yX9_looked 3 (some 9) := cr_callV (idx := 184) zl_1005 ⟨by decide, by decide⟩ hp_X9_looked zc_9 zl_497 zl_498 (Or.inl zl_496) (dq_182 (a := 0) (b := 184) (by decide +kernel) rfl)
set_option maxRecDepth 100000 in
theorem cb_X9_readNumber_6 : ci_ok yX9_readNumber cX9_readNumber 4 6 (ci_seq (ci_store 0 3 7) 7 (ci_load 2 0 8)) := cq_ok (cr_istore_n (k := 3) (dq_62 (by decide +kernel)) rfl (by decide) rfl) (cr_aload_n (k := 0) (dq_42 (by decide +kernel)) rfl rfl)
set_option maxRecDepth 100000 in
theorem cl_X9_readNumber_8 : ci_calls yX9_readNumber cX9_readNumber 4 8 yX9_next 1 (some 9) := cr_callV (idx := 188) zl_1004 ⟨by decide, by decide⟩ hp_X9_next zc_9 zl_494 zl_495 (Or.inl zl_493) (dq_182 (a := 0) (b := 188) (by decide +kernel) rfl)
set_option maxRecDepth 100000 in
theorem cb_X9_readNumber_11 : ci_ok yX9_readNumber cX9_readNumber 4 11 (ci_load 0 3 12) := cr_iload_n (k := 3) (dq_29 (by decide +kernel)) rfl rfl
set_option maxRecDepth 100000 in
theorem cd_X9_readNumber_12 : decode cX9_readNumber 12 = .ok (zi_rop (some .int), 1) := (dq_172 (by decide +kernel))
set_option maxRecDepth 100000 in
theorem cb_X9_readRow_0 : ci_ok yX9_readRow cX9_readRow 5 0 (ci_seq (ci_load 2 0 1) 1 (ci_seq (ci_push (.int 0) 2) 2 (ci_push (.int 4) 3))) := cq_ok (cr_aload_n (k := 0) (dq_42 (by decide +kernel)) rfl rfl) (cq_ok (cr_iconst2 (n := 0) (dq_3 (by decide +kernel)) (by decide +kernel) rfl) (cr_iconst2 (n := 4) (dq_7 (by decide +kernel)) (by decide +kernel) rfl))
set_option maxRecDepth 100000 in
theorem cl_X9_readRow_3 : ci_calls yX9_readRow cX9_readRow 5 3 yX9_looked 3 (some 9) := cr_callV (idx := 184) zl_1005 ⟨by decide, by decide⟩ hp_X9_looked zc_9 zl_497 zl_498 (Or.inl zl_496) (dq_182 (a := 0) (b := 184) (by decide +kernel) rfl)
set_option maxRecDepth 100000 in
theorem cb_X9_readRow_6 : ci_ok yX9_readRow cX9_readRow 5 6 (ci_seq (ci_store 0 1 7) 7 (ci_seq (ci_load 2 0 8) 8 (ci_seq (ci_getf 9 28 11) 11 (ci_if (fun x => !decide (x = 0)) 67 14)))) := cq_ok (cr_istore_n (k := 1) (dq_60 (by decide +kernel)) rfl (by decide) rfl) (cq_ok (cr_aload_n (k := 0) (dq_42 (by decide +kernel)) rfl rfl) (cq_ok (cr_getf (idx := 138) zc_9 (by decide) zl_468 (dq_180 (a := 0) (b := 138) (by decide +kernel) rfl) rfl) (cr_if_ne (off := 56) (dq_154 (a := 0) (b := 56) (by decide +kernel) rfl) (by decide) rfl)))
set_option maxRecDepth 100000 in
theorem cb_X9_readRow_14 : ci_ok yX9_readRow cX9_readRow 5 14 (ci_seq (ci_load 2 0 15) 15 (ci_seq (ci_load 2 0 16) 16 (ci_seq (ci_getf 9 17 19) 19 (ci_seq (ci_load 0 1 20) 20 (ci_seq (ci_bin (fun a b => a >>> (b &&& 31)) 21) 21 (ci_seq (ci_push (.int 1) 22) 22 (ci_seq (ci_bin (fun a b => a &&& b) 23) 23 (ci_if (fun x => !decide (x = 0)) 30 26)))))))) := cq_ok (cr_aload_n (k := 0) (dq_42 (by decide +kernel)) rfl rfl) (cq_ok (cr_aload_n (k := 0) (dq_42 (by decide +kernel)) rfl rfl) (cq_ok (cr_getf (idx := 105) zc_9 (by decide) zl_459 (dq_180 (a := 0) (b := 105) (by decide +kernel) rfl) rfl) (cq_ok (cr_iload_n (k := 1) (dq_27 (by decide +kernel)) rfl rfl) (cq_ok (cr_ishr (dq_122 (by decide +kernel)) rfl) (cq_ok (cr_iconst2 (n := 1) (dq_4 (by decide +kernel)) (by decide +kernel) rfl) (cq_ok (cr_iand (dq_126 (by decide +kernel)) rfl) (cr_if_ne (off := 7) (dq_154 (a := 0) (b := 7) (by decide +kernel) rfl) (by decide) rfl)))))))
set_option maxRecDepth 100000 in
theorem cb_X9_readRow_26 : ci_ok yX9_readRow cX9_readRow 5 26 (ci_seq (ci_push (.int 1) 27) 27 (ci_go 31)) := cq_ok (cr_iconst2 (n := 1) (dq_4 (by decide +kernel)) (by decide +kernel) rfl) (cr_goto (off := 4) (dq_167 (a := 0) (b := 4) (by decide +kernel) rfl) (by decide))
set_option maxRecDepth 100000 in
theorem cb_X9_readRow_30 : ci_ok yX9_readRow cX9_readRow 5 30 (ci_push (.int 0) 31) := cr_iconst2 (n := 0) (dq_3 (by decide +kernel)) (by decide +kernel) rfl
set_option maxRecDepth 100000 in
theorem cb_X9_readRow_31 : ci_ok yX9_readRow cX9_readRow 5 31 (ci_push (.int 4) 32) := cr_iconst2 (n := 4) (dq_7 (by decide +kernel)) (by decide +kernel) rfl
set_option maxRecDepth 100000 in
theorem cl_X9_readRow_32 : ci_calls yX9_readRow cX9_readRow 5 32 yX9_needs 3 (some 9) := cr_callV (idx := 180) zl_998 ⟨by decide, by decide⟩ hp_X9_needs zc_9 zl_491 zl_492 (Or.inl zl_490) (dq_182 (a := 0) (b := 180) (by decide +kernel) rfl)
set_option maxRecDepth 100000 in
theorem cb_X9_readRow_35 : ci_ok yX9_readRow cX9_readRow 5 35 (ci_seq (ci_load 2 0 36) 36 (ci_seq (ci_dup 37) 37 (ci_seq (ci_getf 9 17 40) 40 (ci_seq (ci_push (.int 1) 41) 41 (ci_seq (ci_load 0 1 42) 42 (ci_seq (ci_bin (fun a b => a <<< (b &&& 31)) 43) 43 (ci_seq (ci_bin (fun a b => a ||| b) 44) 44 (ci_seq (ci_putf 9 17 .int 47) 47 (ci_seq (ci_load 2 0 48) 48 (ci_seq (ci_load 0 1 49) 49 (ci_seq (ci_load 2 0 50) 50 (ci_seq (ci_getf 9 18 53) 53 (ci_ic (fun x y => decide (x ≤ y)) 60 56))))))))))))) := cq_ok (cr_aload_n (k := 0) (dq_42 (by decide +kernel)) rfl rfl) (cq_ok (cr_dup (dq_89 (by decide +kernel)) rfl) (cq_ok (cr_getf (idx := 105) zc_9 (by decide) zl_459 (dq_180 (a := 0) (b := 105) (by decide +kernel) rfl) rfl) (cq_ok (cr_iconst2 (n := 1) (dq_4 (by decide +kernel)) (by decide +kernel) rfl) (cq_ok (cr_iload_n (k := 1) (dq_27 (by decide +kernel)) rfl rfl) (cq_ok (cr_ishl (dq_120 (by decide +kernel)) rfl) (cq_ok (cr_ior (dq_128 (by decide +kernel)) rfl) (cq_ok (cr_putf (idx := 105) zc_9 (by decide) (by decide +kernel) rfl zl_459 (dq_181 (a := 0) (b := 105) (by decide +kernel) rfl) rfl) (cq_ok (cr_aload_n (k := 0) (dq_42 (by decide +kernel)) rfl rfl) (cq_ok (cr_iload_n (k := 1) (dq_27 (by decide +kernel)) rfl rfl) (cq_ok (cr_aload_n (k := 0) (dq_42 (by decide +kernel)) rfl rfl) (cq_ok (cr_getf (idx := 108) zc_9 (by decide) zl_458 (dq_180 (a := 0) (b := 108) (by decide +kernel) rfl) rfl) (cr_ic_le (off := 7) (dq_164 (a := 0) (b := 7) (by decide +kernel) rfl) (by decide) rfl))))))))))))
set_option maxRecDepth 100000 in
theorem cb_X9_readRow_56 : ci_ok yX9_readRow cX9_readRow 5 56 (ci_seq (ci_load 0 1 57) 57 (ci_go 64)) := cq_ok (cr_iload_n (k := 1) (dq_27 (by decide +kernel)) rfl rfl) (cr_goto (off := 7) (dq_167 (a := 0) (b := 7) (by decide +kernel) rfl) (by decide))
set_option maxRecDepth 100000 in
theorem cb_X9_readRow_60 : ci_ok yX9_readRow cX9_readRow 5 60 (ci_seq (ci_load 2 0 61) 61 (ci_getf 9 18 64)) := cq_ok (cr_aload_n (k := 0) (dq_42 (by decide +kernel)) rfl rfl) (cr_getf (idx := 108) zc_9 (by decide) zl_458 (dq_180 (a := 0) (b := 108) (by decide +kernel) rfl) rfl)
set_option maxRecDepth 100000 in
theorem cb_X9_readRow_64 : ci_ok yX9_readRow cX9_readRow 5 64 (ci_putf 9 18 .int 67) := cr_putf (idx := 108) zc_9 (by decide) (by decide +kernel) rfl zl_458 (dq_181 (a := 0) (b := 108) (by decide +kernel) rfl) rfl
set_option maxRecDepth 100000 in
theorem cb_X9_readRow_67 : ci_ok yX9_readRow cX9_readRow 5 67 (ci_load 2 0 68) := cr_aload_n (k := 0) (dq_42 (by decide +kernel)) rfl rfl
set_option maxRecDepth 100000 in
theorem cl_X9_readRow_68 : ci_calls yX9_readRow cX9_readRow 5 68 yX9_next 1 (some 9) := cr_callV (idx := 188) zl_1004 ⟨by decide, by decide⟩ hp_X9_next zc_9 zl_494 zl_495 (Or.inl zl_493) (dq_182 (a := 0) (b := 188) (by decide +kernel) rfl)
set_option maxRecDepth 100000 in
theorem cb_X9_readRow_71 : ci_ok yX9_readRow cX9_readRow 5 71 (ci_seq (ci_push (.int 0) 72) 72 (ci_seq (ci_store 0 2 73) 73 (ci_seq (ci_push (.int 1) 74) 74 (ci_store 0 3 75)))) := cq_ok (cr_iconst2 (n := 0) (dq_3 (by decide +kernel)) (by decide +kernel) rfl) (cq_ok (cr_istore_n (k := 2) (dq_61 (by decide +kernel)) rfl (by decide) rfl) (cq_ok (cr_iconst2 (n := 1) (dq_4 (by decide +kernel)) (by decide +kernel) rfl) (cr_istore_n (k := 3) (dq_62 (by decide +kernel)) rfl (by decide) rfl)))
set_option maxRecDepth 100000 in
theorem cb_X9_readRow_75 : ci_ok yX9_readRow cX9_readRow 5 75 (ci_seq (ci_load 2 0 76) 76 (ci_seq (ci_getf 9 28 79) 79 (ci_if (fun x => !decide (x = 0)) 181 82))) := cq_ok (cr_aload_n (k := 0) (dq_42 (by decide +kernel)) rfl rfl) (cq_ok (cr_getf (idx := 138) zc_9 (by decide) zl_468 (dq_180 (a := 0) (b := 138) (by decide +kernel) rfl) rfl) (cr_if_ne (off := 102) (dq_154 (a := 0) (b := 102) (by decide +kernel) rfl) (by decide) rfl))
set_option maxRecDepth 100000 in
theorem cb_X9_readRow_82 : ci_ok yX9_readRow cX9_readRow 5 82 (ci_seq (ci_load 0 3 83) 83 (ci_if (fun x => decide (x = 0)) 181 86)) := cq_ok (cr_iload_n (k := 3) (dq_29 (by decide +kernel)) rfl rfl) (cr_if_eq (off := 98) (dq_153 (a := 0) (b := 98) (by decide +kernel) rfl) (by decide) rfl)
set_option maxRecDepth 100000 in
theorem cb_X9_readRow_86 : ci_ok yX9_readRow cX9_readRow 5 86 (ci_seq (ci_load 2 0 87) 87 (ci_seq (ci_load 2 0 88) 88 (ci_seq (ci_getf 9 26 91) 91 (ci_seq (ci_push (.int 2) 92) 92 (ci_ic (fun x y => !decide (x = y)) 100 95))))) := cq_ok (cr_aload_n (k := 0) (dq_42 (by decide +kernel)) rfl rfl) (cq_ok (cr_aload_n (k := 0) (dq_42 (by decide +kernel)) rfl rfl) (cq_ok (cr_getf (idx := 166) zc_9 (by decide) zl_484 (dq_180 (a := 0) (b := 166) (by decide +kernel) rfl) rfl) (cq_ok (cr_iconst2 (n := 2) (dq_5 (by decide +kernel)) (by decide +kernel) rfl) (cr_ic_ne (off := 8) (dq_160 (a := 0) (b := 8) (by decide +kernel) rfl) (by decide) rfl))))
set_option maxRecDepth 100000 in
theorem cb_X9_readRow_95 : ci_ok yX9_readRow cX9_readRow 5 95 (ci_seq (ci_load 0 2 96) 96 (ci_seq (ci_push (.int 5) 97) 97 (ci_ic (fun x y => decide (y ≤ x)) 104 100))) := cq_ok (cr_iload_n (k := 2) (dq_28 (by decide +kernel)) rfl rfl) (cq_ok (cr_iconst2 (n := 5) (dq_8 (by decide +kernel)) (by decide +kernel) rfl) (cr_ic_ge (off := 7) (dq_162 (a := 0) (b := 7) (by decide +kernel) rfl) (by decide) rfl))
set_option maxRecDepth 100000 in
theorem cb_X9_readRow_100 : ci_ok yX9_readRow cX9_readRow 5 100 (ci_seq (ci_push (.int 1) 101) 101 (ci_go 105)) := cq_ok (cr_iconst2 (n := 1) (dq_4 (by decide +kernel)) (by decide +kernel) rfl) (cr_goto (off := 4) (dq_167 (a := 0) (b := 4) (by decide +kernel) rfl) (by decide))
set_option maxRecDepth 100000 in
theorem cb_X9_readRow_104 : ci_ok yX9_readRow cX9_readRow 5 104 (ci_push (.int 0) 105) := cr_iconst2 (n := 0) (dq_3 (by decide +kernel)) (by decide +kernel) rfl
set_option maxRecDepth 100000 in
theorem cb_X9_readRow_105 : ci_ok yX9_readRow cX9_readRow 5 105 (ci_push (.int 5) 106) := cr_iconst2 (n := 5) (dq_8 (by decide +kernel)) (by decide +kernel) rfl
set_option maxRecDepth 100000 in
theorem cl_X9_readRow_106 : ci_calls yX9_readRow cX9_readRow 5 106 yX9_needs 3 (some 9) := cr_callV (idx := 180) zl_998 ⟨by decide, by decide⟩ hp_X9_needs zc_9 zl_491 zl_492 (Or.inl zl_490) (dq_182 (a := 0) (b := 180) (by decide +kernel) rfl)
set_option maxRecDepth 100000 in
theorem cb_X9_readRow_109 : ci_ok yX9_readRow cX9_readRow 5 109 (ci_seq (ci_load 2 0 110) 110 (ci_seq (ci_push (.int 0) 111) 111 (ci_push (.int 9) 113))) := cq_ok (cr_aload_n (k := 0) (dq_42 (by decide +kernel)) rfl rfl) (cq_ok (cr_iconst2 (n := 0) (dq_3 (by decide +kernel)) (by decide +kernel) rfl) (cr_bipush (n := 9) (dq_16 (a := 9) (by decide +kernel) rfl) (by decide +kernel) rfl))
set_option maxRecDepth 100000 in
theorem cl_X9_readRow_113 : ci_calls yX9_readRow cX9_readRow 5 113 yX9_looked 3 (some 9) := cr_callV (idx := 184) zl_1005 ⟨by decide, by decide⟩ hp_X9_looked zc_9 zl_497 zl_498 (Or.inl zl_496) (dq_182 (a := 0) (b := 184) (by decide +kernel) rfl)
set_option maxRecDepth 100000 in
theorem cb_X9_readRow_116 : ci_ok yX9_readRow cX9_readRow 5 116 (ci_seq (ci_store 0 4 118) 118 (ci_seq (ci_load 2 0 119) 119 (ci_seq (ci_getf 9 28 122) 122 (ci_if (fun x => !decide (x = 0)) 160 125)))) := cq_ok (cr_istore (dq_54 (by decide +kernel)) (by decide) rfl) (cq_ok (cr_aload_n (k := 0) (dq_42 (by decide +kernel)) rfl rfl) (cq_ok (cr_getf (idx := 138) zc_9 (by decide) zl_468 (dq_180 (a := 0) (b := 138) (by decide +kernel) rfl) rfl) (cr_if_ne (off := 38) (dq_154 (a := 0) (b := 38) (by decide +kernel) rfl) (by decide) rfl)))
set_option maxRecDepth 100000 in
theorem cb_X9_readRow_125 : ci_ok yX9_readRow cX9_readRow 5 125 (ci_seq (ci_load 2 0 126) 126 (ci_seq (ci_getf 9 12 129) 129 (ci_seq (ci_push (.int 5) 130) 130 (ci_seq (ci_load 0 1 131) 131 (ci_seq (ci_bin (fun a b => a * b) 132) 132 (ci_seq (ci_load 0 2 133) 133 (ci_seq (ci_bin (fun a b => a + b) 134) 134 (ci_seq (ci_load 0 4 136) 136 (ci_seq (ci_ast .int 137) 137 (ci_seq (ci_load 2 0 138) 138 (ci_seq (ci_load 0 2 139) 139 (ci_seq (ci_load 2 0 140) 140 (ci_seq (ci_getf 9 19 143) 143 (ci_ic (fun x y => decide (x ≤ y)) 150 146)))))))))))))) := cq_ok (cr_aload_n (k := 0) (dq_42 (by decide +kernel)) rfl rfl) (cq_ok (cr_getf (idx := 20) zc_9 (by decide) zl_437 (dq_180 (a := 0) (b := 20) (by decide +kernel) rfl) rfl) (cq_ok (cr_iconst2 (n := 5) (dq_8 (by decide +kernel)) (by decide +kernel) rfl) (cq_ok (cr_iload_n (k := 1) (dq_27 (by decide +kernel)) rfl rfl) (cq_ok (cr_imul (dq_104 (by decide +kernel)) rfl) (cq_ok (cr_iload_n (k := 2) (dq_28 (by decide +kernel)) rfl rfl) (cq_ok (cr_iadd (dq_96 (by decide +kernel)) rfl) (cq_ok (cr_iload (dq_21 (by decide +kernel)) rfl) (cq_ok (cr_ast (ins := .iastore) rfl (dq_79 (by decide +kernel)) (Or.inl ⟨rfl, rfl⟩)) (cq_ok (cr_aload_n (k := 0) (dq_42 (by decide +kernel)) rfl rfl) (cq_ok (cr_iload_n (k := 2) (dq_28 (by decide +kernel)) rfl rfl) (cq_ok (cr_aload_n (k := 0) (dq_42 (by decide +kernel)) rfl rfl) (cq_ok (cr_getf (idx := 111) zc_9 (by decide) zl_457 (dq_180 (a := 0) (b := 111) (by decide +kernel) rfl) rfl) (cr_ic_le (off := 7) (dq_164 (a := 0) (b := 7) (by decide +kernel) rfl) (by decide) rfl)))))))))))))
set_option maxRecDepth 100000 in
theorem cb_X9_readRow_146 : ci_ok yX9_readRow cX9_readRow 5 146 (ci_seq (ci_load 0 2 147) 147 (ci_go 154)) := cq_ok (cr_iload_n (k := 2) (dq_28 (by decide +kernel)) rfl rfl) (cr_goto (off := 7) (dq_167 (a := 0) (b := 7) (by decide +kernel) rfl) (by decide))
set_option maxRecDepth 100000 in
theorem cb_X9_readRow_150 : ci_ok yX9_readRow cX9_readRow 5 150 (ci_seq (ci_load 2 0 151) 151 (ci_getf 9 19 154)) := cq_ok (cr_aload_n (k := 0) (dq_42 (by decide +kernel)) rfl rfl) (cr_getf (idx := 111) zc_9 (by decide) zl_457 (dq_180 (a := 0) (b := 111) (by decide +kernel) rfl) rfl)
set_option maxRecDepth 100000 in
theorem cb_X9_readRow_154 : ci_ok yX9_readRow cX9_readRow 5 154 (ci_seq (ci_putf 9 19 .int 157) 157 (ci_inc 2 1 160)) := cq_ok (cr_putf (idx := 111) zc_9 (by decide) (by decide +kernel) rfl zl_457 (dq_181 (a := 0) (b := 111) (by decide +kernel) rfl) rfl) (ci_inc_ok (by decide) (dq_132 (a := 2) (b := 1) (by decide +kernel) rfl) rfl)
set_option maxRecDepth 100000 in
theorem cb_X9_readRow_160 : ci_ok yX9_readRow cX9_readRow 5 160 (ci_load 2 0 161) := cr_aload_n (k := 0) (dq_42 (by decide +kernel)) rfl rfl
set_option maxRecDepth 100000 in
theorem cl_X9_readRow_161 : ci_calls yX9_readRow cX9_readRow 5 161 yX9_next 1 (some 9) := cr_callV (idx := 188) zl_1004 ⟨by decide, by decide⟩ hp_X9_next zc_9 zl_494 zl_495 (Or.inl zl_493) (dq_182 (a := 0) (b := 188) (by decide +kernel) rfl)
set_option maxRecDepth 100000 in
theorem cb_X9_readRow_164 : ci_ok yX9_readRow cX9_readRow 5 164 (ci_seq (ci_load 2 0 165) 165 (ci_seq (ci_getf 9 26 168) 168 (ci_seq (ci_push (.int 2) 169) 169 (ci_ic (fun x y => !decide (x = y)) 176 172)))) := cq_ok (cr_aload_n (k := 0) (dq_42 (by decide +kernel)) rfl rfl) (cq_ok (cr_getf (idx := 166) zc_9 (by decide) zl_484 (dq_180 (a := 0) (b := 166) (by decide +kernel) rfl) rfl) (cq_ok (cr_iconst2 (n := 2) (dq_5 (by decide +kernel)) (by decide +kernel) rfl) (cr_ic_ne (off := 7) (dq_160 (a := 0) (b := 7) (by decide +kernel) rfl) (by decide) rfl)))
set_option maxRecDepth 100000 in
theorem cb_X9_readRow_172 : ci_ok yX9_readRow cX9_readRow 5 172 (ci_seq (ci_push (.int 1) 173) 173 (ci_go 177)) := cq_ok (cr_iconst2 (n := 1) (dq_4 (by decide +kernel)) (by decide +kernel) rfl) (cr_goto (off := 4) (dq_167 (a := 0) (b := 4) (by decide +kernel) rfl) (by decide))
set_option maxRecDepth 100000 in
theorem cb_X9_readRow_176 : ci_ok yX9_readRow cX9_readRow 5 176 (ci_push (.int 0) 177) := cr_iconst2 (n := 0) (dq_3 (by decide +kernel)) (by decide +kernel) rfl
set_option maxRecDepth 100000 in
theorem cb_X9_readRow_177 : ci_ok yX9_readRow cX9_readRow 5 177 (ci_seq (ci_store 0 3 178) 178 (ci_go 75)) := cq_ok (cr_istore_n (k := 3) (dq_62 (by decide +kernel)) rfl (by decide) rfl) (cr_goto (off := -103) (dq_167 (a := 255) (b := 153) (by decide +kernel) rfl) (by decide))
set_option maxRecDepth 100000 in
theorem cd_X9_readRow_181 : decode cX9_readRow 181 = .ok (zi_rop none, 1) := (dq_177 (by decide +kernel))
set_option maxRecDepth 100000 in
theorem cb_X9_sawCell_0 : ci_ok yX9_sawCell cX9_sawCell 2 0 (ci_seq (ci_load 2 0 1) 1 (ci_seq (ci_load 0 1 2) 2 (ci_seq (ci_load 2 0 3) 3 (ci_seq (ci_getf 9 20 6) 6 (ci_ic (fun x y => decide (x ≤ y)) 13 9))))) := cq_ok (cr_aload_n (k := 0) (dq_42 (by decide +kernel)) rfl rfl) (cq_ok (cr_iload_n (k := 1) (dq_27 (by decide +kernel)) rfl rfl) (cq_ok (cr_aload_n (k := 0) (dq_42 (by decide +kernel)) rfl rfl) (cq_ok (cr_getf (idx := 114) zc_9 (by decide) zl_456 (dq_180 (a := 0) (b := 114) (by decide +kernel) rfl) rfl) (cr_ic_le (off := 7) (dq_164 (a := 0) (b := 7) (by decide +kernel) rfl) (by decide) rfl))))
set_option maxRecDepth 100000 in
theorem cb_X9_sawCell_9 : ci_ok yX9_sawCell cX9_sawCell 2 9 (ci_seq (ci_load 0 1 10) 10 (ci_go 17)) := cq_ok (cr_iload_n (k := 1) (dq_27 (by decide +kernel)) rfl rfl) (cr_goto (off := 7) (dq_167 (a := 0) (b := 7) (by decide +kernel) rfl) (by decide))
set_option maxRecDepth 100000 in
theorem cb_X9_sawCell_13 : ci_ok yX9_sawCell cX9_sawCell 2 13 (ci_seq (ci_load 2 0 14) 14 (ci_getf 9 20 17)) := cq_ok (cr_aload_n (k := 0) (dq_42 (by decide +kernel)) rfl rfl) (cr_getf (idx := 114) zc_9 (by decide) zl_456 (dq_180 (a := 0) (b := 114) (by decide +kernel) rfl) rfl)
set_option maxRecDepth 100000 in
theorem cb_X9_sawCell_17 : ci_ok yX9_sawCell cX9_sawCell 2 17 (ci_putf 9 20 .int 20) := cr_putf (idx := 114) zc_9 (by decide) (by decide +kernel) rfl zl_456 (dq_181 (a := 0) (b := 114) (by decide +kernel) rfl) rfl
set_option maxRecDepth 100000 in
theorem cd_X9_sawCell_20 : decode cX9_sawCell 20 = .ok (zi_rop none, 1) := (dq_177 (by decide +kernel))
