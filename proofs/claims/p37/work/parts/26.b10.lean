set_option maxRecDepth 100000 in
theorem cl_X9_lastOf_34 : ci_calls yX9_lastOf cX9_lastOf 7 34 yX9_yearOf 4 (some 9) := cr_callV (idx := 295) zl_1051 ⟨by decide, by decide⟩ hp_X9_yearOf zc_9 zl_587 zl_588 (Or.inl zl_586) (dq_182 (a := 1) (b := 39) (by decide +kernel) rfl)
set_option maxRecDepth 100000 in
theorem cb_X9_lastOf_37 : ci_ok yX9_lastOf cX9_lastOf 7 37 (ci_push (.int 2) 38) := cr_iconst2 (n := 2) (dq_5 (by decide +kernel)) (by decide +kernel) rfl
set_option maxRecDepth 100000 in
theorem cl_X9_lastOf_38 : ci_calls yX9_lastOf cX9_lastOf 7 38 yX9_hasBy 3 (some 9) := cr_callV (idx := 289) zl_1043 ⟨by decide, by decide⟩ hp_X9_hasBy zc_9 zl_582 zl_583 (Or.inl zl_581) (dq_182 (a := 1) (b := 33) (by decide +kernel) rfl)
set_option maxRecDepth 100000 in
theorem cb_X9_lastOf_41 : ci_ok yX9_lastOf cX9_lastOf 7 41 (ci_go 45) := cr_goto (off := 4) (dq_167 (a := 0) (b := 4) (by decide +kernel) rfl) (by decide)
set_option maxRecDepth 100000 in
theorem cb_X9_lastOf_44 : ci_ok yX9_lastOf cX9_lastOf 7 44 (ci_push (.int 0) 45) := cr_iconst2 (n := 0) (dq_3 (by decide +kernel)) (by decide +kernel) rfl
set_option maxRecDepth 100000 in
theorem cb_X9_lastOf_45 : ci_ok yX9_lastOf cX9_lastOf 7 45 (ci_seq (ci_store 0 6 47) 47 (ci_seq (ci_load 0 6 49) 49 (ci_seq (ci_load 0 4 51) 51 (ci_ic (fun x y => decide (x ≤ y)) 59 54)))) := cq_ok (cr_istore (dq_54 (by decide +kernel)) (by decide) rfl) (cq_ok (cr_iload (dq_21 (by decide +kernel)) rfl) (cq_ok (cr_iload (dq_21 (by decide +kernel)) rfl) (cr_ic_le (off := 8) (dq_164 (a := 0) (b := 8) (by decide +kernel) rfl) (by decide) rfl)))
set_option maxRecDepth 100000 in
theorem cb_X9_lastOf_54 : ci_ok yX9_lastOf cX9_lastOf 7 54 (ci_seq (ci_load 0 5 56) 56 (ci_go 60)) := cq_ok (cr_iload (dq_21 (by decide +kernel)) rfl) (cr_goto (off := 4) (dq_167 (a := 0) (b := 4) (by decide +kernel) rfl) (by decide))
set_option maxRecDepth 100000 in
theorem cb_X9_lastOf_59 : ci_ok yX9_lastOf cX9_lastOf 7 59 (ci_load 0 3 60) := cr_iload_n (k := 3) (dq_29 (by decide +kernel)) rfl rfl
set_option maxRecDepth 100000 in
theorem cb_X9_lastOf_60 : ci_ok yX9_lastOf cX9_lastOf 7 60 (ci_seq (ci_store 0 3 61) 61 (ci_seq (ci_load 0 6 63) 63 (ci_seq (ci_load 0 4 65) 65 (ci_ic (fun x y => decide (x ≤ y)) 73 68)))) := cq_ok (cr_istore_n (k := 3) (dq_62 (by decide +kernel)) rfl (by decide) rfl) (cq_ok (cr_iload (dq_21 (by decide +kernel)) rfl) (cq_ok (cr_iload (dq_21 (by decide +kernel)) rfl) (cr_ic_le (off := 8) (dq_164 (a := 0) (b := 8) (by decide +kernel) rfl) (by decide) rfl)))
set_option maxRecDepth 100000 in
theorem cb_X9_lastOf_68 : ci_ok yX9_lastOf cX9_lastOf 7 68 (ci_seq (ci_load 0 6 70) 70 (ci_go 75)) := cq_ok (cr_iload (dq_21 (by decide +kernel)) rfl) (cr_goto (off := 5) (dq_167 (a := 0) (b := 5) (by decide +kernel) rfl) (by decide))
set_option maxRecDepth 100000 in
theorem cb_X9_lastOf_73 : ci_ok yX9_lastOf cX9_lastOf 7 73 (ci_load 0 4 75) := cr_iload (dq_21 (by decide +kernel)) rfl
set_option maxRecDepth 100000 in
theorem cb_X9_lastOf_75 : ci_ok yX9_lastOf cX9_lastOf 7 75 (ci_seq (ci_store 0 4 77) 77 (ci_seq (ci_inc 5 1 80) 80 (ci_go 9))) := cq_ok (cr_istore (dq_54 (by decide +kernel)) (by decide) rfl) (cq_ok (ci_inc_ok (by decide) (dq_132 (a := 5) (b := 1) (by decide +kernel) rfl) rfl) (cr_goto (off := -71) (dq_167 (a := 255) (b := 185) (by decide +kernel) rfl) (by decide)))
set_option maxRecDepth 100000 in
theorem cb_X9_lastOf_83 : ci_ok yX9_lastOf cX9_lastOf 7 83 (ci_load 0 3 84) := cr_iload_n (k := 3) (dq_29 (by decide +kernel)) rfl rfl
set_option maxRecDepth 100000 in
theorem cd_X9_lastOf_84 : decode cX9_lastOf 84 = .ok (zi_rop (some .int), 1) := (dq_172 (by decide +kernel))
set_option maxRecDepth 100000 in
theorem cb_X9_secondOf_0 : ci_ok yX9_secondOf cX9_secondOf 6 0 (ci_seq (ci_push (.int 0) 1) 1 (ci_seq (ci_store 0 2 2) 2 (ci_seq (ci_push (.int (-4)) 4) 4 (ci_seq (ci_store 0 3 5) 5 (ci_seq (ci_push (.int 0) 6) 6 (ci_store 0 4 8)))))) := cq_ok (cr_iconst2 (n := 0) (dq_3 (by decide +kernel)) (by decide +kernel) rfl) (cq_ok (cr_istore_n (k := 2) (dq_61 (by decide +kernel)) rfl (by decide) rfl) (cq_ok (cr_bipush (n := -4) (dq_16 (a := 252) (by decide +kernel) rfl) (by decide +kernel) rfl) (cq_ok (cr_istore_n (k := 3) (dq_62 (by decide +kernel)) rfl (by decide) rfl) (cq_ok (cr_iconst2 (n := 0) (dq_3 (by decide +kernel)) (by decide +kernel) rfl) (cr_istore (dq_54 (by decide +kernel)) (by decide) rfl)))))
set_option maxRecDepth 100000 in
theorem cb_X9_secondOf_8 : ci_ok yX9_secondOf cX9_secondOf 6 8 (ci_seq (ci_load 0 4 10) 10 (ci_seq (ci_load 2 0 11) 11 (ci_seq (ci_getf 9 36 14) 14 (ci_seq (ci_push (.int 1) 15) 15 (ci_seq (ci_ald .int 16) 16 (ci_ic (fun x y => decide (y ≤ x)) 84 19)))))) := cq_ok (cr_iload (dq_21 (by decide +kernel)) rfl) (cq_ok (cr_aload_n (k := 0) (dq_42 (by decide +kernel)) rfl rfl) (cq_ok (cr_getf (idx := 47) zc_9 (by decide) zl_428 (dq_180 (a := 0) (b := 47) (by decide +kernel) rfl) rfl) (cq_ok (cr_iconst2 (n := 1) (dq_4 (by decide +kernel)) (by decide +kernel) rfl) (cq_ok (cr_ald (ins := .iaload) rfl (dq_46 (by decide +kernel)) (Or.inl ⟨rfl, rfl⟩)) (cr_ic_ge (off := 68) (dq_162 (a := 0) (b := 68) (by decide +kernel) rfl) (by decide) rfl)))))
set_option maxRecDepth 100000 in
theorem cb_X9_secondOf_19 : ci_ok yX9_secondOf cX9_secondOf 6 19 (ci_seq (ci_load 2 0 20) 20 (ci_seq (ci_getf 9 4 23) 23 (ci_seq (ci_push (.int 1) 24) 24 (ci_ic (fun x y => decide (x ≤ y)) 49 27)))) := cq_ok (cr_aload_n (k := 0) (dq_42 (by decide +kernel)) rfl rfl) (cq_ok (cr_getf (idx := 126) zc_9 (by decide) zl_461 (dq_180 (a := 0) (b := 126) (by decide +kernel) rfl) rfl) (cq_ok (cr_iconst2 (n := 1) (dq_4 (by decide +kernel)) (by decide +kernel) rfl) (cr_ic_le (off := 25) (dq_164 (a := 0) (b := 25) (by decide +kernel) rfl) (by decide) rfl)))
set_option maxRecDepth 100000 in
theorem cb_X9_secondOf_27 : ci_ok yX9_secondOf cX9_secondOf 6 27 (ci_seq (ci_load 2 0 28) 28 (ci_seq (ci_load 2 0 29) 29 (ci_seq (ci_load 0 1 30) 30 (ci_seq (ci_load 0 4 32) 32 (ci_seq (ci_load 2 0 33) 33 (ci_seq (ci_load 0 1 34) 34 (ci_load 0 4 36))))))) := cq_ok (cr_aload_n (k := 0) (dq_42 (by decide +kernel)) rfl rfl) (cq_ok (cr_aload_n (k := 0) (dq_42 (by decide +kernel)) rfl rfl) (cq_ok (cr_iload_n (k := 1) (dq_27 (by decide +kernel)) rfl rfl) (cq_ok (cr_iload (dq_21 (by decide +kernel)) rfl) (cq_ok (cr_aload_n (k := 0) (dq_42 (by decide +kernel)) rfl rfl) (cq_ok (cr_iload_n (k := 1) (dq_27 (by decide +kernel)) rfl rfl) (cr_iload (dq_21 (by decide +kernel)) rfl))))))
set_option maxRecDepth 100000 in
theorem cl_X9_secondOf_36 : ci_calls yX9_secondOf cX9_secondOf 6 36 yX9_lastOf 3 (some 9) := cr_callV (idx := 328) zl_1059 ⟨by decide, by decide⟩ hp_X9_lastOf zc_9 zl_615 zl_616 (Or.inl zl_614) (dq_182 (a := 1) (b := 72) (by decide +kernel) rfl)
set_option maxRecDepth 100000 in
theorem cl_X9_secondOf_39 : ci_calls yX9_secondOf cX9_secondOf 6 39 yX9_yearOf 4 (some 9) := cr_callV (idx := 295) zl_1051 ⟨by decide, by decide⟩ hp_X9_yearOf zc_9 zl_587 zl_588 (Or.inl zl_586) (dq_182 (a := 1) (b := 39) (by decide +kernel) rfl)
set_option maxRecDepth 100000 in
theorem cb_X9_secondOf_42 : ci_ok yX9_secondOf cX9_secondOf 6 42 (ci_push (.int 1) 43) := cr_iconst2 (n := 1) (dq_4 (by decide +kernel)) (by decide +kernel) rfl
set_option maxRecDepth 100000 in
theorem cl_X9_secondOf_43 : ci_calls yX9_secondOf cX9_secondOf 6 43 yX9_hasBy 3 (some 9) := cr_callV (idx := 289) zl_1043 ⟨by decide, by decide⟩ hp_X9_hasBy zc_9 zl_582 zl_583 (Or.inl zl_581) (dq_182 (a := 1) (b := 33) (by decide +kernel) rfl)
set_option maxRecDepth 100000 in
theorem cb_X9_secondOf_46 : ci_ok yX9_secondOf cX9_secondOf 6 46 (ci_go 50) := cr_goto (off := 4) (dq_167 (a := 0) (b := 4) (by decide +kernel) rfl) (by decide)
set_option maxRecDepth 100000 in
theorem cb_X9_secondOf_49 : ci_ok yX9_secondOf cX9_secondOf 6 49 (ci_push (.int 0) 50) := cr_iconst2 (n := 0) (dq_3 (by decide +kernel)) (by decide +kernel) rfl
set_option maxRecDepth 100000 in
theorem cb_X9_secondOf_50 : ci_ok yX9_secondOf cX9_secondOf 6 50 (ci_seq (ci_store 0 5 52) 52 (ci_seq (ci_load 0 5 54) 54 (ci_seq (ci_load 0 3 55) 55 (ci_ic (fun x y => decide (x ≤ y)) 63 58)))) := cq_ok (cr_istore (dq_54 (by decide +kernel)) (by decide) rfl) (cq_ok (cr_iload (dq_21 (by decide +kernel)) rfl) (cq_ok (cr_iload_n (k := 3) (dq_29 (by decide +kernel)) rfl rfl) (cr_ic_le (off := 8) (dq_164 (a := 0) (b := 8) (by decide +kernel) rfl) (by decide) rfl)))
set_option maxRecDepth 100000 in
theorem cb_X9_secondOf_58 : ci_ok yX9_secondOf cX9_secondOf 6 58 (ci_seq (ci_load 0 4 60) 60 (ci_go 64)) := cq_ok (cr_iload (dq_21 (by decide +kernel)) rfl) (cr_goto (off := 4) (dq_167 (a := 0) (b := 4) (by decide +kernel) rfl) (by decide))
set_option maxRecDepth 100000 in
theorem cb_X9_secondOf_63 : ci_ok yX9_secondOf cX9_secondOf 6 63 (ci_load 0 2 64) := cr_iload_n (k := 2) (dq_28 (by decide +kernel)) rfl rfl
set_option maxRecDepth 100000 in
theorem cb_X9_secondOf_64 : ci_ok yX9_secondOf cX9_secondOf 6 64 (ci_seq (ci_store 0 2 65) 65 (ci_seq (ci_load 0 5 67) 67 (ci_seq (ci_load 0 3 68) 68 (ci_ic (fun x y => decide (x ≤ y)) 76 71)))) := cq_ok (cr_istore_n (k := 2) (dq_61 (by decide +kernel)) rfl (by decide) rfl) (cq_ok (cr_iload (dq_21 (by decide +kernel)) rfl) (cq_ok (cr_iload_n (k := 3) (dq_29 (by decide +kernel)) rfl rfl) (cr_ic_le (off := 8) (dq_164 (a := 0) (b := 8) (by decide +kernel) rfl) (by decide) rfl)))
set_option maxRecDepth 100000 in
theorem cb_X9_secondOf_71 : ci_ok yX9_secondOf cX9_secondOf 6 71 (ci_seq (ci_load 0 5 73) 73 (ci_go 77)) := cq_ok (cr_iload (dq_21 (by decide +kernel)) rfl) (cr_goto (off := 4) (dq_167 (a := 0) (b := 4) (by decide +kernel) rfl) (by decide))
set_option maxRecDepth 100000 in
theorem cb_X9_secondOf_76 : ci_ok yX9_secondOf cX9_secondOf 6 76 (ci_load 0 3 77) := cr_iload_n (k := 3) (dq_29 (by decide +kernel)) rfl rfl
set_option maxRecDepth 100000 in
theorem cb_X9_secondOf_77 : ci_ok yX9_secondOf cX9_secondOf 6 77 (ci_seq (ci_store 0 3 78) 78 (ci_seq (ci_inc 4 1 81) 81 (ci_go 8))) := cq_ok (cr_istore_n (k := 3) (dq_62 (by decide +kernel)) rfl (by decide) rfl) (cq_ok (ci_inc_ok (by decide) (dq_132 (a := 4) (b := 1) (by decide +kernel) rfl) rfl) (cr_goto (off := -73) (dq_167 (a := 255) (b := 183) (by decide +kernel) rfl) (by decide)))
set_option maxRecDepth 100000 in
theorem cb_X9_secondOf_84 : ci_ok yX9_secondOf cX9_secondOf 6 84 (ci_load 0 2 85) := cr_iload_n (k := 2) (dq_28 (by decide +kernel)) rfl rfl
set_option maxRecDepth 100000 in
theorem cd_X9_secondOf_85 : decode cX9_secondOf 85 = .ok (zi_rop (some .int), 1) := (dq_172 (by decide +kernel))
set_option maxRecDepth 100000 in
theorem cb_X9_selfishYear_0 : ci_ok yX9_selfishYear cX9_selfishYear 6 0 (ci_load 2 0 1) := cr_aload_n (k := 0) (dq_42 (by decide +kernel)) rfl rfl
set_option maxRecDepth 100000 in
theorem cl_X9_selfishYear_1 : ci_calls yX9_selfishYear cX9_selfishYear 6 1 yX9_findOptions 1 (some 9) := cr_callV (idx := 313) zl_1049 ⟨by decide, by decide⟩ hp_X9_findOptions zc_9 zl_601 zl_602 (Or.inl zl_600) (dq_182 (a := 1) (b := 57) (by decide +kernel) rfl)
set_option maxRecDepth 100000 in
theorem cb_X9_selfishYear_4 : ci_ok yX9_selfishYear cX9_selfishYear 6 4 (ci_seq (ci_push (.int 0) 5) 5 (ci_seq (ci_store 0 1 6) 6 (ci_seq (ci_push (.int (-4)) 8) 8 (ci_seq (ci_store 0 2 9) 9 (ci_seq (ci_push (.int 0) 10) 10 (ci_store 0 3 11)))))) := cq_ok (cr_iconst2 (n := 0) (dq_3 (by decide +kernel)) (by decide +kernel) rfl) (cq_ok (cr_istore_n (k := 1) (dq_60 (by decide +kernel)) rfl (by decide) rfl) (cq_ok (cr_bipush (n := -4) (dq_16 (a := 252) (by decide +kernel) rfl) (by decide +kernel) rfl) (cq_ok (cr_istore_n (k := 2) (dq_61 (by decide +kernel)) rfl (by decide) rfl) (cq_ok (cr_iconst2 (n := 0) (dq_3 (by decide +kernel)) (by decide +kernel) rfl) (cr_istore_n (k := 3) (dq_62 (by decide +kernel)) rfl (by decide) rfl)))))
set_option maxRecDepth 100000 in
theorem cb_X9_selfishYear_11 : ci_ok yX9_selfishYear cX9_selfishYear 6 11 (ci_seq (ci_load 0 3 12) 12 (ci_seq (ci_load 2 0 13) 13 (ci_seq (ci_getf 9 36 16) 16 (ci_seq (ci_push (.int 0) 17) 17 (ci_seq (ci_ald .int 18) 18 (ci_ic (fun x y => decide (y ≤ x)) 91 21)))))) := cq_ok (cr_iload_n (k := 3) (dq_29 (by decide +kernel)) rfl rfl) (cq_ok (cr_aload_n (k := 0) (dq_42 (by decide +kernel)) rfl rfl) (cq_ok (cr_getf (idx := 47) zc_9 (by decide) zl_428 (dq_180 (a := 0) (b := 47) (by decide +kernel) rfl) rfl) (cq_ok (cr_iconst2 (n := 0) (dq_3 (by decide +kernel)) (by decide +kernel) rfl) (cq_ok (cr_ald (ins := .iaload) rfl (dq_46 (by decide +kernel)) (Or.inl ⟨rfl, rfl⟩)) (cr_ic_ge (off := 73) (dq_162 (a := 0) (b := 73) (by decide +kernel) rfl) (by decide) rfl)))))
set_option maxRecDepth 100000 in
theorem cb_X9_selfishYear_21 : ci_ok yX9_selfishYear cX9_selfishYear 6 21 (ci_seq (ci_load 2 0 22) 22 (ci_load 0 3 23)) := cq_ok (cr_aload_n (k := 0) (dq_42 (by decide +kernel)) rfl rfl) (cr_iload_n (k := 3) (dq_29 (by decide +kernel)) rfl rfl)
set_option maxRecDepth 100000 in
theorem cl_X9_selfishYear_23 : ci_calls yX9_selfishYear cX9_selfishYear 6 23 yX9_secondOf 2 (some 9) := cr_callV (idx := 331) zl_1060 ⟨by decide, by decide⟩ hp_X9_secondOf zc_9 zl_618 zl_619 (Or.inl zl_617) (dq_182 (a := 1) (b := 75) (by decide +kernel) rfl)
set_option maxRecDepth 100000 in
theorem cb_X9_selfishYear_26 : ci_ok yX9_selfishYear cX9_selfishYear 6 26 (ci_seq (ci_store 0 4 28) 28 (ci_seq (ci_load 2 0 29) 29 (ci_seq (ci_getf 9 4 32) 32 (ci_if (fun x => decide (x ≤ 0)) 57 35)))) := cq_ok (cr_istore (dq_54 (by decide +kernel)) (by decide) rfl) (cq_ok (cr_aload_n (k := 0) (dq_42 (by decide +kernel)) rfl rfl) (cq_ok (cr_getf (idx := 126) zc_9 (by decide) zl_461 (dq_180 (a := 0) (b := 126) (by decide +kernel) rfl) rfl) (cr_if_le (off := 25) (dq_158 (a := 0) (b := 25) (by decide +kernel) rfl) (by decide) rfl)))
set_option maxRecDepth 100000 in
theorem cb_X9_selfishYear_35 : ci_ok yX9_selfishYear cX9_selfishYear 6 35 (ci_seq (ci_load 2 0 36) 36 (ci_seq (ci_load 2 0 37) 37 (ci_seq (ci_load 0 3 38) 38 (ci_seq (ci_load 0 4 40) 40 (ci_seq (ci_load 2 0 41) 41 (ci_seq (ci_load 0 3 42) 42 (ci_load 0 4 44))))))) := cq_ok (cr_aload_n (k := 0) (dq_42 (by decide +kernel)) rfl rfl) (cq_ok (cr_aload_n (k := 0) (dq_42 (by decide +kernel)) rfl rfl) (cq_ok (cr_iload_n (k := 3) (dq_29 (by decide +kernel)) rfl rfl) (cq_ok (cr_iload (dq_21 (by decide +kernel)) rfl) (cq_ok (cr_aload_n (k := 0) (dq_42 (by decide +kernel)) rfl rfl) (cq_ok (cr_iload_n (k := 3) (dq_29 (by decide +kernel)) rfl rfl) (cr_iload (dq_21 (by decide +kernel)) rfl))))))
set_option maxRecDepth 100000 in
theorem cl_X9_selfishYear_44 : ci_calls yX9_selfishYear cX9_selfishYear 6 44 yX9_lastOf 3 (some 9) := cr_callV (idx := 328) zl_1059 ⟨by decide, by decide⟩ hp_X9_lastOf zc_9 zl_615 zl_616 (Or.inl zl_614) (dq_182 (a := 1) (b := 72) (by decide +kernel) rfl)
set_option maxRecDepth 100000 in
theorem cl_X9_selfishYear_47 : ci_calls yX9_selfishYear cX9_selfishYear 6 47 yX9_yearOf 4 (some 9) := cr_callV (idx := 295) zl_1051 ⟨by decide, by decide⟩ hp_X9_yearOf zc_9 zl_587 zl_588 (Or.inl zl_586) (dq_182 (a := 1) (b := 39) (by decide +kernel) rfl)
set_option maxRecDepth 100000 in
theorem cb_X9_selfishYear_50 : ci_ok yX9_selfishYear cX9_selfishYear 6 50 (ci_push (.int 0) 51) := cr_iconst2 (n := 0) (dq_3 (by decide +kernel)) (by decide +kernel) rfl
set_option maxRecDepth 100000 in
theorem cl_X9_selfishYear_51 : ci_calls yX9_selfishYear cX9_selfishYear 6 51 yX9_hasBy 3 (some 9) := cr_callV (idx := 289) zl_1043 ⟨by decide, by decide⟩ hp_X9_hasBy zc_9 zl_582 zl_583 (Or.inl zl_581) (dq_182 (a := 1) (b := 33) (by decide +kernel) rfl)
set_option maxRecDepth 100000 in
theorem cb_X9_selfishYear_54 : ci_ok yX9_selfishYear cX9_selfishYear 6 54 (ci_go 58) := cr_goto (off := 4) (dq_167 (a := 0) (b := 4) (by decide +kernel) rfl) (by decide)
set_option maxRecDepth 100000 in
theorem cb_X9_selfishYear_57 : ci_ok yX9_selfishYear cX9_selfishYear 6 57 (ci_push (.int 0) 58) := cr_iconst2 (n := 0) (dq_3 (by decide +kernel)) (by decide +kernel) rfl
set_option maxRecDepth 100000 in
theorem cb_X9_selfishYear_58 : ci_ok yX9_selfishYear cX9_selfishYear 6 58 (ci_seq (ci_store 0 5 60) 60 (ci_seq (ci_load 0 5 62) 62 (ci_seq (ci_load 0 2 63) 63 (ci_ic (fun x y => decide (x ≤ y)) 70 66)))) := cq_ok (cr_istore (dq_54 (by decide +kernel)) (by decide) rfl) (cq_ok (cr_iload (dq_21 (by decide +kernel)) rfl) (cq_ok (cr_iload_n (k := 2) (dq_28 (by decide +kernel)) rfl rfl) (cr_ic_le (off := 7) (dq_164 (a := 0) (b := 7) (by decide +kernel) rfl) (by decide) rfl)))
set_option maxRecDepth 100000 in
theorem cb_X9_selfishYear_66 : ci_ok yX9_selfishYear cX9_selfishYear 6 66 (ci_seq (ci_load 0 3 67) 67 (ci_go 71)) := cq_ok (cr_iload_n (k := 3) (dq_29 (by decide +kernel)) rfl rfl) (cr_goto (off := 4) (dq_167 (a := 0) (b := 4) (by decide +kernel) rfl) (by decide))
set_option maxRecDepth 100000 in
theorem cb_X9_selfishYear_70 : ci_ok yX9_selfishYear cX9_selfishYear 6 70 (ci_load 0 1 71) := cr_iload_n (k := 1) (dq_27 (by decide +kernel)) rfl rfl
set_option maxRecDepth 100000 in
theorem cb_X9_selfishYear_71 : ci_ok yX9_selfishYear cX9_selfishYear 6 71 (ci_seq (ci_store 0 1 72) 72 (ci_seq (ci_load 0 5 74) 74 (ci_seq (ci_load 0 2 75) 75 (ci_ic (fun x y => decide (x ≤ y)) 83 78)))) := cq_ok (cr_istore_n (k := 1) (dq_60 (by decide +kernel)) rfl (by decide) rfl) (cq_ok (cr_iload (dq_21 (by decide +kernel)) rfl) (cq_ok (cr_iload_n (k := 2) (dq_28 (by decide +kernel)) rfl rfl) (cr_ic_le (off := 8) (dq_164 (a := 0) (b := 8) (by decide +kernel) rfl) (by decide) rfl)))
set_option maxRecDepth 100000 in
theorem cb_X9_selfishYear_78 : ci_ok yX9_selfishYear cX9_selfishYear 6 78 (ci_seq (ci_load 0 5 80) 80 (ci_go 84)) := cq_ok (cr_iload (dq_21 (by decide +kernel)) rfl) (cr_goto (off := 4) (dq_167 (a := 0) (b := 4) (by decide +kernel) rfl) (by decide))
set_option maxRecDepth 100000 in
theorem cb_X9_selfishYear_83 : ci_ok yX9_selfishYear cX9_selfishYear 6 83 (ci_load 0 2 84) := cr_iload_n (k := 2) (dq_28 (by decide +kernel)) rfl rfl
set_option maxRecDepth 100000 in
theorem cb_X9_selfishYear_84 : ci_ok yX9_selfishYear cX9_selfishYear 6 84 (ci_seq (ci_store 0 2 85) 85 (ci_seq (ci_inc 3 1 88) 88 (ci_go 11))) := cq_ok (cr_istore_n (k := 2) (dq_61 (by decide +kernel)) rfl (by decide) rfl) (cq_ok (ci_inc_ok (by decide) (dq_132 (a := 3) (b := 1) (by decide +kernel) rfl) rfl) (cr_goto (off := -77) (dq_167 (a := 255) (b := 179) (by decide +kernel) rfl) (by decide)))
set_option maxRecDepth 100000 in
theorem cb_X9_selfishYear_91 : ci_ok yX9_selfishYear cX9_selfishYear 6 91 (ci_seq (ci_load 2 0 92) 92 (ci_load 0 1 93)) := cq_ok (cr_aload_n (k := 0) (dq_42 (by decide +kernel)) rfl rfl) (cr_iload_n (k := 1) (dq_27 (by decide +kernel)) rfl rfl)
set_option maxRecDepth 100000 in
theorem cl_X9_selfishYear_93 : ci_calls yX9_selfishYear cX9_selfishYear 6 93 yX9_secondOf 2 (some 9) := cr_callV (idx := 331) zl_1060 ⟨by decide, by decide⟩ hp_X9_secondOf zc_9 zl_618 zl_619 (Or.inl zl_617) (dq_182 (a := 1) (b := 75) (by decide +kernel) rfl)
set_option maxRecDepth 100000 in
theorem cb_X9_selfishYear_96 : ci_ok yX9_selfishYear cX9_selfishYear 6 96 (ci_seq (ci_store 0 3 97) 97 (ci_seq (ci_load 2 0 98) 98 (ci_seq (ci_load 0 1 99) 99 (ci_seq (ci_load 0 3 100) 100 (ci_seq (ci_load 2 0 101) 101 (ci_seq (ci_load 0 1 102) 102 (ci_load 0 3 103))))))) := cq_ok (cr_istore_n (k := 3) (dq_62 (by decide +kernel)) rfl (by decide) rfl) (cq_ok (cr_aload_n (k := 0) (dq_42 (by decide +kernel)) rfl rfl) (cq_ok (cr_iload_n (k := 1) (dq_27 (by decide +kernel)) rfl rfl) (cq_ok (cr_iload_n (k := 3) (dq_29 (by decide +kernel)) rfl rfl) (cq_ok (cr_aload_n (k := 0) (dq_42 (by decide +kernel)) rfl rfl) (cq_ok (cr_iload_n (k := 1) (dq_27 (by decide +kernel)) rfl rfl) (cr_iload_n (k := 3) (dq_29 (by decide +kernel)) rfl rfl))))))
set_option maxRecDepth 100000 in
theorem cl_X9_selfishYear_103 : ci_calls yX9_selfishYear cX9_selfishYear 6 103 yX9_lastOf 3 (some 9) := cr_callV (idx := 328) zl_1059 ⟨by decide, by decide⟩ hp_X9_lastOf zc_9 zl_615 zl_616 (Or.inl zl_614) (dq_182 (a := 1) (b := 72) (by decide +kernel) rfl)
set_option maxRecDepth 100000 in
theorem cl_X9_selfishYear_106 : ci_calls yX9_selfishYear cX9_selfishYear 6 106 yX9_yearOf 4 (some 9) := cr_callV (idx := 295) zl_1051 ⟨by decide, by decide⟩ hp_X9_yearOf zc_9 zl_587 zl_588 (Or.inl zl_586) (dq_182 (a := 1) (b := 39) (by decide +kernel) rfl)
set_option maxRecDepth 100000 in
theorem cd_X9_selfishYear_109 : decode cX9_selfishYear 109 = .ok (zi_rop (some .int), 1) := (dq_172 (by decide +kernel))
set_option maxRecDepth 100000 in
theorem cb_X9_selfish_0 : ci_ok yX9_selfish cX9_selfish 3 0 (ci_seq (ci_load 0 1 1) 1 (ci_if (fun x => decide (x = 0)) 17 4)) := cq_ok (cr_iload_n (k := 1) (dq_27 (by decide +kernel)) rfl rfl) (cr_if_eq (off := 16) (dq_153 (a := 0) (b := 16) (by decide +kernel) rfl) (by decide) rfl)
set_option maxRecDepth 100000 in
theorem cb_X9_selfish_4 : ci_ok yX9_selfish cX9_selfish 3 4 (ci_seq (ci_load 2 0 5) 5 (ci_seq (ci_load 0 1 6) 6 (ci_seq (ci_push (.int 10) 8) 8 (ci_bin (fun a b => a - b) 9)))) := cq_ok (cr_aload_n (k := 0) (dq_42 (by decide +kernel)) rfl rfl) (cq_ok (cr_iload_n (k := 1) (dq_27 (by decide +kernel)) rfl rfl) (cq_ok (cr_bipush (n := 10) (dq_16 (a := 10) (by decide +kernel) rfl) (by decide +kernel) rfl) (cr_isub (dq_100 (by decide +kernel)) rfl)))
set_option maxRecDepth 100000 in
theorem cl_X9_selfish_9 : ci_calls yX9_selfish cX9_selfish 3 9 yX9_isFarm 2 (some 9) := cr_callV (idx := 245) zl_1015 ⟨by decide, by decide⟩ hp_X9_isFarm zc_9 zl_544 zl_545 (Or.inl zl_543) (dq_182 (a := 0) (b := 245) (by decide +kernel) rfl)
set_option maxRecDepth 100000 in
theorem cb_X9_selfish_12 : ci_ok yX9_selfish cX9_selfish 3 12 (ci_if (fun x => !decide (x = 0)) 17 15) := cr_if_ne (off := 5) (dq_154 (a := 0) (b := 5) (by decide +kernel) rfl) (by decide) rfl
set_option maxRecDepth 100000 in
theorem cb_X9_selfish_15 : ci_ok yX9_selfish cX9_selfish 3 15 (ci_push (.int (-1)) 16) := cr_iconst2 (n := -1) (dq_2 (by decide +kernel)) (by decide +kernel) rfl
set_option maxRecDepth 100000 in
theorem cd_X9_selfish_16 : decode cX9_selfish 16 = .ok (zi_rop (some .int), 1) := (dq_172 (by decide +kernel))
set_option maxRecDepth 100000 in
theorem cb_X9_selfish_17 : ci_ok yX9_selfish cX9_selfish 3 17 (ci_load 2 0 18) := cr_aload_n (k := 0) (dq_42 (by decide +kernel)) rfl rfl
set_option maxRecDepth 100000 in
theorem cl_X9_selfish_18 : ci_calls yX9_selfish cX9_selfish 3 18 yX9_selfishYear 1 (some 9) := cr_callV (idx := 334) zl_1061 ⟨by decide, by decide⟩ hp_X9_selfishYear zc_9 zl_621 zl_622 (Or.inl zl_620) (dq_182 (a := 1) (b := 78) (by decide +kernel) rfl)
set_option maxRecDepth 100000 in
theorem cb_X9_selfish_21 : ci_ok yX9_selfish cX9_selfish 3 21 (ci_seq (ci_store 0 2 22) 22 (ci_seq (ci_load 0 1 23) 23 (ci_if (fun x => !decide (x = 0)) 30 26))) := cq_ok (cr_istore_n (k := 2) (dq_61 (by decide +kernel)) rfl (by decide) rfl) (cq_ok (cr_iload_n (k := 1) (dq_27 (by decide +kernel)) rfl rfl) (cr_if_ne (off := 7) (dq_154 (a := 0) (b := 7) (by decide +kernel) rfl) (by decide) rfl))
set_option maxRecDepth 100000 in
theorem cb_X9_selfish_26 : ci_ok yX9_selfish cX9_selfish 3 26 (ci_seq (ci_load 0 2 27) 27 (ci_go 39)) := cq_ok (cr_iload_n (k := 2) (dq_28 (by decide +kernel)) rfl rfl) (cr_goto (off := 12) (dq_167 (a := 0) (b := 12) (by decide +kernel) rfl) (by decide))
set_option maxRecDepth 100000 in
theorem cb_X9_selfish_30 : ci_ok yX9_selfish cX9_selfish 3 30 (ci_seq (ci_load 2 0 31) 31 (ci_seq (ci_load 0 2 32) 32 (ci_seq (ci_load 0 1 33) 33 (ci_seq (ci_push (.int 10) 35) 35 (ci_bin (fun a b => a - b) 36))))) := cq_ok (cr_aload_n (k := 0) (dq_42 (by decide +kernel)) rfl rfl) (cq_ok (cr_iload_n (k := 2) (dq_28 (by decide +kernel)) rfl rfl) (cq_ok (cr_iload_n (k := 1) (dq_27 (by decide +kernel)) rfl rfl) (cq_ok (cr_bipush (n := 10) (dq_16 (a := 10) (by decide +kernel) rfl) (by decide +kernel) rfl) (cr_isub (dq_100 (by decide +kernel)) rfl))))
set_option maxRecDepth 100000 in
theorem cl_X9_selfish_36 : ci_calls yX9_selfish cX9_selfish 3 36 yX9_hasBy 3 (some 9) := cr_callV (idx := 289) zl_1043 ⟨by decide, by decide⟩ hp_X9_hasBy zc_9 zl_582 zl_583 (Or.inl zl_581) (dq_182 (a := 1) (b := 33) (by decide +kernel) rfl)
set_option maxRecDepth 100000 in
theorem cd_X9_selfish_39 : decode cX9_selfish 39 = .ok (zi_rop (some .int), 1) := (dq_172 (by decide +kernel))
set_option maxRecDepth 100000 in
theorem cb_X9_breaksOf_0 : ci_ok yX9_breaksOf cX9_breaksOf 7 0 (ci_seq (ci_push (.int 0) 1) 1 (ci_seq (ci_store 0 2 2) 2 (ci_seq (ci_push (.int 0) 3) 3 (ci_store 0 3 4)))) := cq_ok (cr_iconst2 (n := 0) (dq_3 (by decide +kernel)) (by decide +kernel) rfl) (cq_ok (cr_istore_n (k := 2) (dq_61 (by decide +kernel)) rfl (by decide) rfl) (cq_ok (cr_iconst2 (n := 0) (dq_3 (by decide +kernel)) (by decide +kernel) rfl) (cr_istore_n (k := 3) (dq_62 (by decide +kernel)) rfl (by decide) rfl)))
set_option maxRecDepth 100000 in
theorem cb_X9_breaksOf_4 : ci_ok yX9_breaksOf cX9_breaksOf 7 4 (ci_seq (ci_load 0 3 5) 5 (ci_seq (ci_load 2 0 6) 6 (ci_seq (ci_getf 9 4 9) 9 (ci_ic (fun x y => decide (y ≤ x)) 100 12)))) := cq_ok (cr_iload_n (k := 3) (dq_29 (by decide +kernel)) rfl rfl) (cq_ok (cr_aload_n (k := 0) (dq_42 (by decide +kernel)) rfl rfl) (cq_ok (cr_getf (idx := 126) zc_9 (by decide) zl_461 (dq_180 (a := 0) (b := 126) (by decide +kernel) rfl) rfl) (cr_ic_ge (off := 91) (dq_162 (a := 0) (b := 91) (by decide +kernel) rfl) (by decide) rfl)))
set_option maxRecDepth 100000 in
theorem cb_X9_breaksOf_12 : ci_ok yX9_breaksOf cX9_breaksOf 7 12 (ci_seq (ci_load 0 1 13) 13 (ci_load 0 3 14)) := cq_ok (cr_iload_n (k := 1) (dq_27 (by decide +kernel)) rfl rfl) (cr_iload_n (k := 3) (dq_29 (by decide +kernel)) rfl rfl)
set_option maxRecDepth 100000 in
theorem cl_X9_breaksOf_14 : ci_calls yX9_breaksOf cX9_breaksOf 7 14 yX9_timesOf 1 none := cr_callS (idx := 292) zl_1037 zl_654 ⟨by decide, by decide⟩ hp_X9_timesOf zl_585 (Or.inl zl_584) (dq_184 (a := 1) (b := 36) (by decide +kernel) rfl)
set_option maxRecDepth 100000 in
theorem cb_X9_breaksOf_17 : ci_ok yX9_breaksOf cX9_breaksOf 7 17 (ci_seq (ci_load 0 1 18) 18 (ci_load 0 3 19)) := cq_ok (cr_iload_n (k := 1) (dq_27 (by decide +kernel)) rfl rfl) (cr_iload_n (k := 3) (dq_29 (by decide +kernel)) rfl rfl)
set_option maxRecDepth 100000 in
theorem cl_X9_breaksOf_19 : ci_calls yX9_breaksOf cX9_breaksOf 7 19 yX9_cutOf 2 none := cr_callS (idx := 265) zl_1036 zl_654 ⟨by decide, by decide⟩ hp_X9_cutOf zl_560 (Or.inl zl_559) (dq_184 (a := 1) (b := 9) (by decide +kernel) rfl)
set_option maxRecDepth 100000 in
theorem cb_X9_breaksOf_22 : ci_ok yX9_breaksOf cX9_breaksOf 7 22 (ci_seq (ci_push (.int 1) 23) 23 (ci_seq (ci_bin (fun a b => a + b) 24) 24 (ci_seq (ci_bin (fun a b => a * b) 25) 25 (ci_seq (ci_bin (fun a b => a - b) 26) 26 (ci_seq (ci_store 0 4 28) 28 (ci_seq (ci_load 2 0 29) 29 (ci_seq (ci_load 0 1 30) 30 (ci_load 0 3 31)))))))) := cq_ok (cr_iconst2 (n := 1) (dq_4 (by decide +kernel)) (by decide +kernel) rfl) (cq_ok (cr_iadd (dq_96 (by decide +kernel)) rfl) (cq_ok (cr_imul (dq_104 (by decide +kernel)) rfl) (cq_ok (cr_isub (dq_100 (by decide +kernel)) rfl) (cq_ok (cr_istore (dq_54 (by decide +kernel)) (by decide) rfl) (cq_ok (cr_aload_n (k := 0) (dq_42 (by decide +kernel)) rfl rfl) (cq_ok (cr_iload_n (k := 1) (dq_27 (by decide +kernel)) rfl rfl) (cr_iload_n (k := 3) (dq_29 (by decide +kernel)) rfl rfl)))))))
set_option maxRecDepth 100000 in
theorem cl_X9_breaksOf_31 : ci_calls yX9_breaksOf cX9_breaksOf 7 31 yX9_hasBy 3 (some 9) := cr_callV (idx := 289) zl_1043 ⟨by decide, by decide⟩ hp_X9_hasBy zc_9 zl_582 zl_583 (Or.inl zl_581) (dq_182 (a := 1) (b := 33) (by decide +kernel) rfl)
set_option maxRecDepth 100000 in
theorem cb_X9_breaksOf_34 : ci_ok yX9_breaksOf cX9_breaksOf 7 34 (ci_seq (ci_store 0 5 36) 36 (ci_seq (ci_push (.int 0) 37) 37 (ci_store 0 6 39))) := cq_ok (cr_istore (dq_54 (by decide +kernel)) (by decide) rfl) (cq_ok (cr_iconst2 (n := 0) (dq_3 (by decide +kernel)) (by decide +kernel) rfl) (cr_istore (dq_54 (by decide +kernel)) (by decide) rfl))
set_option maxRecDepth 100000 in
theorem cb_X9_breaksOf_39 : ci_ok yX9_breaksOf cX9_breaksOf 7 39 (ci_seq (ci_load 0 6 41) 41 (ci_seq (ci_load 2 0 42) 42 (ci_seq (ci_getf 9 36 45) 45 (ci_seq (ci_load 0 3 46) 46 (ci_seq (ci_ald .int 47) 47 (ci_ic (fun x y => decide (y ≤ x)) 94 50)))))) := cq_ok (cr_iload (dq_21 (by decide +kernel)) rfl) (cq_ok (cr_aload_n (k := 0) (dq_42 (by decide +kernel)) rfl rfl) (cq_ok (cr_getf (idx := 47) zc_9 (by decide) zl_428 (dq_180 (a := 0) (b := 47) (by decide +kernel) rfl) rfl) (cq_ok (cr_iload_n (k := 3) (dq_29 (by decide +kernel)) rfl rfl) (cq_ok (cr_ald (ins := .iaload) rfl (dq_46 (by decide +kernel)) (Or.inl ⟨rfl, rfl⟩)) (cr_ic_ge (off := 47) (dq_162 (a := 0) (b := 47) (by decide +kernel) rfl) (by decide) rfl)))))
set_option maxRecDepth 100000 in
theorem cb_X9_breaksOf_50 : ci_ok yX9_breaksOf cX9_breaksOf 7 50 (ci_seq (ci_load 0 2 51) 51 (ci_seq (ci_load 2 0 52) 52 (ci_seq (ci_load 0 4 54) 54 (ci_seq (ci_load 2 0 55) 55 (ci_seq (ci_getf 9 35 58) 58 (ci_seq (ci_push (.int 9) 60) 60 (ci_seq (ci_load 0 3 61) 61 (ci_seq (ci_bin (fun a b => a * b) 62) 62 (ci_seq (ci_load 0 6 64) 64 (ci_seq (ci_bin (fun a b => a + b) 65) 65 (ci_seq (ci_ald .int 66) 66 (ci_seq (ci_bin (fun a b => a + b) 67) 67 (ci_load 0 3 68))))))))))))) := cq_ok (cr_iload_n (k := 2) (dq_28 (by decide +kernel)) rfl rfl) (cq_ok (cr_aload_n (k := 0) (dq_42 (by decide +kernel)) rfl rfl) (cq_ok (cr_iload (dq_21 (by decide +kernel)) rfl) (cq_ok (cr_aload_n (k := 0) (dq_42 (by decide +kernel)) rfl rfl) (cq_ok (cr_getf (idx := 44) zc_9 (by decide) zl_429 (dq_180 (a := 0) (b := 44) (by decide +kernel) rfl) rfl) (cq_ok (cr_bipush (n := 9) (dq_16 (a := 9) (by decide +kernel) rfl) (by decide +kernel) rfl) (cq_ok (cr_iload_n (k := 3) (dq_29 (by decide +kernel)) rfl rfl) (cq_ok (cr_imul (dq_104 (by decide +kernel)) rfl) (cq_ok (cr_iload (dq_21 (by decide +kernel)) rfl) (cq_ok (cr_iadd (dq_96 (by decide +kernel)) rfl) (cq_ok (cr_ald (ins := .iaload) rfl (dq_46 (by decide +kernel)) (Or.inl ⟨rfl, rfl⟩)) (cq_ok (cr_iadd (dq_96 (by decide +kernel)) rfl) (cr_iload_n (k := 3) (dq_29 (by decide +kernel)) rfl rfl))))))))))))
set_option maxRecDepth 100000 in
theorem cl_X9_breaksOf_68 : ci_calls yX9_breaksOf cX9_breaksOf 7 68 yX9_hasBy 3 (some 9) := cr_callV (idx := 289) zl_1043 ⟨by decide, by decide⟩ hp_X9_hasBy zc_9 zl_582 zl_583 (Or.inl zl_581) (dq_182 (a := 1) (b := 33) (by decide +kernel) rfl)
set_option maxRecDepth 100000 in
theorem cb_X9_breaksOf_71 : ci_ok yX9_breaksOf cX9_breaksOf 7 71 (ci_seq (ci_load 0 5 73) 73 (ci_ic (fun x y => decide (x ≤ y)) 80 76)) := cq_ok (cr_iload (dq_21 (by decide +kernel)) rfl) (cr_ic_le (off := 7) (dq_164 (a := 0) (b := 7) (by decide +kernel) rfl) (by decide) rfl)
set_option maxRecDepth 100000 in
theorem cb_X9_breaksOf_76 : ci_ok yX9_breaksOf cX9_breaksOf 7 76 (ci_seq (ci_push (.int 1) 77) 77 (ci_go 81)) := cq_ok (cr_iconst2 (n := 1) (dq_4 (by decide +kernel)) (by decide +kernel) rfl) (cr_goto (off := 4) (dq_167 (a := 0) (b := 4) (by decide +kernel) rfl) (by decide))
set_option maxRecDepth 100000 in
theorem cb_X9_breaksOf_80 : ci_ok yX9_breaksOf cX9_breaksOf 7 80 (ci_push (.int 0) 81) := cr_iconst2 (n := 0) (dq_3 (by decide +kernel)) (by decide +kernel) rfl
set_option maxRecDepth 100000 in
theorem cl_X9_breaksOf_81 : ci_calls yX9_breaksOf cX9_breaksOf 7 81 yX9_flag 1 none := cr_callS (idx := 237) zl_993 zl_654 ⟨by decide, by decide⟩ hp_X9_flag zl_539 (Or.inl zl_538) (dq_184 (a := 0) (b := 237) (by decide +kernel) rfl)
set_option maxRecDepth 100000 in
theorem cb_X9_breaksOf_84 : ci_ok yX9_breaksOf cX9_breaksOf 7 84 (ci_seq (ci_load 0 3 85) 85 (ci_seq (ci_bin (fun a b => a <<< (b &&& 31)) 86) 86 (ci_seq (ci_bin (fun a b => a ||| b) 87) 87 (ci_seq (ci_store 0 2 88) 88 (ci_seq (ci_inc 6 1 91) 91 (ci_go 39)))))) := cq_ok (cr_iload_n (k := 3) (dq_29 (by decide +kernel)) rfl rfl) (cq_ok (cr_ishl (dq_120 (by decide +kernel)) rfl) (cq_ok (cr_ior (dq_128 (by decide +kernel)) rfl) (cq_ok (cr_istore_n (k := 2) (dq_61 (by decide +kernel)) rfl (by decide) rfl) (cq_ok (ci_inc_ok (by decide) (dq_132 (a := 6) (b := 1) (by decide +kernel) rfl) rfl) (cr_goto (off := -52) (dq_167 (a := 255) (b := 204) (by decide +kernel) rfl) (by decide))))))
set_option maxRecDepth 100000 in
theorem cb_X9_breaksOf_94 : ci_ok yX9_breaksOf cX9_breaksOf 7 94 (ci_seq (ci_inc 3 1 97) 97 (ci_go 4)) := cq_ok (ci_inc_ok (by decide) (dq_132 (a := 3) (b := 1) (by decide +kernel) rfl) rfl) (cr_goto (off := -93) (dq_167 (a := 255) (b := 163) (by decide +kernel) rfl) (by decide))
set_option maxRecDepth 100000 in
theorem cb_X9_breaksOf_100 : ci_ok yX9_breaksOf cX9_breaksOf 7 100 (ci_load 0 2 101) := cr_iload_n (k := 2) (dq_28 (by decide +kernel)) rfl rfl
set_option maxRecDepth 100000 in
theorem cd_X9_breaksOf_101 : decode cX9_breaksOf 101 = .ok (zi_rop (some .int), 1) := (dq_172 (by decide +kernel))
set_option maxRecDepth 100000 in
theorem cb_X9_rests_0 : ci_ok yX9_rests cX9_rests 6 0 (ci_seq (ci_load 0 1 1) 1 (ci_seq (ci_i2l 2) 2 (ci_seq (ci_push (.long 0) 3) 3 (ci_push (.long 1) 4)))) := cq_ok (cr_iload_n (k := 1) (dq_27 (by decide +kernel)) rfl rfl) (cq_ok (cr_i2l (dq_133 (by decide +kernel)) rfl) (cq_ok (cr_lconst (n := 0) (dq_9 (by decide +kernel)) (by decide +kernel) rfl) (cr_lconst (n := 1) (dq_10 (by decide +kernel)) (by decide +kernel) rfl)))
set_option maxRecDepth 100000 in
theorem cl_X9_rests_4 : ci_calls yX9_rests cX9_rests 6 4 yX9_in 3 none := cr_callS (idx := 134) zl_992 zl_654 ⟨by decide, by decide⟩ hp_X9_in zl_467 (Or.inl zl_466) (dq_184 (a := 0) (b := 134) (by decide +kernel) rfl)
set_option maxRecDepth 100000 in
theorem cb_X9_rests_7 : ci_ok yX9_rests cX9_rests 6 7 (ci_if (fun x => !decide (x = 0)) 12 10) := cr_if_ne (off := 5) (dq_154 (a := 0) (b := 5) (by decide +kernel) rfl) (by decide) rfl
set_option maxRecDepth 100000 in
theorem cb_X9_rests_10 : ci_ok yX9_rests cX9_rests 6 10 (ci_push (.int (-1)) 11) := cr_iconst2 (n := -1) (dq_2 (by decide +kernel)) (by decide +kernel) rfl
set_option maxRecDepth 100000 in
theorem cd_X9_rests_11 : decode cX9_rests 11 = .ok (zi_rop (some .int), 1) := (dq_172 (by decide +kernel))
set_option maxRecDepth 100000 in
theorem cb_X9_rests_12 : ci_ok yX9_rests cX9_rests 6 12 (ci_load 2 0 13) := cr_aload_n (k := 0) (dq_42 (by decide +kernel)) rfl rfl
set_option maxRecDepth 100000 in
theorem cl_X9_rests_13 : ci_calls yX9_rests cX9_rests 6 13 yX9_findOptions 1 (some 9) := cr_callV (idx := 313) zl_1049 ⟨by decide, by decide⟩ hp_X9_findOptions zc_9 zl_601 zl_602 (Or.inl zl_600) (dq_182 (a := 1) (b := 57) (by decide +kernel) rfl)
set_option maxRecDepth 100000 in
theorem cb_X9_rests_16 : ci_ok yX9_rests cX9_rests 6 16 (ci_seq (ci_push (.int 0) 17) 17 (ci_seq (ci_store 0 2 18) 18 (ci_seq (ci_push (.int (-4)) 20) 20 (ci_seq (ci_store 0 3 21) 21 (ci_seq (ci_push (.int 0) 22) 22 (ci_store 0 4 24)))))) := cq_ok (cr_iconst2 (n := 0) (dq_3 (by decide +kernel)) (by decide +kernel) rfl) (cq_ok (cr_istore_n (k := 2) (dq_61 (by decide +kernel)) rfl (by decide) rfl) (cq_ok (cr_bipush (n := -4) (dq_16 (a := 252) (by decide +kernel) rfl) (by decide +kernel) rfl) (cq_ok (cr_istore_n (k := 3) (dq_62 (by decide +kernel)) rfl (by decide) rfl) (cq_ok (cr_iconst2 (n := 0) (dq_3 (by decide +kernel)) (by decide +kernel) rfl) (cr_istore (dq_54 (by decide +kernel)) (by decide) rfl)))))
set_option maxRecDepth 100000 in
theorem cb_X9_rests_24 : ci_ok yX9_rests cX9_rests 6 24 (ci_seq (ci_load 0 4 26) 26 (ci_load 2 0 27)) := cq_ok (cr_iload (dq_21 (by decide +kernel)) rfl) (cr_aload_n (k := 0) (dq_42 (by decide +kernel)) rfl rfl)
set_option maxRecDepth 100000 in
theorem cl_X9_rests_27 : ci_calls yX9_rests cX9_rests 6 27 yX9_allOptions 1 (some 9) := cr_callV (idx := 316) zl_1050 ⟨by decide, by decide⟩ hp_X9_allOptions zc_9 zl_604 zl_605 (Or.inl zl_603) (dq_182 (a := 1) (b := 60) (by decide +kernel) rfl)
set_option maxRecDepth 100000 in
theorem cb_X9_rests_30 : ci_ok yX9_rests cX9_rests 6 30 (ci_ic (fun x y => decide (y ≤ x)) 78 33) := cr_ic_ge (off := 48) (dq_162 (a := 0) (b := 48) (by decide +kernel) rfl) (by decide) rfl
set_option maxRecDepth 100000 in
theorem cb_X9_rests_33 : ci_ok yX9_rests cX9_rests 6 33 (ci_seq (ci_load 2 0 34) 34 (ci_load 0 4 36)) := cq_ok (cr_aload_n (k := 0) (dq_42 (by decide +kernel)) rfl rfl) (cr_iload (dq_21 (by decide +kernel)) rfl)
set_option maxRecDepth 100000 in
theorem cl_X9_rests_36 : ci_calls yX9_rests cX9_rests 6 36 yX9_yearAt 2 (some 9) := cr_callV (idx := 319) zl_1052 ⟨by decide, by decide⟩ hp_X9_yearAt zc_9 zl_610 zl_611 (Or.inl zl_609) (dq_182 (a := 1) (b := 63) (by decide +kernel) rfl)
set_option maxRecDepth 100000 in
theorem cb_X9_rests_39 : ci_ok yX9_rests cX9_rests 6 39 (ci_seq (ci_store 0 5 41) 41 (ci_seq (ci_load 2 0 42) 42 (ci_load 0 5 44))) := cq_ok (cr_istore (dq_54 (by decide +kernel)) (by decide) rfl) (cq_ok (cr_aload_n (k := 0) (dq_42 (by decide +kernel)) rfl rfl) (cr_iload (dq_21 (by decide +kernel)) rfl))
set_option maxRecDepth 100000 in
theorem cl_X9_rests_44 : ci_calls yX9_rests cX9_rests 6 44 yX9_breaksOf 2 (some 9) := cr_callV (idx := 337) zl_1063 ⟨by decide, by decide⟩ hp_X9_breaksOf zc_9 zl_624 zl_625 (Or.inl zl_623) (dq_182 (a := 1) (b := 81) (by decide +kernel) rfl)
set_option maxRecDepth 100000 in
theorem cb_X9_rests_47 : ci_ok yX9_rests cX9_rests 6 47 (ci_if (fun x => !decide (x = 0)) 72 50) := cr_if_ne (off := 25) (dq_154 (a := 0) (b := 25) (by decide +kernel) rfl) (by decide) rfl
set_option maxRecDepth 100000 in
theorem cb_X9_rests_50 : ci_ok yX9_rests cX9_rests 6 50 (ci_seq (ci_load 0 3 51) 51 (ci_seq (ci_push (.int (-4)) 53) 53 (ci_ic (fun x y => decide (x = y)) 62 56))) := cq_ok (cr_iload_n (k := 3) (dq_29 (by decide +kernel)) rfl rfl) (cq_ok (cr_bipush (n := -4) (dq_16 (a := 252) (by decide +kernel) rfl) (by decide +kernel) rfl) (cr_ic_eq (off := 9) (dq_159 (a := 0) (b := 9) (by decide +kernel) rfl) (by decide) rfl))
set_option maxRecDepth 100000 in
theorem cb_X9_rests_56 : ci_ok yX9_rests cX9_rests 6 56 (ci_seq (ci_load 0 5 58) 58 (ci_seq (ci_load 0 3 59) 59 (ci_ic (fun x y => decide (y ≤ x)) 67 62))) := cq_ok (cr_iload (dq_21 (by decide +kernel)) rfl) (cq_ok (cr_iload_n (k := 3) (dq_29 (by decide +kernel)) rfl rfl) (cr_ic_ge (off := 8) (dq_162 (a := 0) (b := 8) (by decide +kernel) rfl) (by decide) rfl))
set_option maxRecDepth 100000 in
theorem cb_X9_rests_62 : ci_ok yX9_rests cX9_rests 6 62 (ci_seq (ci_load 0 5 64) 64 (ci_go 68)) := cq_ok (cr_iload (dq_21 (by decide +kernel)) rfl) (cr_goto (off := 4) (dq_167 (a := 0) (b := 4) (by decide +kernel) rfl) (by decide))
set_option maxRecDepth 100000 in
theorem cb_X9_rests_67 : ci_ok yX9_rests cX9_rests 6 67 (ci_load 0 3 68) := cr_iload_n (k := 3) (dq_29 (by decide +kernel)) rfl rfl
set_option maxRecDepth 100000 in
theorem cb_X9_rests_68 : ci_ok yX9_rests cX9_rests 6 68 (ci_seq (ci_store 0 3 69) 69 (ci_inc 2 1 72)) := cq_ok (cr_istore_n (k := 3) (dq_62 (by decide +kernel)) rfl (by decide) rfl) (ci_inc_ok (by decide) (dq_132 (a := 2) (b := 1) (by decide +kernel) rfl) rfl)
set_option maxRecDepth 100000 in
theorem cb_X9_rests_72 : ci_ok yX9_rests cX9_rests 6 72 (ci_seq (ci_inc 4 1 75) 75 (ci_go 24)) := cq_ok (ci_inc_ok (by decide) (dq_132 (a := 4) (b := 1) (by decide +kernel) rfl) rfl) (cr_goto (off := -51) (dq_167 (a := 255) (b := 205) (by decide +kernel) rfl) (by decide))
set_option maxRecDepth 100000 in
theorem cb_X9_rests_78 : ci_ok yX9_rests cX9_rests 6 78 (ci_seq (ci_load 0 1 79) 79 (ci_if (fun x => !decide (x = 0)) 86 82)) := cq_ok (cr_iload_n (k := 1) (dq_27 (by decide +kernel)) rfl rfl) (cr_if_ne (off := 7) (dq_154 (a := 0) (b := 7) (by decide +kernel) rfl) (by decide) rfl)
set_option maxRecDepth 100000 in
theorem cb_X9_rests_82 : ci_ok yX9_rests cX9_rests 6 82 (ci_seq (ci_load 0 2 83) 83 (ci_go 87)) := cq_ok (cr_iload_n (k := 2) (dq_28 (by decide +kernel)) rfl rfl) (cr_goto (off := 4) (dq_167 (a := 0) (b := 4) (by decide +kernel) rfl) (by decide))
set_option maxRecDepth 100000 in
theorem cb_X9_rests_86 : ci_ok yX9_rests cX9_rests 6 86 (ci_load 0 3 87) := cr_iload_n (k := 3) (dq_29 (by decide +kernel)) rfl rfl
set_option maxRecDepth 100000 in
theorem cd_X9_rests_87 : decode cX9_rests 87 = .ok (zi_rop (some .int), 1) := (dq_172 (by decide +kernel))
set_option maxRecDepth 100000 in
theorem cb_X9_breaks_0 : ci_ok yX9_breaks cX9_breaks 2 0 (ci_load 0 1 1) := cr_iload_n (k := 1) (dq_27 (by decide +kernel)) rfl rfl
set_option maxRecDepth 100000 in
theorem cl_X9_breaks_1 : ci_calls yX9_breaks cX9_breaks 2 1 yX9_isYear 1 none := cr_callS (idx := 274) zl_1016 zl_654 ⟨by decide, by decide⟩ hp_X9_isYear zl_568 (Or.inl zl_567) (dq_184 (a := 1) (b := 18) (by decide +kernel) rfl)
set_option maxRecDepth 100000 in
theorem cb_X9_breaks_4 : ci_ok yX9_breaks cX9_breaks 2 4 (ci_if (fun x => !decide (x = 0)) 9 7) := cr_if_ne (off := 5) (dq_154 (a := 0) (b := 5) (by decide +kernel) rfl) (by decide) rfl
set_option maxRecDepth 100000 in
theorem cb_X9_breaks_7 : ci_ok yX9_breaks cX9_breaks 2 7 (ci_push (.int (-1)) 8) := cr_iconst2 (n := -1) (dq_2 (by decide +kernel)) (by decide +kernel) rfl
set_option maxRecDepth 100000 in
theorem cd_X9_breaks_8 : decode cX9_breaks 8 = .ok (zi_rop (some .int), 1) := (dq_172 (by decide +kernel))
set_option maxRecDepth 100000 in
theorem cb_X9_breaks_9 : ci_ok yX9_breaks cX9_breaks 2 9 (ci_seq (ci_load 2 0 10) 10 (ci_load 0 1 11)) := cq_ok (cr_aload_n (k := 0) (dq_42 (by decide +kernel)) rfl rfl) (cr_iload_n (k := 1) (dq_27 (by decide +kernel)) rfl rfl)
set_option maxRecDepth 100000 in
theorem cl_X9_breaks_11 : ci_calls yX9_breaks cX9_breaks 2 11 yX9_canBe 2 (some 9) := cr_callV (idx := 277) zl_1039 ⟨by decide, by decide⟩ hp_X9_canBe zc_9 zl_570 zl_571 (Or.inl zl_569) (dq_182 (a := 1) (b := 21) (by decide +kernel) rfl)
set_option maxRecDepth 100000 in
theorem cb_X9_breaks_14 : ci_ok yX9_breaks cX9_breaks 2 14 (ci_if (fun x => !decide (x = 0)) 20 17) := cr_if_ne (off := 6) (dq_154 (a := 0) (b := 6) (by decide +kernel) rfl) (by decide) rfl
set_option maxRecDepth 100000 in
theorem cb_X9_breaks_17 : ci_ok yX9_breaks cX9_breaks 2 17 (ci_push (.int (-2)) 19) := cr_bipush (n := -2) (dq_16 (a := 254) (by decide +kernel) rfl) (by decide +kernel) rfl
set_option maxRecDepth 100000 in
theorem cd_X9_breaks_19 : decode cX9_breaks 19 = .ok (zi_rop (some .int), 1) := (dq_172 (by decide +kernel))
set_option maxRecDepth 100000 in
theorem cb_X9_breaks_20 : ci_ok yX9_breaks cX9_breaks 2 20 (ci_load 2 0 21) := cr_aload_n (k := 0) (dq_42 (by decide +kernel)) rfl rfl
set_option maxRecDepth 100000 in
theorem cl_X9_breaks_21 : ci_calls yX9_breaks cX9_breaks 2 21 yX9_findOptions 1 (some 9) := cr_callV (idx := 313) zl_1049 ⟨by decide, by decide⟩ hp_X9_findOptions zc_9 zl_601 zl_602 (Or.inl zl_600) (dq_182 (a := 1) (b := 57) (by decide +kernel) rfl)
set_option maxRecDepth 100000 in
theorem cb_X9_breaks_24 : ci_ok yX9_breaks cX9_breaks 2 24 (ci_seq (ci_load 2 0 25) 25 (ci_load 0 1 26)) := cq_ok (cr_aload_n (k := 0) (dq_42 (by decide +kernel)) rfl rfl) (cr_iload_n (k := 1) (dq_27 (by decide +kernel)) rfl rfl)
set_option maxRecDepth 100000 in
theorem cl_X9_breaks_26 : ci_calls yX9_breaks cX9_breaks 2 26 yX9_breaksOf 2 (some 9) := cr_callV (idx := 337) zl_1063 ⟨by decide, by decide⟩ hp_X9_breaksOf zc_9 zl_624 zl_625 (Or.inl zl_623) (dq_182 (a := 1) (b := 81) (by decide +kernel) rfl)
set_option maxRecDepth 100000 in
theorem cd_X9_breaks_29 : decode cX9_breaks 29 = .ok (zi_rop (some .int), 1) := (dq_172 (by decide +kernel))
set_option maxRecDepth 100000 in
theorem cb_X9_stands_0 : ci_ok yX9_stands cX9_stands 4 0 (ci_seq (ci_load 2 0 1) 1 (ci_load 0 1 2)) := cq_ok (cr_aload_n (k := 0) (dq_42 (by decide +kernel)) rfl rfl) (cr_iload_n (k := 1) (dq_27 (by decide +kernel)) rfl rfl)
set_option maxRecDepth 100000 in
theorem cl_X9_stands_2 : ci_calls yX9_stands cX9_stands 4 2 yX9_isCell 2 (some 9) := cr_callV (idx := 241) zl_1014 ⟨by decide, by decide⟩ hp_X9_isCell zc_9 zl_541 zl_542 (Or.inl zl_540) (dq_182 (a := 0) (b := 241) (by decide +kernel) rfl)
set_option maxRecDepth 100000 in
theorem cb_X9_stands_5 : ci_ok yX9_stands cX9_stands 4 5 (ci_if (fun x => !decide (x = 0)) 10 8) := cr_if_ne (off := 5) (dq_154 (a := 0) (b := 5) (by decide +kernel) rfl) (by decide) rfl
set_option maxRecDepth 100000 in
theorem cb_X9_stands_8 : ci_ok yX9_stands cX9_stands 4 8 (ci_push (.int (-1)) 9) := cr_iconst2 (n := -1) (dq_2 (by decide +kernel)) (by decide +kernel) rfl
set_option maxRecDepth 100000 in
theorem cd_X9_stands_9 : decode cX9_stands 9 = .ok (zi_rop (some .int), 1) := (dq_172 (by decide +kernel))
set_option maxRecDepth 100000 in
theorem cb_X9_stands_10 : ci_ok yX9_stands cX9_stands 4 10 (ci_load 2 0 11) := cr_aload_n (k := 0) (dq_42 (by decide +kernel)) rfl rfl
set_option maxRecDepth 100000 in
theorem cl_X9_stands_11 : ci_calls yX9_stands cX9_stands 4 11 yX9_bedNow 1 (some 9) := cr_callV (idx := 230) zl_1020 ⟨by decide, by decide⟩ hp_X9_bedNow zc_9 zl_533 zl_534 (Or.inl zl_532) (dq_182 (a := 0) (b := 230) (by decide +kernel) rfl)
set_option maxRecDepth 100000 in
theorem cb_X9_stands_14 : ci_ok yX9_stands cX9_stands 4 14 (ci_seq (ci_load 0 1 15) 15 (ci_seq (ci_bin (fun a b => a >>> (b &&& 31)) 16) 16 (ci_seq (ci_push (.int 1) 17) 17 (ci_seq (ci_bin (fun a b => a &&& b) 18) 18 (ci_if (fun x => !decide (x = 0)) 24 21))))) := cq_ok (cr_iload_n (k := 1) (dq_27 (by decide +kernel)) rfl rfl) (cq_ok (cr_ishr (dq_122 (by decide +kernel)) rfl) (cq_ok (cr_iconst2 (n := 1) (dq_4 (by decide +kernel)) (by decide +kernel) rfl) (cq_ok (cr_iand (dq_126 (by decide +kernel)) rfl) (cr_if_ne (off := 6) (dq_154 (a := 0) (b := 6) (by decide +kernel) rfl) (by decide) rfl))))
set_option maxRecDepth 100000 in
theorem cb_X9_stands_21 : ci_ok yX9_stands cX9_stands 4 21 (ci_push (.int (-2)) 23) := cr_bipush (n := -2) (dq_16 (a := 254) (by decide +kernel) rfl) (by decide +kernel) rfl
set_option maxRecDepth 100000 in
theorem cd_X9_stands_23 : decode cX9_stands 23 = .ok (zi_rop (some .int), 1) := (dq_172 (by decide +kernel))
set_option maxRecDepth 100000 in
theorem cb_X9_stands_24 : ci_ok yX9_stands cX9_stands 4 24 (ci_load 2 0 25) := cr_aload_n (k := 0) (dq_42 (by decide +kernel)) rfl rfl
set_option maxRecDepth 100000 in
theorem cl_X9_stands_25 : ci_calls yX9_stands cX9_stands 4 25 yX9_marks 1 (some 9) := cr_callV (idx := 283) zl_1034 ⟨by decide, by decide⟩ hp_X9_marks zc_9 zl_579 zl_580 (Or.inl zl_578) (dq_182 (a := 1) (b := 27) (by decide +kernel) rfl)
set_option maxRecDepth 100000 in
theorem cb_X9_stands_28 : ci_ok yX9_stands cX9_stands 4 28 (ci_seq (ci_push (.int 0) 29) 29 (ci_seq (ci_store 0 2 30) 30 (ci_seq (ci_push (.int 1) 31) 31 (ci_store 0 3 32)))) := cq_ok (cr_iconst2 (n := 0) (dq_3 (by decide +kernel)) (by decide +kernel) rfl) (cq_ok (cr_istore_n (k := 2) (dq_61 (by decide +kernel)) rfl (by decide) rfl) (cq_ok (cr_iconst2 (n := 1) (dq_4 (by decide +kernel)) (by decide +kernel) rfl) (cr_istore_n (k := 3) (dq_62 (by decide +kernel)) rfl (by decide) rfl)))
set_option maxRecDepth 100000 in
theorem cb_X9_stands_32 : ci_ok yX9_stands cX9_stands 4 32 (ci_seq (ci_load 0 3 33) 33 (ci_if (fun x => decide (x = 0)) 74 36)) := cq_ok (cr_iload_n (k := 3) (dq_29 (by decide +kernel)) rfl rfl) (cr_if_eq (off := 41) (dq_153 (a := 0) (b := 41) (by decide +kernel) rfl) (by decide) rfl)
set_option maxRecDepth 100000 in
theorem cb_X9_stands_36 : ci_ok yX9_stands cX9_stands 4 36 (ci_seq (ci_load 0 2 37) 37 (ci_seq (ci_push (.int 20) 39) 39 (ci_ic (fun x y => decide (y ≤ x)) 74 42))) := cq_ok (cr_iload_n (k := 2) (dq_28 (by decide +kernel)) rfl rfl) (cq_ok (cr_bipush (n := 20) (dq_16 (a := 20) (by decide +kernel) rfl) (by decide +kernel) rfl) (cr_ic_ge (off := 35) (dq_162 (a := 0) (b := 35) (by decide +kernel) rfl) (by decide) rfl))
set_option maxRecDepth 100000 in
theorem cb_X9_stands_42 : ci_ok yX9_stands cX9_stands 4 42 (ci_load 2 0 43) := cr_aload_n (k := 0) (dq_42 (by decide +kernel)) rfl rfl
set_option maxRecDepth 100000 in
theorem cl_X9_stands_43 : ci_calls yX9_stands cX9_stands 4 43 yX9_silts 1 (some 9) := cr_callV (idx := 271) zl_1040 ⟨by decide, by decide⟩ hp_X9_silts zc_9 zl_565 zl_566 (Or.inl zl_564) (dq_182 (a := 1) (b := 15) (by decide +kernel) rfl)
set_option maxRecDepth 100000 in
theorem cb_X9_stands_46 : ci_ok yX9_stands cX9_stands 4 46 (ci_load 2 0 47) := cr_aload_n (k := 0) (dq_42 (by decide +kernel)) rfl rfl
set_option maxRecDepth 100000 in
theorem cl_X9_stands_47 : ci_calls yX9_stands cX9_stands 4 47 yX9_bedNow 1 (some 9) := cr_callV (idx := 230) zl_1020 ⟨by decide, by decide⟩ hp_X9_bedNow zc_9 zl_533 zl_534 (Or.inl zl_532) (dq_182 (a := 0) (b := 230) (by decide +kernel) rfl)
set_option maxRecDepth 100000 in
theorem cb_X9_stands_50 : ci_ok yX9_stands cX9_stands 4 50 (ci_seq (ci_load 0 1 51) 51 (ci_seq (ci_bin (fun a b => a >>> (b &&& 31)) 52) 52 (ci_seq (ci_push (.int 1) 53) 53 (ci_seq (ci_bin (fun a b => a &&& b) 54) 54 (ci_seq (ci_push (.int 1) 55) 55 (ci_ic (fun x y => !decide (x = y)) 62 58)))))) := cq_ok (cr_iload_n (k := 1) (dq_27 (by decide +kernel)) rfl rfl) (cq_ok (cr_ishr (dq_122 (by decide +kernel)) rfl) (cq_ok (cr_iconst2 (n := 1) (dq_4 (by decide +kernel)) (by decide +kernel) rfl) (cq_ok (cr_iand (dq_126 (by decide +kernel)) rfl) (cq_ok (cr_iconst2 (n := 1) (dq_4 (by decide +kernel)) (by decide +kernel) rfl) (cr_ic_ne (off := 7) (dq_160 (a := 0) (b := 7) (by decide +kernel) rfl) (by decide) rfl)))))
set_option maxRecDepth 100000 in
theorem cb_X9_stands_58 : ci_ok yX9_stands cX9_stands 4 58 (ci_seq (ci_push (.int 1) 59) 59 (ci_go 63)) := cq_ok (cr_iconst2 (n := 1) (dq_4 (by decide +kernel)) (by decide +kernel) rfl) (cr_goto (off := 4) (dq_167 (a := 0) (b := 4) (by decide +kernel) rfl) (by decide))
set_option maxRecDepth 100000 in
theorem cb_X9_stands_62 : ci_ok yX9_stands cX9_stands 4 62 (ci_push (.int 0) 63) := cr_iconst2 (n := 0) (dq_3 (by decide +kernel)) (by decide +kernel) rfl
set_option maxRecDepth 100000 in
theorem cb_X9_stands_63 : ci_ok yX9_stands cX9_stands 4 63 (ci_seq (ci_store 0 3 64) 64 (ci_seq (ci_load 0 2 65) 65 (ci_load 0 3 66))) := cq_ok (cr_istore_n (k := 3) (dq_62 (by decide +kernel)) rfl (by decide) rfl) (cq_ok (cr_iload_n (k := 2) (dq_28 (by decide +kernel)) rfl rfl) (cr_iload_n (k := 3) (dq_29 (by decide +kernel)) rfl rfl))
set_option maxRecDepth 100000 in
theorem cl_X9_stands_66 : ci_calls yX9_stands cX9_stands 4 66 yX9_flag 1 none := cr_callS (idx := 237) zl_993 zl_654 ⟨by decide, by decide⟩ hp_X9_flag zl_539 (Or.inl zl_538) (dq_184 (a := 0) (b := 237) (by decide +kernel) rfl)
set_option maxRecDepth 100000 in
theorem cb_X9_stands_69 : ci_ok yX9_stands cX9_stands 4 69 (ci_seq (ci_bin (fun a b => a + b) 70) 70 (ci_seq (ci_store 0 2 71) 71 (ci_go 32))) := cq_ok (cr_iadd (dq_96 (by decide +kernel)) rfl) (cq_ok (cr_istore_n (k := 2) (dq_61 (by decide +kernel)) rfl (by decide) rfl) (cr_goto (off := -39) (dq_167 (a := 255) (b := 217) (by decide +kernel) rfl) (by decide)))
set_option maxRecDepth 100000 in
theorem cb_X9_stands_74 : ci_ok yX9_stands cX9_stands 4 74 (ci_load 2 0 75) := cr_aload_n (k := 0) (dq_42 (by decide +kernel)) rfl rfl
set_option maxRecDepth 100000 in
theorem cl_X9_stands_75 : ci_calls yX9_stands cX9_stands 4 75 yX9_returns 1 (some 9) := cr_callV (idx := 286) zl_1035 ⟨by decide, by decide⟩ hp_X9_returns zc_9 zl_576 zl_577 (Or.inl zl_575) (dq_182 (a := 1) (b := 30) (by decide +kernel) rfl)
set_option maxRecDepth 100000 in
theorem cb_X9_stands_78 : ci_ok yX9_stands cX9_stands 4 78 (ci_load 0 2 79) := cr_iload_n (k := 2) (dq_28 (by decide +kernel)) rfl rfl
set_option maxRecDepth 100000 in
theorem cd_X9_stands_79 : decode cX9_stands 79 = .ok (zi_rop (some .int), 1) := (dq_172 (by decide +kernel))
set_option maxRecDepth 100000 in
theorem cb_X9_areAlike_0 : ci_ok yX9_areAlike cX9_areAlike 5 0 (ci_seq (ci_push (.int 1) 1) 1 (ci_seq (ci_store 0 3 2) 2 (ci_seq (ci_push (.int 0) 3) 3 (ci_store 0 4 5)))) := cq_ok (cr_iconst2 (n := 1) (dq_4 (by decide +kernel)) (by decide +kernel) rfl) (cq_ok (cr_istore_n (k := 3) (dq_62 (by decide +kernel)) rfl (by decide) rfl) (cq_ok (cr_iconst2 (n := 0) (dq_3 (by decide +kernel)) (by decide +kernel) rfl) (cr_istore (dq_54 (by decide +kernel)) (by decide) rfl)))
set_option maxRecDepth 100000 in
theorem cb_X9_areAlike_5 : ci_ok yX9_areAlike cX9_areAlike 5 5 (ci_seq (ci_load 0 4 7) 7 (ci_seq (ci_push (.int 25) 9) 9 (ci_ic (fun x y => decide (y ≤ x)) 55 12))) := cq_ok (cr_iload (dq_21 (by decide +kernel)) rfl) (cq_ok (cr_bipush (n := 25) (dq_16 (a := 25) (by decide +kernel) rfl) (by decide +kernel) rfl) (cr_ic_ge (off := 46) (dq_162 (a := 0) (b := 46) (by decide +kernel) rfl) (by decide) rfl))
set_option maxRecDepth 100000 in
theorem cb_X9_areAlike_12 : ci_ok yX9_areAlike cX9_areAlike 5 12 (ci_seq (ci_load 0 3 13) 13 (ci_if (fun x => decide (x = 0)) 47 16)) := cq_ok (cr_iload_n (k := 3) (dq_29 (by decide +kernel)) rfl rfl) (cr_if_eq (off := 34) (dq_153 (a := 0) (b := 34) (by decide +kernel) rfl) (by decide) rfl)
set_option maxRecDepth 100000 in
theorem cb_X9_areAlike_16 : ci_ok yX9_areAlike cX9_areAlike 5 16 (ci_seq (ci_load 2 0 17) 17 (ci_seq (ci_getf 9 41 20) 20 (ci_seq (ci_push (.int 25) 22) 22 (ci_seq (ci_load 0 1 23) 23 (ci_seq (ci_bin (fun a b => a * b) 24) 24 (ci_seq (ci_load 0 4 26) 26 (ci_seq (ci_bin (fun a b => a + b) 27) 27 (ci_seq (ci_ald .int 28) 28 (ci_seq (ci_load 2 0 29) 29 (ci_seq (ci_getf 9 41 32) 32 (ci_seq (ci_push (.int 25) 34) 34 (ci_seq (ci_load 0 2 35) 35 (ci_seq (ci_bin (fun a b => a * b) 36) 36 (ci_seq (ci_load 0 4 38) 38 (ci_seq (ci_bin (fun a b => a + b) 39) 39 (ci_seq (ci_ald .int 40) 40 (ci_ic (fun x y => !decide (x = y)) 47 43))))))))))))))))) := cq_ok (cr_aload_n (k := 0) (dq_42 (by decide +kernel)) rfl rfl) (cq_ok (cr_getf (idx := 62) zc_9 (by decide) zl_423 (dq_180 (a := 0) (b := 62) (by decide +kernel) rfl) rfl) (cq_ok (cr_bipush (n := 25) (dq_16 (a := 25) (by decide +kernel) rfl) (by decide +kernel) rfl) (cq_ok (cr_iload_n (k := 1) (dq_27 (by decide +kernel)) rfl rfl) (cq_ok (cr_imul (dq_104 (by decide +kernel)) rfl) (cq_ok (cr_iload (dq_21 (by decide +kernel)) rfl) (cq_ok (cr_iadd (dq_96 (by decide +kernel)) rfl) (cq_ok (cr_ald (ins := .iaload) rfl (dq_46 (by decide +kernel)) (Or.inl ⟨rfl, rfl⟩)) (cq_ok (cr_aload_n (k := 0) (dq_42 (by decide +kernel)) rfl rfl) (cq_ok (cr_getf (idx := 62) zc_9 (by decide) zl_423 (dq_180 (a := 0) (b := 62) (by decide +kernel) rfl) rfl) (cq_ok (cr_bipush (n := 25) (dq_16 (a := 25) (by decide +kernel) rfl) (by decide +kernel) rfl) (cq_ok (cr_iload_n (k := 2) (dq_28 (by decide +kernel)) rfl rfl) (cq_ok (cr_imul (dq_104 (by decide +kernel)) rfl) (cq_ok (cr_iload (dq_21 (by decide +kernel)) rfl) (cq_ok (cr_iadd (dq_96 (by decide +kernel)) rfl) (cq_ok (cr_ald (ins := .iaload) rfl (dq_46 (by decide +kernel)) (Or.inl ⟨rfl, rfl⟩)) (cr_ic_ne (off := 7) (dq_160 (a := 0) (b := 7) (by decide +kernel) rfl) (by decide) rfl))))))))))))))))
set_option maxRecDepth 100000 in
theorem cb_X9_areAlike_43 : ci_ok yX9_areAlike cX9_areAlike 5 43 (ci_seq (ci_push (.int 1) 44) 44 (ci_go 48)) := cq_ok (cr_iconst2 (n := 1) (dq_4 (by decide +kernel)) (by decide +kernel) rfl) (cr_goto (off := 4) (dq_167 (a := 0) (b := 4) (by decide +kernel) rfl) (by decide))
set_option maxRecDepth 100000 in
theorem cb_X9_areAlike_47 : ci_ok yX9_areAlike cX9_areAlike 5 47 (ci_push (.int 0) 48) := cr_iconst2 (n := 0) (dq_3 (by decide +kernel)) (by decide +kernel) rfl
set_option maxRecDepth 100000 in
theorem cb_X9_areAlike_48 : ci_ok yX9_areAlike cX9_areAlike 5 48 (ci_seq (ci_store 0 3 49) 49 (ci_seq (ci_inc 4 1 52) 52 (ci_go 5))) := cq_ok (cr_istore_n (k := 3) (dq_62 (by decide +kernel)) rfl (by decide) rfl) (cq_ok (ci_inc_ok (by decide) (dq_132 (a := 4) (b := 1) (by decide +kernel) rfl) rfl) (cr_goto (off := -47) (dq_167 (a := 255) (b := 209) (by decide +kernel) rfl) (by decide)))
set_option maxRecDepth 100000 in
theorem cb_X9_areAlike_55 : ci_ok yX9_areAlike cX9_areAlike 5 55 (ci_load 0 3 56) := cr_iload_n (k := 3) (dq_29 (by decide +kernel)) rfl rfl
set_option maxRecDepth 100000 in
theorem cd_X9_areAlike_56 : decode cX9_areAlike 56 = .ok (zi_rop (some .boolean), 1) := (dq_172 (by decide +kernel))
set_option maxRecDepth 100000 in
theorem cb_X9_again_0 : ci_ok yX9_again cX9_again 6 0 (ci_seq (ci_load 0 1 1) 1 (ci_seq (ci_i2l 2) 2 (ci_seq (ci_push (.long 0) 3) 3 (ci_push (.long 1) 4)))) := cq_ok (cr_iload_n (k := 1) (dq_27 (by decide +kernel)) rfl rfl) (cq_ok (cr_i2l (dq_133 (by decide +kernel)) rfl) (cq_ok (cr_lconst (n := 0) (dq_9 (by decide +kernel)) (by decide +kernel) rfl) (cr_lconst (n := 1) (dq_10 (by decide +kernel)) (by decide +kernel) rfl)))
set_option maxRecDepth 100000 in
theorem cl_X9_again_4 : ci_calls yX9_again cX9_again 6 4 yX9_in 3 none := cr_callS (idx := 134) zl_992 zl_654 ⟨by decide, by decide⟩ hp_X9_in zl_467 (Or.inl zl_466) (dq_184 (a := 0) (b := 134) (by decide +kernel) rfl)
set_option maxRecDepth 100000 in
theorem cb_X9_again_7 : ci_ok yX9_again cX9_again 6 7 (ci_if (fun x => !decide (x = 0)) 12 10) := cr_if_ne (off := 5) (dq_154 (a := 0) (b := 5) (by decide +kernel) rfl) (by decide) rfl
set_option maxRecDepth 100000 in
theorem cb_X9_again_10 : ci_ok yX9_again cX9_again 6 10 (ci_push (.int (-1)) 11) := cr_iconst2 (n := -1) (dq_2 (by decide +kernel)) (by decide +kernel) rfl
set_option maxRecDepth 100000 in
theorem cd_X9_again_11 : decode cX9_again 11 = .ok (zi_rop (some .int), 1) := (dq_172 (by decide +kernel))
set_option maxRecDepth 100000 in
theorem cb_X9_again_12 : ci_ok yX9_again cX9_again 6 12 (ci_load 2 0 13) := cr_aload_n (k := 0) (dq_42 (by decide +kernel)) rfl rfl
set_option maxRecDepth 100000 in
theorem cl_X9_again_13 : ci_calls yX9_again cX9_again 6 13 yX9_marks 1 (some 9) := cr_callV (idx := 283) zl_1034 ⟨by decide, by decide⟩ hp_X9_marks zc_9 zl_579 zl_580 (Or.inl zl_578) (dq_182 (a := 1) (b := 27) (by decide +kernel) rfl)
set_option maxRecDepth 100000 in
theorem cb_X9_again_16 : ci_ok yX9_again cX9_again 6 16 (ci_seq (ci_push (.int (-4)) 18) 18 (ci_seq (ci_store 0 2 19) 19 (ci_seq (ci_push (.int (-4)) 21) 21 (ci_seq (ci_store 0 3 22) 22 (ci_seq (ci_push (.int 0) 23) 23 (ci_store 0 4 25)))))) := cq_ok (cr_bipush (n := -4) (dq_16 (a := 252) (by decide +kernel) rfl) (by decide +kernel) rfl) (cq_ok (cr_istore_n (k := 2) (dq_61 (by decide +kernel)) rfl (by decide) rfl) (cq_ok (cr_bipush (n := -4) (dq_16 (a := 252) (by decide +kernel) rfl) (by decide +kernel) rfl) (cq_ok (cr_istore_n (k := 3) (dq_62 (by decide +kernel)) rfl (by decide) rfl) (cq_ok (cr_iconst2 (n := 0) (dq_3 (by decide +kernel)) (by decide +kernel) rfl) (cr_istore (dq_54 (by decide +kernel)) (by decide) rfl)))))
set_option maxRecDepth 100000 in
theorem cb_X9_again_25 : ci_ok yX9_again cX9_again 6 25 (ci_seq (ci_load 0 4 27) 27 (ci_seq (ci_push (.int 60) 29) 29 (ci_ic (fun x y => decide (y < x)) 121 32))) := cq_ok (cr_iload (dq_21 (by decide +kernel)) rfl) (cq_ok (cr_bipush (n := 60) (dq_16 (a := 60) (by decide +kernel) rfl) (by decide +kernel) rfl) (cr_ic_gt (off := 92) (dq_163 (a := 0) (b := 92) (by decide +kernel) rfl) (by decide) rfl))
set_option maxRecDepth 100000 in
theorem cb_X9_again_32 : ci_ok yX9_again cX9_again 6 32 (ci_seq (ci_load 0 2 33) 33 (ci_seq (ci_push (.int (-4)) 35) 35 (ci_ic (fun x y => !decide (x = y)) 121 38))) := cq_ok (cr_iload_n (k := 2) (dq_28 (by decide +kernel)) rfl rfl) (cq_ok (cr_bipush (n := -4) (dq_16 (a := 252) (by decide +kernel) rfl) (by decide +kernel) rfl) (cr_ic_ne (off := 86) (dq_160 (a := 0) (b := 86) (by decide +kernel) rfl) (by decide) rfl))
set_option maxRecDepth 100000 in
theorem cb_X9_again_38 : ci_ok yX9_again cX9_again 6 38 (ci_seq (ci_push (.int 0) 39) 39 (ci_store 0 5 41)) := cq_ok (cr_iconst2 (n := 0) (dq_3 (by decide +kernel)) (by decide +kernel) rfl) (cr_istore (dq_54 (by decide +kernel)) (by decide) rfl)
set_option maxRecDepth 100000 in
theorem cb_X9_again_41 : ci_ok yX9_again cX9_again 6 41 (ci_seq (ci_load 0 5 43) 43 (ci_seq (ci_push (.int 25) 45) 45 (ci_ic (fun x y => decide (y ≤ x)) 74 48))) := cq_ok (cr_iload (dq_21 (by decide +kernel)) rfl) (cq_ok (cr_bipush (n := 25) (dq_16 (a := 25) (by decide +kernel) rfl) (by decide +kernel) rfl) (cr_ic_ge (off := 29) (dq_162 (a := 0) (b := 29) (by decide +kernel) rfl) (by decide) rfl))
set_option maxRecDepth 100000 in
theorem cb_X9_again_48 : ci_ok yX9_again cX9_again 6 48 (ci_seq (ci_load 2 0 49) 49 (ci_seq (ci_getf 9 41 52) 52 (ci_seq (ci_push (.int 25) 54) 54 (ci_seq (ci_load 0 4 56) 56 (ci_seq (ci_bin (fun a b => a * b) 57) 57 (ci_seq (ci_load 0 5 59) 59 (ci_seq (ci_bin (fun a b => a + b) 60) 60 (ci_seq (ci_load 2 0 61) 61 (ci_seq (ci_getf 9 0 64) 64 (ci_seq (ci_load 0 5 66) 66 (ci_seq (ci_ald .int 67) 67 (ci_seq (ci_ast .int 68) 68 (ci_seq (ci_inc 5 1 71) 71 (ci_go 41)))))))))))))) := cq_ok (cr_aload_n (k := 0) (dq_42 (by decide +kernel)) rfl rfl) (cq_ok (cr_getf (idx := 62) zc_9 (by decide) zl_423 (dq_180 (a := 0) (b := 62) (by decide +kernel) rfl) rfl) (cq_ok (cr_bipush (n := 25) (dq_16 (a := 25) (by decide +kernel) rfl) (by decide +kernel) rfl) (cq_ok (cr_iload (dq_21 (by decide +kernel)) rfl) (cq_ok (cr_imul (dq_104 (by decide +kernel)) rfl) (cq_ok (cr_iload (dq_21 (by decide +kernel)) rfl) (cq_ok (cr_iadd (dq_96 (by decide +kernel)) rfl) (cq_ok (cr_aload_n (k := 0) (dq_42 (by decide +kernel)) rfl rfl) (cq_ok (cr_getf (idx := 7) zc_9 (by decide) zl_441 (dq_180 (a := 0) (b := 7) (by decide +kernel) rfl) rfl) (cq_ok (cr_iload (dq_21 (by decide +kernel)) rfl) (cq_ok (cr_ald (ins := .iaload) rfl (dq_46 (by decide +kernel)) (Or.inl ⟨rfl, rfl⟩)) (cq_ok (cr_ast (ins := .iastore) rfl (dq_79 (by decide +kernel)) (Or.inl ⟨rfl, rfl⟩)) (cq_ok (ci_inc_ok (by decide) (dq_132 (a := 5) (b := 1) (by decide +kernel) rfl) rfl) (cr_goto (off := -30) (dq_167 (a := 255) (b := 226) (by decide +kernel) rfl) (by decide))))))))))))))
set_option maxRecDepth 100000 in
theorem cb_X9_again_74 : ci_ok yX9_again cX9_again 6 74 (ci_seq (ci_load 0 4 76) 76 (ci_seq (ci_push (.int 1) 77) 77 (ci_seq (ci_bin (fun a b => a - b) 78) 78 (ci_store 0 5 80)))) := cq_ok (cr_iload (dq_21 (by decide +kernel)) rfl) (cq_ok (cr_iconst2 (n := 1) (dq_4 (by decide +kernel)) (by decide +kernel) rfl) (cq_ok (cr_isub (dq_100 (by decide +kernel)) rfl) (cr_istore (dq_54 (by decide +kernel)) (by decide) rfl)))
set_option maxRecDepth 100000 in
theorem cb_X9_again_80 : ci_ok yX9_again cX9_again 6 80 (ci_seq (ci_load 0 5 82) 82 (ci_if (fun x => decide (x < 0)) 111 85)) := cq_ok (cr_iload (dq_21 (by decide +kernel)) rfl) (cr_if_lt (off := 29) (dq_155 (a := 0) (b := 29) (by decide +kernel) rfl) (by decide) rfl)
set_option maxRecDepth 100000 in
theorem cb_X9_again_85 : ci_ok yX9_again cX9_again 6 85 (ci_seq (ci_load 2 0 86) 86 (ci_seq (ci_load 0 5 88) 88 (ci_load 0 4 90))) := cq_ok (cr_aload_n (k := 0) (dq_42 (by decide +kernel)) rfl rfl) (cq_ok (cr_iload (dq_21 (by decide +kernel)) rfl) (cr_iload (dq_21 (by decide +kernel)) rfl))
set_option maxRecDepth 100000 in
theorem cl_X9_again_90 : ci_calls yX9_again cX9_again 6 90 yX9_areAlike 3 (some 9) := cr_callV (idx := 340) zl_1067 ⟨by decide, by decide⟩ hp_X9_areAlike zc_9 zl_627 zl_628 (Or.inl zl_626) (dq_182 (a := 1) (b := 84) (by decide +kernel) rfl)
set_option maxRecDepth 100000 in
theorem cb_X9_again_93 : ci_ok yX9_again cX9_again 6 93 (ci_if (fun x => decide (x = 0)) 105 96) := cr_if_eq (off := 12) (dq_153 (a := 0) (b := 12) (by decide +kernel) rfl) (by decide) rfl
set_option maxRecDepth 100000 in
theorem cb_X9_again_96 : ci_ok yX9_again cX9_again 6 96 (ci_seq (ci_load 0 5 98) 98 (ci_seq (ci_store 0 2 99) 99 (ci_seq (ci_load 0 4 101) 101 (ci_seq (ci_load 0 5 103) 103 (ci_seq (ci_bin (fun a b => a - b) 104) 104 (ci_store 0 3 105)))))) := cq_ok (cr_iload (dq_21 (by decide +kernel)) rfl) (cq_ok (cr_istore_n (k := 2) (dq_61 (by decide +kernel)) rfl (by decide) rfl) (cq_ok (cr_iload (dq_21 (by decide +kernel)) rfl) (cq_ok (cr_iload (dq_21 (by decide +kernel)) rfl) (cq_ok (cr_isub (dq_100 (by decide +kernel)) rfl) (cr_istore_n (k := 3) (dq_62 (by decide +kernel)) rfl (by decide) rfl)))))
set_option maxRecDepth 100000 in
theorem cb_X9_again_105 : ci_ok yX9_again cX9_again 6 105 (ci_seq (ci_inc 5 (-1) 108) 108 (ci_go 80)) := cq_ok (ci_inc_ok (by decide) (dq_132 (a := 5) (b := 255) (by decide +kernel) rfl) rfl) (cr_goto (off := -28) (dq_167 (a := 255) (b := 228) (by decide +kernel) rfl) (by decide))
set_option maxRecDepth 100000 in
theorem cb_X9_again_111 : ci_ok yX9_again cX9_again 6 111 (ci_load 2 0 112) := cr_aload_n (k := 0) (dq_42 (by decide +kernel)) rfl rfl
set_option maxRecDepth 100000 in
theorem cl_X9_again_112 : ci_calls yX9_again cX9_again 6 112 yX9_silts 1 (some 9) := cr_callV (idx := 271) zl_1040 ⟨by decide, by decide⟩ hp_X9_silts zc_9 zl_565 zl_566 (Or.inl zl_564) (dq_182 (a := 1) (b := 15) (by decide +kernel) rfl)
set_option maxRecDepth 100000 in
theorem cb_X9_again_115 : ci_ok yX9_again cX9_again 6 115 (ci_seq (ci_inc 4 1 118) 118 (ci_go 25)) := cq_ok (ci_inc_ok (by decide) (dq_132 (a := 4) (b := 1) (by decide +kernel) rfl) rfl) (cr_goto (off := -93) (dq_167 (a := 255) (b := 163) (by decide +kernel) rfl) (by decide))
set_option maxRecDepth 100000 in
theorem cb_X9_again_121 : ci_ok yX9_again cX9_again 6 121 (ci_load 2 0 122) := cr_aload_n (k := 0) (dq_42 (by decide +kernel)) rfl rfl
set_option maxRecDepth 100000 in
theorem cl_X9_again_122 : ci_calls yX9_again cX9_again 6 122 yX9_returns 1 (some 9) := cr_callV (idx := 286) zl_1035 ⟨by decide, by decide⟩ hp_X9_returns zc_9 zl_576 zl_577 (Or.inl zl_575) (dq_182 (a := 1) (b := 30) (by decide +kernel) rfl)
set_option maxRecDepth 100000 in
theorem cb_X9_again_125 : ci_ok yX9_again cX9_again 6 125 (ci_seq (ci_load 0 1 126) 126 (ci_if (fun x => !decide (x = 0)) 133 129)) := cq_ok (cr_iload_n (k := 1) (dq_27 (by decide +kernel)) rfl rfl) (cr_if_ne (off := 7) (dq_154 (a := 0) (b := 7) (by decide +kernel) rfl) (by decide) rfl)
set_option maxRecDepth 100000 in
theorem cb_X9_again_129 : ci_ok yX9_again cX9_again 6 129 (ci_seq (ci_load 0 2 130) 130 (ci_go 134)) := cq_ok (cr_iload_n (k := 2) (dq_28 (by decide +kernel)) rfl rfl) (cr_goto (off := 4) (dq_167 (a := 0) (b := 4) (by decide +kernel) rfl) (by decide))
set_option maxRecDepth 100000 in
theorem cb_X9_again_133 : ci_ok yX9_again cX9_again 6 133 (ci_load 0 3 134) := cr_iload_n (k := 3) (dq_29 (by decide +kernel)) rfl rfl
set_option maxRecDepth 100000 in
theorem cd_X9_again_134 : decode cX9_again 134 = .ok (zi_rop (some .int), 1) := (dq_172 (by decide +kernel))
set_option maxRecDepth 100000 in
theorem cb_X9_common_0 : ci_ok yX9_common cX9_common 10 0 (ci_seq (ci_load 1 0 1) 1 (ci_seq (ci_storel 4 3) 3 (ci_seq (ci_load 1 2 4) 4 (ci_storel 6 6)))) := cq_ok (cr_lload_n (k := 0) (dq_30 (by decide +kernel)) rfl rfl) (cq_ok (cr_lstore (dq_55 (by decide +kernel)) (by decide) rfl) (cq_ok (cr_lload_n (k := 2) (dq_32 (by decide +kernel)) rfl rfl) (cr_lstore (dq_55 (by decide +kernel)) (by decide) rfl)))
set_option maxRecDepth 100000 in
theorem cb_X9_common_6 : ci_ok yX9_common cX9_common 10 6 (ci_seq (ci_load 1 6 8) 8 (ci_seq (ci_push (.long 0) 9) 9 (ci_seq (ci_lcmp 10) 10 (ci_if (fun x => decide (x = 0)) 31 13)))) := cq_ok (cr_lload (dq_22 (by decide +kernel)) rfl) (cq_ok (cr_lconst (n := 0) (dq_9 (by decide +kernel)) (by decide +kernel) rfl) (cq_ok (cr_lcmp (dq_148 (by decide +kernel)) rfl) (cr_if_eq (off := 21) (dq_153 (a := 0) (b := 21) (by decide +kernel) rfl) (by decide) rfl)))
set_option maxRecDepth 100000 in
theorem cb_X9_common_13 : ci_ok yX9_common cX9_common 10 13 (ci_seq (ci_load 1 4 15) 15 (ci_seq (ci_load 1 6 17) 17 (ci_seq (ci_dvl (fun a b => a - a / b * b) 18) 18 (ci_seq (ci_storel 8 20) 20 (ci_seq (ci_load 1 6 22) 22 (ci_seq (ci_storel 4 24) 24 (ci_seq (ci_load 1 8 26) 26 (ci_seq (ci_storel 6 28) 28 (ci_go 6))))))))) := cq_ok (cr_lload (dq_22 (by decide +kernel)) rfl) (cq_ok (cr_lload (dq_22 (by decide +kernel)) rfl) (cq_ok (cr_lrem (dq_113 (by decide +kernel)) rfl) (cq_ok (cr_lstore (dq_55 (by decide +kernel)) (by decide) rfl) (cq_ok (cr_lload (dq_22 (by decide +kernel)) rfl) (cq_ok (cr_lstore (dq_55 (by decide +kernel)) (by decide) rfl) (cq_ok (cr_lload (dq_22 (by decide +kernel)) rfl) (cq_ok (cr_lstore (dq_55 (by decide +kernel)) (by decide) rfl) (cr_goto (off := -22) (dq_167 (a := 255) (b := 234) (by decide +kernel) rfl) (by decide)))))))))
set_option maxRecDepth 100000 in
theorem cb_X9_common_31 : ci_ok yX9_common cX9_common 10 31 (ci_load 1 4 33) := cr_lload (dq_22 (by decide +kernel)) rfl
set_option maxRecDepth 100000 in
theorem cd_X9_common_33 : decode cX9_common 33 = .ok (zi_rop (some .long), 1) := (dq_173 (by decide +kernel))
set_option maxRecDepth 100000 in
theorem cb_X9_odds_0 : ci_ok yX9_odds cX9_odds 8 0 (ci_seq (ci_load 2 0 1) 1 (ci_load 0 1 2)) := cq_ok (cr_aload_n (k := 0) (dq_42 (by decide +kernel)) rfl rfl) (cr_iload_n (k := 1) (dq_27 (by decide +kernel)) rfl rfl)
set_option maxRecDepth 100000 in
theorem cl_X9_odds_2 : ci_calls yX9_odds cX9_odds 8 2 yX9_isCell 2 (some 9) := cr_callV (idx := 241) zl_1014 ⟨by decide, by decide⟩ hp_X9_isCell zc_9 zl_541 zl_542 (Or.inl zl_540) (dq_182 (a := 0) (b := 241) (by decide +kernel) rfl)
set_option maxRecDepth 100000 in
theorem cb_X9_odds_5 : ci_ok yX9_odds cX9_odds 8 5 (ci_if (fun x => decide (x = 0)) 18 8) := cr_if_eq (off := 13) (dq_153 (a := 0) (b := 13) (by decide +kernel) rfl) (by decide) rfl
set_option maxRecDepth 100000 in
theorem cb_X9_odds_8 : ci_ok yX9_odds cX9_odds 8 8 (ci_seq (ci_load 0 2 9) 9 (ci_seq (ci_i2l 10) 10 (ci_seq (ci_push (.long 0) 11) 11 (ci_push (.long 1) 12)))) := cq_ok (cr_iload_n (k := 2) (dq_28 (by decide +kernel)) rfl rfl) (cq_ok (cr_i2l (dq_133 (by decide +kernel)) rfl) (cq_ok (cr_lconst (n := 0) (dq_9 (by decide +kernel)) (by decide +kernel) rfl) (cr_lconst (n := 1) (dq_10 (by decide +kernel)) (by decide +kernel) rfl)))
set_option maxRecDepth 100000 in
theorem cl_X9_odds_12 : ci_calls yX9_odds cX9_odds 8 12 yX9_in 3 none := cr_callS (idx := 134) zl_992 zl_654 ⟨by decide, by decide⟩ hp_X9_in zl_467 (Or.inl zl_466) (dq_184 (a := 0) (b := 134) (by decide +kernel) rfl)
set_option maxRecDepth 100000 in
theorem cb_X9_odds_15 : ci_ok yX9_odds cX9_odds 8 15 (ci_if (fun x => !decide (x = 0)) 22 18) := cr_if_ne (off := 7) (dq_154 (a := 0) (b := 7) (by decide +kernel) rfl) (by decide) rfl
set_option maxRecDepth 100000 in
theorem cb_X9_odds_18 : ci_ok yX9_odds cX9_odds 8 18 (ci_push (.long (-1)) 21) := cr_ldc2 zl_629 (dq_20 (a := 1) (b := 87) (by decide +kernel) rfl) rfl
set_option maxRecDepth 100000 in
theorem cd_X9_odds_21 : decode cX9_odds 21 = .ok (zi_rop (some .long), 1) := (dq_173 (by decide +kernel))
set_option maxRecDepth 100000 in
theorem cb_X9_odds_22 : ci_ok yX9_odds cX9_odds 8 22 (ci_load 2 0 23) := cr_aload_n (k := 0) (dq_42 (by decide +kernel)) rfl rfl
set_option maxRecDepth 100000 in
theorem cl_X9_odds_23 : ci_calls yX9_odds cX9_odds 8 23 yX9_findOptions 1 (some 9) := cr_callV (idx := 313) zl_1049 ⟨by decide, by decide⟩ hp_X9_findOptions zc_9 zl_601 zl_602 (Or.inl zl_600) (dq_182 (a := 1) (b := 57) (by decide +kernel) rfl)
set_option maxRecDepth 100000 in
theorem cb_X9_odds_26 : ci_ok yX9_odds cX9_odds 8 26 (ci_load 2 0 27) := cr_aload_n (k := 0) (dq_42 (by decide +kernel)) rfl rfl
set_option maxRecDepth 100000 in
theorem cl_X9_odds_27 : ci_calls yX9_odds cX9_odds 8 27 yX9_allOptions 1 (some 9) := cr_callV (idx := 316) zl_1050 ⟨by decide, by decide⟩ hp_X9_allOptions zc_9 zl_604 zl_605 (Or.inl zl_603) (dq_182 (a := 1) (b := 60) (by decide +kernel) rfl)
set_option maxRecDepth 100000 in
theorem cb_X9_odds_30 : ci_ok yX9_odds cX9_odds 8 30 (ci_seq (ci_store 0 3 31) 31 (ci_seq (ci_push (.long 0) 32) 32 (ci_seq (ci_storel 4 34) 34 (ci_seq (ci_push (.int 0) 35) 35 (ci_store 0 6 37))))) := cq_ok (cr_istore_n (k := 3) (dq_62 (by decide +kernel)) rfl (by decide) rfl) (cq_ok (cr_lconst (n := 0) (dq_9 (by decide +kernel)) (by decide +kernel) rfl) (cq_ok (cr_lstore (dq_55 (by decide +kernel)) (by decide) rfl) (cq_ok (cr_iconst2 (n := 0) (dq_3 (by decide +kernel)) (by decide +kernel) rfl) (cr_istore (dq_54 (by decide +kernel)) (by decide) rfl))))
set_option maxRecDepth 100000 in
theorem cb_X9_odds_37 : ci_ok yX9_odds cX9_odds 8 37 (ci_seq (ci_load 0 6 39) 39 (ci_seq (ci_load 0 3 40) 40 (ci_ic (fun x y => decide (y ≤ x)) 69 43))) := cq_ok (cr_iload (dq_21 (by decide +kernel)) rfl) (cq_ok (cr_iload_n (k := 3) (dq_29 (by decide +kernel)) rfl rfl) (cr_ic_ge (off := 29) (dq_162 (a := 0) (b := 29) (by decide +kernel) rfl) (by decide) rfl))
