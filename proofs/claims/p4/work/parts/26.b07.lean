set_option maxRecDepth 100000 in
theorem cb_X9_readGround_0 : ci_ok yX9_readGround cX9_readGround 4 0 (ci_seq (ci_load 2 0 1) 1 (ci_seq (ci_push (.int 0) 2) 2 (ci_push (.int 2) 3))) := cq_ok (cr_aload_n (k := 0) (by decide +kernel) rfl rfl) (cq_ok (cr_iconst2 (n := 0) (by decide +kernel) (by decide +kernel) rfl) (cr_iconst2 (n := 2) (by decide +kernel) (by decide +kernel) rfl))
set_option maxRecDepth 100000 in
theorem cl_X9_readGround_3 : ci_calls yX9_readGround cX9_readGround 4 3 yX9_readNumber 3 (some 9) := cr_callV (idx := 191) zl_1006 ⟨by decide, by decide⟩ (by decide +kernel) zc_9 zl_500 zl_501 (Or.inl zl_499) (by decide +kernel)
set_option maxRecDepth 100000 in
theorem cb_X9_readGround_6 : ci_ok yX9_readGround cX9_readGround 4 6 (ci_seq (ci_store 0 1 7) 7 (ci_seq (ci_load 2 0 8) 8 (ci_seq (ci_load 0 1 9) 9 (ci_seq (ci_load 2 0 10) 10 (ci_seq (ci_getf 9 21 13) 13 (ci_ic (fun x y => decide (x ≤ y)) 20 16)))))) := cq_ok (cr_istore_n (k := 1) (by decide +kernel) rfl (by decide) rfl) (cq_ok (cr_aload_n (k := 0) (by decide +kernel) rfl rfl) (cq_ok (cr_iload_n (k := 1) (by decide +kernel) rfl rfl) (cq_ok (cr_aload_n (k := 0) (by decide +kernel) rfl rfl) (cq_ok (cr_getf (idx := 117) zc_9 (by decide) zl_455 (by decide +kernel) rfl) (cr_ic_le (off := 7) (by decide +kernel) (by decide) rfl)))))
set_option maxRecDepth 100000 in
theorem cb_X9_readGround_16 : ci_ok yX9_readGround cX9_readGround 4 16 (ci_seq (ci_load 0 1 17) 17 (ci_go 24)) := cq_ok (cr_iload_n (k := 1) (by decide +kernel) rfl rfl) (cr_goto (off := 7) (by decide +kernel) (by decide))
set_option maxRecDepth 100000 in
theorem cb_X9_readGround_20 : ci_ok yX9_readGround cX9_readGround 4 20 (ci_seq (ci_load 2 0 21) 21 (ci_getf 9 21 24)) := cq_ok (cr_aload_n (k := 0) (by decide +kernel) rfl rfl) (cr_getf (idx := 117) zc_9 (by decide) zl_455 (by decide +kernel) rfl)
set_option maxRecDepth 100000 in
theorem cb_X9_readGround_24 : ci_ok yX9_readGround cX9_readGround 4 24 (ci_seq (ci_putf 9 21 .int 27) 27 (ci_seq (ci_push (.int 1) 28) 28 (ci_store 0 2 29))) := cq_ok (cr_putf (idx := 117) zc_9 (by decide) (by decide +kernel) rfl zl_455 (by decide +kernel) rfl) (cq_ok (cr_iconst2 (n := 1) (by decide +kernel) (by decide +kernel) rfl) (cr_istore_n (k := 2) (by decide +kernel) rfl (by decide) rfl))
set_option maxRecDepth 100000 in
theorem cb_X9_readGround_29 : ci_ok yX9_readGround cX9_readGround 4 29 (ci_seq (ci_load 2 0 30) 30 (ci_seq (ci_getf 9 28 33) 33 (ci_if (fun x => !decide (x = 0)) 155 36))) := cq_ok (cr_aload_n (k := 0) (by decide +kernel) rfl rfl) (cq_ok (cr_getf (idx := 138) zc_9 (by decide) zl_468 (by decide +kernel) rfl) (cr_if_ne (off := 122) (by decide +kernel) (by decide) rfl))
set_option maxRecDepth 100000 in
theorem cb_X9_readGround_36 : ci_ok yX9_readGround cX9_readGround 4 36 (ci_seq (ci_load 0 2 37) 37 (ci_if (fun x => decide (x = 0)) 155 40)) := cq_ok (cr_iload_n (k := 2) (by decide +kernel) rfl rfl) (cr_if_eq (off := 118) (by decide +kernel) (by decide) rfl)
set_option maxRecDepth 100000 in
theorem cb_X9_readGround_40 : ci_ok yX9_readGround cX9_readGround 4 40 (ci_seq (ci_load 2 0 41) 41 (ci_seq (ci_load 2 0 42) 42 (ci_seq (ci_getf 9 26 45) 45 (ci_seq (ci_push (.int 2) 46) 46 (ci_ic (fun x y => !decide (x = y)) 60 49))))) := cq_ok (cr_aload_n (k := 0) (by decide +kernel) rfl rfl) (cq_ok (cr_aload_n (k := 0) (by decide +kernel) rfl rfl) (cq_ok (cr_getf (idx := 166) zc_9 (by decide) zl_484 (by decide +kernel) rfl) (cq_ok (cr_iconst2 (n := 2) (by decide +kernel) (by decide +kernel) rfl) (cr_ic_ne (off := 14) (by decide +kernel) (by decide) rfl))))
set_option maxRecDepth 100000 in
theorem cb_X9_readGround_49 : ci_ok yX9_readGround cX9_readGround 4 49 (ci_seq (ci_load 2 0 50) 50 (ci_seq (ci_getf 9 15 53) 53 (ci_seq (ci_load 0 1 54) 54 (ci_seq (ci_ald .int 55) 55 (ci_seq (ci_push (.int 8) 57) 57 (ci_ic (fun x y => decide (y ≤ x)) 64 60)))))) := cq_ok (cr_aload_n (k := 0) (by decide +kernel) rfl rfl) (cq_ok (cr_getf (idx := 29) zc_9 (by decide) zl_434 (by decide +kernel) rfl) (cq_ok (cr_iload_n (k := 1) (by decide +kernel) rfl rfl) (cq_ok (cr_ald (ins := .iaload) rfl (by decide +kernel) (Or.inl ⟨rfl, rfl⟩)) (cq_ok (cr_bipush (n := 8) (by decide +kernel) (by decide +kernel) rfl) (cr_ic_ge (off := 7) (by decide +kernel) (by decide) rfl)))))
set_option maxRecDepth 100000 in
theorem cb_X9_readGround_60 : ci_ok yX9_readGround cX9_readGround 4 60 (ci_seq (ci_push (.int 1) 61) 61 (ci_go 65)) := cq_ok (cr_iconst2 (n := 1) (by decide +kernel) (by decide +kernel) rfl) (cr_goto (off := 4) (by decide +kernel) (by decide))
set_option maxRecDepth 100000 in
theorem cb_X9_readGround_64 : ci_ok yX9_readGround cX9_readGround 4 64 (ci_push (.int 0) 65) := cr_iconst2 (n := 0) (by decide +kernel) (by decide +kernel) rfl
set_option maxRecDepth 100000 in
theorem cb_X9_readGround_65 : ci_ok yX9_readGround cX9_readGround 4 65 (ci_push (.int 5) 66) := cr_iconst2 (n := 5) (by decide +kernel) (by decide +kernel) rfl
set_option maxRecDepth 100000 in
theorem cl_X9_readGround_66 : ci_calls yX9_readGround cX9_readGround 4 66 yX9_needs 3 (some 9) := cr_callV (idx := 180) zl_998 ⟨by decide, by decide⟩ (by decide +kernel) zc_9 zl_491 zl_492 (Or.inl zl_490) (by decide +kernel)
set_option maxRecDepth 100000 in
theorem cb_X9_readGround_69 : ci_ok yX9_readGround cX9_readGround 4 69 (ci_seq (ci_load 2 0 70) 70 (ci_seq (ci_push (.int 0) 71) 71 (ci_push (.int 24) 73))) := cq_ok (cr_aload_n (k := 0) (by decide +kernel) rfl rfl) (cq_ok (cr_iconst2 (n := 0) (by decide +kernel) (by decide +kernel) rfl) (cr_bipush (n := 24) (by decide +kernel) (by decide +kernel) rfl))
set_option maxRecDepth 100000 in
theorem cl_X9_readGround_73 : ci_calls yX9_readGround cX9_readGround 4 73 yX9_looked 3 (some 9) := cr_callV (idx := 184) zl_1005 ⟨by decide, by decide⟩ (by decide +kernel) zc_9 zl_497 zl_498 (Or.inl zl_496) (by decide +kernel)
set_option maxRecDepth 100000 in
theorem cb_X9_readGround_76 : ci_ok yX9_readGround cX9_readGround 4 76 (ci_seq (ci_store 0 3 77) 77 (ci_seq (ci_load 2 0 78) 78 (ci_seq (ci_getf 9 28 81) 81 (ci_if (fun x => !decide (x = 0)) 105 84)))) := cq_ok (cr_istore_n (k := 3) (by decide +kernel) rfl (by decide) rfl) (cq_ok (cr_aload_n (k := 0) (by decide +kernel) rfl rfl) (cq_ok (cr_getf (idx := 138) zc_9 (by decide) zl_468 (by decide +kernel) rfl) (cr_if_ne (off := 24) (by decide +kernel) (by decide) rfl)))
set_option maxRecDepth 100000 in
theorem cb_X9_readGround_84 : ci_ok yX9_readGround cX9_readGround 4 84 (ci_seq (ci_load 2 0 85) 85 (ci_seq (ci_load 2 0 86) 86 (ci_seq (ci_getf 9 14 89) 89 (ci_seq (ci_load 0 3 90) 90 (ci_seq (ci_ald .int 91) 91 (ci_seq (ci_push (.int (-4)) 93) 93 (ci_ic (fun x y => !decide (x = y)) 100 96))))))) := cq_ok (cr_aload_n (k := 0) (by decide +kernel) rfl rfl) (cq_ok (cr_aload_n (k := 0) (by decide +kernel) rfl rfl) (cq_ok (cr_getf (idx := 26) zc_9 (by decide) zl_435 (by decide +kernel) rfl) (cq_ok (cr_iload_n (k := 3) (by decide +kernel) rfl rfl) (cq_ok (cr_ald (ins := .iaload) rfl (by decide +kernel) (Or.inl ⟨rfl, rfl⟩)) (cq_ok (cr_bipush (n := -4) (by decide +kernel) (by decide +kernel) rfl) (cr_ic_ne (off := 7) (by decide +kernel) (by decide) rfl))))))
set_option maxRecDepth 100000 in
theorem cb_X9_readGround_96 : ci_ok yX9_readGround cX9_readGround 4 96 (ci_seq (ci_push (.int 1) 97) 97 (ci_go 101)) := cq_ok (cr_iconst2 (n := 1) (by decide +kernel) (by decide +kernel) rfl) (cr_goto (off := 4) (by decide +kernel) (by decide))
set_option maxRecDepth 100000 in
theorem cb_X9_readGround_100 : ci_ok yX9_readGround cX9_readGround 4 100 (ci_push (.int 0) 101) := cr_iconst2 (n := 0) (by decide +kernel) (by decide +kernel) rfl
set_option maxRecDepth 100000 in
theorem cb_X9_readGround_101 : ci_ok yX9_readGround cX9_readGround 4 101 (ci_push (.int 4) 102) := cr_iconst2 (n := 4) (by decide +kernel) (by decide +kernel) rfl
set_option maxRecDepth 100000 in
theorem cl_X9_readGround_102 : ci_calls yX9_readGround cX9_readGround 4 102 yX9_needs 3 (some 9) := cr_callV (idx := 180) zl_998 ⟨by decide, by decide⟩ (by decide +kernel) zc_9 zl_491 zl_492 (Or.inl zl_490) (by decide +kernel)
set_option maxRecDepth 100000 in
theorem cb_X9_readGround_105 : ci_ok yX9_readGround cX9_readGround 4 105 (ci_seq (ci_load 2 0 106) 106 (ci_seq (ci_getf 9 28 109) 109 (ci_if (fun x => !decide (x = 0)) 134 112))) := cq_ok (cr_aload_n (k := 0) (by decide +kernel) rfl rfl) (cq_ok (cr_getf (idx := 138) zc_9 (by decide) zl_468 (by decide +kernel) rfl) (cr_if_ne (off := 25) (by decide +kernel) (by decide) rfl))
set_option maxRecDepth 100000 in
theorem cb_X9_readGround_112 : ci_ok yX9_readGround cX9_readGround 4 112 (ci_seq (ci_load 2 0 113) 113 (ci_seq (ci_getf 9 14 116) 116 (ci_seq (ci_load 0 3 117) 117 (ci_seq (ci_load 0 1 118) 118 (ci_seq (ci_ast .int 119) 119 (ci_seq (ci_load 2 0 120) 120 (ci_seq (ci_getf 9 15 123) 123 (ci_seq (ci_load 0 1 124) 124 (ci_seq (ci_dup2 125) 125 (ci_seq (ci_ald .int 126) 126 (ci_seq (ci_push (.int 1) 127) 127 (ci_seq (ci_bin (fun a b => a + b) 128) 128 (ci_seq (ci_ast .int 129) 129 (ci_seq (ci_load 2 0 130) 130 (ci_load 0 3 131))))))))))))))) := cq_ok (cr_aload_n (k := 0) (by decide +kernel) rfl rfl) (cq_ok (cr_getf (idx := 26) zc_9 (by decide) zl_435 (by decide +kernel) rfl) (cq_ok (cr_iload_n (k := 3) (by decide +kernel) rfl rfl) (cq_ok (cr_iload_n (k := 1) (by decide +kernel) rfl rfl) (cq_ok (cr_ast (ins := .iastore) rfl (by decide +kernel) (Or.inl ⟨rfl, rfl⟩)) (cq_ok (cr_aload_n (k := 0) (by decide +kernel) rfl rfl) (cq_ok (cr_getf (idx := 29) zc_9 (by decide) zl_434 (by decide +kernel) rfl) (cq_ok (cr_iload_n (k := 1) (by decide +kernel) rfl rfl) (cq_ok (cr_dup2 (by decide +kernel) rfl) (cq_ok (cr_ald (ins := .iaload) rfl (by decide +kernel) (Or.inl ⟨rfl, rfl⟩)) (cq_ok (cr_iconst2 (n := 1) (by decide +kernel) (by decide +kernel) rfl) (cq_ok (cr_iadd (by decide +kernel) rfl) (cq_ok (cr_ast (ins := .iastore) rfl (by decide +kernel) (Or.inl ⟨rfl, rfl⟩)) (cq_ok (cr_aload_n (k := 0) (by decide +kernel) rfl rfl) (cr_iload_n (k := 3) (by decide +kernel) rfl rfl))))))))))))))
set_option maxRecDepth 100000 in
theorem cl_X9_readGround_131 : ci_calls yX9_readGround cX9_readGround 4 131 yX9_sawCell 2 (some 9) := cr_callV (idx := 194) zl_1008 ⟨by decide, by decide⟩ (by decide +kernel) zc_9 zl_503 zl_504 (Or.inl zl_502) (by decide +kernel)
set_option maxRecDepth 100000 in
theorem cb_X9_readGround_134 : ci_ok yX9_readGround cX9_readGround 4 134 (ci_load 2 0 135) := cr_aload_n (k := 0) (by decide +kernel) rfl rfl
set_option maxRecDepth 100000 in
theorem cl_X9_readGround_135 : ci_calls yX9_readGround cX9_readGround 4 135 yX9_next 1 (some 9) := cr_callV (idx := 188) zl_1004 ⟨by decide, by decide⟩ (by decide +kernel) zc_9 zl_494 zl_495 (Or.inl zl_493) (by decide +kernel)
set_option maxRecDepth 100000 in
theorem cb_X9_readGround_138 : ci_ok yX9_readGround cX9_readGround 4 138 (ci_seq (ci_load 2 0 139) 139 (ci_seq (ci_getf 9 26 142) 142 (ci_seq (ci_push (.int 2) 143) 143 (ci_ic (fun x y => !decide (x = y)) 150 146)))) := cq_ok (cr_aload_n (k := 0) (by decide +kernel) rfl rfl) (cq_ok (cr_getf (idx := 166) zc_9 (by decide) zl_484 (by decide +kernel) rfl) (cq_ok (cr_iconst2 (n := 2) (by decide +kernel) (by decide +kernel) rfl) (cr_ic_ne (off := 7) (by decide +kernel) (by decide) rfl)))
set_option maxRecDepth 100000 in
theorem cb_X9_readGround_146 : ci_ok yX9_readGround cX9_readGround 4 146 (ci_seq (ci_push (.int 1) 147) 147 (ci_go 151)) := cq_ok (cr_iconst2 (n := 1) (by decide +kernel) (by decide +kernel) rfl) (cr_goto (off := 4) (by decide +kernel) (by decide))
set_option maxRecDepth 100000 in
theorem cb_X9_readGround_150 : ci_ok yX9_readGround cX9_readGround 4 150 (ci_push (.int 0) 151) := cr_iconst2 (n := 0) (by decide +kernel) (by decide +kernel) rfl
set_option maxRecDepth 100000 in
theorem cb_X9_readGround_151 : ci_ok yX9_readGround cX9_readGround 4 151 (ci_seq (ci_store 0 2 152) 152 (ci_go 29)) := cq_ok (cr_istore_n (k := 2) (by decide +kernel) rfl (by decide) rfl) (cr_goto (off := -123) (by decide +kernel) (by decide))
set_option maxRecDepth 100000 in
theorem cd_X9_readGround_155 : decode cX9_readGround 155 = .ok (zi_rop none, 1) := by decide +kernel
set_option maxRecDepth 100000 in
theorem cb_X9_readLineOf_0 : ci_ok yX9_readLineOf cX9_readLineOf 2 0 (ci_seq (ci_load 0 1 1) 1 (ci_tsw 0 5 [40, 63, 85, 98, 106, 113] 142)) := cq_ok (cr_iload_n (k := 1) (by decide +kernel) rfl rfl) (cr_tsw (dflt := 141) (lo := 0) (hi := 5) (offs := #[39, 62, 84, 97, 105, 112]) (len := 39) (by decide +kernel) (by decide) (by decide +kernel))
set_option maxRecDepth 100000 in
theorem cb_X9_readLineOf_40 : ci_ok yX9_readLineOf cX9_readLineOf 2 40 (ci_seq (ci_load 2 0 41) 41 (ci_seq (ci_load 2 0 42) 42 (ci_seq (ci_push (.int 2) 43) 43 (ci_push (.int 5) 44)))) := cq_ok (cr_aload_n (k := 0) (by decide +kernel) rfl rfl) (cq_ok (cr_aload_n (k := 0) (by decide +kernel) rfl rfl) (cq_ok (cr_iconst2 (n := 2) (by decide +kernel) (by decide +kernel) rfl) (cr_iconst2 (n := 5) (by decide +kernel) (by decide +kernel) rfl)))
set_option maxRecDepth 100000 in
theorem cl_X9_readLineOf_44 : ci_calls yX9_readLineOf cX9_readLineOf 2 44 yX9_readNumber 3 (some 9) := cr_callV (idx := 191) zl_1006 ⟨by decide, by decide⟩ (by decide +kernel) zc_9 zl_500 zl_501 (Or.inl zl_499) (by decide +kernel)
set_option maxRecDepth 100000 in
theorem cb_X9_readLineOf_47 : ci_ok yX9_readLineOf cX9_readLineOf 2 47 (ci_seq (ci_putf 9 6 .int 50) 50 (ci_seq (ci_load 2 0 51) 51 (ci_seq (ci_load 2 0 52) 52 (ci_seq (ci_push (.int 2) 53) 53 (ci_push (.int 5) 54))))) := cq_ok (cr_putf (idx := 83) zc_9 (by decide) (by decide +kernel) rfl zl_454 (by decide +kernel) rfl) (cq_ok (cr_aload_n (k := 0) (by decide +kernel) rfl rfl) (cq_ok (cr_aload_n (k := 0) (by decide +kernel) rfl rfl) (cq_ok (cr_iconst2 (n := 2) (by decide +kernel) (by decide +kernel) rfl) (cr_iconst2 (n := 5) (by decide +kernel) (by decide +kernel) rfl))))
set_option maxRecDepth 100000 in
theorem cl_X9_readLineOf_54 : ci_calls yX9_readLineOf cX9_readLineOf 2 54 yX9_readNumber 3 (some 9) := cr_callV (idx := 191) zl_1006 ⟨by decide, by decide⟩ (by decide +kernel) zc_9 zl_500 zl_501 (Or.inl zl_499) (by decide +kernel)
set_option maxRecDepth 100000 in
theorem cb_X9_readLineOf_57 : ci_ok yX9_readLineOf cX9_readLineOf 2 57 (ci_seq (ci_putf 9 7 .int 60) 60 (ci_go 146)) := cq_ok (cr_putf (idx := 87) zc_9 (by decide) (by decide +kernel) rfl zl_453 (by decide +kernel) rfl) (cr_goto (off := 86) (by decide +kernel) (by decide))
set_option maxRecDepth 100000 in
theorem cb_X9_readLineOf_63 : ci_ok yX9_readLineOf cX9_readLineOf 2 63 (ci_seq (ci_load 2 0 64) 64 (ci_seq (ci_load 2 0 65) 65 (ci_seq (ci_push (.int 0) 66) 66 (ci_push (.int 24) 68)))) := cq_ok (cr_aload_n (k := 0) (by decide +kernel) rfl rfl) (cq_ok (cr_aload_n (k := 0) (by decide +kernel) rfl rfl) (cq_ok (cr_iconst2 (n := 0) (by decide +kernel) (by decide +kernel) rfl) (cr_bipush (n := 24) (by decide +kernel) (by decide +kernel) rfl)))
set_option maxRecDepth 100000 in
theorem cl_X9_readLineOf_68 : ci_calls yX9_readLineOf cX9_readLineOf 2 68 yX9_readNumber 3 (some 9) := cr_callV (idx := 191) zl_1006 ⟨by decide, by decide⟩ (by decide +kernel) zc_9 zl_500 zl_501 (Or.inl zl_499) (by decide +kernel)
set_option maxRecDepth 100000 in
theorem cb_X9_readLineOf_71 : ci_ok yX9_readLineOf cX9_readLineOf 2 71 (ci_seq (ci_putf 9 8 .int 74) 74 (ci_seq (ci_load 2 0 75) 75 (ci_seq (ci_load 2 0 76) 76 (ci_getf 9 8 79)))) := cq_ok (cr_putf (idx := 90) zc_9 (by decide) (by decide +kernel) rfl zl_452 (by decide +kernel) rfl) (cq_ok (cr_aload_n (k := 0) (by decide +kernel) rfl rfl) (cq_ok (cr_aload_n (k := 0) (by decide +kernel) rfl rfl) (cr_getf (idx := 90) zc_9 (by decide) zl_452 (by decide +kernel) rfl)))
set_option maxRecDepth 100000 in
theorem cl_X9_readLineOf_79 : ci_calls yX9_readLineOf cX9_readLineOf 2 79 yX9_sawCell 2 (some 9) := cr_callV (idx := 194) zl_1008 ⟨by decide, by decide⟩ (by decide +kernel) zc_9 zl_503 zl_504 (Or.inl zl_502) (by decide +kernel)
set_option maxRecDepth 100000 in
theorem cb_X9_readLineOf_82 : ci_ok yX9_readLineOf cX9_readLineOf 2 82 (ci_go 146) := cr_goto (off := 64) (by decide +kernel) (by decide)
set_option maxRecDepth 100000 in
theorem cb_X9_readLineOf_85 : ci_ok yX9_readLineOf cX9_readLineOf 2 85 (ci_seq (ci_load 2 0 86) 86 (ci_seq (ci_load 2 0 87) 87 (ci_seq (ci_push (.int 0) 88) 88 (ci_push (.int 2) 89)))) := cq_ok (cr_aload_n (k := 0) (by decide +kernel) rfl rfl) (cq_ok (cr_aload_n (k := 0) (by decide +kernel) rfl rfl) (cq_ok (cr_iconst2 (n := 0) (by decide +kernel) (by decide +kernel) rfl) (cr_iconst2 (n := 2) (by decide +kernel) (by decide +kernel) rfl)))
set_option maxRecDepth 100000 in
theorem cl_X9_readLineOf_89 : ci_calls yX9_readLineOf cX9_readLineOf 2 89 yX9_readNumber 3 (some 9) := cr_callV (idx := 191) zl_1006 ⟨by decide, by decide⟩ (by decide +kernel) zc_9 zl_500 zl_501 (Or.inl zl_499) (by decide +kernel)
set_option maxRecDepth 100000 in
theorem cb_X9_readLineOf_92 : ci_ok yX9_readLineOf cX9_readLineOf 2 92 (ci_seq (ci_putf 9 10 .int 95) 95 (ci_go 146)) := cq_ok (cr_putf (idx := 96) zc_9 (by decide) (by decide +kernel) rfl zl_450 (by decide +kernel) rfl) (cr_goto (off := 51) (by decide +kernel) (by decide))
set_option maxRecDepth 100000 in
theorem cb_X9_readLineOf_98 : ci_ok yX9_readLineOf cX9_readLineOf 2 98 (ci_seq (ci_load 2 0 99) 99 (ci_seq (ci_push (.int 1) 100) 100 (ci_seq (ci_putf 9 11 .int 103) 103 (ci_go 146)))) := cq_ok (cr_aload_n (k := 0) (by decide +kernel) rfl rfl) (cq_ok (cr_iconst2 (n := 1) (by decide +kernel) (by decide +kernel) rfl) (cq_ok (cr_putf (idx := 99) zc_9 (by decide) (by decide +kernel) rfl zl_449 (by decide +kernel) rfl) (cr_goto (off := 43) (by decide +kernel) (by decide))))
set_option maxRecDepth 100000 in
theorem cb_X9_readLineOf_106 : ci_ok yX9_readLineOf cX9_readLineOf 2 106 (ci_load 2 0 107) := cr_aload_n (k := 0) (by decide +kernel) rfl rfl
set_option maxRecDepth 100000 in
theorem cl_X9_readLineOf_107 : ci_calls yX9_readLineOf cX9_readLineOf 2 107 yX9_readRow 1 (some 9) := cr_callV (idx := 198) zl_1007 ⟨by decide, by decide⟩ (by decide +kernel) zc_9 zl_506 zl_507 (Or.inl zl_505) (by decide +kernel)
set_option maxRecDepth 100000 in
theorem cb_X9_readLineOf_110 : ci_ok yX9_readLineOf cX9_readLineOf 2 110 (ci_go 146) := cr_goto (off := 36) (by decide +kernel) (by decide)
set_option maxRecDepth 100000 in
theorem cb_X9_readLineOf_113 : ci_ok yX9_readLineOf cX9_readLineOf 2 113 (ci_seq (ci_load 2 0 114) 114 (ci_seq (ci_getf 9 13 117) 117 (ci_seq (ci_load 2 0 118) 118 (ci_seq (ci_getf 9 9 121) 121 (ci_seq (ci_load 2 0 122) 122 (ci_seq (ci_push (.int 1) 123) 123 (ci_push (.int 9) 125))))))) := cq_ok (cr_aload_n (k := 0) (by decide +kernel) rfl rfl) (cq_ok (cr_getf (idx := 23) zc_9 (by decide) zl_436 (by decide +kernel) rfl) (cq_ok (cr_aload_n (k := 0) (by decide +kernel) rfl rfl) (cq_ok (cr_getf (idx := 93) zc_9 (by decide) zl_451 (by decide +kernel) rfl) (cq_ok (cr_aload_n (k := 0) (by decide +kernel) rfl rfl) (cq_ok (cr_iconst2 (n := 1) (by decide +kernel) (by decide +kernel) rfl) (cr_bipush (n := 9) (by decide +kernel) (by decide +kernel) rfl))))))
set_option maxRecDepth 100000 in
theorem cl_X9_readLineOf_125 : ci_calls yX9_readLineOf cX9_readLineOf 2 125 yX9_readNumber 3 (some 9) := cr_callV (idx := 191) zl_1006 ⟨by decide, by decide⟩ (by decide +kernel) zc_9 zl_500 zl_501 (Or.inl zl_499) (by decide +kernel)
set_option maxRecDepth 100000 in
theorem cb_X9_readLineOf_128 : ci_ok yX9_readLineOf cX9_readLineOf 2 128 (ci_seq (ci_ast .int 129) 129 (ci_seq (ci_load 2 0 130) 130 (ci_seq (ci_dup 131) 131 (ci_seq (ci_getf 9 9 134) 134 (ci_seq (ci_push (.int 1) 135) 135 (ci_seq (ci_bin (fun a b => a + b) 136) 136 (ci_seq (ci_putf 9 9 .int 139) 139 (ci_go 146)))))))) := cq_ok (cr_ast (ins := .iastore) rfl (by decide +kernel) (Or.inl ⟨rfl, rfl⟩)) (cq_ok (cr_aload_n (k := 0) (by decide +kernel) rfl rfl) (cq_ok (cr_dup (by decide +kernel) rfl) (cq_ok (cr_getf (idx := 93) zc_9 (by decide) zl_451 (by decide +kernel) rfl) (cq_ok (cr_iconst2 (n := 1) (by decide +kernel) (by decide +kernel) rfl) (cq_ok (cr_iadd (by decide +kernel) rfl) (cq_ok (cr_putf (idx := 93) zc_9 (by decide) (by decide +kernel) rfl zl_451 (by decide +kernel) rfl) (cr_goto (off := 7) (by decide +kernel) (by decide))))))))
set_option maxRecDepth 100000 in
theorem cb_X9_readLineOf_142 : ci_ok yX9_readLineOf cX9_readLineOf 2 142 (ci_load 2 0 143) := cr_aload_n (k := 0) (by decide +kernel) rfl rfl
set_option maxRecDepth 100000 in
theorem cl_X9_readLineOf_143 : ci_calls yX9_readLineOf cX9_readLineOf 2 143 yX9_readGround 1 (some 9) := cr_callV (idx := 201) zl_1009 ⟨by decide, by decide⟩ (by decide +kernel) zc_9 zl_509 zl_510 (Or.inl zl_508) (by decide +kernel)
set_option maxRecDepth 100000 in
theorem cd_X9_readLineOf_146 : decode cX9_readLineOf 146 = .ok (zi_rop none, 1) := by decide +kernel
set_option maxRecDepth 100000 in
theorem cb_X9_readLine_0 : ci_ok yX9_readLine cX9_readLine 2 0 (ci_seq (ci_load 2 0 1) 1 (ci_seq (ci_getf 9 26 4) 4 (ci_seq (ci_push (.int 1) 5) 5 (ci_ic (fun x y => !decide (x = y)) 15 8)))) := cq_ok (cr_aload_n (k := 0) (by decide +kernel) rfl rfl) (cq_ok (cr_getf (idx := 166) zc_9 (by decide) zl_484 (by decide +kernel) rfl) (cq_ok (cr_iconst2 (n := 1) (by decide +kernel) (by decide +kernel) rfl) (cr_ic_ne (off := 10) (by decide +kernel) (by decide) rfl)))
set_option maxRecDepth 100000 in
theorem cb_X9_readLine_8 : ci_ok yX9_readLine cX9_readLine 2 8 (ci_load 2 0 9) := cr_aload_n (k := 0) (by decide +kernel) rfl rfl
set_option maxRecDepth 100000 in
theorem cl_X9_readLine_9 : ci_calls yX9_readLine cX9_readLine 2 9 yX9_lineNow 1 (some 9) := cr_callV (idx := 204) zl_1003 ⟨by decide, by decide⟩ (by decide +kernel) zc_9 zl_512 zl_513 (Or.inl zl_511) (by decide +kernel)
set_option maxRecDepth 100000 in
theorem cb_X9_readLine_12 : ci_ok yX9_readLine cX9_readLine 2 12 (ci_go 17) := cr_goto (off := 5) (by decide +kernel) (by decide)
set_option maxRecDepth 100000 in
theorem cb_X9_readLine_15 : ci_ok yX9_readLine cX9_readLine 2 15 (ci_push (.int (-4)) 17) := cr_bipush (n := -4) (by decide +kernel) (by decide +kernel) rfl
set_option maxRecDepth 100000 in
theorem cb_X9_readLine_17 : ci_ok yX9_readLine cX9_readLine 2 17 (ci_seq (ci_store 0 1 18) 18 (ci_seq (ci_load 2 0 19) 19 (ci_seq (ci_load 0 1 20) 20 (ci_seq (ci_push (.int (-4)) 22) 22 (ci_ic (fun x y => decide (x = y)) 29 25))))) := cq_ok (cr_istore_n (k := 1) (by decide +kernel) rfl (by decide) rfl) (cq_ok (cr_aload_n (k := 0) (by decide +kernel) rfl rfl) (cq_ok (cr_iload_n (k := 1) (by decide +kernel) rfl rfl) (cq_ok (cr_bipush (n := -4) (by decide +kernel) (by decide +kernel) rfl) (cr_ic_eq (off := 7) (by decide +kernel) (by decide) rfl))))
set_option maxRecDepth 100000 in
theorem cb_X9_readLine_25 : ci_ok yX9_readLine cX9_readLine 2 25 (ci_seq (ci_push (.int 1) 26) 26 (ci_go 30)) := cq_ok (cr_iconst2 (n := 1) (by decide +kernel) (by decide +kernel) rfl) (cr_goto (off := 4) (by decide +kernel) (by decide))
set_option maxRecDepth 100000 in
theorem cb_X9_readLine_29 : ci_ok yX9_readLine cX9_readLine 2 29 (ci_push (.int 0) 30) := cr_iconst2 (n := 0) (by decide +kernel) (by decide +kernel) rfl
set_option maxRecDepth 100000 in
theorem cb_X9_readLine_30 : ci_ok yX9_readLine cX9_readLine 2 30 (ci_push (.int 2) 31) := cr_iconst2 (n := 2) (by decide +kernel) (by decide +kernel) rfl
set_option maxRecDepth 100000 in
theorem cl_X9_readLine_31 : ci_calls yX9_readLine cX9_readLine 2 31 yX9_needs 3 (some 9) := cr_callV (idx := 180) zl_998 ⟨by decide, by decide⟩ (by decide +kernel) zc_9 zl_491 zl_492 (Or.inl zl_490) (by decide +kernel)
set_option maxRecDepth 100000 in
theorem cb_X9_readLine_34 : ci_ok yX9_readLine cX9_readLine 2 34 (ci_seq (ci_load 2 0 35) 35 (ci_seq (ci_load 0 1 36) 36 (ci_seq (ci_push (.int 5) 37) 37 (ci_ic (fun x y => !decide (x = y)) 48 40)))) := cq_ok (cr_aload_n (k := 0) (by decide +kernel) rfl rfl) (cq_ok (cr_iload_n (k := 1) (by decide +kernel) rfl rfl) (cq_ok (cr_iconst2 (n := 5) (by decide +kernel) (by decide +kernel) rfl) (cr_ic_ne (off := 11) (by decide +kernel) (by decide) rfl)))
set_option maxRecDepth 100000 in
theorem cb_X9_readLine_40 : ci_ok yX9_readLine cX9_readLine 2 40 (ci_seq (ci_load 2 0 41) 41 (ci_seq (ci_getf 9 9 44) 44 (ci_seq (ci_push (.int 3) 45) 45 (ci_ic (fun x y => decide (y ≤ x)) 52 48)))) := cq_ok (cr_aload_n (k := 0) (by decide +kernel) rfl rfl) (cq_ok (cr_getf (idx := 93) zc_9 (by decide) zl_451 (by decide +kernel) rfl) (cq_ok (cr_iconst2 (n := 3) (by decide +kernel) (by decide +kernel) rfl) (cr_ic_ge (off := 7) (by decide +kernel) (by decide) rfl)))
set_option maxRecDepth 100000 in
theorem cb_X9_readLine_48 : ci_ok yX9_readLine cX9_readLine 2 48 (ci_seq (ci_push (.int 1) 49) 49 (ci_go 53)) := cq_ok (cr_iconst2 (n := 1) (by decide +kernel) (by decide +kernel) rfl) (cr_goto (off := 4) (by decide +kernel) (by decide))
set_option maxRecDepth 100000 in
theorem cb_X9_readLine_52 : ci_ok yX9_readLine cX9_readLine 2 52 (ci_push (.int 0) 53) := cr_iconst2 (n := 0) (by decide +kernel) (by decide +kernel) rfl
set_option maxRecDepth 100000 in
theorem cb_X9_readLine_53 : ci_ok yX9_readLine cX9_readLine 2 53 (ci_push (.int 5) 54) := cr_iconst2 (n := 5) (by decide +kernel) (by decide +kernel) rfl
set_option maxRecDepth 100000 in
theorem cl_X9_readLine_54 : ci_calls yX9_readLine cX9_readLine 2 54 yX9_needs 3 (some 9) := cr_callV (idx := 180) zl_998 ⟨by decide, by decide⟩ (by decide +kernel) zc_9 zl_491 zl_492 (Or.inl zl_490) (by decide +kernel)
set_option maxRecDepth 100000 in
theorem cb_X9_readLine_57 : ci_ok yX9_readLine cX9_readLine 2 57 (ci_seq (ci_load 2 0 58) 58 (ci_seq (ci_getf 9 28 61) 61 (ci_if (fun x => !decide (x = 0)) 102 64))) := cq_ok (cr_aload_n (k := 0) (by decide +kernel) rfl rfl) (cq_ok (cr_getf (idx := 138) zc_9 (by decide) zl_468 (by decide +kernel) rfl) (cr_if_ne (off := 41) (by decide +kernel) (by decide) rfl))
set_option maxRecDepth 100000 in
theorem cb_X9_readLine_64 : ci_ok yX9_readLine cX9_readLine 2 64 (ci_seq (ci_load 0 1 65) 65 (ci_seq (ci_push (.int 3) 66) 66 (ci_ic (fun x y => decide (y < x)) 102 69))) := cq_ok (cr_iload_n (k := 1) (by decide +kernel) rfl rfl) (cq_ok (cr_iconst2 (n := 3) (by decide +kernel) (by decide +kernel) rfl) (cr_ic_gt (off := 36) (by decide +kernel) (by decide) rfl))
set_option maxRecDepth 100000 in
theorem cb_X9_readLine_69 : ci_ok yX9_readLine cX9_readLine 2 69 (ci_seq (ci_load 2 0 70) 70 (ci_seq (ci_load 2 0 71) 71 (ci_seq (ci_getf 9 16 74) 74 (ci_seq (ci_load 0 1 75) 75 (ci_seq (ci_bin (fun a b => a >>> (b &&& 31)) 76) 76 (ci_seq (ci_push (.int 1) 77) 77 (ci_seq (ci_bin (fun a b => a &&& b) 78) 78 (ci_if (fun x => !decide (x = 0)) 85 81)))))))) := cq_ok (cr_aload_n (k := 0) (by decide +kernel) rfl rfl) (cq_ok (cr_aload_n (k := 0) (by decide +kernel) rfl rfl) (cq_ok (cr_getf (idx := 102) zc_9 (by decide) zl_460 (by decide +kernel) rfl) (cq_ok (cr_iload_n (k := 1) (by decide +kernel) rfl rfl) (cq_ok (cr_ishr (by decide +kernel) rfl) (cq_ok (cr_iconst2 (n := 1) (by decide +kernel) (by decide +kernel) rfl) (cq_ok (cr_iand (by decide +kernel) rfl) (cr_if_ne (off := 7) (by decide +kernel) (by decide) rfl)))))))
set_option maxRecDepth 100000 in
theorem cb_X9_readLine_81 : ci_ok yX9_readLine cX9_readLine 2 81 (ci_seq (ci_push (.int 1) 82) 82 (ci_go 86)) := cq_ok (cr_iconst2 (n := 1) (by decide +kernel) (by decide +kernel) rfl) (cr_goto (off := 4) (by decide +kernel) (by decide))
set_option maxRecDepth 100000 in
theorem cb_X9_readLine_85 : ci_ok yX9_readLine cX9_readLine 2 85 (ci_push (.int 0) 86) := cr_iconst2 (n := 0) (by decide +kernel) (by decide +kernel) rfl
set_option maxRecDepth 100000 in
theorem cb_X9_readLine_86 : ci_ok yX9_readLine cX9_readLine 2 86 (ci_push (.int 4) 87) := cr_iconst2 (n := 4) (by decide +kernel) (by decide +kernel) rfl
set_option maxRecDepth 100000 in
theorem cl_X9_readLine_87 : ci_calls yX9_readLine cX9_readLine 2 87 yX9_needs 3 (some 9) := cr_callV (idx := 180) zl_998 ⟨by decide, by decide⟩ (by decide +kernel) zc_9 zl_491 zl_492 (Or.inl zl_490) (by decide +kernel)
set_option maxRecDepth 100000 in
theorem cb_X9_readLine_90 : ci_ok yX9_readLine cX9_readLine 2 90 (ci_seq (ci_load 2 0 91) 91 (ci_seq (ci_dup 92) 92 (ci_seq (ci_getf 9 16 95) 95 (ci_seq (ci_push (.int 1) 96) 96 (ci_seq (ci_load 0 1 97) 97 (ci_seq (ci_bin (fun a b => a <<< (b &&& 31)) 98) 98 (ci_seq (ci_bin (fun a b => a ||| b) 99) 99 (ci_putf 9 16 .int 102)))))))) := cq_ok (cr_aload_n (k := 0) (by decide +kernel) rfl rfl) (cq_ok (cr_dup (by decide +kernel) rfl) (cq_ok (cr_getf (idx := 102) zc_9 (by decide) zl_460 (by decide +kernel) rfl) (cq_ok (cr_iconst2 (n := 1) (by decide +kernel) (by decide +kernel) rfl) (cq_ok (cr_iload_n (k := 1) (by decide +kernel) rfl rfl) (cq_ok (cr_ishl (by decide +kernel) rfl) (cq_ok (cr_ior (by decide +kernel) rfl) (cr_putf (idx := 102) zc_9 (by decide) (by decide +kernel) rfl zl_460 (by decide +kernel) rfl)))))))
set_option maxRecDepth 100000 in
theorem cb_X9_readLine_102 : ci_ok yX9_readLine cX9_readLine 2 102 (ci_load 2 0 103) := cr_aload_n (k := 0) (by decide +kernel) rfl rfl
set_option maxRecDepth 100000 in
theorem cl_X9_readLine_103 : ci_calls yX9_readLine cX9_readLine 2 103 yX9_next 1 (some 9) := cr_callV (idx := 188) zl_1004 ⟨by decide, by decide⟩ (by decide +kernel) zc_9 zl_494 zl_495 (Or.inl zl_493) (by decide +kernel)
set_option maxRecDepth 100000 in
theorem cb_X9_readLine_106 : ci_ok yX9_readLine cX9_readLine 2 106 (ci_seq (ci_load 2 0 107) 107 (ci_seq (ci_getf 9 28 110) 110 (ci_if (fun x => decide (x ≤ 0)) 114 113))) := cq_ok (cr_aload_n (k := 0) (by decide +kernel) rfl rfl) (cq_ok (cr_getf (idx := 138) zc_9 (by decide) zl_468 (by decide +kernel) rfl) (cr_if_le (off := 4) (by decide +kernel) (by decide) rfl))
set_option maxRecDepth 100000 in
theorem cd_X9_readLine_113 : decode cX9_readLine 113 = .ok (zi_rop none, 1) := by decide +kernel
set_option maxRecDepth 100000 in
theorem cb_X9_readLine_114 : ci_ok yX9_readLine cX9_readLine 2 114 (ci_seq (ci_load 2 0 115) 115 (ci_load 0 1 116)) := cq_ok (cr_aload_n (k := 0) (by decide +kernel) rfl rfl) (cr_iload_n (k := 1) (by decide +kernel) rfl rfl)
set_option maxRecDepth 100000 in
theorem cl_X9_readLine_116 : ci_calls yX9_readLine cX9_readLine 2 116 yX9_readLineOf 2 (some 9) := cr_callV (idx := 207) zl_1010 ⟨by decide, by decide⟩ (by decide +kernel) zc_9 zl_515 zl_516 (Or.inl zl_514) (by decide +kernel)
set_option maxRecDepth 100000 in
theorem cb_X9_readLine_119 : ci_ok yX9_readLine cX9_readLine 2 119 (ci_seq (ci_load 2 0 120) 120 (ci_seq (ci_getf 9 28 123) 123 (ci_if (fun x => !decide (x = 0)) 144 126))) := cq_ok (cr_aload_n (k := 0) (by decide +kernel) rfl rfl) (cq_ok (cr_getf (idx := 138) zc_9 (by decide) zl_468 (by decide +kernel) rfl) (cr_if_ne (off := 21) (by decide +kernel) (by decide) rfl))
set_option maxRecDepth 100000 in
theorem cb_X9_readLine_126 : ci_ok yX9_readLine cX9_readLine 2 126 (ci_seq (ci_load 2 0 127) 127 (ci_seq (ci_load 2 0 128) 128 (ci_seq (ci_getf 9 26 131) 131 (ci_seq (ci_push (.int 3) 132) 132 (ci_ic (fun x y => !decide (x = y)) 139 135))))) := cq_ok (cr_aload_n (k := 0) (by decide +kernel) rfl rfl) (cq_ok (cr_aload_n (k := 0) (by decide +kernel) rfl rfl) (cq_ok (cr_getf (idx := 166) zc_9 (by decide) zl_484 (by decide +kernel) rfl) (cq_ok (cr_iconst2 (n := 3) (by decide +kernel) (by decide +kernel) rfl) (cr_ic_ne (off := 7) (by decide +kernel) (by decide) rfl))))
set_option maxRecDepth 100000 in
theorem cb_X9_readLine_135 : ci_ok yX9_readLine cX9_readLine 2 135 (ci_seq (ci_push (.int 1) 136) 136 (ci_go 140)) := cq_ok (cr_iconst2 (n := 1) (by decide +kernel) (by decide +kernel) rfl) (cr_goto (off := 4) (by decide +kernel) (by decide))
set_option maxRecDepth 100000 in
theorem cb_X9_readLine_139 : ci_ok yX9_readLine cX9_readLine 2 139 (ci_push (.int 0) 140) := cr_iconst2 (n := 0) (by decide +kernel) (by decide +kernel) rfl
set_option maxRecDepth 100000 in
theorem cb_X9_readLine_140 : ci_ok yX9_readLine cX9_readLine 2 140 (ci_push (.int 2) 141) := cr_iconst2 (n := 2) (by decide +kernel) (by decide +kernel) rfl
set_option maxRecDepth 100000 in
theorem cl_X9_readLine_141 : ci_calls yX9_readLine cX9_readLine 2 141 yX9_needs 3 (some 9) := cr_callV (idx := 180) zl_998 ⟨by decide, by decide⟩ (by decide +kernel) zc_9 zl_491 zl_492 (Or.inl zl_490) (by decide +kernel)
set_option maxRecDepth 100000 in
theorem cb_X9_readLine_144 : ci_ok yX9_readLine cX9_readLine 2 144 (ci_load 2 0 145) := cr_aload_n (k := 0) (by decide +kernel) rfl rfl
set_option maxRecDepth 100000 in
theorem cl_X9_readLine_145 : ci_calls yX9_readLine cX9_readLine 2 145 yX9_next 1 (some 9) := cr_callV (idx := 188) zl_1004 ⟨by decide, by decide⟩ (by decide +kernel) zc_9 zl_494 zl_495 (Or.inl zl_493) (by decide +kernel)
set_option maxRecDepth 100000 in
theorem cd_X9_readLine_148 : decode cX9_readLine 148 = .ok (zi_rop none, 1) := by decide +kernel
set_option maxRecDepth 100000 in
theorem cb_X9_text_0 : ci_ok yX9_text cX9_text 2 0 (ci_seq (ci_push (.int 0) 1) 1 (ci_seq (ci_store 0 1 2) 2 (ci_seq (ci_load 2 0 3) 3 (ci_seq (ci_push (.int 0) 4) 4 (ci_seq (ci_putf 9 28 .int 7) 7 (ci_seq (ci_load 2 0 8) 8 (ci_seq (ci_push (.int 0) 9) 9 (ci_seq (ci_putf 9 24 .int 12) 12 (ci_load 2 0 13))))))))) := cq_ok (cr_iconst2 (n := 0) (by decide +kernel) (by decide +kernel) rfl) (cq_ok (cr_istore_n (k := 1) (by decide +kernel) rfl (by decide) rfl) (cq_ok (cr_aload_n (k := 0) (by decide +kernel) rfl rfl) (cq_ok (cr_iconst2 (n := 0) (by decide +kernel) (by decide +kernel) rfl) (cq_ok (cr_putf (idx := 138) zc_9 (by decide) (by decide +kernel) rfl zl_468 (by decide +kernel) rfl) (cq_ok (cr_aload_n (k := 0) (by decide +kernel) rfl rfl) (cq_ok (cr_iconst2 (n := 0) (by decide +kernel) (by decide +kernel) rfl) (cq_ok (cr_putf (idx := 147) zc_9 (by decide) (by decide +kernel) rfl zl_471 (by decide +kernel) rfl) (cr_aload_n (k := 0) (by decide +kernel) rfl rfl))))))))
set_option maxRecDepth 100000 in
theorem cl_X9_text_13 : ci_calls yX9_text cX9_text 2 13 yX9_firstDraft 1 (some 9) := cr_callV (idx := 77) zl_994 ⟨by decide, by decide⟩ (by decide +kernel) zc_9 zl_447 zl_448 (Or.inl zl_446) (by decide +kernel)
set_option maxRecDepth 100000 in
theorem cb_X9_text_16 : ci_ok yX9_text cX9_text 2 16 (ci_load 2 0 17) := cr_aload_n (k := 0) (by decide +kernel) rfl rfl
set_option maxRecDepth 100000 in
theorem cl_X9_text_17 : ci_calls yX9_text cX9_text 2 17 yX9_next 1 (some 9) := cr_callV (idx := 188) zl_1004 ⟨by decide, by decide⟩ (by decide +kernel) zc_9 zl_494 zl_495 (Or.inl zl_493) (by decide +kernel)
set_option maxRecDepth 100000 in
theorem cb_X9_text_20 : ci_ok yX9_text cX9_text 2 20 (ci_seq (ci_load 2 0 21) 21 (ci_seq (ci_getf 9 28 24) 24 (ci_if (fun x => !decide (x = 0)) 44 27))) := cq_ok (cr_aload_n (k := 0) (by decide +kernel) rfl rfl) (cq_ok (cr_getf (idx := 138) zc_9 (by decide) zl_468 (by decide +kernel) rfl) (cr_if_ne (off := 20) (by decide +kernel) (by decide) rfl))
set_option maxRecDepth 100000 in
theorem cb_X9_text_27 : ci_ok yX9_text cX9_text 2 27 (ci_seq (ci_load 2 0 28) 28 (ci_seq (ci_getf 9 26 31) 31 (ci_if (fun x => decide (x = 0)) 44 34))) := cq_ok (cr_aload_n (k := 0) (by decide +kernel) rfl rfl) (cq_ok (cr_getf (idx := 166) zc_9 (by decide) zl_484 (by decide +kernel) rfl) (cr_if_eq (off := 13) (by decide +kernel) (by decide) rfl))
set_option maxRecDepth 100000 in
theorem cb_X9_text_34 : ci_ok yX9_text cX9_text 2 34 (ci_load 2 0 35) := cr_aload_n (k := 0) (by decide +kernel) rfl rfl
set_option maxRecDepth 100000 in
theorem cl_X9_text_35 : ci_calls yX9_text cX9_text 2 35 yX9_readLine 1 (some 9) := cr_callV (idx := 210) zl_1011 ⟨by decide, by decide⟩ (by decide +kernel) zc_9 zl_518 zl_519 (Or.inl zl_517) (by decide +kernel)
set_option maxRecDepth 100000 in
theorem cb_X9_text_38 : ci_ok yX9_text cX9_text 2 38 (ci_seq (ci_inc 1 1 41) 41 (ci_go 20)) := cq_ok (ci_inc_ok (by decide) (by decide +kernel) rfl) (cr_goto (off := -21) (by decide +kernel) (by decide))
set_option maxRecDepth 100000 in
theorem cb_X9_text_44 : ci_ok yX9_text cX9_text 2 44 (ci_seq (ci_load 2 0 45) 45 (ci_seq (ci_getf 9 28 48) 48 (ci_if (fun x => !decide (x = 0)) 111 51))) := cq_ok (cr_aload_n (k := 0) (by decide +kernel) rfl rfl) (cq_ok (cr_getf (idx := 138) zc_9 (by decide) zl_468 (by decide +kernel) rfl) (cr_if_ne (off := 63) (by decide +kernel) (by decide) rfl))
set_option maxRecDepth 100000 in
theorem cb_X9_text_51 : ci_ok yX9_text cX9_text 2 51 (ci_seq (ci_load 2 0 52) 52 (ci_seq (ci_load 2 0 53) 53 (ci_seq (ci_getf 9 18 56) 56 (ci_seq (ci_load 2 0 57) 57 (ci_seq (ci_getf 9 7 60) 60 (ci_ic (fun x y => decide (y ≤ x)) 105 63)))))) := cq_ok (cr_aload_n (k := 0) (by decide +kernel) rfl rfl) (cq_ok (cr_aload_n (k := 0) (by decide +kernel) rfl rfl) (cq_ok (cr_getf (idx := 108) zc_9 (by decide) zl_458 (by decide +kernel) rfl) (cq_ok (cr_aload_n (k := 0) (by decide +kernel) rfl rfl) (cq_ok (cr_getf (idx := 87) zc_9 (by decide) zl_453 (by decide +kernel) rfl) (cr_ic_ge (off := 45) (by decide +kernel) (by decide) rfl)))))
set_option maxRecDepth 100000 in
theorem cb_X9_text_63 : ci_ok yX9_text cX9_text 2 63 (ci_seq (ci_load 2 0 64) 64 (ci_seq (ci_getf 9 19 67) 67 (ci_seq (ci_load 2 0 68) 68 (ci_seq (ci_getf 9 6 71) 71 (ci_ic (fun x y => decide (y ≤ x)) 105 74))))) := cq_ok (cr_aload_n (k := 0) (by decide +kernel) rfl rfl) (cq_ok (cr_getf (idx := 111) zc_9 (by decide) zl_457 (by decide +kernel) rfl) (cq_ok (cr_aload_n (k := 0) (by decide +kernel) rfl rfl) (cq_ok (cr_getf (idx := 83) zc_9 (by decide) zl_454 (by decide +kernel) rfl) (cr_ic_ge (off := 34) (by decide +kernel) (by decide) rfl))))
set_option maxRecDepth 100000 in
theorem cb_X9_text_74 : ci_ok yX9_text cX9_text 2 74 (ci_seq (ci_load 2 0 75) 75 (ci_seq (ci_getf 9 20 78) 78 (ci_seq (ci_load 2 0 79) 79 (ci_seq (ci_getf 9 6 82) 82 (ci_seq (ci_load 2 0 83) 83 (ci_seq (ci_getf 9 7 86) 86 (ci_seq (ci_bin (fun a b => a * b) 87) 87 (ci_ic (fun x y => decide (y ≤ x)) 105 90)))))))) := cq_ok (cr_aload_n (k := 0) (by decide +kernel) rfl rfl) (cq_ok (cr_getf (idx := 114) zc_9 (by decide) zl_456 (by decide +kernel) rfl) (cq_ok (cr_aload_n (k := 0) (by decide +kernel) rfl rfl) (cq_ok (cr_getf (idx := 83) zc_9 (by decide) zl_454 (by decide +kernel) rfl) (cq_ok (cr_aload_n (k := 0) (by decide +kernel) rfl rfl) (cq_ok (cr_getf (idx := 87) zc_9 (by decide) zl_453 (by decide +kernel) rfl) (cq_ok (cr_imul (by decide +kernel) rfl) (cr_ic_ge (off := 18) (by decide +kernel) (by decide) rfl)))))))
set_option maxRecDepth 100000 in
theorem cb_X9_text_90 : ci_ok yX9_text cX9_text 2 90 (ci_seq (ci_load 2 0 91) 91 (ci_seq (ci_getf 9 21 94) 94 (ci_seq (ci_load 2 0 95) 95 (ci_seq (ci_getf 9 9 98) 98 (ci_ic (fun x y => decide (y ≤ x)) 105 101))))) := cq_ok (cr_aload_n (k := 0) (by decide +kernel) rfl rfl) (cq_ok (cr_getf (idx := 117) zc_9 (by decide) zl_455 (by decide +kernel) rfl) (cq_ok (cr_aload_n (k := 0) (by decide +kernel) rfl rfl) (cq_ok (cr_getf (idx := 93) zc_9 (by decide) zl_451 (by decide +kernel) rfl) (cr_ic_ge (off := 7) (by decide +kernel) (by decide) rfl))))
set_option maxRecDepth 100000 in
theorem cb_X9_text_101 : ci_ok yX9_text cX9_text 2 101 (ci_seq (ci_push (.int 1) 102) 102 (ci_go 106)) := cq_ok (cr_iconst2 (n := 1) (by decide +kernel) (by decide +kernel) rfl) (cr_goto (off := 4) (by decide +kernel) (by decide))
set_option maxRecDepth 100000 in
theorem cb_X9_text_105 : ci_ok yX9_text cX9_text 2 105 (ci_push (.int 0) 106) := cr_iconst2 (n := 0) (by decide +kernel) (by decide +kernel) rfl
set_option maxRecDepth 100000 in
theorem cb_X9_text_106 : ci_ok yX9_text cX9_text 2 106 (ci_push (.int 6) 108) := cr_bipush (n := 6) (by decide +kernel) (by decide +kernel) rfl
set_option maxRecDepth 100000 in
theorem cl_X9_text_108 : ci_calls yX9_text cX9_text 2 108 yX9_needs 3 (some 9) := cr_callV (idx := 180) zl_998 ⟨by decide, by decide⟩ (by decide +kernel) zc_9 zl_491 zl_492 (Or.inl zl_490) (by decide +kernel)
set_option maxRecDepth 100000 in
theorem cb_X9_text_111 : ci_ok yX9_text cX9_text 2 111 (ci_seq (ci_load 2 0 112) 112 (ci_seq (ci_push (.int 0) 113) 113 (ci_seq (ci_putf 9 23 .int 116) 116 (ci_seq (ci_load 2 0 117) 117 (ci_seq (ci_getf 9 28 120) 120 (ci_if (fun x => decide (x ≤ 0)) 131 123)))))) := cq_ok (cr_aload_n (k := 0) (by decide +kernel) rfl rfl) (cq_ok (cr_iconst2 (n := 0) (by decide +kernel) (by decide +kernel) rfl) (cq_ok (cr_putf (idx := 129) zc_9 (by decide) (by decide +kernel) rfl zl_464 (by decide +kernel) rfl) (cq_ok (cr_aload_n (k := 0) (by decide +kernel) rfl rfl) (cq_ok (cr_getf (idx := 138) zc_9 (by decide) zl_468 (by decide +kernel) rfl) (cr_if_le (off := 11) (by decide +kernel) (by decide) rfl)))))
set_option maxRecDepth 100000 in
theorem cb_X9_text_123 : ci_ok yX9_text cX9_text 2 123 (ci_seq (ci_push (.int (-10)) 125) 125 (ci_seq (ci_load 2 0 126) 126 (ci_seq (ci_getf 9 29 129) 129 (ci_bin (fun a b => a - b) 130)))) := cq_ok (cr_bipush (n := -10) (by decide +kernel) (by decide +kernel) rfl) (cq_ok (cr_aload_n (k := 0) (by decide +kernel) rfl rfl) (cq_ok (cr_getf (idx := 144) zc_9 (by decide) zl_469 (by decide +kernel) rfl) (cr_isub (by decide +kernel) rfl)))
set_option maxRecDepth 100000 in
theorem cd_X9_text_130 : decode cX9_text 130 = .ok (zi_rop (some .int), 1) := by decide +kernel
set_option maxRecDepth 100000 in
theorem cb_X9_text_131 : ci_ok yX9_text cX9_text 2 131 (ci_load 2 0 132) := cr_aload_n (k := 0) (by decide +kernel) rfl rfl
set_option maxRecDepth 100000 in
theorem cl_X9_text_132 : ci_calls yX9_text cX9_text 2 132 yX9_keepDraft 1 (some 9) := cr_callV (idx := 80) zl_995 ⟨by decide, by decide⟩ (by decide +kernel) zc_9 zl_444 zl_445 (Or.inl zl_443) (by decide +kernel)
set_option maxRecDepth 100000 in
theorem cb_X9_text_135 : ci_ok yX9_text cX9_text 2 135 (ci_load 0 1 136) := cr_iload_n (k := 1) (by decide +kernel) rfl rfl
set_option maxRecDepth 100000 in
theorem cd_X9_text_136 : decode cX9_text 136 = .ok (zi_rop (some .int), 1) := by decide +kernel
set_option maxRecDepth 100000 in
theorem cb_X9_fault_0 : ci_ok yX9_fault cX9_fault 1 0 (ci_seq (ci_load 2 0 1) 1 (ci_getf 9 28 4)) := cq_ok (cr_aload_n (k := 0) (by decide +kernel) rfl rfl) (cr_getf (idx := 138) zc_9 (by decide) zl_468 (by decide +kernel) rfl)
set_option maxRecDepth 100000 in
theorem cd_X9_fault_4 : decode cX9_fault 4 = .ok (zi_rop (some .int), 1) := by decide +kernel
set_option maxRecDepth 100000 in
theorem cb_X9_isCell_0 : ci_ok yX9_isCell cX9_isCell 2 0 (ci_seq (ci_load 0 1 1) 1 (ci_seq (ci_i2l 2) 2 (ci_seq (ci_push (.long 0) 3) 3 (ci_seq (ci_load 2 0 4) 4 (ci_seq (ci_getf 9 2 7) 7 (ci_seq (ci_load 2 0 8) 8 (ci_seq (ci_getf 9 3 11) 11 (ci_seq (ci_bin (fun a b => a * b) 12) 12 (ci_seq (ci_push (.int 1) 13) 13 (ci_seq (ci_bin (fun a b => a - b) 14) 14 (ci_i2l 15))))))))))) := cq_ok (cr_iload_n (k := 1) (by decide +kernel) rfl rfl) (cq_ok (cr_i2l (by decide +kernel) rfl) (cq_ok (cr_lconst (n := 0) (by decide +kernel) (by decide +kernel) rfl) (cq_ok (cr_aload_n (k := 0) (by decide +kernel) rfl rfl) (cq_ok (cr_getf (idx := 120) zc_9 (by decide) zl_463 (by decide +kernel) rfl) (cq_ok (cr_aload_n (k := 0) (by decide +kernel) rfl rfl) (cq_ok (cr_getf (idx := 123) zc_9 (by decide) zl_462 (by decide +kernel) rfl) (cq_ok (cr_imul (by decide +kernel) rfl) (cq_ok (cr_iconst2 (n := 1) (by decide +kernel) (by decide +kernel) rfl) (cq_ok (cr_isub (by decide +kernel) rfl) (cr_i2l (by decide +kernel) rfl))))))))))
set_option maxRecDepth 100000 in
theorem cl_X9_isCell_15 : ci_calls yX9_isCell cX9_isCell 2 15 yX9_in 3 none := cr_callS (idx := 134) zl_992 zl_654 ⟨by decide, by decide⟩ (by decide +kernel) zl_467 (Or.inl zl_466) (by decide +kernel)
set_option maxRecDepth 100000 in
theorem cd_X9_isCell_18 : decode cX9_isCell 18 = .ok (zi_rop (some .boolean), 1) := by decide +kernel
set_option maxRecDepth 100000 in
theorem cb_X9_isFarm_0 : ci_ok yX9_isFarm cX9_isFarm 2 0 (ci_seq (ci_load 0 1 1) 1 (ci_seq (ci_i2l 2) 2 (ci_seq (ci_push (.long 0) 3) 3 (ci_seq (ci_load 2 0 4) 4 (ci_seq (ci_getf 9 4 7) 7 (ci_seq (ci_push (.int 1) 8) 8 (ci_seq (ci_bin (fun a b => a - b) 9) 9 (ci_i2l 10)))))))) := cq_ok (cr_iload_n (k := 1) (by decide +kernel) rfl rfl) (cq_ok (cr_i2l (by decide +kernel) rfl) (cq_ok (cr_lconst (n := 0) (by decide +kernel) (by decide +kernel) rfl) (cq_ok (cr_aload_n (k := 0) (by decide +kernel) rfl rfl) (cq_ok (cr_getf (idx := 126) zc_9 (by decide) zl_461 (by decide +kernel) rfl) (cq_ok (cr_iconst2 (n := 1) (by decide +kernel) (by decide +kernel) rfl) (cq_ok (cr_isub (by decide +kernel) rfl) (cr_i2l (by decide +kernel) rfl)))))))
set_option maxRecDepth 100000 in
theorem cl_X9_isFarm_10 : ci_calls yX9_isFarm cX9_isFarm 2 10 yX9_in 3 none := cr_callS (idx := 134) zl_992 zl_654 ⟨by decide, by decide⟩ (by decide +kernel) zl_467 (Or.inl zl_466) (by decide +kernel)
set_option maxRecDepth 100000 in
theorem cd_X9_isFarm_13 : decode cX9_isFarm 13 = .ok (zi_rop (some .boolean), 1) := by decide +kernel
set_option maxRecDepth 100000 in
theorem cb_X9_isYear_0 : ci_ok yX9_isYear cX9_isYear 1 0 (ci_seq (ci_load 0 0 1) 1 (ci_seq (ci_i2l 2) 2 (ci_seq (ci_push (.long 0) 3) 3 (ci_push (.long 17575) 6)))) := cq_ok (cr_iload_n (k := 0) (by decide +kernel) rfl rfl) (cq_ok (cr_i2l (by decide +kernel) rfl) (cq_ok (cr_lconst (n := 0) (by decide +kernel) (by decide +kernel) rfl) (cr_ldc2 zl_520 (by decide +kernel) rfl)))
set_option maxRecDepth 100000 in
theorem cl_X9_isYear_6 : ci_calls yX9_isYear cX9_isYear 1 6 yX9_in 3 none := cr_callS (idx := 134) zl_992 zl_654 ⟨by decide, by decide⟩ (by decide +kernel) zl_467 (Or.inl zl_466) (by decide +kernel)
set_option maxRecDepth 100000 in
theorem cd_X9_isYear_9 : decode cX9_isYear 9 = .ok (zi_rop (some .boolean), 1) := by decide +kernel
set_option maxRecDepth 100000 in
theorem cb_X9_beside_0 : ci_ok yX9_beside cX9_beside 5 0 (ci_seq (ci_load 0 1 1) 1 (ci_seq (ci_load 2 0 2) 2 (ci_seq (ci_getf 9 2 5) 5 (ci_seq (ci_dv (fun a b => a / b) 6) 6 (ci_seq (ci_store 0 3 7) 7 (ci_seq (ci_load 0 1 8) 8 (ci_seq (ci_load 2 0 9) 9 (ci_seq (ci_getf 9 2 12) 12 (ci_seq (ci_dv (fun a b => a - a / b * b) 13) 13 (ci_seq (ci_store 0 4 15) 15 (ci_seq (ci_load 0 2 16) 16 (ci_tsw 0 2 [44, 60, 80] 102)))))))))))) := cq_ok (cr_iload_n (k := 1) (by decide +kernel) rfl rfl) (cq_ok (cr_aload_n (k := 0) (by decide +kernel) rfl rfl) (cq_ok (cr_getf (idx := 120) zc_9 (by decide) zl_463 (by decide +kernel) rfl) (cq_ok (cr_idiv (by decide +kernel) rfl) (cq_ok (cr_istore_n (k := 3) (by decide +kernel) rfl (by decide) rfl) (cq_ok (cr_iload_n (k := 1) (by decide +kernel) rfl rfl) (cq_ok (cr_aload_n (k := 0) (by decide +kernel) rfl rfl) (cq_ok (cr_getf (idx := 120) zc_9 (by decide) zl_463 (by decide +kernel) rfl) (cq_ok (cr_irem (by decide +kernel) rfl) (cq_ok (cr_istore (by decide +kernel) (by decide) rfl) (cq_ok (cr_iload_n (k := 2) (by decide +kernel) rfl rfl) (cr_tsw (dflt := 86) (lo := 0) (hi := 2) (offs := #[28, 44, 64]) (len := 28) (by decide +kernel) (by decide) (by decide +kernel))))))))))))
set_option maxRecDepth 100000 in
theorem cb_X9_beside_44 : ci_ok yX9_beside cX9_beside 5 44 (ci_seq (ci_load 0 3 45) 45 (ci_if (fun x => decide (x ≤ 0)) 57 48)) := cq_ok (cr_iload_n (k := 3) (by decide +kernel) rfl rfl) (cr_if_le (off := 12) (by decide +kernel) (by decide) rfl)
set_option maxRecDepth 100000 in
theorem cb_X9_beside_48 : ci_ok yX9_beside cX9_beside 5 48 (ci_seq (ci_load 0 1 49) 49 (ci_seq (ci_load 2 0 50) 50 (ci_seq (ci_getf 9 2 53) 53 (ci_seq (ci_bin (fun a b => a - b) 54) 54 (ci_go 59))))) := cq_ok (cr_iload_n (k := 1) (by decide +kernel) rfl rfl) (cq_ok (cr_aload_n (k := 0) (by decide +kernel) rfl rfl) (cq_ok (cr_getf (idx := 120) zc_9 (by decide) zl_463 (by decide +kernel) rfl) (cq_ok (cr_isub (by decide +kernel) rfl) (cr_goto (off := 5) (by decide +kernel) (by decide)))))
set_option maxRecDepth 100000 in
theorem cb_X9_beside_57 : ci_ok yX9_beside cX9_beside 5 57 (ci_push (.int (-4)) 59) := cr_bipush (n := -4) (by decide +kernel) (by decide +kernel) rfl
set_option maxRecDepth 100000 in
theorem cd_X9_beside_59 : decode cX9_beside 59 = .ok (zi_rop (some .int), 1) := by decide +kernel
set_option maxRecDepth 100000 in
theorem cb_X9_beside_60 : ci_ok yX9_beside cX9_beside 5 60 (ci_seq (ci_load 0 4 62) 62 (ci_seq (ci_push (.int 1) 63) 63 (ci_seq (ci_bin (fun a b => a + b) 64) 64 (ci_seq (ci_load 2 0 65) 65 (ci_seq (ci_getf 9 2 68) 68 (ci_ic (fun x y => decide (y ≤ x)) 77 71)))))) := cq_ok (cr_iload (by decide +kernel) rfl) (cq_ok (cr_iconst2 (n := 1) (by decide +kernel) (by decide +kernel) rfl) (cq_ok (cr_iadd (by decide +kernel) rfl) (cq_ok (cr_aload_n (k := 0) (by decide +kernel) rfl rfl) (cq_ok (cr_getf (idx := 120) zc_9 (by decide) zl_463 (by decide +kernel) rfl) (cr_ic_ge (off := 9) (by decide +kernel) (by decide) rfl)))))
set_option maxRecDepth 100000 in
theorem cb_X9_beside_71 : ci_ok yX9_beside cX9_beside 5 71 (ci_seq (ci_load 0 1 72) 72 (ci_seq (ci_push (.int 1) 73) 73 (ci_seq (ci_bin (fun a b => a + b) 74) 74 (ci_go 79)))) := cq_ok (cr_iload_n (k := 1) (by decide +kernel) rfl rfl) (cq_ok (cr_iconst2 (n := 1) (by decide +kernel) (by decide +kernel) rfl) (cq_ok (cr_iadd (by decide +kernel) rfl) (cr_goto (off := 5) (by decide +kernel) (by decide))))
set_option maxRecDepth 100000 in
theorem cb_X9_beside_77 : ci_ok yX9_beside cX9_beside 5 77 (ci_push (.int (-4)) 79) := cr_bipush (n := -4) (by decide +kernel) (by decide +kernel) rfl
set_option maxRecDepth 100000 in
theorem cd_X9_beside_79 : decode cX9_beside 79 = .ok (zi_rop (some .int), 1) := by decide +kernel
set_option maxRecDepth 100000 in
theorem cb_X9_beside_80 : ci_ok yX9_beside cX9_beside 5 80 (ci_seq (ci_load 0 3 81) 81 (ci_seq (ci_push (.int 1) 82) 82 (ci_seq (ci_bin (fun a b => a + b) 83) 83 (ci_seq (ci_load 2 0 84) 84 (ci_seq (ci_getf 9 3 87) 87 (ci_ic (fun x y => decide (y ≤ x)) 99 90)))))) := cq_ok (cr_iload_n (k := 3) (by decide +kernel) rfl rfl) (cq_ok (cr_iconst2 (n := 1) (by decide +kernel) (by decide +kernel) rfl) (cq_ok (cr_iadd (by decide +kernel) rfl) (cq_ok (cr_aload_n (k := 0) (by decide +kernel) rfl rfl) (cq_ok (cr_getf (idx := 123) zc_9 (by decide) zl_462 (by decide +kernel) rfl) (cr_ic_ge (off := 12) (by decide +kernel) (by decide) rfl)))))
set_option maxRecDepth 100000 in
theorem cb_X9_beside_90 : ci_ok yX9_beside cX9_beside 5 90 (ci_seq (ci_load 0 1 91) 91 (ci_seq (ci_load 2 0 92) 92 (ci_seq (ci_getf 9 2 95) 95 (ci_seq (ci_bin (fun a b => a + b) 96) 96 (ci_go 101))))) := cq_ok (cr_iload_n (k := 1) (by decide +kernel) rfl rfl) (cq_ok (cr_aload_n (k := 0) (by decide +kernel) rfl rfl) (cq_ok (cr_getf (idx := 120) zc_9 (by decide) zl_463 (by decide +kernel) rfl) (cq_ok (cr_iadd (by decide +kernel) rfl) (cr_goto (off := 5) (by decide +kernel) (by decide)))))
set_option maxRecDepth 100000 in
theorem cb_X9_beside_99 : ci_ok yX9_beside cX9_beside 5 99 (ci_push (.int (-4)) 101) := cr_bipush (n := -4) (by decide +kernel) (by decide +kernel) rfl
set_option maxRecDepth 100000 in
theorem cd_X9_beside_101 : decode cX9_beside 101 = .ok (zi_rop (some .int), 1) := by decide +kernel
set_option maxRecDepth 100000 in
theorem cb_X9_beside_102 : ci_ok yX9_beside cX9_beside 5 102 (ci_seq (ci_load 0 4 104) 104 (ci_if (fun x => decide (x ≤ 0)) 113 107)) := cq_ok (cr_iload (by decide +kernel) rfl) (cr_if_le (off := 9) (by decide +kernel) (by decide) rfl)
set_option maxRecDepth 100000 in
theorem cb_X9_beside_107 : ci_ok yX9_beside cX9_beside 5 107 (ci_seq (ci_load 0 1 108) 108 (ci_seq (ci_push (.int 1) 109) 109 (ci_seq (ci_bin (fun a b => a - b) 110) 110 (ci_go 115)))) := cq_ok (cr_iload_n (k := 1) (by decide +kernel) rfl rfl) (cq_ok (cr_iconst2 (n := 1) (by decide +kernel) (by decide +kernel) rfl) (cq_ok (cr_isub (by decide +kernel) rfl) (cr_goto (off := 5) (by decide +kernel) (by decide))))
set_option maxRecDepth 100000 in
theorem cb_X9_beside_113 : ci_ok yX9_beside cX9_beside 5 113 (ci_push (.int (-4)) 115) := cr_bipush (n := -4) (by decide +kernel) (by decide +kernel) rfl
set_option maxRecDepth 100000 in
theorem cd_X9_beside_115 : decode cX9_beside 115 = .ok (zi_rop (some .int), 1) := by decide +kernel
set_option maxRecDepth 100000 in
theorem cb_X9_lowestBeside_0 : ci_ok yX9_lowestBeside cX9_lowestBeside 6 0 (ci_seq (ci_push (.int (-4)) 2) 2 (ci_seq (ci_store 0 2 3) 3 (ci_seq (ci_push (.int 0) 4) 4 (ci_store 0 3 5)))) := cq_ok (cr_bipush (n := -4) (by decide +kernel) (by decide +kernel) rfl) (cq_ok (cr_istore_n (k := 2) (by decide +kernel) rfl (by decide) rfl) (cq_ok (cr_iconst2 (n := 0) (by decide +kernel) (by decide +kernel) rfl) (cr_istore_n (k := 3) (by decide +kernel) rfl (by decide) rfl)))
set_option maxRecDepth 100000 in
theorem cb_X9_lowestBeside_5 : ci_ok yX9_lowestBeside cX9_lowestBeside 6 5 (ci_seq (ci_load 0 3 6) 6 (ci_seq (ci_push (.int 4) 7) 7 (ci_ic (fun x y => decide (y ≤ x)) 100 10))) := cq_ok (cr_iload_n (k := 3) (by decide +kernel) rfl rfl) (cq_ok (cr_iconst2 (n := 4) (by decide +kernel) (by decide +kernel) rfl) (cr_ic_ge (off := 93) (by decide +kernel) (by decide) rfl))
set_option maxRecDepth 100000 in
theorem cb_X9_lowestBeside_10 : ci_ok yX9_lowestBeside cX9_lowestBeside 6 10 (ci_seq (ci_load 2 0 11) 11 (ci_seq (ci_load 0 1 12) 12 (ci_load 0 3 13))) := cq_ok (cr_aload_n (k := 0) (by decide +kernel) rfl rfl) (cq_ok (cr_iload_n (k := 1) (by decide +kernel) rfl rfl) (cr_iload_n (k := 3) (by decide +kernel) rfl rfl))
set_option maxRecDepth 100000 in
theorem cl_X9_lowestBeside_13 : ci_calls yX9_lowestBeside cX9_lowestBeside 6 13 yX9_beside 3 (some 9) := cr_callV (idx := 215) zl_1017 ⟨by decide, by decide⟩ (by decide +kernel) zc_9 zl_522 zl_523 (Or.inl zl_521) (by decide +kernel)
set_option maxRecDepth 100000 in
theorem cb_X9_lowestBeside_16 : ci_ok yX9_lowestBeside cX9_lowestBeside 6 16 (ci_seq (ci_store 0 4 18) 18 (ci_seq (ci_load 0 4 20) 20 (ci_seq (ci_push (.int (-4)) 22) 22 (ci_ic (fun x y => decide (x = y)) 57 25)))) := cq_ok (cr_istore (by decide +kernel) (by decide) rfl) (cq_ok (cr_iload (by decide +kernel) rfl) (cq_ok (cr_bipush (n := -4) (by decide +kernel) (by decide +kernel) rfl) (cr_ic_eq (off := 35) (by decide +kernel) (by decide) rfl)))
set_option maxRecDepth 100000 in
theorem cb_X9_lowestBeside_25 : ci_ok yX9_lowestBeside cX9_lowestBeside 6 25 (ci_seq (ci_load 2 0 26) 26 (ci_seq (ci_getf 9 32 29) 29 (ci_seq (ci_load 0 4 31) 31 (ci_seq (ci_bin (fun a b => a >>> (b &&& 31)) 32) 32 (ci_seq (ci_push (.int 1) 33) 33 (ci_seq (ci_bin (fun a b => a &&& b) 34) 34 (ci_if (fun x => !decide (x = 0)) 57 37))))))) := cq_ok (cr_aload_n (k := 0) (by decide +kernel) rfl rfl) (cq_ok (cr_getf (idx := 218) zc_9 (by decide) zl_524 (by decide +kernel) rfl) (cq_ok (cr_iload (by decide +kernel) rfl) (cq_ok (cr_ishr (by decide +kernel) rfl) (cq_ok (cr_iconst2 (n := 1) (by decide +kernel) (by decide +kernel) rfl) (cq_ok (cr_iand (by decide +kernel) rfl) (cr_if_ne (off := 23) (by decide +kernel) (by decide) rfl))))))
set_option maxRecDepth 100000 in
theorem cb_X9_lowestBeside_37 : ci_ok yX9_lowestBeside cX9_lowestBeside 6 37 (ci_seq (ci_load 2 0 38) 38 (ci_seq (ci_getf 9 0 41) 41 (ci_seq (ci_load 0 4 43) 43 (ci_seq (ci_ald .int 44) 44 (ci_seq (ci_load 2 0 45) 45 (ci_seq (ci_getf 9 0 48) 48 (ci_seq (ci_load 0 1 49) 49 (ci_seq (ci_ald .int 50) 50 (ci_ic (fun x y => decide (y < x)) 57 53))))))))) := cq_ok (cr_aload_n (k := 0) (by decide +kernel) rfl rfl) (cq_ok (cr_getf (idx := 7) zc_9 (by decide) zl_441 (by decide +kernel) rfl) (cq_ok (cr_iload (by decide +kernel) rfl) (cq_ok (cr_ald (ins := .iaload) rfl (by decide +kernel) (Or.inl ⟨rfl, rfl⟩)) (cq_ok (cr_aload_n (k := 0) (by decide +kernel) rfl rfl) (cq_ok (cr_getf (idx := 7) zc_9 (by decide) zl_441 (by decide +kernel) rfl) (cq_ok (cr_iload_n (k := 1) (by decide +kernel) rfl rfl) (cq_ok (cr_ald (ins := .iaload) rfl (by decide +kernel) (Or.inl ⟨rfl, rfl⟩)) (cr_ic_gt (off := 7) (by decide +kernel) (by decide) rfl))))))))
set_option maxRecDepth 100000 in
theorem cb_X9_lowestBeside_53 : ci_ok yX9_lowestBeside cX9_lowestBeside 6 53 (ci_seq (ci_push (.int 1) 54) 54 (ci_go 58)) := cq_ok (cr_iconst2 (n := 1) (by decide +kernel) (by decide +kernel) rfl) (cr_goto (off := 4) (by decide +kernel) (by decide))
set_option maxRecDepth 100000 in
theorem cb_X9_lowestBeside_57 : ci_ok yX9_lowestBeside cX9_lowestBeside 6 57 (ci_push (.int 0) 58) := cr_iconst2 (n := 0) (by decide +kernel) (by decide +kernel) rfl
set_option maxRecDepth 100000 in
theorem cb_X9_lowestBeside_58 : ci_ok yX9_lowestBeside cX9_lowestBeside 6 58 (ci_seq (ci_store 0 5 60) 60 (ci_seq (ci_load 0 5 62) 62 (ci_if (fun x => decide (x = 0)) 92 65))) := cq_ok (cr_istore (by decide +kernel) (by decide) rfl) (cq_ok (cr_iload (by decide +kernel) rfl) (cr_if_eq (off := 30) (by decide +kernel) (by decide) rfl))
set_option maxRecDepth 100000 in
theorem cb_X9_lowestBeside_65 : ci_ok yX9_lowestBeside cX9_lowestBeside 6 65 (ci_seq (ci_load 0 2 66) 66 (ci_seq (ci_push (.int (-4)) 68) 68 (ci_ic (fun x y => decide (x = y)) 87 71))) := cq_ok (cr_iload_n (k := 2) (by decide +kernel) rfl rfl) (cq_ok (cr_bipush (n := -4) (by decide +kernel) (by decide +kernel) rfl) (cr_ic_eq (off := 19) (by decide +kernel) (by decide) rfl))
set_option maxRecDepth 100000 in
theorem cb_X9_lowestBeside_71 : ci_ok yX9_lowestBeside cX9_lowestBeside 6 71 (ci_seq (ci_load 2 0 72) 72 (ci_seq (ci_getf 9 0 75) 75 (ci_seq (ci_load 0 4 77) 77 (ci_seq (ci_ald .int 78) 78 (ci_seq (ci_load 2 0 79) 79 (ci_seq (ci_getf 9 0 82) 82 (ci_seq (ci_load 0 2 83) 83 (ci_seq (ci_ald .int 84) 84 (ci_ic (fun x y => decide (y ≤ x)) 92 87))))))))) := cq_ok (cr_aload_n (k := 0) (by decide +kernel) rfl rfl) (cq_ok (cr_getf (idx := 7) zc_9 (by decide) zl_441 (by decide +kernel) rfl) (cq_ok (cr_iload (by decide +kernel) rfl) (cq_ok (cr_ald (ins := .iaload) rfl (by decide +kernel) (Or.inl ⟨rfl, rfl⟩)) (cq_ok (cr_aload_n (k := 0) (by decide +kernel) rfl rfl) (cq_ok (cr_getf (idx := 7) zc_9 (by decide) zl_441 (by decide +kernel) rfl) (cq_ok (cr_iload_n (k := 2) (by decide +kernel) rfl rfl) (cq_ok (cr_ald (ins := .iaload) rfl (by decide +kernel) (Or.inl ⟨rfl, rfl⟩)) (cr_ic_ge (off := 8) (by decide +kernel) (by decide) rfl))))))))
set_option maxRecDepth 100000 in
theorem cb_X9_lowestBeside_87 : ci_ok yX9_lowestBeside cX9_lowestBeside 6 87 (ci_seq (ci_load 0 4 89) 89 (ci_go 93)) := cq_ok (cr_iload (by decide +kernel) rfl) (cr_goto (off := 4) (by decide +kernel) (by decide))
set_option maxRecDepth 100000 in
theorem cb_X9_lowestBeside_92 : ci_ok yX9_lowestBeside cX9_lowestBeside 6 92 (ci_load 0 2 93) := cr_iload_n (k := 2) (by decide +kernel) rfl rfl
set_option maxRecDepth 100000 in
theorem cb_X9_lowestBeside_93 : ci_ok yX9_lowestBeside cX9_lowestBeside 6 93 (ci_seq (ci_store 0 2 94) 94 (ci_seq (ci_inc 3 1 97) 97 (ci_go 5))) := cq_ok (cr_istore_n (k := 2) (by decide +kernel) rfl (by decide) rfl) (cq_ok (ci_inc_ok (by decide) (by decide +kernel) rfl) (cr_goto (off := -92) (by decide +kernel) (by decide)))
set_option maxRecDepth 100000 in
theorem cb_X9_lowestBeside_100 : ci_ok yX9_lowestBeside cX9_lowestBeside 6 100 (ci_load 0 2 101) := cr_iload_n (k := 2) (by decide +kernel) rfl rfl
set_option maxRecDepth 100000 in
theorem cd_X9_lowestBeside_101 : decode cX9_lowestBeside 101 = .ok (zi_rop (some .int), 1) := by decide +kernel
set_option maxRecDepth 100000 in
theorem cb_X9_findBed_0 : ci_ok yX9_findBed cX9_findBed 2 0 (ci_seq (ci_load 2 0 1) 1 (ci_seq (ci_push (.int 0) 2) 2 (ci_seq (ci_putf 9 31 .int 5) 5 (ci_seq (ci_load 2 0 6) 6 (ci_seq (ci_push (.int 0) 7) 7 (ci_seq (ci_putf 9 32 .int 10) 10 (ci_seq (ci_load 2 0 11) 11 (ci_seq (ci_getf 9 0 14) 14 (ci_seq (ci_push (.int 25) 16) 16 (ci_seq (ci_ald .int 17) 17 (ci_store 0 1 18))))))))))) := cq_ok (cr_aload_n (k := 0) (by decide +kernel) rfl rfl) (cq_ok (cr_iconst2 (n := 0) (by decide +kernel) (by decide +kernel) rfl) (cq_ok (cr_putf (idx := 221) zc_9 (by decide) (by decide +kernel) rfl zl_525 (by decide +kernel) rfl) (cq_ok (cr_aload_n (k := 0) (by decide +kernel) rfl rfl) (cq_ok (cr_iconst2 (n := 0) (by decide +kernel) (by decide +kernel) rfl) (cq_ok (cr_putf (idx := 218) zc_9 (by decide) (by decide +kernel) rfl zl_524 (by decide +kernel) rfl) (cq_ok (cr_aload_n (k := 0) (by decide +kernel) rfl rfl) (cq_ok (cr_getf (idx := 7) zc_9 (by decide) zl_441 (by decide +kernel) rfl) (cq_ok (cr_bipush (n := 25) (by decide +kernel) (by decide +kernel) rfl) (cq_ok (cr_ald (ins := .iaload) rfl (by decide +kernel) (Or.inl ⟨rfl, rfl⟩)) (cr_istore_n (k := 1) (by decide +kernel) rfl (by decide) rfl))))))))))
set_option maxRecDepth 100000 in
theorem cb_X9_findBed_18 : ci_ok yX9_findBed cX9_findBed 2 18 (ci_seq (ci_load 0 1 19) 19 (ci_seq (ci_push (.int (-4)) 21) 21 (ci_ic (fun x y => decide (x = y)) 65 24))) := cq_ok (cr_iload_n (k := 1) (by decide +kernel) rfl rfl) (cq_ok (cr_bipush (n := -4) (by decide +kernel) (by decide +kernel) rfl) (cr_ic_eq (off := 44) (by decide +kernel) (by decide) rfl))
set_option maxRecDepth 100000 in
theorem cb_X9_findBed_24 : ci_ok yX9_findBed cX9_findBed 2 24 (ci_seq (ci_load 2 0 25) 25 (ci_seq (ci_getf 9 30 28) 28 (ci_seq (ci_load 2 0 29) 29 (ci_seq (ci_getf 9 31 32) 32 (ci_seq (ci_load 0 1 33) 33 (ci_seq (ci_ast .int 34) 34 (ci_seq (ci_load 2 0 35) 35 (ci_seq (ci_dup 36) 36 (ci_seq (ci_getf 9 31 39) 39 (ci_seq (ci_push (.int 1) 40) 40 (ci_seq (ci_bin (fun a b => a + b) 41) 41 (ci_seq (ci_putf 9 31 .int 44) 44 (ci_seq (ci_load 2 0 45) 45 (ci_seq (ci_dup 46) 46 (ci_seq (ci_getf 9 32 49) 49 (ci_seq (ci_push (.int 1) 50) 50 (ci_seq (ci_load 0 1 51) 51 (ci_seq (ci_bin (fun a b => a <<< (b &&& 31)) 52) 52 (ci_seq (ci_bin (fun a b => a ||| b) 53) 53 (ci_seq (ci_putf 9 32 .int 56) 56 (ci_seq (ci_load 2 0 57) 57 (ci_load 0 1 58)))))))))))))))))))))) := cq_ok (cr_aload_n (k := 0) (by decide +kernel) rfl rfl) (cq_ok (cr_getf (idx := 35) zc_9 (by decide) zl_432 (by decide +kernel) rfl) (cq_ok (cr_aload_n (k := 0) (by decide +kernel) rfl rfl) (cq_ok (cr_getf (idx := 221) zc_9 (by decide) zl_525 (by decide +kernel) rfl) (cq_ok (cr_iload_n (k := 1) (by decide +kernel) rfl rfl) (cq_ok (cr_ast (ins := .iastore) rfl (by decide +kernel) (Or.inl ⟨rfl, rfl⟩)) (cq_ok (cr_aload_n (k := 0) (by decide +kernel) rfl rfl) (cq_ok (cr_dup (by decide +kernel) rfl) (cq_ok (cr_getf (idx := 221) zc_9 (by decide) zl_525 (by decide +kernel) rfl) (cq_ok (cr_iconst2 (n := 1) (by decide +kernel) (by decide +kernel) rfl) (cq_ok (cr_iadd (by decide +kernel) rfl) (cq_ok (cr_putf (idx := 221) zc_9 (by decide) (by decide +kernel) rfl zl_525 (by decide +kernel) rfl) (cq_ok (cr_aload_n (k := 0) (by decide +kernel) rfl rfl) (cq_ok (cr_dup (by decide +kernel) rfl) (cq_ok (cr_getf (idx := 218) zc_9 (by decide) zl_524 (by decide +kernel) rfl) (cq_ok (cr_iconst2 (n := 1) (by decide +kernel) (by decide +kernel) rfl) (cq_ok (cr_iload_n (k := 1) (by decide +kernel) rfl rfl) (cq_ok (cr_ishl (by decide +kernel) rfl) (cq_ok (cr_ior (by decide +kernel) rfl) (cq_ok (cr_putf (idx := 218) zc_9 (by decide) (by decide +kernel) rfl zl_524 (by decide +kernel) rfl) (cq_ok (cr_aload_n (k := 0) (by decide +kernel) rfl rfl) (cr_iload_n (k := 1) (by decide +kernel) rfl rfl)))))))))))))))))))))
set_option maxRecDepth 100000 in
theorem cl_X9_findBed_58 : ci_calls yX9_findBed cX9_findBed 2 58 yX9_lowestBeside 2 (some 9) := cr_callV (idx := 224) zl_1018 ⟨by decide, by decide⟩ (by decide +kernel) zc_9 zl_527 zl_528 (Or.inl zl_526) (by decide +kernel)
set_option maxRecDepth 100000 in
theorem cb_X9_findBed_61 : ci_ok yX9_findBed cX9_findBed 2 61 (ci_seq (ci_store 0 1 62) 62 (ci_go 18)) := cq_ok (cr_istore_n (k := 1) (by decide +kernel) rfl (by decide) rfl) (cr_goto (off := -44) (by decide +kernel) (by decide))
set_option maxRecDepth 100000 in
theorem cd_X9_findBed_65 : decode cX9_findBed 65 = .ok (zi_rop none, 1) := by decide +kernel
set_option maxRecDepth 100000 in
theorem cb_X9_bedNow_0 : ci_ok yX9_bedNow cX9_bedNow 1 0 (ci_load 2 0 1) := cr_aload_n (k := 0) (by decide +kernel) rfl rfl
set_option maxRecDepth 100000 in
theorem cl_X9_bedNow_1 : ci_calls yX9_bedNow cX9_bedNow 1 1 yX9_findBed 1 (some 9) := cr_callV (idx := 227) zl_1019 ⟨by decide, by decide⟩ (by decide +kernel) zc_9 zl_530 zl_531 (Or.inl zl_529) (by decide +kernel)
set_option maxRecDepth 100000 in
theorem cb_X9_bedNow_4 : ci_ok yX9_bedNow cX9_bedNow 1 4 (ci_seq (ci_load 2 0 5) 5 (ci_getf 9 32 8)) := cq_ok (cr_aload_n (k := 0) (by decide +kernel) rfl rfl) (cr_getf (idx := 218) zc_9 (by decide) zl_524 (by decide +kernel) rfl)
set_option maxRecDepth 100000 in
theorem cd_X9_bedNow_8 : decode cX9_bedNow 8 = .ok (zi_rop (some .int), 1) := by decide +kernel
set_option maxRecDepth 100000 in
theorem cb_X9_hasNow_0 : ci_ok yX9_hasNow cX9_hasNow 5 0 (ci_load 2 0 1) := cr_aload_n (k := 0) (by decide +kernel) rfl rfl
set_option maxRecDepth 100000 in
theorem cl_X9_hasNow_1 : ci_calls yX9_hasNow cX9_hasNow 5 1 yX9_bedNow 1 (some 9) := cr_callV (idx := 230) zl_1020 ⟨by decide, by decide⟩ (by decide +kernel) zc_9 zl_533 zl_534 (Or.inl zl_532) (by decide +kernel)
set_option maxRecDepth 100000 in
theorem cb_X9_hasNow_4 : ci_ok yX9_hasNow cX9_hasNow 5 4 (ci_seq (ci_store 0 2 5) 5 (ci_seq (ci_push (.int 0) 6) 6 (ci_seq (ci_store 0 3 7) 7 (ci_seq (ci_push (.int 0) 8) 8 (ci_store 0 4 10))))) := cq_ok (cr_istore_n (k := 2) (by decide +kernel) rfl (by decide) rfl) (cq_ok (cr_iconst2 (n := 0) (by decide +kernel) (by decide +kernel) rfl) (cq_ok (cr_istore_n (k := 3) (by decide +kernel) rfl (by decide) rfl) (cq_ok (cr_iconst2 (n := 0) (by decide +kernel) (by decide +kernel) rfl) (cr_istore (by decide +kernel) (by decide) rfl))))
set_option maxRecDepth 100000 in
theorem cb_X9_hasNow_10 : ci_ok yX9_hasNow cX9_hasNow 5 10 (ci_seq (ci_load 0 4 12) 12 (ci_seq (ci_load 2 0 13) 13 (ci_seq (ci_getf 9 2 16) 16 (ci_seq (ci_load 2 0 17) 17 (ci_seq (ci_getf 9 3 20) 20 (ci_seq (ci_bin (fun a b => a * b) 21) 21 (ci_ic (fun x y => decide (y ≤ x)) 54 24))))))) := cq_ok (cr_iload (by decide +kernel) rfl) (cq_ok (cr_aload_n (k := 0) (by decide +kernel) rfl rfl) (cq_ok (cr_getf (idx := 120) zc_9 (by decide) zl_463 (by decide +kernel) rfl) (cq_ok (cr_aload_n (k := 0) (by decide +kernel) rfl rfl) (cq_ok (cr_getf (idx := 123) zc_9 (by decide) zl_462 (by decide +kernel) rfl) (cq_ok (cr_imul (by decide +kernel) rfl) (cr_ic_ge (off := 33) (by decide +kernel) (by decide) rfl))))))
set_option maxRecDepth 100000 in
theorem cb_X9_hasNow_24 : ci_ok yX9_hasNow cX9_hasNow 5 24 (ci_seq (ci_load 0 3 25) 25 (ci_seq (ci_load 2 0 26) 26 (ci_seq (ci_getf 9 5 29) 29 (ci_seq (ci_load 0 4 31) 31 (ci_seq (ci_ald .int 32) 32 (ci_seq (ci_load 0 1 33) 33 (ci_ic (fun x y => !decide (x = y)) 45 36))))))) := cq_ok (cr_iload_n (k := 3) (by decide +kernel) rfl rfl) (cq_ok (cr_aload_n (k := 0) (by decide +kernel) rfl rfl) (cq_ok (cr_getf (idx := 17) zc_9 (by decide) zl_438 (by decide +kernel) rfl) (cq_ok (cr_iload (by decide +kernel) rfl) (cq_ok (cr_ald (ins := .iaload) rfl (by decide +kernel) (Or.inl ⟨rfl, rfl⟩)) (cq_ok (cr_iload_n (k := 1) (by decide +kernel) rfl rfl) (cr_ic_ne (off := 12) (by decide +kernel) (by decide) rfl))))))
set_option maxRecDepth 100000 in
theorem cb_X9_hasNow_36 : ci_ok yX9_hasNow cX9_hasNow 5 36 (ci_seq (ci_load 0 2 37) 37 (ci_seq (ci_load 0 4 39) 39 (ci_seq (ci_bin (fun a b => a >>> (b &&& 31)) 40) 40 (ci_seq (ci_push (.int 1) 41) 41 (ci_seq (ci_bin (fun a b => a &&& b) 42) 42 (ci_go 46)))))) := cq_ok (cr_iload_n (k := 2) (by decide +kernel) rfl rfl) (cq_ok (cr_iload (by decide +kernel) rfl) (cq_ok (cr_ishr (by decide +kernel) rfl) (cq_ok (cr_iconst2 (n := 1) (by decide +kernel) (by decide +kernel) rfl) (cq_ok (cr_iand (by decide +kernel) rfl) (cr_goto (off := 4) (by decide +kernel) (by decide))))))
set_option maxRecDepth 100000 in
theorem cb_X9_hasNow_45 : ci_ok yX9_hasNow cX9_hasNow 5 45 (ci_push (.int 0) 46) := cr_iconst2 (n := 0) (by decide +kernel) (by decide +kernel) rfl
set_option maxRecDepth 100000 in
theorem cb_X9_hasNow_46 : ci_ok yX9_hasNow cX9_hasNow 5 46 (ci_seq (ci_bin (fun a b => a + b) 47) 47 (ci_seq (ci_store 0 3 48) 48 (ci_seq (ci_inc 4 1 51) 51 (ci_go 10)))) := cq_ok (cr_iadd (by decide +kernel) rfl) (cq_ok (cr_istore_n (k := 3) (by decide +kernel) rfl (by decide) rfl) (cq_ok (ci_inc_ok (by decide) (by decide +kernel) rfl) (cr_goto (off := -41) (by decide +kernel) (by decide))))
set_option maxRecDepth 100000 in
theorem cb_X9_hasNow_54 : ci_ok yX9_hasNow cX9_hasNow 5 54 (ci_seq (ci_load 0 3 55) 55 (ci_seq (ci_load 2 0 56) 56 (ci_seq (ci_getf 9 0 59) 59 (ci_seq (ci_push (.int 28) 61) 61 (ci_seq (ci_load 0 1 62) 62 (ci_seq (ci_bin (fun a b => a + b) 63) 63 (ci_seq (ci_ald .int 64) 64 (ci_bin (fun a b => a * b) 65)))))))) := cq_ok (cr_iload_n (k := 3) (by decide +kernel) rfl rfl) (cq_ok (cr_aload_n (k := 0) (by decide +kernel) rfl rfl) (cq_ok (cr_getf (idx := 7) zc_9 (by decide) zl_441 (by decide +kernel) rfl) (cq_ok (cr_bipush (n := 28) (by decide +kernel) (by decide +kernel) rfl) (cq_ok (cr_iload_n (k := 1) (by decide +kernel) rfl rfl) (cq_ok (cr_iadd (by decide +kernel) rfl) (cq_ok (cr_ald (ins := .iaload) rfl (by decide +kernel) (Or.inl ⟨rfl, rfl⟩)) (cr_imul (by decide +kernel) rfl)))))))
set_option maxRecDepth 100000 in
theorem cd_X9_hasNow_65 : decode cX9_hasNow 65 = .ok (zi_rop (some .int), 1) := by decide +kernel
set_option maxRecDepth 100000 in
theorem cb_X9_isBeside_0 : ci_ok yX9_isBeside cX9_isBeside 6 0 (ci_seq (ci_push (.int 0) 1) 1 (ci_seq (ci_store 0 3 2) 2 (ci_seq (ci_push (.int 0) 3) 3 (ci_store 0 4 5)))) := cq_ok (cr_iconst2 (n := 0) (by decide +kernel) (by decide +kernel) rfl) (cq_ok (cr_istore_n (k := 3) (by decide +kernel) rfl (by decide) rfl) (cq_ok (cr_iconst2 (n := 0) (by decide +kernel) (by decide +kernel) rfl) (cr_istore (by decide +kernel) (by decide) rfl)))
set_option maxRecDepth 100000 in
theorem cb_X9_isBeside_5 : ci_ok yX9_isBeside cX9_isBeside 6 5 (ci_seq (ci_load 0 4 7) 7 (ci_seq (ci_push (.int 4) 8) 8 (ci_ic (fun x y => decide (y ≤ x)) 53 11))) := cq_ok (cr_iload (by decide +kernel) rfl) (cq_ok (cr_iconst2 (n := 4) (by decide +kernel) (by decide +kernel) rfl) (cr_ic_ge (off := 45) (by decide +kernel) (by decide) rfl))
set_option maxRecDepth 100000 in
theorem cb_X9_isBeside_11 : ci_ok yX9_isBeside cX9_isBeside 6 11 (ci_seq (ci_load 2 0 12) 12 (ci_seq (ci_load 0 1 13) 13 (ci_load 0 4 15))) := cq_ok (cr_aload_n (k := 0) (by decide +kernel) rfl rfl) (cq_ok (cr_iload_n (k := 1) (by decide +kernel) rfl rfl) (cr_iload (by decide +kernel) rfl))
set_option maxRecDepth 100000 in
theorem cl_X9_isBeside_15 : ci_calls yX9_isBeside cX9_isBeside 6 15 yX9_beside 3 (some 9) := cr_callV (idx := 215) zl_1017 ⟨by decide, by decide⟩ (by decide +kernel) zc_9 zl_522 zl_523 (Or.inl zl_521) (by decide +kernel)
set_option maxRecDepth 100000 in
theorem cb_X9_isBeside_18 : ci_ok yX9_isBeside cX9_isBeside 6 18 (ci_seq (ci_store 0 5 20) 20 (ci_seq (ci_load 0 3 21) 21 (ci_if (fun x => !decide (x = 0)) 41 24))) := cq_ok (cr_istore (by decide +kernel) (by decide) rfl) (cq_ok (cr_iload_n (k := 3) (by decide +kernel) rfl rfl) (cr_if_ne (off := 20) (by decide +kernel) (by decide) rfl))
set_option maxRecDepth 100000 in
theorem cb_X9_isBeside_24 : ci_ok yX9_isBeside cX9_isBeside 6 24 (ci_seq (ci_load 0 5 26) 26 (ci_seq (ci_push (.int (-4)) 28) 28 (ci_ic (fun x y => decide (x = y)) 45 31))) := cq_ok (cr_iload (by decide +kernel) rfl) (cq_ok (cr_bipush (n := -4) (by decide +kernel) (by decide +kernel) rfl) (cr_ic_eq (off := 17) (by decide +kernel) (by decide) rfl))
set_option maxRecDepth 100000 in
theorem cb_X9_isBeside_31 : ci_ok yX9_isBeside cX9_isBeside 6 31 (ci_seq (ci_load 0 2 32) 32 (ci_seq (ci_load 0 5 34) 34 (ci_seq (ci_bin (fun a b => a >>> (b &&& 31)) 35) 35 (ci_seq (ci_push (.int 1) 36) 36 (ci_seq (ci_bin (fun a b => a &&& b) 37) 37 (ci_seq (ci_push (.int 1) 38) 38 (ci_ic (fun x y => !decide (x = y)) 45 41))))))) := cq_ok (cr_iload_n (k := 2) (by decide +kernel) rfl rfl) (cq_ok (cr_iload (by decide +kernel) rfl) (cq_ok (cr_ishr (by decide +kernel) rfl) (cq_ok (cr_iconst2 (n := 1) (by decide +kernel) (by decide +kernel) rfl) (cq_ok (cr_iand (by decide +kernel) rfl) (cq_ok (cr_iconst2 (n := 1) (by decide +kernel) (by decide +kernel) rfl) (cr_ic_ne (off := 7) (by decide +kernel) (by decide) rfl))))))
set_option maxRecDepth 100000 in
theorem cb_X9_isBeside_41 : ci_ok yX9_isBeside cX9_isBeside 6 41 (ci_seq (ci_push (.int 1) 42) 42 (ci_go 46)) := cq_ok (cr_iconst2 (n := 1) (by decide +kernel) (by decide +kernel) rfl) (cr_goto (off := 4) (by decide +kernel) (by decide))
set_option maxRecDepth 100000 in
theorem cb_X9_isBeside_45 : ci_ok yX9_isBeside cX9_isBeside 6 45 (ci_push (.int 0) 46) := cr_iconst2 (n := 0) (by decide +kernel) (by decide +kernel) rfl
set_option maxRecDepth 100000 in
theorem cb_X9_isBeside_46 : ci_ok yX9_isBeside cX9_isBeside 6 46 (ci_seq (ci_store 0 3 47) 47 (ci_seq (ci_inc 4 1 50) 50 (ci_go 5))) := cq_ok (cr_istore_n (k := 3) (by decide +kernel) rfl (by decide) rfl) (cq_ok (ci_inc_ok (by decide) (by decide +kernel) rfl) (cr_goto (off := -45) (by decide +kernel) (by decide)))
set_option maxRecDepth 100000 in
theorem cb_X9_isBeside_53 : ci_ok yX9_isBeside cX9_isBeside 6 53 (ci_load 0 3 54) := cr_iload_n (k := 3) (by decide +kernel) rfl rfl
set_option maxRecDepth 100000 in
theorem cd_X9_isBeside_54 : decode cX9_isBeside 54 = .ok (zi_rop (some .boolean), 1) := by decide +kernel
set_option maxRecDepth 100000 in
theorem cb_X9_mayCut_0 : ci_ok yX9_mayCut cX9_mayCut 8 0 (ci_load 2 0 1) := cr_aload_n (k := 0) (by decide +kernel) rfl rfl
set_option maxRecDepth 100000 in
theorem cl_X9_mayCut_1 : ci_calls yX9_mayCut cX9_mayCut 8 1 yX9_bedNow 1 (some 9) := cr_callV (idx := 230) zl_1020 ⟨by decide, by decide⟩ (by decide +kernel) zc_9 zl_533 zl_534 (Or.inl zl_532) (by decide +kernel)
set_option maxRecDepth 100000 in
theorem cb_X9_mayCut_4 : ci_ok yX9_mayCut cX9_mayCut 8 4 (ci_seq (ci_store 0 2 5) 5 (ci_seq (ci_push (.int 0) 6) 6 (ci_seq (ci_store 0 3 7) 7 (ci_seq (ci_push (.int 0) 8) 8 (ci_store 0 4 10))))) := cq_ok (cr_istore_n (k := 2) (by decide +kernel) rfl (by decide) rfl) (cq_ok (cr_iconst2 (n := 0) (by decide +kernel) (by decide +kernel) rfl) (cq_ok (cr_istore_n (k := 3) (by decide +kernel) rfl (by decide) rfl) (cq_ok (cr_iconst2 (n := 0) (by decide +kernel) (by decide +kernel) rfl) (cr_istore (by decide +kernel) (by decide) rfl))))
set_option maxRecDepth 100000 in
theorem cb_X9_mayCut_10 : ci_ok yX9_mayCut cX9_mayCut 8 10 (ci_seq (ci_load 0 4 12) 12 (ci_seq (ci_load 2 0 13) 13 (ci_seq (ci_getf 9 2 16) 16 (ci_seq (ci_load 2 0 17) 17 (ci_seq (ci_getf 9 3 20) 20 (ci_seq (ci_bin (fun a b => a * b) 21) 21 (ci_ic (fun x y => decide (y ≤ x)) 156 24))))))) := cq_ok (cr_iload (by decide +kernel) rfl) (cq_ok (cr_aload_n (k := 0) (by decide +kernel) rfl rfl) (cq_ok (cr_getf (idx := 120) zc_9 (by decide) zl_463 (by decide +kernel) rfl) (cq_ok (cr_aload_n (k := 0) (by decide +kernel) rfl rfl) (cq_ok (cr_getf (idx := 123) zc_9 (by decide) zl_462 (by decide +kernel) rfl) (cq_ok (cr_imul (by decide +kernel) rfl) (cr_ic_ge (off := 135) (by decide +kernel) (by decide) rfl))))))
set_option maxRecDepth 100000 in
theorem cb_X9_mayCut_24 : ci_ok yX9_mayCut cX9_mayCut 8 24 (ci_seq (ci_load 0 2 25) 25 (ci_seq (ci_load 0 4 27) 27 (ci_seq (ci_bin (fun a b => a >>> (b &&& 31)) 28) 28 (ci_seq (ci_push (.int 1) 29) 29 (ci_seq (ci_bin (fun a b => a &&& b) 30) 30 (ci_seq (ci_push (.int 1) 31) 31 (ci_ic (fun x y => !decide (x = y)) 38 34))))))) := cq_ok (cr_iload_n (k := 2) (by decide +kernel) rfl rfl) (cq_ok (cr_iload (by decide +kernel) rfl) (cq_ok (cr_ishr (by decide +kernel) rfl) (cq_ok (cr_iconst2 (n := 1) (by decide +kernel) (by decide +kernel) rfl) (cq_ok (cr_iand (by decide +kernel) rfl) (cq_ok (cr_iconst2 (n := 1) (by decide +kernel) (by decide +kernel) rfl) (cr_ic_ne (off := 7) (by decide +kernel) (by decide) rfl))))))
set_option maxRecDepth 100000 in
theorem cb_X9_mayCut_34 : ci_ok yX9_mayCut cX9_mayCut 8 34 (ci_seq (ci_push (.int 1) 35) 35 (ci_go 39)) := cq_ok (cr_iconst2 (n := 1) (by decide +kernel) (by decide +kernel) rfl) (cr_goto (off := 4) (by decide +kernel) (by decide))
set_option maxRecDepth 100000 in
theorem cb_X9_mayCut_38 : ci_ok yX9_mayCut cX9_mayCut 8 38 (ci_push (.int 0) 39) := cr_iconst2 (n := 0) (by decide +kernel) (by decide +kernel) rfl
set_option maxRecDepth 100000 in
theorem cb_X9_mayCut_39 : ci_ok yX9_mayCut cX9_mayCut 8 39 (ci_seq (ci_store 0 5 41) 41 (ci_seq (ci_load 2 0 42) 42 (ci_seq (ci_load 0 4 44) 44 (ci_load 0 2 45)))) := cq_ok (cr_istore (by decide +kernel) (by decide) rfl) (cq_ok (cr_aload_n (k := 0) (by decide +kernel) rfl rfl) (cq_ok (cr_iload (by decide +kernel) rfl) (cr_iload_n (k := 2) (by decide +kernel) rfl rfl)))
set_option maxRecDepth 100000 in
theorem cl_X9_mayCut_45 : ci_calls yX9_mayCut cX9_mayCut 8 45 yX9_isBeside 3 (some 9) := cr_callV (idx := 233) zl_1022 ⟨by decide, by decide⟩ (by decide +kernel) zc_9 zl_536 zl_537 (Or.inl zl_535) (by decide +kernel)
set_option maxRecDepth 100000 in
theorem cb_X9_mayCut_48 : ci_ok yX9_mayCut cX9_mayCut 8 48 (ci_seq (ci_store 0 6 50) 50 (ci_seq (ci_load 2 0 51) 51 (ci_seq (ci_getf 9 0 54) 54 (ci_seq (ci_push (.int 26) 56) 56 (ci_seq (ci_ald .int 57) 57 (ci_if (fun x => decide (x = 0)) 102 60)))))) := cq_ok (cr_istore (by decide +kernel) (by decide) rfl) (cq_ok (cr_aload_n (k := 0) (by decide +kernel) rfl rfl) (cq_ok (cr_getf (idx := 7) zc_9 (by decide) zl_441 (by decide +kernel) rfl) (cq_ok (cr_bipush (n := 26) (by decide +kernel) (by decide +kernel) rfl) (cq_ok (cr_ald (ins := .iaload) rfl (by decide +kernel) (Or.inl ⟨rfl, rfl⟩)) (cr_if_eq (off := 45) (by decide +kernel) (by decide) rfl)))))
set_option maxRecDepth 100000 in
theorem cb_X9_mayCut_60 : ci_ok yX9_mayCut cX9_mayCut 8 60 (ci_seq (ci_load 2 0 61) 61 (ci_seq (ci_getf 9 0 64) 64 (ci_seq (ci_push (.int 26) 66) 66 (ci_seq (ci_ald .int 67) 67 (ci_seq (ci_push (.int 1) 68) 68 (ci_ic (fun x y => !decide (x = y)) 81 71)))))) := cq_ok (cr_aload_n (k := 0) (by decide +kernel) rfl rfl) (cq_ok (cr_getf (idx := 7) zc_9 (by decide) zl_441 (by decide +kernel) rfl) (cq_ok (cr_bipush (n := 26) (by decide +kernel) (by decide +kernel) rfl) (cq_ok (cr_ald (ins := .iaload) rfl (by decide +kernel) (Or.inl ⟨rfl, rfl⟩)) (cq_ok (cr_iconst2 (n := 1) (by decide +kernel) (by decide +kernel) rfl) (cr_ic_ne (off := 13) (by decide +kernel) (by decide) rfl)))))
set_option maxRecDepth 100000 in
theorem cb_X9_mayCut_71 : ci_ok yX9_mayCut cX9_mayCut 8 71 (ci_seq (ci_load 0 5 73) 73 (ci_if (fun x => !decide (x = 0)) 102 76)) := cq_ok (cr_iload (by decide +kernel) rfl) (cr_if_ne (off := 29) (by decide +kernel) (by decide) rfl)
set_option maxRecDepth 100000 in
theorem cb_X9_mayCut_76 : ci_ok yX9_mayCut cX9_mayCut 8 76 (ci_seq (ci_load 0 6 78) 78 (ci_if (fun x => !decide (x = 0)) 102 81)) := cq_ok (cr_iload (by decide +kernel) rfl) (cr_if_ne (off := 24) (by decide +kernel) (by decide) rfl)
set_option maxRecDepth 100000 in
theorem cb_X9_mayCut_81 : ci_ok yX9_mayCut cX9_mayCut 8 81 (ci_seq (ci_load 2 0 82) 82 (ci_seq (ci_getf 9 0 85) 85 (ci_seq (ci_push (.int 26) 87) 87 (ci_seq (ci_ald .int 88) 88 (ci_seq (ci_push (.int 2) 89) 89 (ci_ic (fun x y => !decide (x = y)) 106 92)))))) := cq_ok (cr_aload_n (k := 0) (by decide +kernel) rfl rfl) (cq_ok (cr_getf (idx := 7) zc_9 (by decide) zl_441 (by decide +kernel) rfl) (cq_ok (cr_bipush (n := 26) (by decide +kernel) (by decide +kernel) rfl) (cq_ok (cr_ald (ins := .iaload) rfl (by decide +kernel) (Or.inl ⟨rfl, rfl⟩)) (cq_ok (cr_iconst2 (n := 2) (by decide +kernel) (by decide +kernel) rfl) (cr_ic_ne (off := 17) (by decide +kernel) (by decide) rfl)))))
set_option maxRecDepth 100000 in
theorem cb_X9_mayCut_92 : ci_ok yX9_mayCut cX9_mayCut 8 92 (ci_seq (ci_load 0 6 94) 94 (ci_if (fun x => decide (x = 0)) 106 97)) := cq_ok (cr_iload (by decide +kernel) rfl) (cr_if_eq (off := 12) (by decide +kernel) (by decide) rfl)
set_option maxRecDepth 100000 in
theorem cb_X9_mayCut_97 : ci_ok yX9_mayCut cX9_mayCut 8 97 (ci_seq (ci_load 0 5 99) 99 (ci_if (fun x => !decide (x = 0)) 106 102)) := cq_ok (cr_iload (by decide +kernel) rfl) (cr_if_ne (off := 7) (by decide +kernel) (by decide) rfl)
set_option maxRecDepth 100000 in
theorem cb_X9_mayCut_102 : ci_ok yX9_mayCut cX9_mayCut 8 102 (ci_seq (ci_push (.int 1) 103) 103 (ci_go 107)) := cq_ok (cr_iconst2 (n := 1) (by decide +kernel) (by decide +kernel) rfl) (cr_goto (off := 4) (by decide +kernel) (by decide))
set_option maxRecDepth 100000 in
theorem cb_X9_mayCut_106 : ci_ok yX9_mayCut cX9_mayCut 8 106 (ci_push (.int 0) 107) := cr_iconst2 (n := 0) (by decide +kernel) (by decide +kernel) rfl
set_option maxRecDepth 100000 in
theorem cb_X9_mayCut_107 : ci_ok yX9_mayCut cX9_mayCut 8 107 (ci_seq (ci_store 0 7 109) 109 (ci_seq (ci_load 0 3 110) 110 (ci_seq (ci_load 2 0 111) 111 (ci_seq (ci_getf 9 5 114) 114 (ci_seq (ci_load 0 4 116) 116 (ci_seq (ci_ald .int 117) 117 (ci_seq (ci_load 0 1 118) 118 (ci_ic (fun x y => !decide (x = y)) 141 121)))))))) := cq_ok (cr_istore (by decide +kernel) (by decide) rfl) (cq_ok (cr_iload_n (k := 3) (by decide +kernel) rfl rfl) (cq_ok (cr_aload_n (k := 0) (by decide +kernel) rfl rfl) (cq_ok (cr_getf (idx := 17) zc_9 (by decide) zl_438 (by decide +kernel) rfl) (cq_ok (cr_iload (by decide +kernel) rfl) (cq_ok (cr_ald (ins := .iaload) rfl (by decide +kernel) (Or.inl ⟨rfl, rfl⟩)) (cq_ok (cr_iload_n (k := 1) (by decide +kernel) rfl rfl) (cr_ic_ne (off := 23) (by decide +kernel) (by decide) rfl)))))))
set_option maxRecDepth 100000 in
theorem cb_X9_mayCut_121 : ci_ok yX9_mayCut cX9_mayCut 8 121 (ci_seq (ci_load 2 0 122) 122 (ci_seq (ci_getf 9 0 125) 125 (ci_seq (ci_load 0 4 127) 127 (ci_seq (ci_ald .int 128) 128 (ci_seq (ci_push (.int 3) 129) 129 (ci_ic (fun x y => decide (x < y)) 141 132)))))) := cq_ok (cr_aload_n (k := 0) (by decide +kernel) rfl rfl) (cq_ok (cr_getf (idx := 7) zc_9 (by decide) zl_441 (by decide +kernel) rfl) (cq_ok (cr_iload (by decide +kernel) rfl) (cq_ok (cr_ald (ins := .iaload) rfl (by decide +kernel) (Or.inl ⟨rfl, rfl⟩)) (cq_ok (cr_iconst2 (n := 3) (by decide +kernel) (by decide +kernel) rfl) (cr_ic_lt (off := 12) (by decide +kernel) (by decide) rfl)))))
set_option maxRecDepth 100000 in
theorem cb_X9_mayCut_132 : ci_ok yX9_mayCut cX9_mayCut 8 132 (ci_seq (ci_load 0 7 134) 134 (ci_if (fun x => decide (x = 0)) 141 137)) := cq_ok (cr_iload (by decide +kernel) rfl) (cr_if_eq (off := 7) (by decide +kernel) (by decide) rfl)
set_option maxRecDepth 100000 in
theorem cb_X9_mayCut_137 : ci_ok yX9_mayCut cX9_mayCut 8 137 (ci_seq (ci_push (.int 1) 138) 138 (ci_go 142)) := cq_ok (cr_iconst2 (n := 1) (by decide +kernel) (by decide +kernel) rfl) (cr_goto (off := 4) (by decide +kernel) (by decide))
set_option maxRecDepth 100000 in
theorem cb_X9_mayCut_141 : ci_ok yX9_mayCut cX9_mayCut 8 141 (ci_push (.int 0) 142) := cr_iconst2 (n := 0) (by decide +kernel) (by decide +kernel) rfl
