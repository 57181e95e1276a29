set_option maxRecDepth 100000 in
theorem cb_L_law_18 : ci_ok yL_law cL_law 4 18 (ci_seq (ci_load 0 3 19) 19 (ci_load 2 0 20)) := cq_ok (cr_iload_n (k := 3) (dq_29 (by decide +kernel)) rfl rfl) (cr_aload_n (k := 0) (dq_42 (by decide +kernel)) rfl rfl)
set_option maxRecDepth 100000 in
theorem cb_L_law_21 : ci_ok yL_law cL_law 4 21 (ci_seq (ci_push (.int 5) 22) 22 (ci_seq (ci_bin (fun a b => a - b) 23) 23 (ci_ic (fun x y => decide (y < x)) 1228 26))) := cq_ok (cr_iconst2 (n := 5) (dq_8 (by decide +kernel)) (by decide +kernel) rfl) (cq_ok (cr_isub (dq_100 (by decide +kernel)) rfl) (cr_ic_gt (off := 1205) (dq_163 (a := 4) (b := 181) (by decide +kernel) rfl) (by decide) rfl))
set_option maxRecDepth 100000 in
theorem cb_L_law_26 : ci_ok yL_law cL_law 4 26 (ci_seq (ci_load 2 0 27) 27 (ci_load 0 3 28)) := cq_ok (cr_aload_n (k := 0) (dq_42 (by decide +kernel)) rfl rfl) (cr_iload_n (k := 3) (dq_29 (by decide +kernel)) rfl rfl)
set_option maxRecDepth 100000 in
theorem cb_L_law_29 : ci_ok yL_law cL_law 4 29 (ci_seq (ci_push (.int 63) 31) 31 (ci_seq (ci_bin (fun a b => a &&& b) 32) 32 (ci_tsw 0 35 [192, 245, 268, 281, 294, 317, 350, 383, 406, 439, 462, 485, 524, 557, 580, 613, 636, 659, 682, 725, 758, 781, 804, 827, 850, 873, 906, 955, 978, 1001, 1024, 1047, 1090, 1133, 1186, 1199] 1222))) := cq_ok (cr_bipush (n := 63) (dq_16 (a := 63) (by decide +kernel) rfl) (by decide +kernel) rfl) (cq_ok (cr_iand (dq_126 (by decide +kernel)) rfl) (cr_tsw (dflt := 1190) (lo := 0) (hi := 35) (offs := #[160, 213, 236, 249, 262, 285, 318, 351, 374, 407, 430, 453, 492, 525, 548, 581, 604, 627, 650, 693, 726, 749, 772, 795, 818, 841, 874, 923, 946, 969, 992, 1015, 1058, 1101, 1154, 1167]) (len := 160) (by decide +kernel) (by decide) (by decide +kernel)))
set_option maxRecDepth 100000 in
theorem cb_L_law_192 : ci_ok yL_law cL_law 4 192 (ci_seq (ci_load 2 1 193) 193 (ci_seq (ci_load 2 0 194) 194 (ci_seq (ci_load 0 3 195) 195 (ci_seq (ci_push (.int 1) 196) 196 (ci_bin (fun a b => a + b) 197))))) := cq_ok (cr_aload_n (k := 1) (dq_43 (by decide +kernel)) rfl rfl) (cq_ok (cr_aload_n (k := 0) (dq_42 (by decide +kernel)) rfl rfl) (cq_ok (cr_iload_n (k := 3) (dq_29 (by decide +kernel)) rfl rfl) (cq_ok (cr_iconst2 (n := 1) (dq_4 (by decide +kernel)) (by decide +kernel) rfl) (cr_iadd (dq_96 (by decide +kernel)) rfl))))
set_option maxRecDepth 100000 in
theorem cb_L_law_198 : ci_ok yL_law cL_law 4 198 (ci_seq (ci_i2l 199) 199 (ci_seq (ci_push (.int 32) 201) 201 (ci_seq (ci_shfl (fun a b => a <<< (b.toInt64 &&& 63)) 202) 202 (ci_seq (ci_load 2 0 203) 203 (ci_seq (ci_load 0 3 204) 204 (ci_seq (ci_push (.int 2) 205) 205 (ci_bin (fun a b => a + b) 206))))))) := cq_ok (cr_i2l (dq_133 (by decide +kernel)) rfl) (cq_ok (cr_bipush (n := 32) (dq_16 (a := 32) (by decide +kernel) rfl) (by decide +kernel) rfl) (cq_ok (cr_lshl (dq_121 (by decide +kernel)) rfl) (cq_ok (cr_aload_n (k := 0) (dq_42 (by decide +kernel)) rfl rfl) (cq_ok (cr_iload_n (k := 3) (dq_29 (by decide +kernel)) rfl rfl) (cq_ok (cr_iconst2 (n := 2) (dq_5 (by decide +kernel)) (by decide +kernel) rfl) (cr_iadd (dq_96 (by decide +kernel)) rfl))))))
set_option maxRecDepth 100000 in
theorem cb_L_law_207 : ci_ok yL_law cL_law 4 207 (ci_seq (ci_i2l 208) 208 (ci_seq (ci_push (.long 4294967295) 211) 211 (ci_seq (ci_binl (fun a b => a &&& b) 212) 212 (ci_binl (fun a b => a ||| b) 213)))) := cq_ok (cr_i2l (dq_133 (by decide +kernel)) rfl) (cq_ok (cr_ldc2 zl_663 (dq_20 (a := 0) (b := 13) (by decide +kernel) rfl) rfl) (cq_ok (cr_land (dq_127 (by decide +kernel)) rfl) (cr_lor (dq_129 (by decide +kernel)) rfl)))
set_option maxRecDepth 100000 in
theorem cl_L_law_213 : ci_calls yL_law cL_law 4 213 yX8_feed 2 (some 8) := cr_callV (idx := 15) zl_942 ⟨by decide, by decide⟩ hp_X8_feed zc_8 zl_665 zl_666 (Or.inl zl_664) (dq_182 (a := 0) (b := 15) (by decide +kernel) rfl)
set_option maxRecDepth 100000 in
theorem cb_L_law_216 : ci_ok yL_law cL_law 4 216 (ci_seq (ci_popp 217) 217 (ci_seq (ci_load 2 2 218) 218 (ci_seq (ci_load 2 0 219) 219 (ci_seq (ci_load 0 3 220) 220 (ci_seq (ci_push (.int 1) 221) 221 (ci_bin (fun a b => a + b) 222)))))) := cq_ok (cr_pop (dq_87 (by decide +kernel)) rfl) (cq_ok (cr_aload_n (k := 2) (dq_44 (by decide +kernel)) rfl rfl) (cq_ok (cr_aload_n (k := 0) (dq_42 (by decide +kernel)) rfl rfl) (cq_ok (cr_iload_n (k := 3) (dq_29 (by decide +kernel)) rfl rfl) (cq_ok (cr_iconst2 (n := 1) (dq_4 (by decide +kernel)) (by decide +kernel) rfl) (cr_iadd (dq_96 (by decide +kernel)) rfl)))))
set_option maxRecDepth 100000 in
theorem cb_L_law_223 : ci_ok yL_law cL_law 4 223 (ci_seq (ci_i2l 224) 224 (ci_seq (ci_push (.int 32) 226) 226 (ci_seq (ci_shfl (fun a b => a <<< (b.toInt64 &&& 63)) 227) 227 (ci_seq (ci_load 2 0 228) 228 (ci_seq (ci_load 0 3 229) 229 (ci_seq (ci_push (.int 2) 230) 230 (ci_bin (fun a b => a + b) 231))))))) := cq_ok (cr_i2l (dq_133 (by decide +kernel)) rfl) (cq_ok (cr_bipush (n := 32) (dq_16 (a := 32) (by decide +kernel) rfl) (by decide +kernel) rfl) (cq_ok (cr_lshl (dq_121 (by decide +kernel)) rfl) (cq_ok (cr_aload_n (k := 0) (dq_42 (by decide +kernel)) rfl rfl) (cq_ok (cr_iload_n (k := 3) (dq_29 (by decide +kernel)) rfl rfl) (cq_ok (cr_iconst2 (n := 2) (dq_5 (by decide +kernel)) (by decide +kernel) rfl) (cr_iadd (dq_96 (by decide +kernel)) rfl))))))
set_option maxRecDepth 100000 in
theorem cb_L_law_232 : ci_ok yL_law cL_law 4 232 (ci_seq (ci_i2l 233) 233 (ci_seq (ci_push (.long 4294967295) 236) 236 (ci_seq (ci_binl (fun a b => a &&& b) 237) 237 (ci_binl (fun a b => a ||| b) 238)))) := cq_ok (cr_i2l (dq_133 (by decide +kernel)) rfl) (cq_ok (cr_ldc2 zl_663 (dq_20 (a := 0) (b := 13) (by decide +kernel) rfl) rfl) (cq_ok (cr_land (dq_127 (by decide +kernel)) rfl) (cr_lor (dq_129 (by decide +kernel)) rfl)))
set_option maxRecDepth 100000 in
theorem cl_L_law_238 : ci_calls yL_law cL_law 4 238 yX9_feed 2 (some 9) := cr_callV (idx := 19) zl_996 ⟨by decide, by decide⟩ hp_X9_feed zc_9 zl_661 zl_662 (Or.inl zl_660) (dq_182 (a := 0) (b := 19) (by decide +kernel) rfl)
set_option maxRecDepth 100000 in
theorem cb_L_law_241 : ci_ok yL_law cL_law 4 241 (ci_seq (ci_popp 242) 242 (ci_go 1222)) := cq_ok (cr_pop (dq_87 (by decide +kernel)) rfl) (cr_goto (off := 980) (dq_167 (a := 3) (b := 212) (by decide +kernel) rfl) (by decide))
set_option maxRecDepth 100000 in
theorem cb_L_law_245 : ci_ok yL_law cL_law 4 245 (ci_seq (ci_load 2 1 246) 246 (ci_seq (ci_load 2 0 247) 247 (ci_seq (ci_load 0 3 248) 248 (ci_seq (ci_push (.int 1) 249) 249 (ci_bin (fun a b => a + b) 250))))) := cq_ok (cr_aload_n (k := 1) (dq_43 (by decide +kernel)) rfl rfl) (cq_ok (cr_aload_n (k := 0) (dq_42 (by decide +kernel)) rfl rfl) (cq_ok (cr_iload_n (k := 3) (dq_29 (by decide +kernel)) rfl rfl) (cq_ok (cr_iconst2 (n := 1) (dq_4 (by decide +kernel)) (by decide +kernel) rfl) (cr_iadd (dq_96 (by decide +kernel)) rfl))))
set_option maxRecDepth 100000 in
theorem cl_L_law_251 : ci_calls yL_law cL_law 4 251 yX8_end 2 (some 8) := cr_callV (idx := 20) zl_943 ⟨by decide, by decide⟩ hp_X8_end zc_8 zl_671 zl_672 (Or.inl zl_670) (dq_182 (a := 0) (b := 20) (by decide +kernel) rfl)
set_option maxRecDepth 100000 in
theorem cb_L_law_254 : ci_ok yL_law cL_law 4 254 (ci_seq (ci_popp 255) 255 (ci_seq (ci_load 2 2 256) 256 (ci_seq (ci_load 2 0 257) 257 (ci_seq (ci_load 0 3 258) 258 (ci_seq (ci_push (.int 1) 259) 259 (ci_bin (fun a b => a + b) 260)))))) := cq_ok (cr_pop (dq_87 (by decide +kernel)) rfl) (cq_ok (cr_aload_n (k := 2) (dq_44 (by decide +kernel)) rfl rfl) (cq_ok (cr_aload_n (k := 0) (dq_42 (by decide +kernel)) rfl rfl) (cq_ok (cr_iload_n (k := 3) (dq_29 (by decide +kernel)) rfl rfl) (cq_ok (cr_iconst2 (n := 1) (dq_4 (by decide +kernel)) (by decide +kernel) rfl) (cr_iadd (dq_96 (by decide +kernel)) rfl)))))
set_option maxRecDepth 100000 in
theorem cl_L_law_261 : ci_calls yL_law cL_law 4 261 yX9_end 2 (some 9) := cr_callV (idx := 24) zl_997 ⟨by decide, by decide⟩ hp_X9_end zc_9 zl_668 zl_669 (Or.inl zl_667) (dq_182 (a := 0) (b := 24) (by decide +kernel) rfl)
set_option maxRecDepth 100000 in
theorem cb_L_law_264 : ci_ok yL_law cL_law 4 264 (ci_seq (ci_popp 265) 265 (ci_go 1222)) := cq_ok (cr_pop (dq_87 (by decide +kernel)) rfl) (cr_goto (off := 957) (dq_167 (a := 3) (b := 189) (by decide +kernel) rfl) (by decide))
set_option maxRecDepth 100000 in
theorem cb_L_law_268 : ci_ok yL_law cL_law 4 268 (ci_load 2 1 269) := cr_aload_n (k := 1) (dq_43 (by decide +kernel)) rfl rfl
set_option maxRecDepth 100000 in
theorem cl_L_law_269 : ci_calls yL_law cL_law 4 269 yX8_text 1 (some 8) := cr_callV (idx := 25) zl_944 ⟨by decide, by decide⟩ hp_X8_text zc_8 zl_677 zl_678 (Or.inl zl_676) (dq_182 (a := 0) (b := 25) (by decide +kernel) rfl)
set_option maxRecDepth 100000 in
theorem cb_L_law_272 : ci_ok yL_law cL_law 4 272 (ci_seq (ci_popp 273) 273 (ci_load 2 2 274)) := cq_ok (cr_pop (dq_87 (by decide +kernel)) rfl) (cr_aload_n (k := 2) (dq_44 (by decide +kernel)) rfl rfl)
set_option maxRecDepth 100000 in
theorem cl_L_law_274 : ci_calls yL_law cL_law 4 274 yX9_text 1 (some 9) := cr_callV (idx := 29) zl_1012 ⟨by decide, by decide⟩ hp_X9_text zc_9 zl_674 zl_675 (Or.inl zl_673) (dq_182 (a := 0) (b := 29) (by decide +kernel) rfl)
set_option maxRecDepth 100000 in
theorem cb_L_law_277 : ci_ok yL_law cL_law 4 277 (ci_seq (ci_popp 278) 278 (ci_go 1222)) := cq_ok (cr_pop (dq_87 (by decide +kernel)) rfl) (cr_goto (off := 944) (dq_167 (a := 3) (b := 176) (by decide +kernel) rfl) (by decide))
set_option maxRecDepth 100000 in
theorem cb_L_law_281 : ci_ok yL_law cL_law 4 281 (ci_load 2 1 282) := cr_aload_n (k := 1) (dq_43 (by decide +kernel)) rfl rfl
set_option maxRecDepth 100000 in
theorem cl_L_law_282 : ci_calls yL_law cL_law 4 282 yX8_fault 1 (some 8) := cr_callV (idx := 30) zl_945 ⟨by decide, by decide⟩ hp_X8_fault zc_8 zl_683 zl_684 (Or.inl zl_682) (dq_182 (a := 0) (b := 30) (by decide +kernel) rfl)
set_option maxRecDepth 100000 in
theorem cb_L_law_285 : ci_ok yL_law cL_law 4 285 (ci_seq (ci_popp 286) 286 (ci_load 2 2 287)) := cq_ok (cr_pop (dq_87 (by decide +kernel)) rfl) (cr_aload_n (k := 2) (dq_44 (by decide +kernel)) rfl rfl)
set_option maxRecDepth 100000 in
theorem cl_L_law_287 : ci_calls yL_law cL_law 4 287 yX9_fault 1 (some 9) := cr_callV (idx := 33) zl_1013 ⟨by decide, by decide⟩ hp_X9_fault zc_9 zl_680 zl_681 (Or.inl zl_679) (dq_182 (a := 0) (b := 33) (by decide +kernel) rfl)
set_option maxRecDepth 100000 in
theorem cb_L_law_290 : ci_ok yL_law cL_law 4 290 (ci_seq (ci_popp 291) 291 (ci_go 1222)) := cq_ok (cr_pop (dq_87 (by decide +kernel)) rfl) (cr_goto (off := 931) (dq_167 (a := 3) (b := 163) (by decide +kernel) rfl) (by decide))
set_option maxRecDepth 100000 in
theorem cb_L_law_294 : ci_ok yL_law cL_law 4 294 (ci_seq (ci_load 2 1 295) 295 (ci_seq (ci_load 2 0 296) 296 (ci_seq (ci_load 0 3 297) 297 (ci_seq (ci_push (.int 1) 298) 298 (ci_bin (fun a b => a + b) 299))))) := cq_ok (cr_aload_n (k := 1) (dq_43 (by decide +kernel)) rfl rfl) (cq_ok (cr_aload_n (k := 0) (dq_42 (by decide +kernel)) rfl rfl) (cq_ok (cr_iload_n (k := 3) (dq_29 (by decide +kernel)) rfl rfl) (cq_ok (cr_iconst2 (n := 1) (dq_4 (by decide +kernel)) (by decide +kernel) rfl) (cr_iadd (dq_96 (by decide +kernel)) rfl))))
set_option maxRecDepth 100000 in
theorem cl_L_law_300 : ci_calls yL_law cL_law 4 300 yX8_rule 2 (some 8) := cr_callV (idx := 34) zl_946 ⟨by decide, by decide⟩ hp_X8_rule zc_8 zl_689 zl_690 (Or.inl zl_688) (dq_182 (a := 0) (b := 34) (by decide +kernel) rfl)
set_option maxRecDepth 100000 in
theorem cb_L_law_303 : ci_ok yL_law cL_law 4 303 (ci_seq (ci_popp 304) 304 (ci_seq (ci_load 2 2 305) 305 (ci_seq (ci_load 2 0 306) 306 (ci_seq (ci_load 0 3 307) 307 (ci_seq (ci_push (.int 1) 308) 308 (ci_bin (fun a b => a + b) 309)))))) := cq_ok (cr_pop (dq_87 (by decide +kernel)) rfl) (cq_ok (cr_aload_n (k := 2) (dq_44 (by decide +kernel)) rfl rfl) (cq_ok (cr_aload_n (k := 0) (dq_42 (by decide +kernel)) rfl rfl) (cq_ok (cr_iload_n (k := 3) (dq_29 (by decide +kernel)) rfl rfl) (cq_ok (cr_iconst2 (n := 1) (dq_4 (by decide +kernel)) (by decide +kernel) rfl) (cr_iadd (dq_96 (by decide +kernel)) rfl)))))
set_option maxRecDepth 100000 in
theorem cl_L_law_310 : ci_calls yL_law cL_law 4 310 yX9_rule 2 (some 9) := cr_callV (idx := 37) zl_1024 ⟨by decide, by decide⟩ hp_X9_rule zc_9 zl_686 zl_687 (Or.inl zl_685) (dq_182 (a := 0) (b := 37) (by decide +kernel) rfl)
set_option maxRecDepth 100000 in
theorem cb_L_law_313 : ci_ok yL_law cL_law 4 313 (ci_seq (ci_popp 314) 314 (ci_go 1222)) := cq_ok (cr_pop (dq_87 (by decide +kernel)) rfl) (cr_goto (off := 908) (dq_167 (a := 3) (b := 140) (by decide +kernel) rfl) (by decide))
set_option maxRecDepth 100000 in
theorem cb_L_law_317 : ci_ok yL_law cL_law 4 317 (ci_seq (ci_load 2 1 318) 318 (ci_seq (ci_load 2 0 319) 319 (ci_seq (ci_load 0 3 320) 320 (ci_seq (ci_push (.int 1) 321) 321 (ci_bin (fun a b => a + b) 322))))) := cq_ok (cr_aload_n (k := 1) (dq_43 (by decide +kernel)) rfl rfl) (cq_ok (cr_aload_n (k := 0) (dq_42 (by decide +kernel)) rfl rfl) (cq_ok (cr_iload_n (k := 3) (dq_29 (by decide +kernel)) rfl rfl) (cq_ok (cr_iconst2 (n := 1) (dq_4 (by decide +kernel)) (by decide +kernel) rfl) (cr_iadd (dq_96 (by decide +kernel)) rfl))))
set_option maxRecDepth 100000 in
theorem cb_L_law_323 : ci_ok yL_law cL_law 4 323 (ci_seq (ci_load 2 0 324) 324 (ci_seq (ci_load 0 3 325) 325 (ci_seq (ci_push (.int 2) 326) 326 (ci_bin (fun a b => a + b) 327)))) := cq_ok (cr_aload_n (k := 0) (dq_42 (by decide +kernel)) rfl rfl) (cq_ok (cr_iload_n (k := 3) (dq_29 (by decide +kernel)) rfl rfl) (cq_ok (cr_iconst2 (n := 2) (dq_5 (by decide +kernel)) (by decide +kernel) rfl) (cr_iadd (dq_96 (by decide +kernel)) rfl)))
set_option maxRecDepth 100000 in
theorem cl_L_law_328 : ci_calls yL_law cL_law 4 328 yX8_cell 3 (some 8) := cr_callV (idx := 38) zl_947 ⟨by decide, by decide⟩ hp_X8_cell zc_8 zl_695 zl_696 (Or.inl zl_694) (dq_182 (a := 0) (b := 38) (by decide +kernel) rfl)
set_option maxRecDepth 100000 in
theorem cb_L_law_331 : ci_ok yL_law cL_law 4 331 (ci_seq (ci_popp 332) 332 (ci_seq (ci_load 2 2 333) 333 (ci_seq (ci_load 2 0 334) 334 (ci_seq (ci_load 0 3 335) 335 (ci_seq (ci_push (.int 1) 336) 336 (ci_bin (fun a b => a + b) 337)))))) := cq_ok (cr_pop (dq_87 (by decide +kernel)) rfl) (cq_ok (cr_aload_n (k := 2) (dq_44 (by decide +kernel)) rfl rfl) (cq_ok (cr_aload_n (k := 0) (dq_42 (by decide +kernel)) rfl rfl) (cq_ok (cr_iload_n (k := 3) (dq_29 (by decide +kernel)) rfl rfl) (cq_ok (cr_iconst2 (n := 1) (dq_4 (by decide +kernel)) (by decide +kernel) rfl) (cr_iadd (dq_96 (by decide +kernel)) rfl)))))
set_option maxRecDepth 100000 in
theorem cb_L_law_338 : ci_ok yL_law cL_law 4 338 (ci_seq (ci_load 2 0 339) 339 (ci_seq (ci_load 0 3 340) 340 (ci_seq (ci_push (.int 2) 341) 341 (ci_bin (fun a b => a + b) 342)))) := cq_ok (cr_aload_n (k := 0) (dq_42 (by decide +kernel)) rfl rfl) (cq_ok (cr_iload_n (k := 3) (dq_29 (by decide +kernel)) rfl rfl) (cq_ok (cr_iconst2 (n := 2) (dq_5 (by decide +kernel)) (by decide +kernel) rfl) (cr_iadd (dq_96 (by decide +kernel)) rfl)))
set_option maxRecDepth 100000 in
theorem cl_L_law_343 : ci_calls yL_law cL_law 4 343 yX9_cell 3 (some 9) := cr_callV (idx := 42) zl_1025 ⟨by decide, by decide⟩ hp_X9_cell zc_9 zl_692 zl_693 (Or.inl zl_691) (dq_182 (a := 0) (b := 42) (by decide +kernel) rfl)
set_option maxRecDepth 100000 in
theorem cb_L_law_346 : ci_ok yL_law cL_law 4 346 (ci_seq (ci_popp 347) 347 (ci_go 1222)) := cq_ok (cr_pop (dq_87 (by decide +kernel)) rfl) (cr_goto (off := 875) (dq_167 (a := 3) (b := 107) (by decide +kernel) rfl) (by decide))
set_option maxRecDepth 100000 in
theorem cb_L_law_350 : ci_ok yL_law cL_law 4 350 (ci_seq (ci_load 2 1 351) 351 (ci_seq (ci_load 2 0 352) 352 (ci_seq (ci_load 0 3 353) 353 (ci_seq (ci_push (.int 1) 354) 354 (ci_bin (fun a b => a + b) 355))))) := cq_ok (cr_aload_n (k := 1) (dq_43 (by decide +kernel)) rfl rfl) (cq_ok (cr_aload_n (k := 0) (dq_42 (by decide +kernel)) rfl rfl) (cq_ok (cr_iload_n (k := 3) (dq_29 (by decide +kernel)) rfl rfl) (cq_ok (cr_iconst2 (n := 1) (dq_4 (by decide +kernel)) (by decide +kernel) rfl) (cr_iadd (dq_96 (by decide +kernel)) rfl))))
set_option maxRecDepth 100000 in
theorem cb_L_law_356 : ci_ok yL_law cL_law 4 356 (ci_seq (ci_load 2 0 357) 357 (ci_seq (ci_load 0 3 358) 358 (ci_seq (ci_push (.int 2) 359) 359 (ci_bin (fun a b => a + b) 360)))) := cq_ok (cr_aload_n (k := 0) (dq_42 (by decide +kernel)) rfl rfl) (cq_ok (cr_iload_n (k := 3) (dq_29 (by decide +kernel)) rfl rfl) (cq_ok (cr_iconst2 (n := 2) (dq_5 (by decide +kernel)) (by decide +kernel) rfl) (cr_iadd (dq_96 (by decide +kernel)) rfl)))
set_option maxRecDepth 100000 in
theorem cl_L_law_361 : ci_calls yL_law cL_law 4 361 yX8_farm 3 (some 8) := cr_callV (idx := 43) zl_948 ⟨by decide, by decide⟩ hp_X8_farm zc_8 zl_701 zl_702 (Or.inl zl_700) (dq_182 (a := 0) (b := 43) (by decide +kernel) rfl)
set_option maxRecDepth 100000 in
theorem cb_L_law_364 : ci_ok yL_law cL_law 4 364 (ci_seq (ci_popp 365) 365 (ci_seq (ci_load 2 2 366) 366 (ci_seq (ci_load 2 0 367) 367 (ci_seq (ci_load 0 3 368) 368 (ci_seq (ci_push (.int 1) 369) 369 (ci_bin (fun a b => a + b) 370)))))) := cq_ok (cr_pop (dq_87 (by decide +kernel)) rfl) (cq_ok (cr_aload_n (k := 2) (dq_44 (by decide +kernel)) rfl rfl) (cq_ok (cr_aload_n (k := 0) (dq_42 (by decide +kernel)) rfl rfl) (cq_ok (cr_iload_n (k := 3) (dq_29 (by decide +kernel)) rfl rfl) (cq_ok (cr_iconst2 (n := 1) (dq_4 (by decide +kernel)) (by decide +kernel) rfl) (cr_iadd (dq_96 (by decide +kernel)) rfl)))))
set_option maxRecDepth 100000 in
theorem cb_L_law_371 : ci_ok yL_law cL_law 4 371 (ci_seq (ci_load 2 0 372) 372 (ci_seq (ci_load 0 3 373) 373 (ci_seq (ci_push (.int 2) 374) 374 (ci_bin (fun a b => a + b) 375)))) := cq_ok (cr_aload_n (k := 0) (dq_42 (by decide +kernel)) rfl rfl) (cq_ok (cr_iload_n (k := 3) (dq_29 (by decide +kernel)) rfl rfl) (cq_ok (cr_iconst2 (n := 2) (dq_5 (by decide +kernel)) (by decide +kernel) rfl) (cr_iadd (dq_96 (by decide +kernel)) rfl)))
set_option maxRecDepth 100000 in
theorem cl_L_law_376 : ci_calls yL_law cL_law 4 376 yX9_farm 3 (some 9) := cr_callV (idx := 46) zl_1026 ⟨by decide, by decide⟩ hp_X9_farm zc_9 zl_698 zl_699 (Or.inl zl_697) (dq_182 (a := 0) (b := 46) (by decide +kernel) rfl)
set_option maxRecDepth 100000 in
theorem cb_L_law_379 : ci_ok yL_law cL_law 4 379 (ci_seq (ci_popp 380) 380 (ci_go 1222)) := cq_ok (cr_pop (dq_87 (by decide +kernel)) rfl) (cr_goto (off := 842) (dq_167 (a := 3) (b := 74) (by decide +kernel) rfl) (by decide))
set_option maxRecDepth 100000 in
theorem cb_L_law_383 : ci_ok yL_law cL_law 4 383 (ci_seq (ci_load 2 1 384) 384 (ci_seq (ci_load 2 0 385) 385 (ci_seq (ci_load 0 3 386) 386 (ci_seq (ci_push (.int 1) 387) 387 (ci_bin (fun a b => a + b) 388))))) := cq_ok (cr_aload_n (k := 1) (dq_43 (by decide +kernel)) rfl rfl) (cq_ok (cr_aload_n (k := 0) (dq_42 (by decide +kernel)) rfl rfl) (cq_ok (cr_iload_n (k := 3) (dq_29 (by decide +kernel)) rfl rfl) (cq_ok (cr_iconst2 (n := 1) (dq_4 (by decide +kernel)) (by decide +kernel) rfl) (cr_iadd (dq_96 (by decide +kernel)) rfl))))
set_option maxRecDepth 100000 in
theorem cl_L_law_389 : ci_calls yL_law cL_law 4 389 yX8_bed 2 (some 8) := cr_callV (idx := 47) zl_949 ⟨by decide, by decide⟩ hp_X8_bed zc_8 zl_707 zl_708 (Or.inl zl_706) (dq_182 (a := 0) (b := 47) (by decide +kernel) rfl)
set_option maxRecDepth 100000 in
theorem cb_L_law_392 : ci_ok yL_law cL_law 4 392 (ci_seq (ci_popp 393) 393 (ci_seq (ci_load 2 2 394) 394 (ci_seq (ci_load 2 0 395) 395 (ci_seq (ci_load 0 3 396) 396 (ci_seq (ci_push (.int 1) 397) 397 (ci_bin (fun a b => a + b) 398)))))) := cq_ok (cr_pop (dq_87 (by decide +kernel)) rfl) (cq_ok (cr_aload_n (k := 2) (dq_44 (by decide +kernel)) rfl rfl) (cq_ok (cr_aload_n (k := 0) (dq_42 (by decide +kernel)) rfl rfl) (cq_ok (cr_iload_n (k := 3) (dq_29 (by decide +kernel)) rfl rfl) (cq_ok (cr_iconst2 (n := 1) (dq_4 (by decide +kernel)) (by decide +kernel) rfl) (cr_iadd (dq_96 (by decide +kernel)) rfl)))))
set_option maxRecDepth 100000 in
theorem cl_L_law_399 : ci_calls yL_law cL_law 4 399 yX9_bed 2 (some 9) := cr_callV (idx := 50) zl_1027 ⟨by decide, by decide⟩ hp_X9_bed zc_9 zl_704 zl_705 (Or.inl zl_703) (dq_182 (a := 0) (b := 50) (by decide +kernel) rfl)
set_option maxRecDepth 100000 in
theorem cb_L_law_402 : ci_ok yL_law cL_law 4 402 (ci_seq (ci_popp 403) 403 (ci_go 1222)) := cq_ok (cr_pop (dq_87 (by decide +kernel)) rfl) (cr_goto (off := 819) (dq_167 (a := 3) (b := 51) (by decide +kernel) rfl) (by decide))
set_option maxRecDepth 100000 in
theorem cb_L_law_406 : ci_ok yL_law cL_law 4 406 (ci_seq (ci_load 2 1 407) 407 (ci_seq (ci_load 2 0 408) 408 (ci_seq (ci_load 0 3 409) 409 (ci_seq (ci_push (.int 1) 410) 410 (ci_bin (fun a b => a + b) 411))))) := cq_ok (cr_aload_n (k := 1) (dq_43 (by decide +kernel)) rfl rfl) (cq_ok (cr_aload_n (k := 0) (dq_42 (by decide +kernel)) rfl rfl) (cq_ok (cr_iload_n (k := 3) (dq_29 (by decide +kernel)) rfl rfl) (cq_ok (cr_iconst2 (n := 1) (dq_4 (by decide +kernel)) (by decide +kernel) rfl) (cr_iadd (dq_96 (by decide +kernel)) rfl))))
set_option maxRecDepth 100000 in
theorem cb_L_law_412 : ci_ok yL_law cL_law 4 412 (ci_seq (ci_load 2 0 413) 413 (ci_seq (ci_load 0 3 414) 414 (ci_seq (ci_push (.int 2) 415) 415 (ci_bin (fun a b => a + b) 416)))) := cq_ok (cr_aload_n (k := 0) (dq_42 (by decide +kernel)) rfl rfl) (cq_ok (cr_iload_n (k := 3) (dq_29 (by decide +kernel)) rfl rfl) (cq_ok (cr_iconst2 (n := 2) (dq_5 (by decide +kernel)) (by decide +kernel) rfl) (cr_iadd (dq_96 (by decide +kernel)) rfl)))
set_option maxRecDepth 100000 in
theorem cl_L_law_417 : ci_calls yL_law cL_law 4 417 yX8_dam 3 (some 8) := cr_callV (idx := 51) zl_950 ⟨by decide, by decide⟩ hp_X8_dam zc_8 zl_713 zl_714 (Or.inl zl_712) (dq_182 (a := 0) (b := 51) (by decide +kernel) rfl)
set_option maxRecDepth 100000 in
theorem cb_L_law_420 : ci_ok yL_law cL_law 4 420 (ci_seq (ci_popp 421) 421 (ci_seq (ci_load 2 2 422) 422 (ci_seq (ci_load 2 0 423) 423 (ci_seq (ci_load 0 3 424) 424 (ci_seq (ci_push (.int 1) 425) 425 (ci_bin (fun a b => a + b) 426)))))) := cq_ok (cr_pop (dq_87 (by decide +kernel)) rfl) (cq_ok (cr_aload_n (k := 2) (dq_44 (by decide +kernel)) rfl rfl) (cq_ok (cr_aload_n (k := 0) (dq_42 (by decide +kernel)) rfl rfl) (cq_ok (cr_iload_n (k := 3) (dq_29 (by decide +kernel)) rfl rfl) (cq_ok (cr_iconst2 (n := 1) (dq_4 (by decide +kernel)) (by decide +kernel) rfl) (cr_iadd (dq_96 (by decide +kernel)) rfl)))))
set_option maxRecDepth 100000 in
theorem cb_L_law_427 : ci_ok yL_law cL_law 4 427 (ci_seq (ci_load 2 0 428) 428 (ci_seq (ci_load 0 3 429) 429 (ci_seq (ci_push (.int 2) 430) 430 (ci_bin (fun a b => a + b) 431)))) := cq_ok (cr_aload_n (k := 0) (dq_42 (by decide +kernel)) rfl rfl) (cq_ok (cr_iload_n (k := 3) (dq_29 (by decide +kernel)) rfl rfl) (cq_ok (cr_iconst2 (n := 2) (dq_5 (by decide +kernel)) (by decide +kernel) rfl) (cr_iadd (dq_96 (by decide +kernel)) rfl)))
set_option maxRecDepth 100000 in
theorem cl_L_law_432 : ci_calls yL_law cL_law 4 432 yX9_dam 3 (some 9) := cr_callV (idx := 54) zl_1029 ⟨by decide, by decide⟩ hp_X9_dam zc_9 zl_710 zl_711 (Or.inl zl_709) (dq_182 (a := 0) (b := 54) (by decide +kernel) rfl)
set_option maxRecDepth 100000 in
theorem cb_L_law_435 : ci_ok yL_law cL_law 4 435 (ci_seq (ci_popp 436) 436 (ci_go 1222)) := cq_ok (cr_pop (dq_87 (by decide +kernel)) rfl) (cr_goto (off := 786) (dq_167 (a := 3) (b := 18) (by decide +kernel) rfl) (by decide))
set_option maxRecDepth 100000 in
theorem cb_L_law_439 : ci_ok yL_law cL_law 4 439 (ci_seq (ci_load 2 1 440) 440 (ci_seq (ci_load 2 0 441) 441 (ci_seq (ci_load 0 3 442) 442 (ci_seq (ci_push (.int 1) 443) 443 (ci_bin (fun a b => a + b) 444))))) := cq_ok (cr_aload_n (k := 1) (dq_43 (by decide +kernel)) rfl rfl) (cq_ok (cr_aload_n (k := 0) (dq_42 (by decide +kernel)) rfl rfl) (cq_ok (cr_iload_n (k := 3) (dq_29 (by decide +kernel)) rfl rfl) (cq_ok (cr_iconst2 (n := 1) (dq_4 (by decide +kernel)) (by decide +kernel) rfl) (cr_iadd (dq_96 (by decide +kernel)) rfl))))
set_option maxRecDepth 100000 in
theorem cl_L_law_445 : ci_calls yL_law cL_law 4 445 yX8_move 2 (some 8) := cr_callV (idx := 55) zl_951 ⟨by decide, by decide⟩ hp_X8_move zc_8 zl_719 zl_720 (Or.inl zl_718) (dq_182 (a := 0) (b := 55) (by decide +kernel) rfl)
set_option maxRecDepth 100000 in
theorem cb_L_law_448 : ci_ok yL_law cL_law 4 448 (ci_seq (ci_popp 449) 449 (ci_seq (ci_load 2 2 450) 450 (ci_seq (ci_load 2 0 451) 451 (ci_seq (ci_load 0 3 452) 452 (ci_seq (ci_push (.int 1) 453) 453 (ci_bin (fun a b => a + b) 454)))))) := cq_ok (cr_pop (dq_87 (by decide +kernel)) rfl) (cq_ok (cr_aload_n (k := 2) (dq_44 (by decide +kernel)) rfl rfl) (cq_ok (cr_aload_n (k := 0) (dq_42 (by decide +kernel)) rfl rfl) (cq_ok (cr_iload_n (k := 3) (dq_29 (by decide +kernel)) rfl rfl) (cq_ok (cr_iconst2 (n := 1) (dq_4 (by decide +kernel)) (by decide +kernel) rfl) (cr_iadd (dq_96 (by decide +kernel)) rfl)))))
set_option maxRecDepth 100000 in
theorem cl_L_law_455 : ci_calls yL_law cL_law 4 455 yX9_move 2 (some 9) := cr_callV (idx := 58) zl_1030 ⟨by decide, by decide⟩ hp_X9_move zc_9 zl_716 zl_717 (Or.inl zl_715) (dq_182 (a := 0) (b := 58) (by decide +kernel) rfl)
set_option maxRecDepth 100000 in
theorem cb_L_law_458 : ci_ok yL_law cL_law 4 458 (ci_seq (ci_popp 459) 459 (ci_go 1222)) := cq_ok (cr_pop (dq_87 (by decide +kernel)) rfl) (cr_goto (off := 763) (dq_167 (a := 2) (b := 251) (by decide +kernel) rfl) (by decide))
set_option maxRecDepth 100000 in
theorem cb_L_law_462 : ci_ok yL_law cL_law 4 462 (ci_seq (ci_load 2 1 463) 463 (ci_seq (ci_load 2 0 464) 464 (ci_seq (ci_load 0 3 465) 465 (ci_seq (ci_push (.int 1) 466) 466 (ci_bin (fun a b => a + b) 467))))) := cq_ok (cr_aload_n (k := 1) (dq_43 (by decide +kernel)) rfl rfl) (cq_ok (cr_aload_n (k := 0) (dq_42 (by decide +kernel)) rfl rfl) (cq_ok (cr_iload_n (k := 3) (dq_29 (by decide +kernel)) rfl rfl) (cq_ok (cr_iconst2 (n := 1) (dq_4 (by decide +kernel)) (by decide +kernel) rfl) (cr_iadd (dq_96 (by decide +kernel)) rfl))))
set_option maxRecDepth 100000 in
theorem cl_L_law_468 : ci_calls yL_law cL_law 4 468 yX8_law 2 (some 8) := cr_callV (idx := 59) zl_952 ⟨by decide, by decide⟩ hp_X8_law zc_8 zl_725 zl_726 (Or.inl zl_724) (dq_182 (a := 0) (b := 59) (by decide +kernel) rfl)
set_option maxRecDepth 100000 in
theorem cb_L_law_471 : ci_ok yL_law cL_law 4 471 (ci_seq (ci_popp 472) 472 (ci_seq (ci_load 2 2 473) 473 (ci_seq (ci_load 2 0 474) 474 (ci_seq (ci_load 0 3 475) 475 (ci_seq (ci_push (.int 1) 476) 476 (ci_bin (fun a b => a + b) 477)))))) := cq_ok (cr_pop (dq_87 (by decide +kernel)) rfl) (cq_ok (cr_aload_n (k := 2) (dq_44 (by decide +kernel)) rfl rfl) (cq_ok (cr_aload_n (k := 0) (dq_42 (by decide +kernel)) rfl rfl) (cq_ok (cr_iload_n (k := 3) (dq_29 (by decide +kernel)) rfl rfl) (cq_ok (cr_iconst2 (n := 1) (dq_4 (by decide +kernel)) (by decide +kernel) rfl) (cr_iadd (dq_96 (by decide +kernel)) rfl)))))
set_option maxRecDepth 100000 in
theorem cl_L_law_478 : ci_calls yL_law cL_law 4 478 yX9_law 2 (some 9) := cr_callV (idx := 62) zl_1031 ⟨by decide, by decide⟩ hp_X9_law zc_9 zl_722 zl_723 (Or.inl zl_721) (dq_182 (a := 0) (b := 62) (by decide +kernel) rfl)
set_option maxRecDepth 100000 in
theorem cb_L_law_481 : ci_ok yL_law cL_law 4 481 (ci_seq (ci_popp 482) 482 (ci_go 1222)) := cq_ok (cr_pop (dq_87 (by decide +kernel)) rfl) (cr_goto (off := 740) (dq_167 (a := 2) (b := 228) (by decide +kernel) rfl) (by decide))
set_option maxRecDepth 100000 in
theorem cb_L_law_485 : ci_ok yL_law cL_law 4 485 (ci_seq (ci_load 2 1 486) 486 (ci_seq (ci_load 2 0 487) 487 (ci_seq (ci_load 0 3 488) 488 (ci_seq (ci_push (.int 1) 489) 489 (ci_bin (fun a b => a + b) 490))))) := cq_ok (cr_aload_n (k := 1) (dq_43 (by decide +kernel)) rfl rfl) (cq_ok (cr_aload_n (k := 0) (dq_42 (by decide +kernel)) rfl rfl) (cq_ok (cr_iload_n (k := 3) (dq_29 (by decide +kernel)) rfl rfl) (cq_ok (cr_iconst2 (n := 1) (dq_4 (by decide +kernel)) (by decide +kernel) rfl) (cr_iadd (dq_96 (by decide +kernel)) rfl))))
set_option maxRecDepth 100000 in
theorem cb_L_law_491 : ci_ok yL_law cL_law 4 491 (ci_if (fun x => decide (x = 0)) 498 494) := cr_if_eq (off := 7) (dq_153 (a := 0) (b := 7) (by decide +kernel) rfl) (by decide) rfl
set_option maxRecDepth 100000 in
theorem cb_L_law_494 : ci_ok yL_law cL_law 4 494 (ci_seq (ci_push (.int 1) 495) 495 (ci_go 499)) := cq_ok (cr_iconst2 (n := 1) (dq_4 (by decide +kernel)) (by decide +kernel) rfl) (cr_goto (off := 4) (dq_167 (a := 0) (b := 4) (by decide +kernel) rfl) (by decide))
set_option maxRecDepth 100000 in
theorem cb_L_law_498 : ci_ok yL_law cL_law 4 498 (ci_push (.int 0) 499) := cr_iconst2 (n := 0) (dq_3 (by decide +kernel)) (by decide +kernel) rfl
set_option maxRecDepth 100000 in
theorem cl_L_law_499 : ci_calls yL_law cL_law 4 499 yX8_silt 2 (some 8) := cr_callV (idx := 63) zl_953 ⟨by decide, by decide⟩ hp_X8_silt zc_8 zl_728 zl_729 (Or.inl zl_727) (dq_182 (a := 0) (b := 63) (by decide +kernel) rfl)
set_option maxRecDepth 100000 in
theorem cb_L_law_502 : ci_ok yL_law cL_law 4 502 (ci_seq (ci_popp 503) 503 (ci_seq (ci_load 2 2 504) 504 (ci_seq (ci_load 2 0 505) 505 (ci_seq (ci_load 0 3 506) 506 (ci_seq (ci_push (.int 1) 507) 507 (ci_bin (fun a b => a + b) 508)))))) := cq_ok (cr_pop (dq_87 (by decide +kernel)) rfl) (cq_ok (cr_aload_n (k := 2) (dq_44 (by decide +kernel)) rfl rfl) (cq_ok (cr_aload_n (k := 0) (dq_42 (by decide +kernel)) rfl rfl) (cq_ok (cr_iload_n (k := 3) (dq_29 (by decide +kernel)) rfl rfl) (cq_ok (cr_iconst2 (n := 1) (dq_4 (by decide +kernel)) (by decide +kernel) rfl) (cr_iadd (dq_96 (by decide +kernel)) rfl)))))
set_option maxRecDepth 100000 in
theorem cb_L_law_509 : ci_ok yL_law cL_law 4 509 (ci_if (fun x => decide (x = 0)) 516 512) := cr_if_eq (off := 7) (dq_153 (a := 0) (b := 7) (by decide +kernel) rfl) (by decide) rfl
set_option maxRecDepth 100000 in
theorem cb_L_law_512 : ci_ok yL_law cL_law 4 512 (ci_seq (ci_push (.int 1) 513) 513 (ci_go 517)) := cq_ok (cr_iconst2 (n := 1) (dq_4 (by decide +kernel)) (by decide +kernel) rfl) (cr_goto (off := 4) (dq_167 (a := 0) (b := 4) (by decide +kernel) rfl) (by decide))
set_option maxRecDepth 100000 in
theorem cb_L_law_516 : ci_ok yL_law cL_law 4 516 (ci_push (.int 0) 517) := cr_iconst2 (n := 0) (dq_3 (by decide +kernel)) (by decide +kernel) rfl
set_option maxRecDepth 100000 in
theorem cl_L_law_517 : ci_calls yL_law cL_law 4 517 yX9_silt 2 (some 9) := cr_callV (idx := 67) zl_1032 ⟨by decide, by decide⟩ hp_X9_silt zc_9 zl_731 zl_732 (Or.inl zl_730) (dq_182 (a := 0) (b := 67) (by decide +kernel) rfl)
set_option maxRecDepth 100000 in
theorem cb_L_law_520 : ci_ok yL_law cL_law 4 520 (ci_seq (ci_popp 521) 521 (ci_go 1222)) := cq_ok (cr_pop (dq_87 (by decide +kernel)) rfl) (cr_goto (off := 701) (dq_167 (a := 2) (b := 189) (by decide +kernel) rfl) (by decide))
set_option maxRecDepth 100000 in
theorem cb_L_law_524 : ci_ok yL_law cL_law 4 524 (ci_seq (ci_load 2 1 525) 525 (ci_seq (ci_load 2 0 526) 526 (ci_seq (ci_load 0 3 527) 527 (ci_seq (ci_push (.int 1) 528) 528 (ci_bin (fun a b => a + b) 529))))) := cq_ok (cr_aload_n (k := 1) (dq_43 (by decide +kernel)) rfl rfl) (cq_ok (cr_aload_n (k := 0) (dq_42 (by decide +kernel)) rfl rfl) (cq_ok (cr_iload_n (k := 3) (dq_29 (by decide +kernel)) rfl rfl) (cq_ok (cr_iconst2 (n := 1) (dq_4 (by decide +kernel)) (by decide +kernel) rfl) (cr_iadd (dq_96 (by decide +kernel)) rfl))))
set_option maxRecDepth 100000 in
theorem cb_L_law_530 : ci_ok yL_law cL_law 4 530 (ci_seq (ci_load 2 0 531) 531 (ci_seq (ci_load 0 3 532) 532 (ci_seq (ci_push (.int 2) 533) 533 (ci_bin (fun a b => a + b) 534)))) := cq_ok (cr_aload_n (k := 0) (dq_42 (by decide +kernel)) rfl rfl) (cq_ok (cr_iload_n (k := 3) (dq_29 (by decide +kernel)) rfl rfl) (cq_ok (cr_iconst2 (n := 2) (dq_5 (by decide +kernel)) (by decide +kernel) rfl) (cr_iadd (dq_96 (by decide +kernel)) rfl)))
set_option maxRecDepth 100000 in
theorem cl_L_law_535 : ci_calls yL_law cL_law 4 535 yX8_price 3 (some 8) := cr_callV (idx := 68) zl_954 ⟨by decide, by decide⟩ hp_X8_price zc_8 zl_737 zl_738 (Or.inl zl_736) (dq_182 (a := 0) (b := 68) (by decide +kernel) rfl)
set_option maxRecDepth 100000 in
theorem cb_L_law_538 : ci_ok yL_law cL_law 4 538 (ci_seq (ci_popp 539) 539 (ci_seq (ci_load 2 2 540) 540 (ci_seq (ci_load 2 0 541) 541 (ci_seq (ci_load 0 3 542) 542 (ci_seq (ci_push (.int 1) 543) 543 (ci_bin (fun a b => a + b) 544)))))) := cq_ok (cr_pop (dq_87 (by decide +kernel)) rfl) (cq_ok (cr_aload_n (k := 2) (dq_44 (by decide +kernel)) rfl rfl) (cq_ok (cr_aload_n (k := 0) (dq_42 (by decide +kernel)) rfl rfl) (cq_ok (cr_iload_n (k := 3) (dq_29 (by decide +kernel)) rfl rfl) (cq_ok (cr_iconst2 (n := 1) (dq_4 (by decide +kernel)) (by decide +kernel) rfl) (cr_iadd (dq_96 (by decide +kernel)) rfl)))))
set_option maxRecDepth 100000 in
theorem cb_L_law_545 : ci_ok yL_law cL_law 4 545 (ci_seq (ci_load 2 0 546) 546 (ci_seq (ci_load 0 3 547) 547 (ci_seq (ci_push (.int 2) 548) 548 (ci_bin (fun a b => a + b) 549)))) := cq_ok (cr_aload_n (k := 0) (dq_42 (by decide +kernel)) rfl rfl) (cq_ok (cr_iload_n (k := 3) (dq_29 (by decide +kernel)) rfl rfl) (cq_ok (cr_iconst2 (n := 2) (dq_5 (by decide +kernel)) (by decide +kernel) rfl) (cr_iadd (dq_96 (by decide +kernel)) rfl)))
set_option maxRecDepth 100000 in
theorem cl_L_law_550 : ci_calls yL_law cL_law 4 550 yX9_price 3 (some 9) := cr_callV (idx := 71) zl_1033 ⟨by decide, by decide⟩ hp_X9_price zc_9 zl_734 zl_735 (Or.inl zl_733) (dq_182 (a := 0) (b := 71) (by decide +kernel) rfl)
set_option maxRecDepth 100000 in
theorem cb_L_law_553 : ci_ok yL_law cL_law 4 553 (ci_seq (ci_popp 554) 554 (ci_go 1222)) := cq_ok (cr_pop (dq_87 (by decide +kernel)) rfl) (cr_goto (off := 668) (dq_167 (a := 2) (b := 156) (by decide +kernel) rfl) (by decide))
set_option maxRecDepth 100000 in
theorem cb_L_law_557 : ci_ok yL_law cL_law 4 557 (ci_seq (ci_load 2 1 558) 558 (ci_seq (ci_load 2 0 559) 559 (ci_seq (ci_load 0 3 560) 560 (ci_seq (ci_push (.int 1) 561) 561 (ci_bin (fun a b => a + b) 562))))) := cq_ok (cr_aload_n (k := 1) (dq_43 (by decide +kernel)) rfl rfl) (cq_ok (cr_aload_n (k := 0) (dq_42 (by decide +kernel)) rfl rfl) (cq_ok (cr_iload_n (k := 3) (dq_29 (by decide +kernel)) rfl rfl) (cq_ok (cr_iconst2 (n := 1) (dq_4 (by decide +kernel)) (by decide +kernel) rfl) (cr_iadd (dq_96 (by decide +kernel)) rfl))))
set_option maxRecDepth 100000 in
theorem cl_L_law_563 : ci_calls yL_law cL_law 4 563 yX8_year 2 (some 8) := cr_callV (idx := 72) zl_956 ⟨by decide, by decide⟩ hp_X8_year zc_8 zl_741 zl_742 (Or.inl zl_740) (dq_182 (a := 0) (b := 72) (by decide +kernel) rfl)
set_option maxRecDepth 100000 in
theorem cb_L_law_566 : ci_ok yL_law cL_law 4 566 (ci_seq (ci_popp 567) 567 (ci_seq (ci_load 2 2 568) 568 (ci_seq (ci_load 2 0 569) 569 (ci_seq (ci_load 0 3 570) 570 (ci_seq (ci_push (.int 1) 571) 571 (ci_bin (fun a b => a + b) 572)))))) := cq_ok (cr_pop (dq_87 (by decide +kernel)) rfl) (cq_ok (cr_aload_n (k := 2) (dq_44 (by decide +kernel)) rfl rfl) (cq_ok (cr_aload_n (k := 0) (dq_42 (by decide +kernel)) rfl rfl) (cq_ok (cr_iload_n (k := 3) (dq_29 (by decide +kernel)) rfl rfl) (cq_ok (cr_iconst2 (n := 1) (dq_4 (by decide +kernel)) (by decide +kernel) rfl) (cr_iadd (dq_96 (by decide +kernel)) rfl)))))
set_option maxRecDepth 100000 in
theorem cl_L_law_573 : ci_calls yL_law cL_law 4 573 yX9_year 2 (some 9) := cr_callV (idx := 75) zl_1042 ⟨by decide, by decide⟩ hp_X9_year zc_9 zl_644 zl_645 (Or.inl zl_739) (dq_182 (a := 0) (b := 75) (by decide +kernel) rfl)
set_option maxRecDepth 100000 in
theorem cb_L_law_576 : ci_ok yL_law cL_law 4 576 (ci_seq (ci_popp 577) 577 (ci_go 1222)) := cq_ok (cr_pop (dq_87 (by decide +kernel)) rfl) (cr_goto (off := 645) (dq_167 (a := 2) (b := 133) (by decide +kernel) rfl) (by decide))
set_option maxRecDepth 100000 in
theorem cb_L_law_580 : ci_ok yL_law cL_law 4 580 (ci_seq (ci_load 2 1 581) 581 (ci_seq (ci_load 2 0 582) 582 (ci_seq (ci_load 0 3 583) 583 (ci_seq (ci_push (.int 1) 584) 584 (ci_bin (fun a b => a + b) 585))))) := cq_ok (cr_aload_n (k := 1) (dq_43 (by decide +kernel)) rfl rfl) (cq_ok (cr_aload_n (k := 0) (dq_42 (by decide +kernel)) rfl rfl) (cq_ok (cr_iload_n (k := 3) (dq_29 (by decide +kernel)) rfl rfl) (cq_ok (cr_iconst2 (n := 1) (dq_4 (by decide +kernel)) (by decide +kernel) rfl) (cr_iadd (dq_96 (by decide +kernel)) rfl))))
set_option maxRecDepth 100000 in
theorem cb_L_law_586 : ci_ok yL_law cL_law 4 586 (ci_seq (ci_load 2 0 587) 587 (ci_seq (ci_load 0 3 588) 588 (ci_seq (ci_push (.int 2) 589) 589 (ci_bin (fun a b => a + b) 590)))) := cq_ok (cr_aload_n (k := 0) (dq_42 (by decide +kernel)) rfl rfl) (cq_ok (cr_iload_n (k := 3) (dq_29 (by decide +kernel)) rfl rfl) (cq_ok (cr_iconst2 (n := 2) (dq_5 (by decide +kernel)) (by decide +kernel) rfl) (cr_iadd (dq_96 (by decide +kernel)) rfl)))
set_option maxRecDepth 100000 in
theorem cl_L_law_591 : ci_calls yL_law cL_law 4 591 yX8_would 3 (some 8) := cr_callV (idx := 76) zl_957 ⟨by decide, by decide⟩ hp_X8_would zc_8 zl_747 zl_748 (Or.inl zl_746) (dq_182 (a := 0) (b := 76) (by decide +kernel) rfl)
set_option maxRecDepth 100000 in
theorem cb_L_law_594 : ci_ok yL_law cL_law 4 594 (ci_seq (ci_popp 595) 595 (ci_seq (ci_load 2 2 596) 596 (ci_seq (ci_load 2 0 597) 597 (ci_seq (ci_load 0 3 598) 598 (ci_seq (ci_push (.int 1) 599) 599 (ci_bin (fun a b => a + b) 600)))))) := cq_ok (cr_pop (dq_87 (by decide +kernel)) rfl) (cq_ok (cr_aload_n (k := 2) (dq_44 (by decide +kernel)) rfl rfl) (cq_ok (cr_aload_n (k := 0) (dq_42 (by decide +kernel)) rfl rfl) (cq_ok (cr_iload_n (k := 3) (dq_29 (by decide +kernel)) rfl rfl) (cq_ok (cr_iconst2 (n := 1) (dq_4 (by decide +kernel)) (by decide +kernel) rfl) (cr_iadd (dq_96 (by decide +kernel)) rfl)))))
set_option maxRecDepth 100000 in
theorem cb_L_law_601 : ci_ok yL_law cL_law 4 601 (ci_seq (ci_load 2 0 602) 602 (ci_seq (ci_load 0 3 603) 603 (ci_seq (ci_push (.int 2) 604) 604 (ci_bin (fun a b => a + b) 605)))) := cq_ok (cr_aload_n (k := 0) (dq_42 (by decide +kernel)) rfl rfl) (cq_ok (cr_iload_n (k := 3) (dq_29 (by decide +kernel)) rfl rfl) (cq_ok (cr_iconst2 (n := 2) (dq_5 (by decide +kernel)) (by decide +kernel) rfl) (cr_iadd (dq_96 (by decide +kernel)) rfl)))
set_option maxRecDepth 100000 in
theorem cl_L_law_606 : ci_calls yL_law cL_law 4 606 yX9_would 3 (some 9) := cr_callV (idx := 79) zl_1045 ⟨by decide, by decide⟩ hp_X9_would zc_9 zl_744 zl_745 (Or.inl zl_743) (dq_182 (a := 0) (b := 79) (by decide +kernel) rfl)
set_option maxRecDepth 100000 in
theorem cb_L_law_609 : ci_ok yL_law cL_law 4 609 (ci_seq (ci_popp 610) 610 (ci_go 1222)) := cq_ok (cr_pop (dq_87 (by decide +kernel)) rfl) (cr_goto (off := 612) (dq_167 (a := 2) (b := 100) (by decide +kernel) rfl) (by decide))
set_option maxRecDepth 100000 in
theorem cb_L_law_613 : ci_ok yL_law cL_law 4 613 (ci_seq (ci_load 2 1 614) 614 (ci_seq (ci_load 2 0 615) 615 (ci_seq (ci_load 0 3 616) 616 (ci_seq (ci_push (.int 1) 617) 617 (ci_bin (fun a b => a + b) 618))))) := cq_ok (cr_aload_n (k := 1) (dq_43 (by decide +kernel)) rfl rfl) (cq_ok (cr_aload_n (k := 0) (dq_42 (by decide +kernel)) rfl rfl) (cq_ok (cr_iload_n (k := 3) (dq_29 (by decide +kernel)) rfl rfl) (cq_ok (cr_iconst2 (n := 1) (dq_4 (by decide +kernel)) (by decide +kernel) rfl) (cr_iadd (dq_96 (by decide +kernel)) rfl))))
set_option maxRecDepth 100000 in
theorem cl_L_law_619 : ci_calls yL_law cL_law 4 619 yX8_tell 2 (some 8) := cr_callV (idx := 80) zl_958 ⟨by decide, by decide⟩ hp_X8_tell zc_8 zl_753 zl_754 (Or.inl zl_752) (dq_182 (a := 0) (b := 80) (by decide +kernel) rfl)
set_option maxRecDepth 100000 in
theorem cb_L_law_622 : ci_ok yL_law cL_law 4 622 (ci_seq (ci_popp 623) 623 (ci_seq (ci_load 2 2 624) 624 (ci_seq (ci_load 2 0 625) 625 (ci_seq (ci_load 0 3 626) 626 (ci_seq (ci_push (.int 1) 627) 627 (ci_bin (fun a b => a + b) 628)))))) := cq_ok (cr_pop (dq_87 (by decide +kernel)) rfl) (cq_ok (cr_aload_n (k := 2) (dq_44 (by decide +kernel)) rfl rfl) (cq_ok (cr_aload_n (k := 0) (dq_42 (by decide +kernel)) rfl rfl) (cq_ok (cr_iload_n (k := 3) (dq_29 (by decide +kernel)) rfl rfl) (cq_ok (cr_iconst2 (n := 1) (dq_4 (by decide +kernel)) (by decide +kernel) rfl) (cr_iadd (dq_96 (by decide +kernel)) rfl)))))
set_option maxRecDepth 100000 in
theorem cl_L_law_629 : ci_calls yL_law cL_law 4 629 yX9_tell 2 (some 9) := cr_callV (idx := 83) zl_1046 ⟨by decide, by decide⟩ hp_X9_tell zc_9 zl_750 zl_751 (Or.inl zl_749) (dq_182 (a := 0) (b := 83) (by decide +kernel) rfl)
set_option maxRecDepth 100000 in
theorem cb_L_law_632 : ci_ok yL_law cL_law 4 632 (ci_seq (ci_popp 633) 633 (ci_go 1222)) := cq_ok (cr_pop (dq_87 (by decide +kernel)) rfl) (cr_goto (off := 589) (dq_167 (a := 2) (b := 77) (by decide +kernel) rfl) (by decide))
set_option maxRecDepth 100000 in
theorem cb_L_law_636 : ci_ok yL_law cL_law 4 636 (ci_seq (ci_load 2 1 637) 637 (ci_seq (ci_load 2 0 638) 638 (ci_seq (ci_load 0 3 639) 639 (ci_seq (ci_push (.int 1) 640) 640 (ci_bin (fun a b => a + b) 641))))) := cq_ok (cr_aload_n (k := 1) (dq_43 (by decide +kernel)) rfl rfl) (cq_ok (cr_aload_n (k := 0) (dq_42 (by decide +kernel)) rfl rfl) (cq_ok (cr_iload_n (k := 3) (dq_29 (by decide +kernel)) rfl rfl) (cq_ok (cr_iconst2 (n := 1) (dq_4 (by decide +kernel)) (by decide +kernel) rfl) (cr_iadd (dq_96 (by decide +kernel)) rfl))))
set_option maxRecDepth 100000 in
theorem cl_L_law_642 : ci_calls yL_law cL_law 4 642 yX8_drop 2 (some 8) := cr_callV (idx := 84) zl_959 ⟨by decide, by decide⟩ hp_X8_drop zc_8 zl_759 zl_760 (Or.inl zl_758) (dq_182 (a := 0) (b := 84) (by decide +kernel) rfl)
set_option maxRecDepth 100000 in
theorem cb_L_law_645 : ci_ok yL_law cL_law 4 645 (ci_seq (ci_popp 646) 646 (ci_seq (ci_load 2 2 647) 647 (ci_seq (ci_load 2 0 648) 648 (ci_seq (ci_load 0 3 649) 649 (ci_seq (ci_push (.int 1) 650) 650 (ci_bin (fun a b => a + b) 651)))))) := cq_ok (cr_pop (dq_87 (by decide +kernel)) rfl) (cq_ok (cr_aload_n (k := 2) (dq_44 (by decide +kernel)) rfl rfl) (cq_ok (cr_aload_n (k := 0) (dq_42 (by decide +kernel)) rfl rfl) (cq_ok (cr_iload_n (k := 3) (dq_29 (by decide +kernel)) rfl rfl) (cq_ok (cr_iconst2 (n := 1) (dq_4 (by decide +kernel)) (by decide +kernel) rfl) (cr_iadd (dq_96 (by decide +kernel)) rfl)))))
set_option maxRecDepth 100000 in
theorem cl_L_law_652 : ci_calls yL_law cL_law 4 652 yX9_drop 2 (some 9) := cr_callV (idx := 87) zl_1047 ⟨by decide, by decide⟩ hp_X9_drop zc_9 zl_756 zl_757 (Or.inl zl_755) (dq_182 (a := 0) (b := 87) (by decide +kernel) rfl)
set_option maxRecDepth 100000 in
theorem cb_L_law_655 : ci_ok yL_law cL_law 4 655 (ci_seq (ci_popp 656) 656 (ci_go 1222)) := cq_ok (cr_pop (dq_87 (by decide +kernel)) rfl) (cr_goto (off := 566) (dq_167 (a := 2) (b := 54) (by decide +kernel) rfl) (by decide))
set_option maxRecDepth 100000 in
theorem cb_L_law_659 : ci_ok yL_law cL_law 4 659 (ci_seq (ci_load 2 1 660) 660 (ci_seq (ci_load 2 0 661) 661 (ci_seq (ci_load 0 3 662) 662 (ci_seq (ci_push (.int 1) 663) 663 (ci_bin (fun a b => a + b) 664))))) := cq_ok (cr_aload_n (k := 1) (dq_43 (by decide +kernel)) rfl rfl) (cq_ok (cr_aload_n (k := 0) (dq_42 (by decide +kernel)) rfl rfl) (cq_ok (cr_iload_n (k := 3) (dq_29 (by decide +kernel)) rfl rfl) (cq_ok (cr_iconst2 (n := 1) (dq_4 (by decide +kernel)) (by decide +kernel) rfl) (cr_iadd (dq_96 (by decide +kernel)) rfl))))
set_option maxRecDepth 100000 in
theorem cl_L_law_665 : ci_calls yL_law cL_law 4 665 yX8_judge 2 (some 8) := cr_callV (idx := 88) zl_960 ⟨by decide, by decide⟩ hp_X8_judge zc_8 zl_765 zl_766 (Or.inl zl_764) (dq_182 (a := 0) (b := 88) (by decide +kernel) rfl)
set_option maxRecDepth 100000 in
theorem cb_L_law_668 : ci_ok yL_law cL_law 4 668 (ci_seq (ci_popp 669) 669 (ci_seq (ci_load 2 2 670) 670 (ci_seq (ci_load 2 0 671) 671 (ci_seq (ci_load 0 3 672) 672 (ci_seq (ci_push (.int 1) 673) 673 (ci_bin (fun a b => a + b) 674)))))) := cq_ok (cr_pop (dq_87 (by decide +kernel)) rfl) (cq_ok (cr_aload_n (k := 2) (dq_44 (by decide +kernel)) rfl rfl) (cq_ok (cr_aload_n (k := 0) (dq_42 (by decide +kernel)) rfl rfl) (cq_ok (cr_iload_n (k := 3) (dq_29 (by decide +kernel)) rfl rfl) (cq_ok (cr_iconst2 (n := 1) (dq_4 (by decide +kernel)) (by decide +kernel) rfl) (cr_iadd (dq_96 (by decide +kernel)) rfl)))))
set_option maxRecDepth 100000 in
theorem cl_L_law_675 : ci_calls yL_law cL_law 4 675 yX9_judge 2 (some 9) := cr_callV (idx := 91) zl_1048 ⟨by decide, by decide⟩ hp_X9_judge zc_9 zl_762 zl_763 (Or.inl zl_761) (dq_182 (a := 0) (b := 91) (by decide +kernel) rfl)
set_option maxRecDepth 100000 in
theorem cb_L_law_678 : ci_ok yL_law cL_law 4 678 (ci_seq (ci_popp 679) 679 (ci_go 1222)) := cq_ok (cr_pop (dq_87 (by decide +kernel)) rfl) (cr_goto (off := 543) (dq_167 (a := 2) (b := 31) (by decide +kernel) rfl) (by decide))
set_option maxRecDepth 100000 in
theorem cb_L_law_682 : ci_ok yL_law cL_law 4 682 (ci_seq (ci_load 2 1 683) 683 (ci_seq (ci_load 2 0 684) 684 (ci_seq (ci_load 0 3 685) 685 (ci_seq (ci_push (.int 1) 686) 686 (ci_bin (fun a b => a + b) 687))))) := cq_ok (cr_aload_n (k := 1) (dq_43 (by decide +kernel)) rfl rfl) (cq_ok (cr_aload_n (k := 0) (dq_42 (by decide +kernel)) rfl rfl) (cq_ok (cr_iload_n (k := 3) (dq_29 (by decide +kernel)) rfl rfl) (cq_ok (cr_iconst2 (n := 1) (dq_4 (by decide +kernel)) (by decide +kernel) rfl) (cr_iadd (dq_96 (by decide +kernel)) rfl))))
set_option maxRecDepth 100000 in
theorem cb_L_law_688 : ci_ok yL_law cL_law 4 688 (ci_seq (ci_load 2 0 689) 689 (ci_seq (ci_load 0 3 690) 690 (ci_seq (ci_push (.int 2) 691) 691 (ci_bin (fun a b => a + b) 692)))) := cq_ok (cr_aload_n (k := 0) (dq_42 (by decide +kernel)) rfl rfl) (cq_ok (cr_iload_n (k := 3) (dq_29 (by decide +kernel)) rfl rfl) (cq_ok (cr_iconst2 (n := 2) (dq_5 (by decide +kernel)) (by decide +kernel) rfl) (cr_iadd (dq_96 (by decide +kernel)) rfl)))
set_option maxRecDepth 100000 in
theorem cb_L_law_693 : ci_ok yL_law cL_law 4 693 (ci_seq (ci_load 2 0 694) 694 (ci_seq (ci_load 0 3 695) 695 (ci_seq (ci_push (.int 3) 696) 696 (ci_bin (fun a b => a + b) 697)))) := cq_ok (cr_aload_n (k := 0) (dq_42 (by decide +kernel)) rfl rfl) (cq_ok (cr_iload_n (k := 3) (dq_29 (by decide +kernel)) rfl rfl) (cq_ok (cr_iconst2 (n := 3) (dq_6 (by decide +kernel)) (by decide +kernel) rfl) (cr_iadd (dq_96 (by decide +kernel)) rfl)))
set_option maxRecDepth 100000 in
theorem cl_L_law_698 : ci_calls yL_law cL_law 4 698 yX8_alone 4 (some 8) := cr_callV (idx := 92) zl_966 ⟨by decide, by decide⟩ hp_X8_alone zc_8 zl_771 zl_772 (Or.inl zl_770) (dq_182 (a := 0) (b := 92) (by decide +kernel) rfl)
set_option maxRecDepth 100000 in
theorem cb_L_law_701 : ci_ok yL_law cL_law 4 701 (ci_seq (ci_popp 702) 702 (ci_seq (ci_load 2 2 703) 703 (ci_seq (ci_load 2 0 704) 704 (ci_seq (ci_load 0 3 705) 705 (ci_seq (ci_push (.int 1) 706) 706 (ci_bin (fun a b => a + b) 707)))))) := cq_ok (cr_pop (dq_87 (by decide +kernel)) rfl) (cq_ok (cr_aload_n (k := 2) (dq_44 (by decide +kernel)) rfl rfl) (cq_ok (cr_aload_n (k := 0) (dq_42 (by decide +kernel)) rfl rfl) (cq_ok (cr_iload_n (k := 3) (dq_29 (by decide +kernel)) rfl rfl) (cq_ok (cr_iconst2 (n := 1) (dq_4 (by decide +kernel)) (by decide +kernel) rfl) (cr_iadd (dq_96 (by decide +kernel)) rfl)))))
set_option maxRecDepth 100000 in
theorem cb_L_law_708 : ci_ok yL_law cL_law 4 708 (ci_seq (ci_load 2 0 709) 709 (ci_seq (ci_load 0 3 710) 710 (ci_seq (ci_push (.int 2) 711) 711 (ci_bin (fun a b => a + b) 712)))) := cq_ok (cr_aload_n (k := 0) (dq_42 (by decide +kernel)) rfl rfl) (cq_ok (cr_iload_n (k := 3) (dq_29 (by decide +kernel)) rfl rfl) (cq_ok (cr_iconst2 (n := 2) (dq_5 (by decide +kernel)) (by decide +kernel) rfl) (cr_iadd (dq_96 (by decide +kernel)) rfl)))
set_option maxRecDepth 100000 in
theorem cb_L_law_713 : ci_ok yL_law cL_law 4 713 (ci_seq (ci_load 2 0 714) 714 (ci_seq (ci_load 0 3 715) 715 (ci_seq (ci_push (.int 3) 716) 716 (ci_bin (fun a b => a + b) 717)))) := cq_ok (cr_aload_n (k := 0) (dq_42 (by decide +kernel)) rfl rfl) (cq_ok (cr_iload_n (k := 3) (dq_29 (by decide +kernel)) rfl rfl) (cq_ok (cr_iconst2 (n := 3) (dq_6 (by decide +kernel)) (by decide +kernel) rfl) (cr_iadd (dq_96 (by decide +kernel)) rfl)))
set_option maxRecDepth 100000 in
theorem cl_L_law_718 : ci_calls yL_law cL_law 4 718 yX9_alone 4 (some 9) := cr_callV (idx := 96) zl_1056 ⟨by decide, by decide⟩ hp_X9_alone zc_9 zl_768 zl_769 (Or.inl zl_767) (dq_182 (a := 0) (b := 96) (by decide +kernel) rfl)
set_option maxRecDepth 100000 in
theorem cb_L_law_721 : ci_ok yL_law cL_law 4 721 (ci_seq (ci_popp 722) 722 (ci_go 1222)) := cq_ok (cr_pop (dq_87 (by decide +kernel)) rfl) (cr_goto (off := 500) (dq_167 (a := 1) (b := 244) (by decide +kernel) rfl) (by decide))
set_option maxRecDepth 100000 in
theorem cb_L_law_725 : ci_ok yL_law cL_law 4 725 (ci_seq (ci_load 2 1 726) 726 (ci_seq (ci_load 2 0 727) 727 (ci_seq (ci_load 0 3 728) 728 (ci_seq (ci_push (.int 1) 729) 729 (ci_bin (fun a b => a + b) 730))))) := cq_ok (cr_aload_n (k := 1) (dq_43 (by decide +kernel)) rfl rfl) (cq_ok (cr_aload_n (k := 0) (dq_42 (by decide +kernel)) rfl rfl) (cq_ok (cr_iload_n (k := 3) (dq_29 (by decide +kernel)) rfl rfl) (cq_ok (cr_iconst2 (n := 1) (dq_4 (by decide +kernel)) (by decide +kernel) rfl) (cr_iadd (dq_96 (by decide +kernel)) rfl))))
set_option maxRecDepth 100000 in
theorem cb_L_law_731 : ci_ok yL_law cL_law 4 731 (ci_seq (ci_load 2 0 732) 732 (ci_seq (ci_load 0 3 733) 733 (ci_seq (ci_push (.int 2) 734) 734 (ci_bin (fun a b => a + b) 735)))) := cq_ok (cr_aload_n (k := 0) (dq_42 (by decide +kernel)) rfl rfl) (cq_ok (cr_iload_n (k := 3) (dq_29 (by decide +kernel)) rfl rfl) (cq_ok (cr_iconst2 (n := 2) (dq_5 (by decide +kernel)) (by decide +kernel) rfl) (cr_iadd (dq_96 (by decide +kernel)) rfl)))
set_option maxRecDepth 100000 in
theorem cl_L_law_736 : ci_calls yL_law cL_law 4 736 yX8_together 3 (some 8) := cr_callV (idx := 97) zl_967 ⟨by decide, by decide⟩ hp_X8_together zc_8 zl_777 zl_778 (Or.inl zl_776) (dq_182 (a := 0) (b := 97) (by decide +kernel) rfl)
set_option maxRecDepth 100000 in
theorem cb_L_law_739 : ci_ok yL_law cL_law 4 739 (ci_seq (ci_popp 740) 740 (ci_seq (ci_load 2 2 741) 741 (ci_seq (ci_load 2 0 742) 742 (ci_seq (ci_load 0 3 743) 743 (ci_seq (ci_push (.int 1) 744) 744 (ci_bin (fun a b => a + b) 745)))))) := cq_ok (cr_pop (dq_87 (by decide +kernel)) rfl) (cq_ok (cr_aload_n (k := 2) (dq_44 (by decide +kernel)) rfl rfl) (cq_ok (cr_aload_n (k := 0) (dq_42 (by decide +kernel)) rfl rfl) (cq_ok (cr_iload_n (k := 3) (dq_29 (by decide +kernel)) rfl rfl) (cq_ok (cr_iconst2 (n := 1) (dq_4 (by decide +kernel)) (by decide +kernel) rfl) (cr_iadd (dq_96 (by decide +kernel)) rfl)))))
set_option maxRecDepth 100000 in
theorem cb_L_law_746 : ci_ok yL_law cL_law 4 746 (ci_seq (ci_load 2 0 747) 747 (ci_seq (ci_load 0 3 748) 748 (ci_seq (ci_push (.int 2) 749) 749 (ci_bin (fun a b => a + b) 750)))) := cq_ok (cr_aload_n (k := 0) (dq_42 (by decide +kernel)) rfl rfl) (cq_ok (cr_iload_n (k := 3) (dq_29 (by decide +kernel)) rfl rfl) (cq_ok (cr_iconst2 (n := 2) (dq_5 (by decide +kernel)) (by decide +kernel) rfl) (cr_iadd (dq_96 (by decide +kernel)) rfl)))
set_option maxRecDepth 100000 in
theorem cl_L_law_751 : ci_calls yL_law cL_law 4 751 yX9_together 3 (some 9) := cr_callV (idx := 100) zl_1058 ⟨by decide, by decide⟩ hp_X9_together zc_9 zl_774 zl_775 (Or.inl zl_773) (dq_182 (a := 0) (b := 100) (by decide +kernel) rfl)
set_option maxRecDepth 100000 in
theorem cb_L_law_754 : ci_ok yL_law cL_law 4 754 (ci_seq (ci_popp 755) 755 (ci_go 1222)) := cq_ok (cr_pop (dq_87 (by decide +kernel)) rfl) (cr_goto (off := 467) (dq_167 (a := 1) (b := 211) (by decide +kernel) rfl) (by decide))
set_option maxRecDepth 100000 in
theorem cb_L_law_758 : ci_ok yL_law cL_law 4 758 (ci_seq (ci_load 2 1 759) 759 (ci_seq (ci_load 2 0 760) 760 (ci_seq (ci_load 0 3 761) 761 (ci_seq (ci_push (.int 1) 762) 762 (ci_bin (fun a b => a + b) 763))))) := cq_ok (cr_aload_n (k := 1) (dq_43 (by decide +kernel)) rfl rfl) (cq_ok (cr_aload_n (k := 0) (dq_42 (by decide +kernel)) rfl rfl) (cq_ok (cr_iload_n (k := 3) (dq_29 (by decide +kernel)) rfl rfl) (cq_ok (cr_iconst2 (n := 1) (dq_4 (by decide +kernel)) (by decide +kernel) rfl) (cr_iadd (dq_96 (by decide +kernel)) rfl))))
set_option maxRecDepth 100000 in
theorem cl_L_law_764 : ci_calls yL_law cL_law 4 764 yX8_selfish 2 (some 8) := cr_callV (idx := 101) zl_970 ⟨by decide, by decide⟩ hp_X8_selfish zc_8 zl_783 zl_784 (Or.inl zl_782) (dq_182 (a := 0) (b := 101) (by decide +kernel) rfl)
set_option maxRecDepth 100000 in
theorem cb_L_law_767 : ci_ok yL_law cL_law 4 767 (ci_seq (ci_popp 768) 768 (ci_seq (ci_load 2 2 769) 769 (ci_seq (ci_load 2 0 770) 770 (ci_seq (ci_load 0 3 771) 771 (ci_seq (ci_push (.int 1) 772) 772 (ci_bin (fun a b => a + b) 773)))))) := cq_ok (cr_pop (dq_87 (by decide +kernel)) rfl) (cq_ok (cr_aload_n (k := 2) (dq_44 (by decide +kernel)) rfl rfl) (cq_ok (cr_aload_n (k := 0) (dq_42 (by decide +kernel)) rfl rfl) (cq_ok (cr_iload_n (k := 3) (dq_29 (by decide +kernel)) rfl rfl) (cq_ok (cr_iconst2 (n := 1) (dq_4 (by decide +kernel)) (by decide +kernel) rfl) (cr_iadd (dq_96 (by decide +kernel)) rfl)))))
set_option maxRecDepth 100000 in
theorem cl_L_law_774 : ci_calls yL_law cL_law 4 774 yX9_selfish 2 (some 9) := cr_callV (idx := 104) zl_1062 ⟨by decide, by decide⟩ hp_X9_selfish zc_9 zl_780 zl_781 (Or.inl zl_779) (dq_182 (a := 0) (b := 104) (by decide +kernel) rfl)
set_option maxRecDepth 100000 in
theorem cb_L_law_777 : ci_ok yL_law cL_law 4 777 (ci_seq (ci_popp 778) 778 (ci_go 1222)) := cq_ok (cr_pop (dq_87 (by decide +kernel)) rfl) (cr_goto (off := 444) (dq_167 (a := 1) (b := 188) (by decide +kernel) rfl) (by decide))
set_option maxRecDepth 100000 in
theorem cb_L_law_781 : ci_ok yL_law cL_law 4 781 (ci_seq (ci_load 2 1 782) 782 (ci_seq (ci_load 2 0 783) 783 (ci_seq (ci_load 0 3 784) 784 (ci_seq (ci_push (.int 1) 785) 785 (ci_bin (fun a b => a + b) 786))))) := cq_ok (cr_aload_n (k := 1) (dq_43 (by decide +kernel)) rfl rfl) (cq_ok (cr_aload_n (k := 0) (dq_42 (by decide +kernel)) rfl rfl) (cq_ok (cr_iload_n (k := 3) (dq_29 (by decide +kernel)) rfl rfl) (cq_ok (cr_iconst2 (n := 1) (dq_4 (by decide +kernel)) (by decide +kernel) rfl) (cr_iadd (dq_96 (by decide +kernel)) rfl))))
set_option maxRecDepth 100000 in
theorem cl_L_law_787 : ci_calls yL_law cL_law 4 787 yX8_rests 2 (some 8) := cr_callV (idx := 105) zl_971 ⟨by decide, by decide⟩ hp_X8_rests zc_8 zl_789 zl_790 (Or.inl zl_788) (dq_182 (a := 0) (b := 105) (by decide +kernel) rfl)
set_option maxRecDepth 100000 in
theorem cb_L_law_790 : ci_ok yL_law cL_law 4 790 (ci_seq (ci_popp 791) 791 (ci_seq (ci_load 2 2 792) 792 (ci_seq (ci_load 2 0 793) 793 (ci_seq (ci_load 0 3 794) 794 (ci_seq (ci_push (.int 1) 795) 795 (ci_bin (fun a b => a + b) 796)))))) := cq_ok (cr_pop (dq_87 (by decide +kernel)) rfl) (cq_ok (cr_aload_n (k := 2) (dq_44 (by decide +kernel)) rfl rfl) (cq_ok (cr_aload_n (k := 0) (dq_42 (by decide +kernel)) rfl rfl) (cq_ok (cr_iload_n (k := 3) (dq_29 (by decide +kernel)) rfl rfl) (cq_ok (cr_iconst2 (n := 1) (dq_4 (by decide +kernel)) (by decide +kernel) rfl) (cr_iadd (dq_96 (by decide +kernel)) rfl)))))
set_option maxRecDepth 100000 in
theorem cl_L_law_797 : ci_calls yL_law cL_law 4 797 yX9_rests 2 (some 9) := cr_callV (idx := 108) zl_1064 ⟨by decide, by decide⟩ hp_X9_rests zc_9 zl_786 zl_787 (Or.inl zl_785) (dq_182 (a := 0) (b := 108) (by decide +kernel) rfl)
set_option maxRecDepth 100000 in
theorem cb_L_law_800 : ci_ok yL_law cL_law 4 800 (ci_seq (ci_popp 801) 801 (ci_go 1222)) := cq_ok (cr_pop (dq_87 (by decide +kernel)) rfl) (cr_goto (off := 421) (dq_167 (a := 1) (b := 165) (by decide +kernel) rfl) (by decide))
set_option maxRecDepth 100000 in
theorem cb_L_law_804 : ci_ok yL_law cL_law 4 804 (ci_seq (ci_load 2 1 805) 805 (ci_seq (ci_load 2 0 806) 806 (ci_seq (ci_load 0 3 807) 807 (ci_seq (ci_push (.int 1) 808) 808 (ci_bin (fun a b => a + b) 809))))) := cq_ok (cr_aload_n (k := 1) (dq_43 (by decide +kernel)) rfl rfl) (cq_ok (cr_aload_n (k := 0) (dq_42 (by decide +kernel)) rfl rfl) (cq_ok (cr_iload_n (k := 3) (dq_29 (by decide +kernel)) rfl rfl) (cq_ok (cr_iconst2 (n := 1) (dq_4 (by decide +kernel)) (by decide +kernel) rfl) (cr_iadd (dq_96 (by decide +kernel)) rfl))))
set_option maxRecDepth 100000 in
theorem cl_L_law_810 : ci_calls yL_law cL_law 4 810 yX8_breaks 2 (some 8) := cr_callV (idx := 109) zl_972 ⟨by decide, by decide⟩ hp_X8_breaks zc_8 zl_795 zl_796 (Or.inl zl_794) (dq_182 (a := 0) (b := 109) (by decide +kernel) rfl)
set_option maxRecDepth 100000 in
theorem cb_L_law_813 : ci_ok yL_law cL_law 4 813 (ci_seq (ci_popp 814) 814 (ci_seq (ci_load 2 2 815) 815 (ci_seq (ci_load 2 0 816) 816 (ci_seq (ci_load 0 3 817) 817 (ci_seq (ci_push (.int 1) 818) 818 (ci_bin (fun a b => a + b) 819)))))) := cq_ok (cr_pop (dq_87 (by decide +kernel)) rfl) (cq_ok (cr_aload_n (k := 2) (dq_44 (by decide +kernel)) rfl rfl) (cq_ok (cr_aload_n (k := 0) (dq_42 (by decide +kernel)) rfl rfl) (cq_ok (cr_iload_n (k := 3) (dq_29 (by decide +kernel)) rfl rfl) (cq_ok (cr_iconst2 (n := 1) (dq_4 (by decide +kernel)) (by decide +kernel) rfl) (cr_iadd (dq_96 (by decide +kernel)) rfl)))))
set_option maxRecDepth 100000 in
theorem cl_L_law_820 : ci_calls yL_law cL_law 4 820 yX9_breaks 2 (some 9) := cr_callV (idx := 112) zl_1065 ⟨by decide, by decide⟩ hp_X9_breaks zc_9 zl_792 zl_793 (Or.inl zl_791) (dq_182 (a := 0) (b := 112) (by decide +kernel) rfl)
set_option maxRecDepth 100000 in
theorem cb_L_law_823 : ci_ok yL_law cL_law 4 823 (ci_seq (ci_popp 824) 824 (ci_go 1222)) := cq_ok (cr_pop (dq_87 (by decide +kernel)) rfl) (cr_goto (off := 398) (dq_167 (a := 1) (b := 142) (by decide +kernel) rfl) (by decide))
set_option maxRecDepth 100000 in
theorem cb_L_law_827 : ci_ok yL_law cL_law 4 827 (ci_seq (ci_load 2 1 828) 828 (ci_seq (ci_load 2 0 829) 829 (ci_seq (ci_load 0 3 830) 830 (ci_seq (ci_push (.int 1) 831) 831 (ci_bin (fun a b => a + b) 832))))) := cq_ok (cr_aload_n (k := 1) (dq_43 (by decide +kernel)) rfl rfl) (cq_ok (cr_aload_n (k := 0) (dq_42 (by decide +kernel)) rfl rfl) (cq_ok (cr_iload_n (k := 3) (dq_29 (by decide +kernel)) rfl rfl) (cq_ok (cr_iconst2 (n := 1) (dq_4 (by decide +kernel)) (by decide +kernel) rfl) (cr_iadd (dq_96 (by decide +kernel)) rfl))))
set_option maxRecDepth 100000 in
theorem cl_L_law_833 : ci_calls yL_law cL_law 4 833 yX8_stands 2 (some 8) := cr_callV (idx := 113) zl_973 ⟨by decide, by decide⟩ hp_X8_stands zc_8 zl_801 zl_802 (Or.inl zl_800) (dq_182 (a := 0) (b := 113) (by decide +kernel) rfl)
set_option maxRecDepth 100000 in
theorem cb_L_law_836 : ci_ok yL_law cL_law 4 836 (ci_seq (ci_popp 837) 837 (ci_seq (ci_load 2 2 838) 838 (ci_seq (ci_load 2 0 839) 839 (ci_seq (ci_load 0 3 840) 840 (ci_seq (ci_push (.int 1) 841) 841 (ci_bin (fun a b => a + b) 842)))))) := cq_ok (cr_pop (dq_87 (by decide +kernel)) rfl) (cq_ok (cr_aload_n (k := 2) (dq_44 (by decide +kernel)) rfl rfl) (cq_ok (cr_aload_n (k := 0) (dq_42 (by decide +kernel)) rfl rfl) (cq_ok (cr_iload_n (k := 3) (dq_29 (by decide +kernel)) rfl rfl) (cq_ok (cr_iconst2 (n := 1) (dq_4 (by decide +kernel)) (by decide +kernel) rfl) (cr_iadd (dq_96 (by decide +kernel)) rfl)))))
set_option maxRecDepth 100000 in
theorem cl_L_law_843 : ci_calls yL_law cL_law 4 843 yX9_stands 2 (some 9) := cr_callV (idx := 116) zl_1066 ⟨by decide, by decide⟩ hp_X9_stands zc_9 zl_798 zl_799 (Or.inl zl_797) (dq_182 (a := 0) (b := 116) (by decide +kernel) rfl)
set_option maxRecDepth 100000 in
theorem cb_L_law_846 : ci_ok yL_law cL_law 4 846 (ci_seq (ci_popp 847) 847 (ci_go 1222)) := cq_ok (cr_pop (dq_87 (by decide +kernel)) rfl) (cr_goto (off := 375) (dq_167 (a := 1) (b := 119) (by decide +kernel) rfl) (by decide))
set_option maxRecDepth 100000 in
theorem cb_L_law_850 : ci_ok yL_law cL_law 4 850 (ci_seq (ci_load 2 1 851) 851 (ci_seq (ci_load 2 0 852) 852 (ci_seq (ci_load 0 3 853) 853 (ci_seq (ci_push (.int 1) 854) 854 (ci_bin (fun a b => a + b) 855))))) := cq_ok (cr_aload_n (k := 1) (dq_43 (by decide +kernel)) rfl rfl) (cq_ok (cr_aload_n (k := 0) (dq_42 (by decide +kernel)) rfl rfl) (cq_ok (cr_iload_n (k := 3) (dq_29 (by decide +kernel)) rfl rfl) (cq_ok (cr_iconst2 (n := 1) (dq_4 (by decide +kernel)) (by decide +kernel) rfl) (cr_iadd (dq_96 (by decide +kernel)) rfl))))
set_option maxRecDepth 100000 in
theorem cl_L_law_856 : ci_calls yL_law cL_law 4 856 yX8_again 2 (some 8) := cr_callV (idx := 117) zl_974 ⟨by decide, by decide⟩ hp_X8_again zc_8 zl_807 zl_808 (Or.inl zl_806) (dq_182 (a := 0) (b := 117) (by decide +kernel) rfl)
set_option maxRecDepth 100000 in
theorem cb_L_law_859 : ci_ok yL_law cL_law 4 859 (ci_seq (ci_popp 860) 860 (ci_seq (ci_load 2 2 861) 861 (ci_seq (ci_load 2 0 862) 862 (ci_seq (ci_load 0 3 863) 863 (ci_seq (ci_push (.int 1) 864) 864 (ci_bin (fun a b => a + b) 865)))))) := cq_ok (cr_pop (dq_87 (by decide +kernel)) rfl) (cq_ok (cr_aload_n (k := 2) (dq_44 (by decide +kernel)) rfl rfl) (cq_ok (cr_aload_n (k := 0) (dq_42 (by decide +kernel)) rfl rfl) (cq_ok (cr_iload_n (k := 3) (dq_29 (by decide +kernel)) rfl rfl) (cq_ok (cr_iconst2 (n := 1) (dq_4 (by decide +kernel)) (by decide +kernel) rfl) (cr_iadd (dq_96 (by decide +kernel)) rfl)))))
set_option maxRecDepth 100000 in
theorem cl_L_law_866 : ci_calls yL_law cL_law 4 866 yX9_again 2 (some 9) := cr_callV (idx := 120) zl_1068 ⟨by decide, by decide⟩ hp_X9_again zc_9 zl_804 zl_805 (Or.inl zl_803) (dq_182 (a := 0) (b := 120) (by decide +kernel) rfl)
set_option maxRecDepth 100000 in
theorem cb_L_law_869 : ci_ok yL_law cL_law 4 869 (ci_seq (ci_popp 870) 870 (ci_go 1222)) := cq_ok (cr_pop (dq_87 (by decide +kernel)) rfl) (cr_goto (off := 352) (dq_167 (a := 1) (b := 96) (by decide +kernel) rfl) (by decide))
set_option maxRecDepth 100000 in
theorem cb_L_law_873 : ci_ok yL_law cL_law 4 873 (ci_seq (ci_load 2 1 874) 874 (ci_seq (ci_load 2 0 875) 875 (ci_seq (ci_load 0 3 876) 876 (ci_seq (ci_push (.int 1) 877) 877 (ci_bin (fun a b => a + b) 878))))) := cq_ok (cr_aload_n (k := 1) (dq_43 (by decide +kernel)) rfl rfl) (cq_ok (cr_aload_n (k := 0) (dq_42 (by decide +kernel)) rfl rfl) (cq_ok (cr_iload_n (k := 3) (dq_29 (by decide +kernel)) rfl rfl) (cq_ok (cr_iconst2 (n := 1) (dq_4 (by decide +kernel)) (by decide +kernel) rfl) (cr_iadd (dq_96 (by decide +kernel)) rfl))))
set_option maxRecDepth 100000 in
theorem cb_L_law_879 : ci_ok yL_law cL_law 4 879 (ci_seq (ci_load 2 0 880) 880 (ci_seq (ci_load 0 3 881) 881 (ci_seq (ci_push (.int 2) 882) 882 (ci_bin (fun a b => a + b) 883)))) := cq_ok (cr_aload_n (k := 0) (dq_42 (by decide +kernel)) rfl rfl) (cq_ok (cr_iload_n (k := 3) (dq_29 (by decide +kernel)) rfl rfl) (cq_ok (cr_iconst2 (n := 2) (dq_5 (by decide +kernel)) (by decide +kernel) rfl) (cr_iadd (dq_96 (by decide +kernel)) rfl)))
set_option maxRecDepth 100000 in
theorem cl_L_law_884 : ci_calls yL_law cL_law 4 884 yX8_odds 3 (some 8) := cr_callV (idx := 121) zl_978 ⟨by decide, by decide⟩ hp_X8_odds zc_8 zl_810 zl_811 (Or.inl zl_809) (dq_182 (a := 0) (b := 121) (by decide +kernel) rfl)
set_option maxRecDepth 100000 in
theorem cb_L_law_888 : ci_ok yL_law cL_law 4 888 (ci_seq (ci_load 2 2 889) 889 (ci_seq (ci_load 2 0 890) 890 (ci_seq (ci_load 0 3 891) 891 (ci_seq (ci_push (.int 1) 892) 892 (ci_bin (fun a b => a + b) 893))))) := cq_ok (cr_aload_n (k := 2) (dq_44 (by decide +kernel)) rfl rfl) (cq_ok (cr_aload_n (k := 0) (dq_42 (by decide +kernel)) rfl rfl) (cq_ok (cr_iload_n (k := 3) (dq_29 (by decide +kernel)) rfl rfl) (cq_ok (cr_iconst2 (n := 1) (dq_4 (by decide +kernel)) (by decide +kernel) rfl) (cr_iadd (dq_96 (by decide +kernel)) rfl))))
set_option maxRecDepth 100000 in
theorem cb_L_law_894 : ci_ok yL_law cL_law 4 894 (ci_seq (ci_load 2 0 895) 895 (ci_seq (ci_load 0 3 896) 896 (ci_seq (ci_push (.int 2) 897) 897 (ci_bin (fun a b => a + b) 898)))) := cq_ok (cr_aload_n (k := 0) (dq_42 (by decide +kernel)) rfl rfl) (cq_ok (cr_iload_n (k := 3) (dq_29 (by decide +kernel)) rfl rfl) (cq_ok (cr_iconst2 (n := 2) (dq_5 (by decide +kernel)) (by decide +kernel) rfl) (cr_iadd (dq_96 (by decide +kernel)) rfl)))
set_option maxRecDepth 100000 in
theorem cl_L_law_899 : ci_calls yL_law cL_law 4 899 yX9_odds 3 (some 9) := cr_callV (idx := 125) zl_1070 ⟨by decide, by decide⟩ hp_X9_odds zc_9 zl_813 zl_814 (Or.inl zl_812) (dq_182 (a := 0) (b := 125) (by decide +kernel) rfl)
set_option maxRecDepth 100000 in
theorem cb_L_law_903 : ci_ok yL_law cL_law 4 903 (ci_go 1222) := cr_goto (off := 319) (dq_167 (a := 1) (b := 63) (by decide +kernel) rfl) (by decide)
set_option maxRecDepth 100000 in
theorem cb_L_law_906 : ci_ok yL_law cL_law 4 906 (ci_seq (ci_load 2 1 907) 907 (ci_seq (ci_load 2 0 908) 908 (ci_seq (ci_load 0 3 909) 909 (ci_seq (ci_push (.int 1) 910) 910 (ci_bin (fun a b => a + b) 911))))) := cq_ok (cr_aload_n (k := 1) (dq_43 (by decide +kernel)) rfl rfl) (cq_ok (cr_aload_n (k := 0) (dq_42 (by decide +kernel)) rfl rfl) (cq_ok (cr_iload_n (k := 3) (dq_29 (by decide +kernel)) rfl rfl) (cq_ok (cr_iconst2 (n := 1) (dq_4 (by decide +kernel)) (by decide +kernel) rfl) (cr_iadd (dq_96 (by decide +kernel)) rfl))))
set_option maxRecDepth 100000 in
theorem cb_L_law_912 : ci_ok yL_law cL_law 4 912 (ci_seq (ci_load 2 0 913) 913 (ci_seq (ci_load 0 3 914) 914 (ci_seq (ci_push (.int 2) 915) 915 (ci_bin (fun a b => a + b) 916)))) := cq_ok (cr_aload_n (k := 0) (dq_42 (by decide +kernel)) rfl rfl) (cq_ok (cr_iload_n (k := 3) (dq_29 (by decide +kernel)) rfl rfl) (cq_ok (cr_iconst2 (n := 2) (dq_5 (by decide +kernel)) (by decide +kernel) rfl) (cr_iadd (dq_96 (by decide +kernel)) rfl)))
set_option maxRecDepth 100000 in
theorem cb_L_law_917 : ci_ok yL_law cL_law 4 917 (ci_if (fun x => decide (x = 0)) 924 920) := cr_if_eq (off := 7) (dq_153 (a := 0) (b := 7) (by decide +kernel) rfl) (by decide) rfl
set_option maxRecDepth 100000 in
theorem cb_L_law_920 : ci_ok yL_law cL_law 4 920 (ci_seq (ci_push (.int 1) 921) 921 (ci_go 925)) := cq_ok (cr_iconst2 (n := 1) (dq_4 (by decide +kernel)) (by decide +kernel) rfl) (cr_goto (off := 4) (dq_167 (a := 0) (b := 4) (by decide +kernel) rfl) (by decide))
set_option maxRecDepth 100000 in
theorem cb_L_law_924 : ci_ok yL_law cL_law 4 924 (ci_push (.int 0) 925) := cr_iconst2 (n := 0) (dq_3 (by decide +kernel)) (by decide +kernel) rfl
set_option maxRecDepth 100000 in
theorem cl_L_law_925 : ci_calls yL_law cL_law 4 925 yX8_see 3 (some 8) := cr_callV (idx := 126) zl_980 ⟨by decide, by decide⟩ hp_X8_see zc_8 zl_816 zl_817 (Or.inl zl_815) (dq_182 (a := 0) (b := 126) (by decide +kernel) rfl)
set_option maxRecDepth 100000 in
theorem cb_L_law_928 : ci_ok yL_law cL_law 4 928 (ci_seq (ci_popp 929) 929 (ci_seq (ci_load 2 2 930) 930 (ci_seq (ci_load 2 0 931) 931 (ci_seq (ci_load 0 3 932) 932 (ci_seq (ci_push (.int 1) 933) 933 (ci_bin (fun a b => a + b) 934)))))) := cq_ok (cr_pop (dq_87 (by decide +kernel)) rfl) (cq_ok (cr_aload_n (k := 2) (dq_44 (by decide +kernel)) rfl rfl) (cq_ok (cr_aload_n (k := 0) (dq_42 (by decide +kernel)) rfl rfl) (cq_ok (cr_iload_n (k := 3) (dq_29 (by decide +kernel)) rfl rfl) (cq_ok (cr_iconst2 (n := 1) (dq_4 (by decide +kernel)) (by decide +kernel) rfl) (cr_iadd (dq_96 (by decide +kernel)) rfl)))))
set_option maxRecDepth 100000 in
theorem cb_L_law_935 : ci_ok yL_law cL_law 4 935 (ci_seq (ci_load 2 0 936) 936 (ci_seq (ci_load 0 3 937) 937 (ci_seq (ci_push (.int 2) 938) 938 (ci_bin (fun a b => a + b) 939)))) := cq_ok (cr_aload_n (k := 0) (dq_42 (by decide +kernel)) rfl rfl) (cq_ok (cr_iload_n (k := 3) (dq_29 (by decide +kernel)) rfl rfl) (cq_ok (cr_iconst2 (n := 2) (dq_5 (by decide +kernel)) (by decide +kernel) rfl) (cr_iadd (dq_96 (by decide +kernel)) rfl)))
set_option maxRecDepth 100000 in
theorem cb_L_law_940 : ci_ok yL_law cL_law 4 940 (ci_if (fun x => decide (x = 0)) 947 943) := cr_if_eq (off := 7) (dq_153 (a := 0) (b := 7) (by decide +kernel) rfl) (by decide) rfl
set_option maxRecDepth 100000 in
theorem cb_L_law_943 : ci_ok yL_law cL_law 4 943 (ci_seq (ci_push (.int 1) 944) 944 (ci_go 948)) := cq_ok (cr_iconst2 (n := 1) (dq_4 (by decide +kernel)) (by decide +kernel) rfl) (cr_goto (off := 4) (dq_167 (a := 0) (b := 4) (by decide +kernel) rfl) (by decide))
set_option maxRecDepth 100000 in
theorem cb_L_law_947 : ci_ok yL_law cL_law 4 947 (ci_push (.int 0) 948) := cr_iconst2 (n := 0) (dq_3 (by decide +kernel)) (by decide +kernel) rfl
set_option maxRecDepth 100000 in
theorem cl_L_law_948 : ci_calls yL_law cL_law 4 948 yX9_see 3 (some 9) := cr_callV (idx := 130) zl_1071 ⟨by decide, by decide⟩ hp_X9_see zc_9 zl_819 zl_820 (Or.inl zl_818) (dq_182 (a := 0) (b := 130) (by decide +kernel) rfl)
set_option maxRecDepth 100000 in
theorem cb_L_law_951 : ci_ok yL_law cL_law 4 951 (ci_seq (ci_popp 952) 952 (ci_go 1222)) := cq_ok (cr_pop (dq_87 (by decide +kernel)) rfl) (cr_goto (off := 270) (dq_167 (a := 1) (b := 14) (by decide +kernel) rfl) (by decide))
set_option maxRecDepth 100000 in
theorem cb_L_law_955 : ci_ok yL_law cL_law 4 955 (ci_seq (ci_load 2 1 956) 956 (ci_seq (ci_load 2 0 957) 957 (ci_seq (ci_load 0 3 958) 958 (ci_seq (ci_push (.int 1) 959) 959 (ci_bin (fun a b => a + b) 960))))) := cq_ok (cr_aload_n (k := 1) (dq_43 (by decide +kernel)) rfl rfl) (cq_ok (cr_aload_n (k := 0) (dq_42 (by decide +kernel)) rfl rfl) (cq_ok (cr_iload_n (k := 3) (dq_29 (by decide +kernel)) rfl rfl) (cq_ok (cr_iconst2 (n := 1) (dq_4 (by decide +kernel)) (by decide +kernel) rfl) (cr_iadd (dq_96 (by decide +kernel)) rfl))))
set_option maxRecDepth 100000 in
theorem cl_L_law_961 : ci_calls yL_law cL_law 4 961 yX8_forget 2 (some 8) := cr_callV (idx := 131) zl_981 ⟨by decide, by decide⟩ hp_X8_forget zc_8 zl_825 zl_826 (Or.inl zl_824) (dq_182 (a := 0) (b := 131) (by decide +kernel) rfl)
set_option maxRecDepth 100000 in
theorem cb_L_law_964 : ci_ok yL_law cL_law 4 964 (ci_seq (ci_popp 965) 965 (ci_seq (ci_load 2 2 966) 966 (ci_seq (ci_load 2 0 967) 967 (ci_seq (ci_load 0 3 968) 968 (ci_seq (ci_push (.int 1) 969) 969 (ci_bin (fun a b => a + b) 970)))))) := cq_ok (cr_pop (dq_87 (by decide +kernel)) rfl) (cq_ok (cr_aload_n (k := 2) (dq_44 (by decide +kernel)) rfl rfl) (cq_ok (cr_aload_n (k := 0) (dq_42 (by decide +kernel)) rfl rfl) (cq_ok (cr_iload_n (k := 3) (dq_29 (by decide +kernel)) rfl rfl) (cq_ok (cr_iconst2 (n := 1) (dq_4 (by decide +kernel)) (by decide +kernel) rfl) (cr_iadd (dq_96 (by decide +kernel)) rfl)))))
set_option maxRecDepth 100000 in
theorem cl_L_law_971 : ci_calls yL_law cL_law 4 971 yX9_forget 2 (some 9) := cr_callV (idx := 134) zl_1072 ⟨by decide, by decide⟩ hp_X9_forget zc_9 zl_822 zl_823 (Or.inl zl_821) (dq_182 (a := 0) (b := 134) (by decide +kernel) rfl)
set_option maxRecDepth 100000 in
theorem cb_L_law_974 : ci_ok yL_law cL_law 4 974 (ci_seq (ci_popp 975) 975 (ci_go 1222)) := cq_ok (cr_pop (dq_87 (by decide +kernel)) rfl) (cr_goto (off := 247) (dq_167 (a := 0) (b := 247) (by decide +kernel) rfl) (by decide))
set_option maxRecDepth 100000 in
theorem cb_L_law_978 : ci_ok yL_law cL_law 4 978 (ci_seq (ci_load 2 1 979) 979 (ci_seq (ci_load 2 0 980) 980 (ci_seq (ci_load 0 3 981) 981 (ci_seq (ci_push (.int 1) 982) 982 (ci_bin (fun a b => a + b) 983))))) := cq_ok (cr_aload_n (k := 1) (dq_43 (by decide +kernel)) rfl rfl) (cq_ok (cr_aload_n (k := 0) (dq_42 (by decide +kernel)) rfl rfl) (cq_ok (cr_iload_n (k := 3) (dq_29 (by decide +kernel)) rfl rfl) (cq_ok (cr_iconst2 (n := 1) (dq_4 (by decide +kernel)) (by decide +kernel) rfl) (cr_iadd (dq_96 (by decide +kernel)) rfl))))
set_option maxRecDepth 100000 in
theorem cl_L_law_984 : ci_calls yL_law cL_law 4 984 yX8_fits 2 (some 8) := cr_callV (idx := 135) zl_982 ⟨by decide, by decide⟩ hp_X8_fits zc_8 zl_831 zl_832 (Or.inl zl_830) (dq_182 (a := 0) (b := 135) (by decide +kernel) rfl)
set_option maxRecDepth 100000 in
theorem cb_L_law_987 : ci_ok yL_law cL_law 4 987 (ci_seq (ci_popp 988) 988 (ci_seq (ci_load 2 2 989) 989 (ci_seq (ci_load 2 0 990) 990 (ci_seq (ci_load 0 3 991) 991 (ci_seq (ci_push (.int 1) 992) 992 (ci_bin (fun a b => a + b) 993)))))) := cq_ok (cr_pop (dq_87 (by decide +kernel)) rfl) (cq_ok (cr_aload_n (k := 2) (dq_44 (by decide +kernel)) rfl rfl) (cq_ok (cr_aload_n (k := 0) (dq_42 (by decide +kernel)) rfl rfl) (cq_ok (cr_iload_n (k := 3) (dq_29 (by decide +kernel)) rfl rfl) (cq_ok (cr_iconst2 (n := 1) (dq_4 (by decide +kernel)) (by decide +kernel) rfl) (cr_iadd (dq_96 (by decide +kernel)) rfl)))))
set_option maxRecDepth 100000 in
theorem cl_L_law_994 : ci_calls yL_law cL_law 4 994 yX9_fits 2 (some 9) := cr_callV (idx := 138) zl_1075 ⟨by decide, by decide⟩ hp_X9_fits zc_9 zl_828 zl_829 (Or.inl zl_827) (dq_182 (a := 0) (b := 138) (by decide +kernel) rfl)
set_option maxRecDepth 100000 in
theorem cb_L_law_997 : ci_ok yL_law cL_law 4 997 (ci_seq (ci_popp 998) 998 (ci_go 1222)) := cq_ok (cr_pop (dq_87 (by decide +kernel)) rfl) (cr_goto (off := 224) (dq_167 (a := 0) (b := 224) (by decide +kernel) rfl) (by decide))
set_option maxRecDepth 100000 in
theorem cb_L_law_1001 : ci_ok yL_law cL_law 4 1001 (ci_seq (ci_load 2 1 1002) 1002 (ci_seq (ci_load 2 0 1003) 1003 (ci_seq (ci_load 0 3 1004) 1004 (ci_seq (ci_push (.int 1) 1005) 1005 (ci_bin (fun a b => a + b) 1006))))) := cq_ok (cr_aload_n (k := 1) (dq_43 (by decide +kernel)) rfl rfl) (cq_ok (cr_aload_n (k := 0) (dq_42 (by decide +kernel)) rfl rfl) (cq_ok (cr_iload_n (k := 3) (dq_29 (by decide +kernel)) rfl rfl) (cq_ok (cr_iconst2 (n := 1) (dq_4 (by decide +kernel)) (by decide +kernel) rfl) (cr_iadd (dq_96 (by decide +kernel)) rfl))))
set_option maxRecDepth 100000 in
theorem cl_L_law_1007 : ci_calls yL_law cL_law 4 1007 yX8_keep 2 (some 8) := cr_callV (idx := 139) zl_983 ⟨by decide, by decide⟩ hp_X8_keep zc_8 zl_837 zl_838 (Or.inl zl_836) (dq_182 (a := 0) (b := 139) (by decide +kernel) rfl)
set_option maxRecDepth 100000 in
theorem cb_L_law_1010 : ci_ok yL_law cL_law 4 1010 (ci_seq (ci_popp 1011) 1011 (ci_seq (ci_load 2 2 1012) 1012 (ci_seq (ci_load 2 0 1013) 1013 (ci_seq (ci_load 0 3 1014) 1014 (ci_seq (ci_push (.int 1) 1015) 1015 (ci_bin (fun a b => a + b) 1016)))))) := cq_ok (cr_pop (dq_87 (by decide +kernel)) rfl) (cq_ok (cr_aload_n (k := 2) (dq_44 (by decide +kernel)) rfl rfl) (cq_ok (cr_aload_n (k := 0) (dq_42 (by decide +kernel)) rfl rfl) (cq_ok (cr_iload_n (k := 3) (dq_29 (by decide +kernel)) rfl rfl) (cq_ok (cr_iconst2 (n := 1) (dq_4 (by decide +kernel)) (by decide +kernel) rfl) (cr_iadd (dq_96 (by decide +kernel)) rfl)))))
set_option maxRecDepth 100000 in
theorem cl_L_law_1017 : ci_calls yL_law cL_law 4 1017 yX9_keep 2 (some 9) := cr_callV (idx := 142) zl_1077 ⟨by decide, by decide⟩ hp_X9_keep zc_9 zl_834 zl_835 (Or.inl zl_833) (dq_182 (a := 0) (b := 142) (by decide +kernel) rfl)
set_option maxRecDepth 100000 in
theorem cb_L_law_1020 : ci_ok yL_law cL_law 4 1020 (ci_seq (ci_popp 1021) 1021 (ci_go 1222)) := cq_ok (cr_pop (dq_87 (by decide +kernel)) rfl) (cr_goto (off := 201) (dq_167 (a := 0) (b := 201) (by decide +kernel) rfl) (by decide))
set_option maxRecDepth 100000 in
theorem cb_L_law_1024 : ci_ok yL_law cL_law 4 1024 (ci_seq (ci_load 2 1 1025) 1025 (ci_seq (ci_load 2 0 1026) 1026 (ci_seq (ci_load 0 3 1027) 1027 (ci_seq (ci_push (.int 1) 1028) 1028 (ci_bin (fun a b => a + b) 1029))))) := cq_ok (cr_aload_n (k := 1) (dq_43 (by decide +kernel)) rfl rfl) (cq_ok (cr_aload_n (k := 0) (dq_42 (by decide +kernel)) rfl rfl) (cq_ok (cr_iload_n (k := 3) (dq_29 (by decide +kernel)) rfl rfl) (cq_ok (cr_iconst2 (n := 1) (dq_4 (by decide +kernel)) (by decide +kernel) rfl) (cr_iadd (dq_96 (by decide +kernel)) rfl))))
set_option maxRecDepth 100000 in
theorem cl_L_law_1030 : ci_calls yL_law cL_law 4 1030 yX8_back 2 (some 8) := cr_callV (idx := 143) zl_984 ⟨by decide, by decide⟩ hp_X8_back zc_8 zl_843 zl_844 (Or.inl zl_842) (dq_182 (a := 0) (b := 143) (by decide +kernel) rfl)
set_option maxRecDepth 100000 in
theorem cb_L_law_1033 : ci_ok yL_law cL_law 4 1033 (ci_seq (ci_popp 1034) 1034 (ci_seq (ci_load 2 2 1035) 1035 (ci_seq (ci_load 2 0 1036) 1036 (ci_seq (ci_load 0 3 1037) 1037 (ci_seq (ci_push (.int 1) 1038) 1038 (ci_bin (fun a b => a + b) 1039)))))) := cq_ok (cr_pop (dq_87 (by decide +kernel)) rfl) (cq_ok (cr_aload_n (k := 2) (dq_44 (by decide +kernel)) rfl rfl) (cq_ok (cr_aload_n (k := 0) (dq_42 (by decide +kernel)) rfl rfl) (cq_ok (cr_iload_n (k := 3) (dq_29 (by decide +kernel)) rfl rfl) (cq_ok (cr_iconst2 (n := 1) (dq_4 (by decide +kernel)) (by decide +kernel) rfl) (cr_iadd (dq_96 (by decide +kernel)) rfl)))))
set_option maxRecDepth 100000 in
theorem cl_L_law_1040 : ci_calls yL_law cL_law 4 1040 yX9_back 2 (some 9) := cr_callV (idx := 146) zl_1078 ⟨by decide, by decide⟩ hp_X9_back zc_9 zl_840 zl_841 (Or.inl zl_839) (dq_182 (a := 0) (b := 146) (by decide +kernel) rfl)
set_option maxRecDepth 100000 in
theorem cb_L_law_1043 : ci_ok yL_law cL_law 4 1043 (ci_seq (ci_popp 1044) 1044 (ci_go 1222)) := cq_ok (cr_pop (dq_87 (by decide +kernel)) rfl) (cr_goto (off := 178) (dq_167 (a := 0) (b := 178) (by decide +kernel) rfl) (by decide))
set_option maxRecDepth 100000 in
theorem cb_L_law_1047 : ci_ok yL_law cL_law 4 1047 (ci_seq (ci_load 2 1 1048) 1048 (ci_seq (ci_load 2 0 1049) 1049 (ci_seq (ci_load 0 3 1050) 1050 (ci_seq (ci_push (.int 1) 1051) 1051 (ci_bin (fun a b => a + b) 1052))))) := cq_ok (cr_aload_n (k := 1) (dq_43 (by decide +kernel)) rfl rfl) (cq_ok (cr_aload_n (k := 0) (dq_42 (by decide +kernel)) rfl rfl) (cq_ok (cr_iload_n (k := 3) (dq_29 (by decide +kernel)) rfl rfl) (cq_ok (cr_iconst2 (n := 1) (dq_4 (by decide +kernel)) (by decide +kernel) rfl) (cr_iadd (dq_96 (by decide +kernel)) rfl))))
set_option maxRecDepth 100000 in
theorem cb_L_law_1053 : ci_ok yL_law cL_law 4 1053 (ci_seq (ci_load 2 0 1054) 1054 (ci_seq (ci_load 0 3 1055) 1055 (ci_seq (ci_push (.int 2) 1056) 1056 (ci_bin (fun a b => a + b) 1057)))) := cq_ok (cr_aload_n (k := 0) (dq_42 (by decide +kernel)) rfl rfl) (cq_ok (cr_iload_n (k := 3) (dq_29 (by decide +kernel)) rfl rfl) (cq_ok (cr_iconst2 (n := 2) (dq_5 (by decide +kernel)) (by decide +kernel) rfl) (cr_iadd (dq_96 (by decide +kernel)) rfl)))
set_option maxRecDepth 100000 in
theorem cb_L_law_1058 : ci_ok yL_law cL_law 4 1058 (ci_seq (ci_load 2 0 1059) 1059 (ci_seq (ci_load 0 3 1060) 1060 (ci_seq (ci_push (.int 3) 1061) 1061 (ci_bin (fun a b => a + b) 1062)))) := cq_ok (cr_aload_n (k := 0) (dq_42 (by decide +kernel)) rfl rfl) (cq_ok (cr_iload_n (k := 3) (dq_29 (by decide +kernel)) rfl rfl) (cq_ok (cr_iconst2 (n := 3) (dq_6 (by decide +kernel)) (by decide +kernel) rfl) (cr_iadd (dq_96 (by decide +kernel)) rfl)))
set_option maxRecDepth 100000 in
theorem cl_L_law_1063 : ci_calls yL_law cL_law 4 1063 yX8_sheet 4 (some 8) := cr_callV (idx := 147) zl_986 ⟨by decide, by decide⟩ hp_X8_sheet zc_8 zl_849 zl_850 (Or.inl zl_848) (dq_182 (a := 0) (b := 147) (by decide +kernel) rfl)
set_option maxRecDepth 100000 in
theorem cb_L_law_1066 : ci_ok yL_law cL_law 4 1066 (ci_seq (ci_popp 1067) 1067 (ci_seq (ci_load 2 2 1068) 1068 (ci_seq (ci_load 2 0 1069) 1069 (ci_seq (ci_load 0 3 1070) 1070 (ci_seq (ci_push (.int 1) 1071) 1071 (ci_bin (fun a b => a + b) 1072)))))) := cq_ok (cr_pop (dq_87 (by decide +kernel)) rfl) (cq_ok (cr_aload_n (k := 2) (dq_44 (by decide +kernel)) rfl rfl) (cq_ok (cr_aload_n (k := 0) (dq_42 (by decide +kernel)) rfl rfl) (cq_ok (cr_iload_n (k := 3) (dq_29 (by decide +kernel)) rfl rfl) (cq_ok (cr_iconst2 (n := 1) (dq_4 (by decide +kernel)) (by decide +kernel) rfl) (cr_iadd (dq_96 (by decide +kernel)) rfl)))))
set_option maxRecDepth 100000 in
theorem cb_L_law_1073 : ci_ok yL_law cL_law 4 1073 (ci_seq (ci_load 2 0 1074) 1074 (ci_seq (ci_load 0 3 1075) 1075 (ci_seq (ci_push (.int 2) 1076) 1076 (ci_bin (fun a b => a + b) 1077)))) := cq_ok (cr_aload_n (k := 0) (dq_42 (by decide +kernel)) rfl rfl) (cq_ok (cr_iload_n (k := 3) (dq_29 (by decide +kernel)) rfl rfl) (cq_ok (cr_iconst2 (n := 2) (dq_5 (by decide +kernel)) (by decide +kernel) rfl) (cr_iadd (dq_96 (by decide +kernel)) rfl)))
set_option maxRecDepth 100000 in
theorem cb_L_law_1078 : ci_ok yL_law cL_law 4 1078 (ci_seq (ci_load 2 0 1079) 1079 (ci_seq (ci_load 0 3 1080) 1080 (ci_seq (ci_push (.int 3) 1081) 1081 (ci_bin (fun a b => a + b) 1082)))) := cq_ok (cr_aload_n (k := 0) (dq_42 (by decide +kernel)) rfl rfl) (cq_ok (cr_iload_n (k := 3) (dq_29 (by decide +kernel)) rfl rfl) (cq_ok (cr_iconst2 (n := 3) (dq_6 (by decide +kernel)) (by decide +kernel) rfl) (cr_iadd (dq_96 (by decide +kernel)) rfl)))
set_option maxRecDepth 100000 in
theorem cl_L_law_1083 : ci_calls yL_law cL_law 4 1083 yX9_sheet 4 (some 9) := cr_callV (idx := 150) zl_1080 ⟨by decide, by decide⟩ hp_X9_sheet zc_9 zl_846 zl_847 (Or.inl zl_845) (dq_182 (a := 0) (b := 150) (by decide +kernel) rfl)
set_option maxRecDepth 100000 in
theorem cb_L_law_1086 : ci_ok yL_law cL_law 4 1086 (ci_seq (ci_popp 1087) 1087 (ci_go 1222)) := cq_ok (cr_pop (dq_87 (by decide +kernel)) rfl) (cr_goto (off := 135) (dq_167 (a := 0) (b := 135) (by decide +kernel) rfl) (by decide))
set_option maxRecDepth 100000 in
theorem cb_L_law_1090 : ci_ok yL_law cL_law 4 1090 (ci_seq (ci_load 2 1 1091) 1091 (ci_seq (ci_load 2 0 1092) 1092 (ci_seq (ci_load 0 3 1093) 1093 (ci_seq (ci_push (.int 1) 1094) 1094 (ci_bin (fun a b => a + b) 1095))))) := cq_ok (cr_aload_n (k := 1) (dq_43 (by decide +kernel)) rfl rfl) (cq_ok (cr_aload_n (k := 0) (dq_42 (by decide +kernel)) rfl rfl) (cq_ok (cr_iload_n (k := 3) (dq_29 (by decide +kernel)) rfl rfl) (cq_ok (cr_iconst2 (n := 1) (dq_4 (by decide +kernel)) (by decide +kernel) rfl) (cr_iadd (dq_96 (by decide +kernel)) rfl))))
set_option maxRecDepth 100000 in
theorem cb_L_law_1096 : ci_ok yL_law cL_law 4 1096 (ci_seq (ci_load 2 0 1097) 1097 (ci_seq (ci_load 0 3 1098) 1098 (ci_seq (ci_push (.int 2) 1099) 1099 (ci_bin (fun a b => a + b) 1100)))) := cq_ok (cr_aload_n (k := 0) (dq_42 (by decide +kernel)) rfl rfl) (cq_ok (cr_iload_n (k := 3) (dq_29 (by decide +kernel)) rfl rfl) (cq_ok (cr_iconst2 (n := 2) (dq_5 (by decide +kernel)) (by decide +kernel) rfl) (cr_iadd (dq_96 (by decide +kernel)) rfl)))
set_option maxRecDepth 100000 in
theorem cb_L_law_1101 : ci_ok yL_law cL_law 4 1101 (ci_seq (ci_load 2 0 1102) 1102 (ci_seq (ci_load 0 3 1103) 1103 (ci_seq (ci_push (.int 3) 1104) 1104 (ci_bin (fun a b => a + b) 1105)))) := cq_ok (cr_aload_n (k := 0) (dq_42 (by decide +kernel)) rfl rfl) (cq_ok (cr_iload_n (k := 3) (dq_29 (by decide +kernel)) rfl rfl) (cq_ok (cr_iconst2 (n := 3) (dq_6 (by decide +kernel)) (by decide +kernel) rfl) (cr_iadd (dq_96 (by decide +kernel)) rfl)))
set_option maxRecDepth 100000 in
theorem cl_L_law_1106 : ci_calls yL_law cL_law 4 1106 yX8_lay 4 (some 8) := cr_callV (idx := 151) zl_987 ⟨by decide, by decide⟩ hp_X8_lay zc_8 zl_855 zl_856 (Or.inl zl_854) (dq_182 (a := 0) (b := 151) (by decide +kernel) rfl)
set_option maxRecDepth 100000 in
theorem cb_L_law_1109 : ci_ok yL_law cL_law 4 1109 (ci_seq (ci_popp 1110) 1110 (ci_seq (ci_load 2 2 1111) 1111 (ci_seq (ci_load 2 0 1112) 1112 (ci_seq (ci_load 0 3 1113) 1113 (ci_seq (ci_push (.int 1) 1114) 1114 (ci_bin (fun a b => a + b) 1115)))))) := cq_ok (cr_pop (dq_87 (by decide +kernel)) rfl) (cq_ok (cr_aload_n (k := 2) (dq_44 (by decide +kernel)) rfl rfl) (cq_ok (cr_aload_n (k := 0) (dq_42 (by decide +kernel)) rfl rfl) (cq_ok (cr_iload_n (k := 3) (dq_29 (by decide +kernel)) rfl rfl) (cq_ok (cr_iconst2 (n := 1) (dq_4 (by decide +kernel)) (by decide +kernel) rfl) (cr_iadd (dq_96 (by decide +kernel)) rfl)))))
set_option maxRecDepth 100000 in
theorem cb_L_law_1116 : ci_ok yL_law cL_law 4 1116 (ci_seq (ci_load 2 0 1117) 1117 (ci_seq (ci_load 0 3 1118) 1118 (ci_seq (ci_push (.int 2) 1119) 1119 (ci_bin (fun a b => a + b) 1120)))) := cq_ok (cr_aload_n (k := 0) (dq_42 (by decide +kernel)) rfl rfl) (cq_ok (cr_iload_n (k := 3) (dq_29 (by decide +kernel)) rfl rfl) (cq_ok (cr_iconst2 (n := 2) (dq_5 (by decide +kernel)) (by decide +kernel) rfl) (cr_iadd (dq_96 (by decide +kernel)) rfl)))
set_option maxRecDepth 100000 in
theorem cb_L_law_1121 : ci_ok yL_law cL_law 4 1121 (ci_seq (ci_load 2 0 1122) 1122 (ci_seq (ci_load 0 3 1123) 1123 (ci_seq (ci_push (.int 3) 1124) 1124 (ci_bin (fun a b => a + b) 1125)))) := cq_ok (cr_aload_n (k := 0) (dq_42 (by decide +kernel)) rfl rfl) (cq_ok (cr_iload_n (k := 3) (dq_29 (by decide +kernel)) rfl rfl) (cq_ok (cr_iconst2 (n := 3) (dq_6 (by decide +kernel)) (by decide +kernel) rfl) (cr_iadd (dq_96 (by decide +kernel)) rfl)))
set_option maxRecDepth 100000 in
theorem cl_L_law_1126 : ci_calls yL_law cL_law 4 1126 yX9_lay 4 (some 9) := cr_callV (idx := 154) zl_1081 ⟨by decide, by decide⟩ hp_X9_lay zc_9 zl_852 zl_853 (Or.inl zl_851) (dq_182 (a := 0) (b := 154) (by decide +kernel) rfl)
set_option maxRecDepth 100000 in
theorem cb_L_law_1129 : ci_ok yL_law cL_law 4 1129 (ci_seq (ci_popp 1130) 1130 (ci_go 1222)) := cq_ok (cr_pop (dq_87 (by decide +kernel)) rfl) (cr_goto (off := 92) (dq_167 (a := 0) (b := 92) (by decide +kernel) rfl) (by decide))
set_option maxRecDepth 100000 in
theorem cb_L_law_1133 : ci_ok yL_law cL_law 4 1133 (ci_seq (ci_load 2 1 1134) 1134 (ci_seq (ci_load 2 0 1135) 1135 (ci_seq (ci_load 0 3 1136) 1136 (ci_seq (ci_push (.int 1) 1137) 1137 (ci_bin (fun a b => a + b) 1138))))) := cq_ok (cr_aload_n (k := 1) (dq_43 (by decide +kernel)) rfl rfl) (cq_ok (cr_aload_n (k := 0) (dq_42 (by decide +kernel)) rfl rfl) (cq_ok (cr_iload_n (k := 3) (dq_29 (by decide +kernel)) rfl rfl) (cq_ok (cr_iconst2 (n := 1) (dq_4 (by decide +kernel)) (by decide +kernel) rfl) (cr_iadd (dq_96 (by decide +kernel)) rfl))))
set_option maxRecDepth 100000 in
theorem cb_L_law_1139 : ci_ok yL_law cL_law 4 1139 (ci_seq (ci_load 2 0 1140) 1140 (ci_seq (ci_load 0 3 1141) 1141 (ci_seq (ci_push (.int 2) 1142) 1142 (ci_bin (fun a b => a + b) 1143)))) := cq_ok (cr_aload_n (k := 0) (dq_42 (by decide +kernel)) rfl rfl) (cq_ok (cr_iload_n (k := 3) (dq_29 (by decide +kernel)) rfl rfl) (cq_ok (cr_iconst2 (n := 2) (dq_5 (by decide +kernel)) (by decide +kernel) rfl) (cr_iadd (dq_96 (by decide +kernel)) rfl)))
set_option maxRecDepth 100000 in
theorem cb_L_law_1144 : ci_ok yL_law cL_law 4 1144 (ci_seq (ci_load 2 0 1145) 1145 (ci_seq (ci_load 0 3 1146) 1146 (ci_seq (ci_push (.int 3) 1147) 1147 (ci_bin (fun a b => a + b) 1148)))) := cq_ok (cr_aload_n (k := 0) (dq_42 (by decide +kernel)) rfl rfl) (cq_ok (cr_iload_n (k := 3) (dq_29 (by decide +kernel)) rfl rfl) (cq_ok (cr_iconst2 (n := 3) (dq_6 (by decide +kernel)) (by decide +kernel) rfl) (cr_iadd (dq_96 (by decide +kernel)) rfl)))
set_option maxRecDepth 100000 in
theorem cb_L_law_1149 : ci_ok yL_law cL_law 4 1149 (ci_seq (ci_load 2 0 1150) 1150 (ci_seq (ci_load 0 3 1151) 1151 (ci_seq (ci_push (.int 4) 1152) 1152 (ci_bin (fun a b => a + b) 1153)))) := cq_ok (cr_aload_n (k := 0) (dq_42 (by decide +kernel)) rfl rfl) (cq_ok (cr_iload_n (k := 3) (dq_29 (by decide +kernel)) rfl rfl) (cq_ok (cr_iconst2 (n := 4) (dq_7 (by decide +kernel)) (by decide +kernel) rfl) (cr_iadd (dq_96 (by decide +kernel)) rfl)))
set_option maxRecDepth 100000 in
theorem cl_L_law_1154 : ci_calls yL_law cL_law 4 1154 yX8_read 5 (some 8) := cr_callV (idx := 155) zl_988 ⟨by decide, by decide⟩ hp_X8_read zc_8 zl_861 zl_862 (Or.inl zl_860) (dq_182 (a := 0) (b := 155) (by decide +kernel) rfl)
set_option maxRecDepth 100000 in
theorem cb_L_law_1157 : ci_ok yL_law cL_law 4 1157 (ci_seq (ci_popp 1158) 1158 (ci_seq (ci_load 2 2 1159) 1159 (ci_seq (ci_load 2 0 1160) 1160 (ci_seq (ci_load 0 3 1161) 1161 (ci_seq (ci_push (.int 1) 1162) 1162 (ci_bin (fun a b => a + b) 1163)))))) := cq_ok (cr_pop (dq_87 (by decide +kernel)) rfl) (cq_ok (cr_aload_n (k := 2) (dq_44 (by decide +kernel)) rfl rfl) (cq_ok (cr_aload_n (k := 0) (dq_42 (by decide +kernel)) rfl rfl) (cq_ok (cr_iload_n (k := 3) (dq_29 (by decide +kernel)) rfl rfl) (cq_ok (cr_iconst2 (n := 1) (dq_4 (by decide +kernel)) (by decide +kernel) rfl) (cr_iadd (dq_96 (by decide +kernel)) rfl)))))
set_option maxRecDepth 100000 in
theorem cb_L_law_1164 : ci_ok yL_law cL_law 4 1164 (ci_seq (ci_load 2 0 1165) 1165 (ci_seq (ci_load 0 3 1166) 1166 (ci_seq (ci_push (.int 2) 1167) 1167 (ci_bin (fun a b => a + b) 1168)))) := cq_ok (cr_aload_n (k := 0) (dq_42 (by decide +kernel)) rfl rfl) (cq_ok (cr_iload_n (k := 3) (dq_29 (by decide +kernel)) rfl rfl) (cq_ok (cr_iconst2 (n := 2) (dq_5 (by decide +kernel)) (by decide +kernel) rfl) (cr_iadd (dq_96 (by decide +kernel)) rfl)))
set_option maxRecDepth 100000 in
theorem cb_L_law_1169 : ci_ok yL_law cL_law 4 1169 (ci_seq (ci_load 2 0 1170) 1170 (ci_seq (ci_load 0 3 1171) 1171 (ci_seq (ci_push (.int 3) 1172) 1172 (ci_bin (fun a b => a + b) 1173)))) := cq_ok (cr_aload_n (k := 0) (dq_42 (by decide +kernel)) rfl rfl) (cq_ok (cr_iload_n (k := 3) (dq_29 (by decide +kernel)) rfl rfl) (cq_ok (cr_iconst2 (n := 3) (dq_6 (by decide +kernel)) (by decide +kernel) rfl) (cr_iadd (dq_96 (by decide +kernel)) rfl)))
set_option maxRecDepth 100000 in
theorem cb_L_law_1174 : ci_ok yL_law cL_law 4 1174 (ci_seq (ci_load 2 0 1175) 1175 (ci_seq (ci_load 0 3 1176) 1176 (ci_seq (ci_push (.int 4) 1177) 1177 (ci_bin (fun a b => a + b) 1178)))) := cq_ok (cr_aload_n (k := 0) (dq_42 (by decide +kernel)) rfl rfl) (cq_ok (cr_iload_n (k := 3) (dq_29 (by decide +kernel)) rfl rfl) (cq_ok (cr_iconst2 (n := 4) (dq_7 (by decide +kernel)) (by decide +kernel) rfl) (cr_iadd (dq_96 (by decide +kernel)) rfl)))
set_option maxRecDepth 100000 in
theorem cl_L_law_1179 : ci_calls yL_law cL_law 4 1179 yX9_read 5 (some 9) := cr_callV (idx := 159) zl_1082 ⟨by decide, by decide⟩ hp_X9_read zc_9 zl_858 zl_859 (Or.inl zl_857) (dq_182 (a := 0) (b := 159) (by decide +kernel) rfl)
set_option maxRecDepth 100000 in
theorem cb_L_law_1182 : ci_ok yL_law cL_law 4 1182 (ci_seq (ci_popp 1183) 1183 (ci_go 1222)) := cq_ok (cr_pop (dq_87 (by decide +kernel)) rfl) (cr_goto (off := 39) (dq_167 (a := 0) (b := 39) (by decide +kernel) rfl) (by decide))
set_option maxRecDepth 100000 in
theorem cb_L_law_1186 : ci_ok yL_law cL_law 4 1186 (ci_load 2 1 1187) := cr_aload_n (k := 1) (dq_43 (by decide +kernel)) rfl rfl
set_option maxRecDepth 100000 in
theorem cl_L_law_1187 : ci_calls yL_law cL_law 4 1187 yX8_torn 1 (some 8) := cr_callV (idx := 160) zl_989 ⟨by decide, by decide⟩ hp_X8_torn zc_8 zl_867 zl_868 (Or.inl zl_866) (dq_182 (a := 0) (b := 160) (by decide +kernel) rfl)
set_option maxRecDepth 100000 in
theorem cb_L_law_1190 : ci_ok yL_law cL_law 4 1190 (ci_seq (ci_popp 1191) 1191 (ci_load 2 2 1192)) := cq_ok (cr_pop (dq_87 (by decide +kernel)) rfl) (cr_aload_n (k := 2) (dq_44 (by decide +kernel)) rfl rfl)
set_option maxRecDepth 100000 in
theorem cl_L_law_1192 : ci_calls yL_law cL_law 4 1192 yX9_torn 1 (some 9) := cr_callV (idx := 163) zl_1083 ⟨by decide, by decide⟩ hp_X9_torn zc_9 zl_864 zl_865 (Or.inl zl_863) (dq_182 (a := 0) (b := 163) (by decide +kernel) rfl)
set_option maxRecDepth 100000 in
theorem cb_L_law_1195 : ci_ok yL_law cL_law 4 1195 (ci_seq (ci_popp 1196) 1196 (ci_go 1222)) := cq_ok (cr_pop (dq_87 (by decide +kernel)) rfl) (cr_goto (off := 26) (dq_167 (a := 0) (b := 26) (by decide +kernel) rfl) (by decide))
set_option maxRecDepth 100000 in
theorem cb_L_law_1199 : ci_ok yL_law cL_law 4 1199 (ci_seq (ci_load 2 1 1200) 1200 (ci_seq (ci_load 2 0 1201) 1201 (ci_seq (ci_load 0 3 1202) 1202 (ci_seq (ci_push (.int 1) 1203) 1203 (ci_bin (fun a b => a + b) 1204))))) := cq_ok (cr_aload_n (k := 1) (dq_43 (by decide +kernel)) rfl rfl) (cq_ok (cr_aload_n (k := 0) (dq_42 (by decide +kernel)) rfl rfl) (cq_ok (cr_iload_n (k := 3) (dq_29 (by decide +kernel)) rfl rfl) (cq_ok (cr_iconst2 (n := 1) (dq_4 (by decide +kernel)) (by decide +kernel) rfl) (cr_iadd (dq_96 (by decide +kernel)) rfl))))
set_option maxRecDepth 100000 in
theorem cl_L_law_1205 : ci_calls yL_law cL_law 4 1205 yX8_count 2 (some 8) := cr_callV (idx := 164) zl_990 ⟨by decide, by decide⟩ hp_X8_count zc_8 zl_873 zl_874 (Or.inl zl_872) (dq_182 (a := 0) (b := 164) (by decide +kernel) rfl)
set_option maxRecDepth 100000 in
theorem cb_L_law_1208 : ci_ok yL_law cL_law 4 1208 (ci_seq (ci_load 2 2 1209) 1209 (ci_seq (ci_load 2 0 1210) 1210 (ci_seq (ci_load 0 3 1211) 1211 (ci_seq (ci_push (.int 1) 1212) 1212 (ci_bin (fun a b => a + b) 1213))))) := cq_ok (cr_aload_n (k := 2) (dq_44 (by decide +kernel)) rfl rfl) (cq_ok (cr_aload_n (k := 0) (dq_42 (by decide +kernel)) rfl rfl) (cq_ok (cr_iload_n (k := 3) (dq_29 (by decide +kernel)) rfl rfl) (cq_ok (cr_iconst2 (n := 1) (dq_4 (by decide +kernel)) (by decide +kernel) rfl) (cr_iadd (dq_96 (by decide +kernel)) rfl))))
set_option maxRecDepth 100000 in
theorem cl_L_law_1214 : ci_calls yL_law cL_law 4 1214 yX9_count 2 (some 9) := cr_callV (idx := 167) zl_1084 ⟨by decide, by decide⟩ hp_X9_count zc_9 zl_870 zl_871 (Or.inl zl_869) (dq_182 (a := 0) (b := 167) (by decide +kernel) rfl)
set_option maxRecDepth 100000 in
theorem cb_L_law_1217 : ci_ok yL_law cL_law 4 1217 (ci_ic (fun x y => decide (x = y)) 1222 1220) := cr_ic_eq (off := 5) (dq_159 (a := 0) (b := 5) (by decide +kernel) rfl) (by decide) rfl
set_option maxRecDepth 100000 in
theorem cb_L_law_1220 : ci_ok yL_law cL_law 4 1220 (ci_push (.int 0) 1221) := cr_iconst2 (n := 0) (dq_3 (by decide +kernel)) (by decide +kernel) rfl
set_option maxRecDepth 100000 in
theorem cd_L_law_1221 : decode cL_law 1221 = .ok (zi_rop (some .boolean), 1) := (dq_172 (by decide +kernel))
set_option maxRecDepth 100000 in
theorem cb_L_law_1222 : ci_ok yL_law cL_law 4 1222 (ci_seq (ci_inc 3 5 1225) 1225 (ci_go 18)) := cq_ok (ci_inc_ok (by decide) (dq_132 (a := 3) (b := 5) (by decide +kernel) rfl) rfl) (cr_goto (off := -1207) (dq_167 (a := 251) (b := 73) (by decide +kernel) rfl) (by decide))
set_option maxRecDepth 100000 in
theorem cb_L_law_1228 : ci_ok yL_law cL_law 4 1228 (ci_push (.int 1) 1229) := cr_iconst2 (n := 1) (dq_4 (by decide +kernel)) (by decide +kernel) rfl
set_option maxRecDepth 100000 in
theorem cd_L_law_1229 : decode cL_law 1229 = .ok (zi_rop (some .boolean), 1) := (dq_172 (by decide +kernel))
