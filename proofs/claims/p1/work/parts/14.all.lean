set_option maxRecDepth 100000 in
theorem zg_X0_init : zi_okt zi_mt yX0_init cX0_init 3 none 0 zt_X0_init := zo_t zx_X0_init_0 (zo_t zx_X0_init_16 (zo_tz))
set_option maxRecDepth 100000 in
theorem zg_X0_fewest : zi_okt zi_mt yX0_fewest cX0_fewest 5 (some .int) 0 zt_X0_fewest := zo_t zx_X0_fewest_0 (zo_t zx_X0_fewest_16 (zo_t zx_X0_fewest_32 (zo_tz)))
set_option maxRecDepth 100000 in
theorem zg_X0_brings : zi_okt zi_mt yX0_brings cX0_brings 6 (some .boolean) 0 zt_X0_brings := zo_t zx_X0_brings_0 (zo_t zx_X0_brings_16 (zo_t zx_X0_brings_32 (zo_t zx_X0_brings_48 (zo_t zx_X0_brings_64 (zo_t zx_X0_brings_80 (zo_t zx_X0_brings_96 (zo_t zx_X0_brings_112 (zo_t zx_X0_brings_128 (zo_tz)))))))))
set_option maxRecDepth 100000 in
theorem zg_X0_cutOf : zi_okt zi_mt yX0_cutOf cX0_cutOf 4 (some .int) 0 zt_X0_cutOf := zo_t zx_X0_cutOf_0 (zo_t zx_X0_cutOf_16 (zo_tz))
set_option maxRecDepth 100000 in
theorem zg_X1_init : zi_okt zi_mt yX1_init cX1_init 1 none 0 zt_X1_init := zo_t zx_X1_init_0 (zo_t zx_X1_init_16 (zo_t zx_X1_init_32 (zo_tz)))
set_option maxRecDepth 100000 in
theorem zg_X1_clear : zi_okt zi_mt yX1_clear cX1_clear 1 none 0 zt_X1_clear := zo_t zx_X1_clear_0 (zo_t zx_X1_clear_16 (zo_t zx_X1_clear_32 (zo_t zx_X1_clear_48 (zo_tz))))
set_option maxRecDepth 100000 in
theorem zg_X1_take : zi_okt zi_mt yX1_take cX1_take 4 (some .int) 0 zt_X1_take := zo_t zx_X1_take_0 (zo_t zx_X1_take_16 (zo_t zx_X1_take_32 (zo_t zx_X1_take_48 (zo_t zx_X1_take_64 (zo_t zx_X1_take_80 (zo_tz))))))
set_option maxRecDepth 100000 in
theorem zg_X1_takeLine : zi_okt zi_mt yX1_takeLine cX1_takeLine 2 none 0 zt_X1_takeLine := zo_t zx_X1_takeLine_0 (zo_t zx_X1_takeLine_16 (zo_t zx_X1_takeLine_32 (zo_t zx_X1_takeLine_48 (zo_t zx_X1_takeLine_64 (zo_t zx_X1_takeLine_80 (zo_t zx_X1_takeLine_96 (zo_t zx_X1_takeLine_112 (zo_tz))))))))
set_option maxRecDepth 100000 in
theorem zg_X1_comesOnce : zi_okt zi_mt yX1_comesOnce cX1_comesOnce 3 (some .boolean) 0 zt_X1_comesOnce := zo_t zx_X1_comesOnce_0 (zo_t zx_X1_comesOnce_16 (zo_tz))
set_option maxRecDepth 100000 in
theorem zg_X1_takePlain : zi_okt zi_mt yX1_takePlain cX1_takePlain 2 none 0 zt_X1_takePlain := zo_t zx_X1_takePlain_0 (zo_t zx_X1_takePlain_16 (zo_t zx_X1_takePlain_32 (zo_t zx_X1_takePlain_48 (zo_tz))))
set_option maxRecDepth 100000 in
theorem zg_X1_takeRow : zi_okt zi_mt yX1_takeRow cX1_takeRow 4 none 0 zt_X1_takeRow := zo_t zx_X1_takeRow_0 (zo_t zx_X1_takeRow_16 (zo_t zx_X1_takeRow_32 (zo_t zx_X1_takeRow_48 (zo_t zx_X1_takeRow_64 (zo_t zx_X1_takeRow_80 (zo_t zx_X1_takeRow_96 (zo_t zx_X1_takeRow_112 (zo_tz))))))))
set_option maxRecDepth 100000 in
theorem zg_X1_takeSpring : zi_okt zi_mt yX1_takeSpring cX1_takeSpring 2 none 0 zt_X1_takeSpring := zo_t zx_X1_takeSpring_0 (zo_t zx_X1_takeSpring_16 (zo_tz))
set_option maxRecDepth 100000 in
theorem zg_X1_takeFarm : zi_okt zi_mt yX1_takeFarm cX1_takeFarm 2 none 0 zt_X1_takeFarm := zo_t zx_X1_takeFarm_0 (zo_t zx_X1_takeFarm_16 (zo_t zx_X1_takeFarm_32 (zo_t zx_X1_takeFarm_48 (zo_tz))))
set_option maxRecDepth 100000 in
theorem zg_X1_takeGround : zi_okt zi_mt yX1_takeGround cX1_takeGround 4 none 0 zt_X1_takeGround := zo_t zx_X1_takeGround_0 (zo_t zx_X1_takeGround_16 (zo_t zx_X1_takeGround_32 (zo_t zx_X1_takeGround_48 (zo_t zx_X1_takeGround_64 (zo_t zx_X1_takeGround_80 (zo_t zx_X1_takeGround_96 (zo_t zx_X1_takeGround_112 (zo_t zx_X1_takeGround_128 (zo_tz)))))))))
set_option maxRecDepth 100000 in
theorem zg_X1_takeLaw : zi_okt zi_mt yX1_takeLaw cX1_takeLaw 2 none 0 zt_X1_takeLaw := zo_t zx_X1_takeLaw_0 (zo_t zx_X1_takeLaw_16 (zo_tz))
set_option maxRecDepth 100000 in
theorem zg_X1_takeSilt : zi_okt zi_mt yX1_takeSilt cX1_takeSilt 2 none 0 zt_X1_takeSilt := zo_t zx_X1_takeSilt_0 (zo_tz)
set_option maxRecDepth 100000 in
theorem zg_X1_isWhole : zi_okt zi_mt yX1_isWhole cX1_isWhole 2 (some .boolean) 0 zt_X1_isWhole := zo_t zx_X1_isWhole_0 (zo_t zx_X1_isWhole_16 (zo_t zx_X1_isWhole_32 (zo_t zx_X1_isWhole_48 (zo_t zx_X1_isWhole_64 (zo_t zx_X1_isWhole_80 (zo_t zx_X1_isWhole_96 (zo_tz)))))))
set_option maxRecDepth 100000 in
theorem zg_X1_settle : zi_okt zi_mt yX1_settle cX1_settle 3 none 0 zt_X1_settle := zo_t zx_X1_settle_0 (zo_t zx_X1_settle_16 (zo_t zx_X1_settle_32 (zo_t zx_X1_settle_48 (zo_t zx_X1_settle_64 (zo_t zx_X1_settle_80 (zo_t zx_X1_settle_96 (zo_t zx_X1_settle_112 (zo_t zx_X1_settle_128 (zo_tz)))))))))
set_option maxRecDepth 100000 in
theorem zg_X1_raise : zi_okt zi_mt yX1_raise cX1_raise 4 none 0 zt_X1_raise := zo_t zx_X1_raise_0 (zo_t zx_X1_raise_16 (zo_t zx_X1_raise_32 (zo_t zx_X1_raise_48 (zo_tz))))
set_option maxRecDepth 100000 in
theorem zg_X2_init : zi_okt zi_mt yX2_init cX2_init 2 none 0 zt_X2_init := zo_t zx_X2_init_0 (zo_t zx_X2_init_16 (zo_tz))
set_option maxRecDepth 100000 in
theorem zg_X2_copy : zi_okt zi_mt yX2_copy cX2_copy 2 none 0 zt_X2_copy := zo_t zx_X2_copy_0 (zo_t zx_X2_copy_16 (zo_t zx_X2_copy_32 (zo_t zx_X2_copy_48 (zo_t zx_X2_copy_64 (zo_tz)))))
set_option maxRecDepth 100000 in
theorem zg_X2_trace : zi_okt zi_mt yX2_trace cX2_trace 2 none 0 zt_X2_trace := zo_t zx_X2_trace_0 (zo_t zx_X2_trace_16 (zo_t zx_X2_trace_32 (zo_t zx_X2_trace_48 (zo_t zx_X2_trace_64 (zo_tz)))))
set_option maxRecDepth 100000 in
theorem zg_X2_lowestNextTo : zi_okt zi_mt yX2_lowestNextTo cX2_lowestNextTo 6 (some .int) 0 zt_X2_lowestNextTo := zo_t zx_X2_lowestNextTo_0 (zo_t zx_X2_lowestNextTo_16 (zo_t zx_X2_lowestNextTo_32 (zo_t zx_X2_lowestNextTo_48 (zo_t zx_X2_lowestNextTo_64 (zo_t zx_X2_lowestNextTo_80 (zo_t zx_X2_lowestNextTo_96 (zo_tz)))))))
set_option maxRecDepth 100000 in
theorem zg_X2_cuttable : zi_okt zi_mt yX2_cuttable cX2_cuttable 4 (some .int) 0 zt_X2_cuttable := zo_t zx_X2_cuttable_0 (zo_t zx_X2_cuttable_16 (zo_t zx_X2_cuttable_32 (zo_t zx_X2_cuttable_48 (zo_t zx_X2_cuttable_64 (zo_t zx_X2_cuttable_80 (zo_t zx_X2_cuttable_96 (zo_t zx_X2_cuttable_112 (zo_tz))))))))
set_option maxRecDepth 100000 in
theorem zg_X2_refused : zi_okt zi_mt yX2_refused cX2_refused 4 (some .int) 0 zt_X2_refused := zo_t zx_X2_refused_0 (zo_t zx_X2_refused_16 (zo_t zx_X2_refused_32 (zo_tz)))
set_option maxRecDepth 100000 in
theorem zg_X2_possibleYears : zi_okt zi_mt yX2_possibleYears cX2_possibleYears 3 (some .int) 0 zt_X2_possibleYears := zo_t zx_X2_possibleYears_0 (zo_t zx_X2_possibleYears_16 (zo_t zx_X2_possibleYears_32 (zo_tz)))
set_option maxRecDepth 100000 in
theorem zg_X2_allParts : zi_okt zi_mt yX2_allParts cX2_allParts 3 (some .int) 0 zt_X2_allParts := zo_t zx_X2_allParts_0 (zo_t zx_X2_allParts_16 (zo_tz))
set_option maxRecDepth 100000 in
theorem zg_X2_pass : zi_okt zi_mt yX2_pass cX2_pass 4 none 0 zt_X2_pass := zo_t zx_X2_pass_0 (zo_t zx_X2_pass_16 (zo_t zx_X2_pass_32 (zo_t zx_X2_pass_48 (zo_tz))))
set_option maxRecDepth 100000 in
theorem zg_X2_carrySilt : zi_okt zi_mt yX2_carrySilt cX2_carrySilt 3 none 0 zt_X2_carrySilt := zo_t zx_X2_carrySilt_0 (zo_t zx_X2_carrySilt_16 (zo_t zx_X2_carrySilt_32 (zo_t zx_X2_carrySilt_48 (zo_t zx_X2_carrySilt_64 (zo_tz)))))
set_option maxRecDepth 100000 in
theorem zg_X3_init : zi_okt zi_mt yX3_init cX3_init 1 none 0 zt_X3_init := zo_t zx_X3_init_0 (zo_t zx_X3_init_16 (zo_tz))
set_option maxRecDepth 100000 in
theorem zg_X3_hasCell : zi_okt zi_mt yX3_hasCell cX3_hasCell 2 (some .boolean) 0 zt_X3_hasCell := zo_t zx_X3_hasCell_0 (zo_t zx_X3_hasCell_16 (zo_tz))
set_option maxRecDepth 100000 in
theorem zg_X3_hasFarm : zi_okt zi_mt yX3_hasFarm cX3_hasFarm 2 (some .boolean) 0 zt_X3_hasFarm := zo_t zx_X3_hasFarm_0 (zo_t zx_X3_hasFarm_16 (zo_tz))
set_option maxRecDepth 100000 in
theorem zg_X3_ownerOf : zi_okt zi_mt yX3_ownerOf cX3_ownerOf 3 (some .int) 0 zt_X3_ownerOf := zo_t zx_X3_ownerOf_0 (zo_t zx_X3_ownerOf_16 (zo_t zx_X3_ownerOf_32 (zo_tz)))
set_option maxRecDepth 100000 in
theorem zg_X3_join : zi_okt zi_mt yX3_join cX3_join 4 none 0 zt_X3_join := zo_t zx_X3_join_0 (zo_t zx_X3_join_16 (zo_t zx_X3_join_32 (zo_t zx_X3_join_48 (zo_t zx_X3_join_64 (zo_t zx_X3_join_80 (zo_t zx_X3_join_96 (zo_t zx_X3_join_112 (zo_t zx_X3_join_128 (zo_tz)))))))))
set_option maxRecDepth 100000 in
theorem zg_X3_beside : zi_okt zi_mt yX3_beside cX3_beside 4 (some .int) 0 zt_X3_beside := zo_t zx_X3_beside_0 (zo_t zx_X3_beside_16 (zo_t zx_X3_beside_32 (zo_t zx_X3_beside_48 (zo_tz))))
set_option maxRecDepth 100000 in
theorem zg_X4_init : zi_okt zi_mt yX4_init cX4_init 1 none 0 zt_X4_init := zo_t zx_X4_init_0 (zo_t zx_X4_init_16 (zo_t zx_X4_init_32 (zo_tz)))
set_option maxRecDepth 100000 in
theorem zg_X4_build : zi_okt zi_mt yX4_build cX4_build 8 none 0 zt_X4_build := zo_t zx_X4_build_0 (zo_t zx_X4_build_16 (zo_t zx_X4_build_32 (zo_t zx_X4_build_48 (zo_t zx_X4_build_64 (zo_t zx_X4_build_80 (zo_t zx_X4_build_96 (zo_t zx_X4_build_112 (zo_t zx_X4_build_128 (zo_t zx_X4_build_144 (zo_t zx_X4_build_160 (zo_t zx_X4_build_176 (zo_t zx_X4_build_192 (zo_t zx_X4_build_208 (zo_tz))))))))))))))
set_option maxRecDepth 100000 in
theorem zg_X4_list : zi_okt zi_mt yX4_list cX4_list 5 none 0 zt_X4_list := zo_t zx_X4_list_0 (zo_t zx_X4_list_16 (zo_t zx_X4_list_32 (zo_t zx_X4_list_48 (zo_t zx_X4_list_64 (zo_tz)))))
set_option maxRecDepth 100000 in
theorem zg_X4_indexOf : zi_okt zi_mt yX4_indexOf cX4_indexOf 3 (some .int) 0 zt_X4_indexOf := zo_t zx_X4_indexOf_0 (zo_t zx_X4_indexOf_16 (zo_tz))
set_option maxRecDepth 100000 in
theorem zg_X4_breakers : zi_okt zi_mt yX4_breakers cX4_breakers 8 (some .int) 0 zt_X4_breakers := zo_t zx_X4_breakers_0 (zo_t zx_X4_breakers_16 (zo_t zx_X4_breakers_32 (zo_t zx_X4_breakers_48 (zo_t zx_X4_breakers_64 (zo_t zx_X4_breakers_80 (zo_t zx_X4_breakers_96 (zo_t zx_X4_breakers_112 (zo_tz))))))))
set_option maxRecDepth 100000 in
theorem zg_X4_placeOf : zi_okt zi_mt yX4_placeOf cX4_placeOf 4 (some .int) 0 zt_X4_placeOf := zo_t zx_X4_placeOf_0 (zo_t zx_X4_placeOf_16 (zo_t zx_X4_placeOf_32 (zo_tz)))
set_option maxRecDepth 100000 in
theorem zg_X4_chosen : zi_okt zi_mt yX4_chosen cX4_chosen 7 (some .int) 0 zt_X4_chosen := zo_t zx_X4_chosen_0 (zo_t zx_X4_chosen_16 (zo_t zx_X4_chosen_32 (zo_t zx_X4_chosen_48 (zo_t zx_X4_chosen_64 (zo_t zx_X4_chosen_80 (zo_t zx_X4_chosen_96 (zo_tz)))))))
set_option maxRecDepth 100000 in
theorem zg_X5_init : zi_okt zi_mt yX5_init cX5_init 1 none 0 zt_X5_init := zo_t zx_X5_init_0 (zo_t zx_X5_init_16 (zo_t zx_X5_init_32 (zo_tz)))
set_option maxRecDepth 100000 in
theorem zg_X5_hasSheet : zi_okt zi_mt yX5_hasSheet cX5_hasSheet 2 (some .boolean) 0 zt_X5_hasSheet := zo_t zx_X5_hasSheet_0 (zo_tz)
set_option maxRecDepth 100000 in
theorem zg_X5_hasLane : zi_okt zi_mt yX5_hasLane cX5_hasLane 2 (some .boolean) 0 zt_X5_hasLane := zo_t zx_X5_hasLane_0 (zo_tz)
set_option maxRecDepth 100000 in
theorem zg_X5_renew : zi_okt zi_mt yX5_renew cX5_renew 5 none 0 zt_X5_renew := zo_t zx_X5_renew_0 (zo_t zx_X5_renew_16 (zo_t zx_X5_renew_32 (zo_tz)))
set_option maxRecDepth 100000 in
theorem zg_X5_takeFault : zi_okt zi_mt yX5_takeFault cX5_takeFault 4 (some .int) 0 zt_X5_takeFault := zo_t zx_X5_takeFault_0 (zo_t zx_X5_takeFault_16 (zo_tz))
set_option maxRecDepth 100000 in
theorem zg_X5_reachFault : zi_okt zi_mt yX5_reachFault cX5_reachFault 3 (some .int) 0 zt_X5_reachFault := zo_t zx_X5_reachFault_0 (zo_t zx_X5_reachFault_16 (zo_tz))
set_option maxRecDepth 100000 in
theorem zg_X5_valueAt : zi_okt zi_mt yX5_valueAt cX5_valueAt 3 (some .int) 0 zt_X5_valueAt := zo_t zx_X5_valueAt_0 (zo_tz)
set_option maxRecDepth 100000 in
theorem zg_X5_put : zi_okt zi_mt yX5_put cX5_put 5 none 0 zt_X5_put := zo_t zx_X5_put_0 (zo_t zx_X5_put_16 (zo_t zx_X5_put_32 (zo_tz)))
set_option maxRecDepth 100000 in
theorem zg_X6_init : zi_okt zi_mt yX6_init cX6_init 1 none 0 zt_X6_init := zo_t zx_X6_init_0 (zo_tz)
set_option maxRecDepth 100000 in
theorem zg_X6_append : zi_okt zi_mt yX6_append cX6_append 4 (some .boolean) 0 zt_X6_append := zo_t zx_X6_append_0 (zo_t zx_X6_append_16 (zo_t zx_X6_append_32 (zo_t zx_X6_append_48 (zo_tz))))
set_option maxRecDepth 100000 in
theorem zg_X6_rewind : zi_okt zi_mt yX6_rewind cX6_rewind 1 none 0 zt_X6_rewind := zo_t zx_X6_rewind_0 (zo_tz)
set_option maxRecDepth 100000 in
theorem zg_X6_fail : zi_okt zi_mt yX6_fail cX6_fail 2 none 0 zt_X6_fail := zo_t zx_X6_fail_0 (zo_tz)
set_option maxRecDepth 100000 in
theorem zg_X6_failBehindAll : zi_okt zi_mt yX6_failBehindAll cX6_failBehindAll 2 none 0 zt_X6_failBehindAll := zo_t zx_X6_failBehindAll_0 (zo_tz)
set_option maxRecDepth 100000 in
theorem zg_X6_next : zi_okt zi_mt yX6_next cX6_next 1 none 0 zt_X6_next := zo_t zx_X6_next_0 (zo_t zx_X6_next_16 (zo_t zx_X6_next_32 (zo_t zx_X6_next_48 (zo_t zx_X6_next_64 (zo_t zx_X6_next_80 (zo_t zx_X6_next_96 (zo_t zx_X6_next_112 (zo_t zx_X6_next_128 (zo_t zx_X6_next_144 (zo_t zx_X6_next_160 (zo_t zx_X6_next_176 (zo_t zx_X6_next_192 (zo_t zx_X6_next_208 (zo_t zx_X6_next_224 (zo_t zx_X6_next_240 (zo_t zx_X6_next_256 (zo_t zx_X6_next_272 (zo_tz))))))))))))))))))
set_option maxRecDepth 100000 in
theorem zg_X6_isLetter : zi_okt zi_mt yX6_isLetter cX6_isLetter 1 (some .boolean) 0 zt_X6_isLetter := zo_t zx_X6_isLetter_0 (zo_t zx_X6_isLetter_16 (zo_tz))
set_option maxRecDepth 100000 in
theorem zg_X6_isFigure : zi_okt zi_mt yX6_isFigure cX6_isFigure 1 (some .boolean) 0 zt_X6_isFigure := zo_t zx_X6_isFigure_0 (zo_t zx_X6_isFigure_16 (zo_tz))
set_option maxRecDepth 100000 in
theorem zg_X6_says : zi_okt zi_mt yX6_says cX6_says 3 (some .boolean) 0 zt_X6_says := zo_t zx_X6_says_0 (zo_t zx_X6_says_16 (zo_t zx_X6_says_32 (zo_t zx_X6_says_48 (zo_t zx_X6_says_64 (zo_tz)))))
set_option maxRecDepth 100000 in
theorem zg_X6_isNumber : zi_okt zi_mt yX6_isNumber cX6_isNumber 3 (some .boolean) 0 zt_X6_isNumber := zo_t zx_X6_isNumber_0 (zo_t zx_X6_isNumber_16 (zo_t zx_X6_isNumber_32 (zo_t zx_X6_isNumber_48 (zo_tz))))
set_option maxRecDepth 100000 in
theorem zg_X6_nextNumber : zi_okt zi_mt yX6_nextNumber cX6_nextNumber 3 (some .boolean) 0 zt_X6_nextNumber := zo_t zx_X6_nextNumber_0 (zo_tz)
set_option maxRecDepth 100000 in
theorem zg_X6_nextStop : zi_okt zi_mt yX6_nextStop cX6_nextStop 1 none 0 zt_X6_nextStop := zo_t zx_X6_nextStop_0 (zo_t zx_X6_nextStop_16 (zo_tz))
set_option maxRecDepth 100000 in
theorem zg_X7_init : zi_okt zi_mt yX7_init cX7_init 2 none 0 zt_X7_init := zo_t zx_X7_init_0 (zo_t zx_X7_init_16 (zo_t zx_X7_init_32 (zo_tz)))
set_option maxRecDepth 100000 in
theorem zg_X7_copy : zi_okt zi_mt yX7_copy cX7_copy 2 none 0 zt_X7_copy := zo_t zx_X7_copy_0 (zo_t zx_X7_copy_16 (zo_t zx_X7_copy_32 (zo_t zx_X7_copy_48 (zo_t zx_X7_copy_64 (zo_tz)))))
set_option maxRecDepth 100000 in
theorem zg_X7_gain : zi_okt zi_mt yX7_gain cX7_gain 3 (some .int) 0 zt_X7_gain := zo_t zx_X7_gain_0 (zo_t zx_X7_gain_16 (zo_t zx_X7_gain_32 (zo_tz)))
set_option maxRecDepth 100000 in
theorem zg_X7_agrees : zi_okt zi_mt yX7_agrees cX7_agrees 4 (some .boolean) 0 zt_X7_agrees := zo_t zx_X7_agrees_0 (zo_t zx_X7_agrees_16 (zo_t zx_X7_agrees_32 (zo_t zx_X7_agrees_48 (zo_t zx_X7_agrees_64 (zo_tz)))))
set_option maxRecDepth 100000 in
theorem zg_X8_init : zi_okt zi_mt yX8_init cX8_init 1 none 0 zt_X8_init := zo_t zx_X8_init_0 (zo_t zx_X8_init_16 (zo_t zx_X8_init_32 (zo_t zx_X8_init_48 (zo_t zx_X8_init_64 (zo_t zx_X8_init_80 (zo_t zx_X8_init_96 (zo_t zx_X8_init_112 (zo_t zx_X8_init_128 (zo_t zx_X8_init_144 (zo_t zx_X8_init_160 (zo_t zx_X8_init_176 (zo_t zx_X8_init_192 (zo_tz)))))))))))))
set_option maxRecDepth 100000 in
theorem zg_X8_feed : zi_okt zi_mt yX8_feed cX8_feed 3 (some .int) 0 zt_X8_feed := zo_t zx_X8_feed_0 (zo_t zx_X8_feed_16 (zo_tz))
set_option maxRecDepth 100000 in
theorem zg_X8_end : zi_okt zi_mt yX8_end cX8_end 3 (some .int) 0 zt_X8_end := zo_t zx_X8_end_0 (zo_t zx_X8_end_16 (zo_t zx_X8_end_32 (zo_tz)))
set_option maxRecDepth 100000 in
theorem zg_X8_text : zi_okt zi_mt yX8_text cX8_text 2 (some .int) 0 zt_X8_text := zo_t zx_X8_text_0 (zo_t zx_X8_text_16 (zo_t zx_X8_text_32 (zo_t zx_X8_text_48 (zo_t zx_X8_text_64 (zo_tz)))))
set_option maxRecDepth 100000 in
theorem zg_X8_fault : zi_okt zi_mt yX8_fault cX8_fault 1 (some .int) 0 zt_X8_fault := zo_t zx_X8_fault_0 (zo_tz)
set_option maxRecDepth 100000 in
theorem zg_X8_rule : zi_okt zi_mt yX8_rule cX8_rule 2 (some .int) 0 zt_X8_rule := zo_t zx_X8_rule_0 (zo_t zx_X8_rule_16 (zo_t zx_X8_rule_32 (zo_t zx_X8_rule_48 (zo_t zx_X8_rule_64 (zo_t zx_X8_rule_80 (zo_t zx_X8_rule_96 (zo_t zx_X8_rule_112 (zo_tz))))))))
set_option maxRecDepth 100000 in
theorem zg_X8_cell : zi_okt zi_mt yX8_cell cX8_cell 3 (some .int) 0 zt_X8_cell := zo_t zx_X8_cell_0 (zo_t zx_X8_cell_16 (zo_t zx_X8_cell_32 (zo_t zx_X8_cell_48 (zo_tz))))
set_option maxRecDepth 100000 in
theorem zg_X8_farm : zi_okt zi_mt yX8_farm cX8_farm 3 (some .int) 0 zt_X8_farm := zo_t zx_X8_farm_0 (zo_t zx_X8_farm_16 (zo_t zx_X8_farm_32 (zo_t zx_X8_farm_48 (zo_t zx_X8_farm_64 (zo_t zx_X8_farm_80 (zo_t zx_X8_farm_96 (zo_tz)))))))
set_option maxRecDepth 100000 in
theorem zg_X8_bed : zi_okt zi_mt yX8_bed cX8_bed 2 (some .int) 0 zt_X8_bed := zo_t zx_X8_bed_0 (zo_t zx_X8_bed_16 (zo_t zx_X8_bed_32 (zo_tz)))
set_option maxRecDepth 100000 in
theorem zg_X8_dam : zi_okt zi_mt yX8_dam cX8_dam 4 (some .int) 0 zt_X8_dam := zo_t zx_X8_dam_0 (zo_t zx_X8_dam_16 (zo_t zx_X8_dam_32 (zo_t zx_X8_dam_48 (zo_tz))))
set_option maxRecDepth 100000 in
theorem zg_X8_move : zi_okt zi_mt yX8_move cX8_move 3 (some .int) 0 zt_X8_move := zo_t zx_X8_move_0 (zo_t zx_X8_move_16 (zo_t zx_X8_move_32 (zo_tz)))
set_option maxRecDepth 100000 in
theorem zg_X8_law : zi_okt zi_mt yX8_law cX8_law 3 (some .int) 0 zt_X8_law := zo_t zx_X8_law_0 (zo_t zx_X8_law_16 (zo_t zx_X8_law_32 (zo_tz)))
set_option maxRecDepth 100000 in
theorem zg_X8_silt : zi_okt zi_mt yX8_silt cX8_silt 3 (some .int) 0 zt_X8_silt := zo_t zx_X8_silt_0 (zo_t zx_X8_silt_16 (zo_t zx_X8_silt_32 (zo_tz)))
set_option maxRecDepth 100000 in
theorem zg_X8_price : zi_okt zi_mt yX8_price cX8_price 4 (some .int) 0 zt_X8_price := zo_t zx_X8_price_0 (zo_t zx_X8_price_16 (zo_t zx_X8_price_32 (zo_tz)))
set_option maxRecDepth 100000 in
theorem zg_X8_retrace : zi_okt zi_mt yX8_retrace cX8_retrace 1 none 0 zt_X8_retrace := zo_t zx_X8_retrace_0 (zo_t zx_X8_retrace_16 (zo_tz))
set_option maxRecDepth 100000 in
theorem zg_X8_year : zi_okt zi_mt yX8_year cX8_year 3 (some .int) 0 zt_X8_year := zo_t zx_X8_year_0 (zo_t zx_X8_year_16 (zo_t zx_X8_year_32 (zo_t zx_X8_year_48 (zo_t zx_X8_year_64 (zo_tz)))))
set_option maxRecDepth 100000 in
theorem zg_X8_would : zi_okt zi_mt yX8_would cX8_would 3 (some .int) 0 zt_X8_would := zo_t zx_X8_would_0 (zo_t zx_X8_would_16 (zo_t zx_X8_would_32 (zo_t zx_X8_would_48 (zo_t zx_X8_would_64 (zo_tz)))))
set_option maxRecDepth 100000 in
theorem zg_X8_tell : zi_okt zi_mt yX8_tell cX8_tell 2 (some .int) 0 zt_X8_tell := zo_t zx_X8_tell_0 (zo_t zx_X8_tell_16 (zo_t zx_X8_tell_32 (zo_t zx_X8_tell_48 (zo_tz))))
set_option maxRecDepth 100000 in
theorem zg_X8_drop : zi_okt zi_mt yX8_drop cX8_drop 3 (some .int) 0 zt_X8_drop := zo_t zx_X8_drop_0 (zo_t zx_X8_drop_16 (zo_t zx_X8_drop_32 (zo_tz)))
set_option maxRecDepth 100000 in
theorem zg_X8_judge : zi_okt zi_mt yX8_judge cX8_judge 4 (some .int) 0 zt_X8_judge := zo_t zx_X8_judge_0 (zo_t zx_X8_judge_16 (zo_t zx_X8_judge_32 (zo_t zx_X8_judge_48 (zo_t zx_X8_judge_64 (zo_t zx_X8_judge_80 (zo_t zx_X8_judge_96 (zo_t zx_X8_judge_112 (zo_tz))))))))
set_option maxRecDepth 100000 in
theorem zg_X8_refusal : zi_okt zi_mt yX8_refusal cX8_refusal 3 (some .int) 0 zt_X8_refusal := zo_t zx_X8_refusal_0 (zo_t zx_X8_refusal_16 (zo_t zx_X8_refusal_32 (zo_tz)))
set_option maxRecDepth 100000 in
theorem zg_X8_isNumber : zi_okt zi_mt yX8_isNumber cX8_isNumber 1 (some .boolean) 0 zt_X8_isNumber := zo_t zx_X8_isNumber_0 (zo_t zx_X8_isNumber_16 (zo_tz))
set_option maxRecDepth 100000 in
theorem zg_X8_option : zi_okt zi_mt yX8_option cX8_option 2 (some .int) 0 zt_X8_option := zo_t zx_X8_option_0 (zo_t zx_X8_option_16 (zo_t zx_X8_option_32 (zo_t zx_X8_option_48 (zo_tz))))
set_option maxRecDepth 100000 in
theorem zg_X8_numberOf : zi_okt zi_mt yX8_numberOf cX8_numberOf 2 (some .int) 0 zt_X8_numberOf := zo_t zx_X8_numberOf_0 (zo_t zx_X8_numberOf_16 (zo_t zx_X8_numberOf_32 (zo_tz)))
set_option maxRecDepth 100000 in
theorem zg_X8_has : zi_okt zi_mt yX8_has cX8_has 2 (some .boolean) 0 zt_X8_has := zo_t zx_X8_has_0 (zo_tz)
set_option maxRecDepth 100000 in
theorem zg_X8_alone : zi_okt zi_mt yX8_alone cX8_alone 6 (some .int) 0 zt_X8_alone := zo_t zx_X8_alone_0 (zo_t zx_X8_alone_16 (zo_t zx_X8_alone_32 (zo_t zx_X8_alone_48 (zo_t zx_X8_alone_64 (zo_t zx_X8_alone_80 (zo_t zx_X8_alone_96 (zo_tz)))))))
set_option maxRecDepth 100000 in
theorem zg_X8_together : zi_okt zi_mt yX8_together cX8_together 7 (some .int) 0 zt_X8_together := zo_t zx_X8_together_0 (zo_t zx_X8_together_16 (zo_t zx_X8_together_32 (zo_t zx_X8_together_48 (zo_t zx_X8_together_64 (zo_t zx_X8_together_80 (zo_t zx_X8_together_96 (zo_t zx_X8_together_112 (zo_tz))))))))
set_option maxRecDepth 100000 in
theorem zg_X8_lookAhead : zi_okt zi_mt yX8_lookAhead cX8_lookAhead 1 none 0 zt_X8_lookAhead := zo_t zx_X8_lookAhead_0 (zo_t zx_X8_lookAhead_16 (zo_tz))
set_option maxRecDepth 100000 in
theorem zg_X8_cutters : zi_okt zi_mt yX8_cutters cX8_cutters 3 (some .int) 0 zt_X8_cutters := zo_t zx_X8_cutters_0 (zo_t zx_X8_cutters_16 (zo_tz))
set_option maxRecDepth 100000 in
theorem zg_X8_selfish : zi_okt zi_mt yX8_selfish cX8_selfish 3 (some .int) 0 zt_X8_selfish := zo_t zx_X8_selfish_0 (zo_t zx_X8_selfish_16 (zo_t zx_X8_selfish_32 (zo_t zx_X8_selfish_48 (zo_t zx_X8_selfish_64 (zo_t zx_X8_selfish_80 (zo_tz))))))
set_option maxRecDepth 100000 in
theorem zg_X8_rests : zi_okt zi_mt yX8_rests cX8_rests 4 (some .int) 0 zt_X8_rests := zo_t zx_X8_rests_0 (zo_t zx_X8_rests_16 (zo_t zx_X8_rests_32 (zo_t zx_X8_rests_48 (zo_t zx_X8_rests_64 (zo_tz)))))
set_option maxRecDepth 100000 in
theorem zg_X8_breaks : zi_okt zi_mt yX8_breaks cX8_breaks 3 (some .int) 0 zt_X8_breaks := zo_t zx_X8_breaks_0 (zo_t zx_X8_breaks_16 (zo_t zx_X8_breaks_32 (zo_tz)))
set_option maxRecDepth 100000 in
theorem zg_X8_stands : zi_okt zi_mt yX8_stands cX8_stands 3 (some .int) 0 zt_X8_stands := zo_t zx_X8_stands_0 (zo_t zx_X8_stands_16 (zo_t zx_X8_stands_32 (zo_t zx_X8_stands_48 (zo_t zx_X8_stands_64 (zo_t zx_X8_stands_80 (zo_tz))))))
set_option maxRecDepth 100000 in
theorem zg_X8_again : zi_okt zi_mt yX8_again cX8_again 4 (some .int) 0 zt_X8_again := zo_t zx_X8_again_0 (zo_t zx_X8_again_16 (zo_t zx_X8_again_32 (zo_t zx_X8_again_48 (zo_t zx_X8_again_64 (zo_t zx_X8_again_80 (zo_tz))))))
set_option maxRecDepth 100000 in
theorem zg_X8_note : zi_okt zi_mt yX8_note cX8_note 2 none 0 zt_X8_note := zo_t zx_X8_note_0 (zo_t zx_X8_note_16 (zo_tz))
set_option maxRecDepth 100000 in
theorem zg_X8_firstAlike : zi_okt zi_mt yX8_firstAlike cX8_firstAlike 3 (some .int) 0 zt_X8_firstAlike := zo_t zx_X8_firstAlike_0 (zo_t zx_X8_firstAlike_16 (zo_tz))
set_option maxRecDepth 100000 in
theorem zg_X8_isAlike : zi_okt zi_mt yX8_isAlike cX8_isAlike 3 (some .boolean) 0 zt_X8_isAlike := zo_t zx_X8_isAlike_0 (zo_t zx_X8_isAlike_16 (zo_t zx_X8_isAlike_32 (zo_tz)))
set_option maxRecDepth 100000 in
theorem zg_X8_odds : zi_okt zi_mt yX8_odds cX8_odds 5 (some .long) 0 zt_X8_odds := zo_t zx_X8_odds_0 (zo_t zx_X8_odds_16 (zo_t zx_X8_odds_32 (zo_t zx_X8_odds_48 (zo_t zx_X8_odds_64 (zo_t zx_X8_odds_80 (zo_t zx_X8_odds_96 (zo_t zx_X8_odds_112 (zo_tz))))))))
set_option maxRecDepth 100000 in
theorem zg_X8_commonDivisor : zi_okt zi_mt yX8_commonDivisor cX8_commonDivisor 6 (some .int) 0 zt_X8_commonDivisor := zo_t zx_X8_commonDivisor_0 (zo_t zx_X8_commonDivisor_16 (zo_t zx_X8_commonDivisor_32 (zo_tz)))
set_option maxRecDepth 100000 in
theorem zg_X8_see : zi_okt zi_mt yX8_see cX8_see 3 (some .int) 0 zt_X8_see := zo_t zx_X8_see_0 (zo_t zx_X8_see_16 (zo_t zx_X8_see_32 (zo_t zx_X8_see_48 (zo_t zx_X8_see_64 (zo_tz)))))
set_option maxRecDepth 100000 in
theorem zg_X8_forget : zi_okt zi_mt yX8_forget cX8_forget 3 (some .int) 0 zt_X8_forget := zo_t zx_X8_forget_0 (zo_t zx_X8_forget_16 (zo_t zx_X8_forget_32 (zo_tz)))
set_option maxRecDepth 100000 in
theorem zg_X8_fits : zi_okt zi_mt yX8_fits cX8_fits 8 (some .int) 0 zt_X8_fits := zo_t zx_X8_fits_0 (zo_t zx_X8_fits_16 (zo_t zx_X8_fits_32 (zo_t zx_X8_fits_48 (zo_t zx_X8_fits_64 (zo_t zx_X8_fits_80 (zo_t zx_X8_fits_96 (zo_t zx_X8_fits_112 (zo_t zx_X8_fits_128 (zo_t zx_X8_fits_144 (zo_t zx_X8_fits_160 (zo_tz)))))))))))
set_option maxRecDepth 100000 in
theorem zg_X8_keep : zi_okt zi_mt yX8_keep cX8_keep 3 (some .int) 0 zt_X8_keep := zo_t zx_X8_keep_0 (zo_t zx_X8_keep_16 (zo_t zx_X8_keep_32 (zo_tz)))
set_option maxRecDepth 100000 in
theorem zg_X8_back : zi_okt zi_mt yX8_back cX8_back 2 (some .int) 0 zt_X8_back := zo_t zx_X8_back_0 (zo_t zx_X8_back_16 (zo_t zx_X8_back_32 (zo_t zx_X8_back_48 (zo_tz))))
set_option maxRecDepth 100000 in
theorem zg_X8_imageOf : zi_okt zi_mt yX8_imageOf cX8_imageOf 2 (some (.object "RiverDiggers$Times")) 0 zt_X8_imageOf := zo_t zx_X8_imageOf_0 (zo_tz)
set_option maxRecDepth 100000 in
theorem zg_X8_sheet : zi_okt zi_mt yX8_sheet cX8_sheet 4 (some .int) 0 zt_X8_sheet := zo_t zx_X8_sheet_0 (zo_t zx_X8_sheet_16 (zo_t zx_X8_sheet_32 (zo_t zx_X8_sheet_48 (zo_tz))))
set_option maxRecDepth 100000 in
theorem zg_X8_lay : zi_okt zi_mt yX8_lay cX8_lay 5 (some .int) 0 zt_X8_lay := zo_t zx_X8_lay_0 (zo_t zx_X8_lay_16 (zo_t zx_X8_lay_32 (zo_tz)))
set_option maxRecDepth 100000 in
theorem zg_X8_read : zi_okt zi_mt yX8_read cX8_read 9 (some .int) 0 zt_X8_read := zo_t zx_X8_read_0 (zo_t zx_X8_read_16 (zo_t zx_X8_read_32 (zo_t zx_X8_read_48 (zo_t zx_X8_read_64 (zo_t zx_X8_read_80 (zo_t zx_X8_read_96 (zo_t zx_X8_read_112 (zo_t zx_X8_read_128 (zo_t zx_X8_read_144 (zo_t zx_X8_read_160 (zo_t zx_X8_read_176 (zo_t zx_X8_read_192 (zo_tz)))))))))))))
set_option maxRecDepth 100000 in
theorem zg_X8_torn : zi_okt zi_mt yX8_torn cX8_torn 1 (some .int) 0 zt_X8_torn := zo_t zx_X8_torn_0 (zo_tz)
set_option maxRecDepth 100000 in
theorem zg_X8_count : zi_okt zi_mt yX8_count cX8_count 2 (some .int) 0 zt_X8_count := zo_t zx_X8_count_0 (zo_t zx_X8_count_16 (zo_t zx_X8_count_32 (zo_t zx_X8_count_48 (zo_t zx_X8_count_64 (zo_t zx_X8_count_80 (zo_t zx_X8_count_96 (zo_t zx_X8_count_112 (zo_t zx_X8_count_128 (zo_tz)))))))))
set_option maxRecDepth 100000 in
theorem zg_X9_init : zi_okt zi_mt yX9_init cX9_init 2 none 0 zt_X9_init := zo_t zx_X9_init_0 (zo_t zx_X9_init_16 (zo_t zx_X9_init_32 (zo_t zx_X9_init_48 (zo_t zx_X9_init_64 (zo_t zx_X9_init_80 (zo_t zx_X9_init_96 (zo_t zx_X9_init_112 (zo_t zx_X9_init_128 (zo_t zx_X9_init_144 (zo_t zx_X9_init_160 (zo_t zx_X9_init_176 (zo_t zx_X9_init_192 (zo_tz)))))))))))))
set_option maxRecDepth 100000 in
theorem zg_X9_in : zi_okt zi_mt yX9_in cX9_in 6 (some .boolean) 0 zt_X9_in := zo_t zx_X9_in_0 (zo_t zx_X9_in_16 (zo_tz))
set_option maxRecDepth 100000 in
theorem zg_X9_flag : zi_okt zi_mt yX9_flag cX9_flag 1 (some .int) 0 zt_X9_flag := zo_t zx_X9_flag_0 (zo_tz)
set_option maxRecDepth 100000 in
theorem zg_X9_firstDraft : zi_okt zi_mt yX9_firstDraft cX9_firstDraft 2 none 0 zt_X9_firstDraft := zo_t zx_X9_firstDraft_0 (zo_t zx_X9_firstDraft_16 (zo_t zx_X9_firstDraft_32 (zo_t zx_X9_firstDraft_48 (zo_t zx_X9_firstDraft_64 (zo_t zx_X9_firstDraft_80 (zo_t zx_X9_firstDraft_96 (zo_t zx_X9_firstDraft_112 (zo_tz))))))))
set_option maxRecDepth 100000 in
theorem zg_X9_keepDraft : zi_okt zi_mt yX9_keepDraft cX9_keepDraft 2 none 0 zt_X9_keepDraft := zo_t zx_X9_keepDraft_0 (zo_t zx_X9_keepDraft_16 (zo_t zx_X9_keepDraft_32 (zo_t zx_X9_keepDraft_48 (zo_t zx_X9_keepDraft_64 (zo_t zx_X9_keepDraft_80 (zo_t zx_X9_keepDraft_96 (zo_t zx_X9_keepDraft_112 (zo_t zx_X9_keepDraft_128 (zo_t zx_X9_keepDraft_144 (zo_t zx_X9_keepDraft_160 (zo_t zx_X9_keepDraft_176 (zo_tz))))))))))))
set_option maxRecDepth 100000 in
theorem zg_X9_feed : zi_okt zi_mt yX9_feed cX9_feed 4 (some .int) 0 zt_X9_feed := zo_t zx_X9_feed_0 (zo_t zx_X9_feed_16 (zo_t zx_X9_feed_32 (zo_t zx_X9_feed_48 (zo_tz))))
set_option maxRecDepth 100000 in
theorem zg_X9_end : zi_okt zi_mt yX9_end cX9_end 3 (some .int) 0 zt_X9_end := zo_t zx_X9_end_0 (zo_t zx_X9_end_16 (zo_tz))
set_option maxRecDepth 100000 in
theorem zg_X9_needs : zi_okt zi_mt yX9_needs cX9_needs 3 none 0 zt_X9_needs := zo_t zx_X9_needs_0 (zo_t zx_X9_needs_16 (zo_tz))
set_option maxRecDepth 100000 in
theorem zg_X9_look : zi_okt zi_mt yX9_look cX9_look 2 (some .int) 0 zt_X9_look := zo_t zx_X9_look_0 (zo_t zx_X9_look_16 (zo_tz))
set_option maxRecDepth 100000 in
theorem zg_X9_is : zi_okt zi_mt yX9_is cX9_is 5 (some .boolean) 0 zt_X9_is := zo_t zx_X9_is_0 (zo_t zx_X9_is_16 (zo_t zx_X9_is_32 (zo_t zx_X9_is_48 (zo_tz))))
set_option maxRecDepth 100000 in
theorem zg_X9_ends : zi_okt zi_mt yX9_ends cX9_ends 4 (some .boolean) 0 zt_X9_ends := zo_t zx_X9_ends_0 (zo_t zx_X9_ends_16 (zo_t zx_X9_ends_32 (zo_t zx_X9_ends_48 (zo_tz))))
set_option maxRecDepth 100000 in
theorem zg_X9_ruleLine : zi_okt zi_mt yX9_ruleLine cX9_ruleLine 1 (some .int) 0 zt_X9_ruleLine := zo_t zx_X9_ruleLine_0 (zo_t zx_X9_ruleLine_16 (zo_t zx_X9_ruleLine_32 (zo_t zx_X9_ruleLine_48 (zo_t zx_X9_ruleLine_64 (zo_t zx_X9_ruleLine_80 (zo_t zx_X9_ruleLine_96 (zo_tz)))))))
set_option maxRecDepth 100000 in
theorem zg_X9_lineNow : zi_okt zi_mt yX9_lineNow cX9_lineNow 1 (some .int) 0 zt_X9_lineNow := zo_t zx_X9_lineNow_0 (zo_t zx_X9_lineNow_16 (zo_t zx_X9_lineNow_32 (zo_t zx_X9_lineNow_48 (zo_t zx_X9_lineNow_64 (zo_t zx_X9_lineNow_80 (zo_tz))))))
set_option maxRecDepth 100000 in
theorem zg_X9_next : zi_okt zi_mt yX9_next cX9_next 2 none 0 zt_X9_next := zo_t zx_X9_next_0 (zo_t zx_X9_next_16 (zo_t zx_X9_next_32 (zo_t zx_X9_next_48 (zo_t zx_X9_next_64 (zo_t zx_X9_next_80 (zo_t zx_X9_next_96 (zo_t zx_X9_next_112 (zo_t zx_X9_next_128 (zo_t zx_X9_next_144 (zo_t zx_X9_next_160 (zo_t zx_X9_next_176 (zo_t zx_X9_next_192 (zo_t zx_X9_next_208 (zo_t zx_X9_next_224 (zo_t zx_X9_next_240 (zo_t zx_X9_next_256 (zo_t zx_X9_next_272 (zo_tz))))))))))))))))))
set_option maxRecDepth 100000 in
theorem zg_X9_looked : zi_okt zi_mt yX9_looked cX9_looked 3 (some .int) 0 zt_X9_looked := zo_t zx_X9_looked_0 (zo_t zx_X9_looked_16 (zo_t zx_X9_looked_32 (zo_t zx_X9_looked_48 (zo_t zx_X9_looked_64 (zo_tz)))))
set_option maxRecDepth 100000 in
theorem zg_X9_readNumber : zi_okt zi_mt yX9_readNumber cX9_readNumber 4 (some .int) 0 zt_X9_readNumber := zo_t zx_X9_readNumber_0 (zo_tz)
set_option maxRecDepth 100000 in
theorem zg_X9_readRow : zi_okt zi_mt yX9_readRow cX9_readRow 5 none 0 zt_X9_readRow := zo_t zx_X9_readRow_0 (zo_t zx_X9_readRow_16 (zo_t zx_X9_readRow_32 (zo_t zx_X9_readRow_48 (zo_t zx_X9_readRow_64 (zo_t zx_X9_readRow_80 (zo_t zx_X9_readRow_96 (zo_t zx_X9_readRow_112 (zo_t zx_X9_readRow_128 (zo_t zx_X9_readRow_144 (zo_t zx_X9_readRow_160 (zo_t zx_X9_readRow_176 (zo_tz))))))))))))
set_option maxRecDepth 100000 in
theorem zg_X9_sawCell : zi_okt zi_mt yX9_sawCell cX9_sawCell 2 none 0 zt_X9_sawCell := zo_t zx_X9_sawCell_0 (zo_t zx_X9_sawCell_16 (zo_tz))
set_option maxRecDepth 100000 in
theorem zg_X9_readGround : zi_okt zi_mt yX9_readGround cX9_readGround 4 none 0 zt_X9_readGround := zo_t zx_X9_readGround_0 (zo_t zx_X9_readGround_16 (zo_t zx_X9_readGround_32 (zo_t zx_X9_readGround_48 (zo_t zx_X9_readGround_64 (zo_t zx_X9_readGround_80 (zo_t zx_X9_readGround_96 (zo_t zx_X9_readGround_112 (zo_t zx_X9_readGround_128 (zo_t zx_X9_readGround_144 (zo_tz))))))))))
set_option maxRecDepth 100000 in
theorem zg_X9_readLineOf : zi_okt zi_mt yX9_readLineOf cX9_readLineOf 2 none 0 zt_X9_readLineOf := zo_t zx_X9_readLineOf_0 (zo_t zx_X9_readLineOf_16 (zo_t zx_X9_readLineOf_32 (zo_t zx_X9_readLineOf_48 (zo_t zx_X9_readLineOf_64 (zo_t zx_X9_readLineOf_80 (zo_t zx_X9_readLineOf_96 (zo_t zx_X9_readLineOf_112 (zo_t zx_X9_readLineOf_128 (zo_t zx_X9_readLineOf_144 (zo_tz))))))))))
set_option maxRecDepth 100000 in
theorem zg_X9_readLine : zi_okt zi_mt yX9_readLine cX9_readLine 2 none 0 zt_X9_readLine := zo_t zx_X9_readLine_0 (zo_t zx_X9_readLine_16 (zo_t zx_X9_readLine_32 (zo_t zx_X9_readLine_48 (zo_t zx_X9_readLine_64 (zo_t zx_X9_readLine_80 (zo_t zx_X9_readLine_96 (zo_t zx_X9_readLine_112 (zo_t zx_X9_readLine_128 (zo_t zx_X9_readLine_144 (zo_tz))))))))))
set_option maxRecDepth 100000 in
theorem zg_X9_text : zi_okt zi_mt yX9_text cX9_text 2 (some .int) 0 zt_X9_text := zo_t zx_X9_text_0 (zo_t zx_X9_text_16 (zo_t zx_X9_text_32 (zo_t zx_X9_text_48 (zo_t zx_X9_text_64 (zo_t zx_X9_text_80 (zo_t zx_X9_text_96 (zo_t zx_X9_text_112 (zo_t zx_X9_text_128 (zo_tz)))))))))
set_option maxRecDepth 100000 in
theorem zg_X9_fault : zi_okt zi_mt yX9_fault cX9_fault 1 (some .int) 0 zt_X9_fault := zo_t zx_X9_fault_0 (zo_tz)
set_option maxRecDepth 100000 in
theorem zg_X9_isCell : zi_okt zi_mt yX9_isCell cX9_isCell 2 (some .boolean) 0 zt_X9_isCell := zo_t zx_X9_isCell_0 (zo_t zx_X9_isCell_16 (zo_tz))
set_option maxRecDepth 100000 in
theorem zg_X9_isFarm : zi_okt zi_mt yX9_isFarm cX9_isFarm 2 (some .boolean) 0 zt_X9_isFarm := zo_t zx_X9_isFarm_0 (zo_tz)
set_option maxRecDepth 100000 in
theorem zg_X9_isYear : zi_okt zi_mt yX9_isYear cX9_isYear 1 (some .boolean) 0 zt_X9_isYear := zo_t zx_X9_isYear_0 (zo_tz)
set_option maxRecDepth 100000 in
theorem zg_X9_beside : zi_okt zi_mt yX9_beside cX9_beside 5 (some .int) 0 zt_X9_beside := zo_t zx_X9_beside_0 (zo_t zx_X9_beside_16 (zo_t zx_X9_beside_32 (zo_t zx_X9_beside_48 (zo_t zx_X9_beside_64 (zo_t zx_X9_beside_80 (zo_t zx_X9_beside_96 (zo_t zx_X9_beside_112 (zo_tz))))))))
set_option maxRecDepth 100000 in
theorem zg_X9_lowestBeside : zi_okt zi_mt yX9_lowestBeside cX9_lowestBeside 6 (some .int) 0 zt_X9_lowestBeside := zo_t zx_X9_lowestBeside_0 (zo_t zx_X9_lowestBeside_16 (zo_t zx_X9_lowestBeside_32 (zo_t zx_X9_lowestBeside_48 (zo_t zx_X9_lowestBeside_64 (zo_t zx_X9_lowestBeside_80 (zo_t zx_X9_lowestBeside_96 (zo_tz)))))))
set_option maxRecDepth 100000 in
theorem zg_X9_findBed : zi_okt zi_mt yX9_findBed cX9_findBed 2 none 0 zt_X9_findBed := zo_t zx_X9_findBed_0 (zo_t zx_X9_findBed_16 (zo_t zx_X9_findBed_32 (zo_t zx_X9_findBed_48 (zo_t zx_X9_findBed_64 (zo_tz)))))
set_option maxRecDepth 100000 in
theorem zg_X9_bedNow : zi_okt zi_mt yX9_bedNow cX9_bedNow 1 (some .int) 0 zt_X9_bedNow := zo_t zx_X9_bedNow_0 (zo_tz)
set_option maxRecDepth 100000 in
theorem zg_X9_hasNow : zi_okt zi_mt yX9_hasNow cX9_hasNow 5 (some .int) 0 zt_X9_hasNow := zo_t zx_X9_hasNow_0 (zo_t zx_X9_hasNow_16 (zo_t zx_X9_hasNow_32 (zo_t zx_X9_hasNow_48 (zo_t zx_X9_hasNow_64 (zo_tz)))))
set_option maxRecDepth 100000 in
theorem zg_X9_isBeside : zi_okt zi_mt yX9_isBeside cX9_isBeside 6 (some .boolean) 0 zt_X9_isBeside := zo_t zx_X9_isBeside_0 (zo_t zx_X9_isBeside_16 (zo_t zx_X9_isBeside_32 (zo_t zx_X9_isBeside_48 (zo_tz))))
set_option maxRecDepth 100000 in
theorem zg_X9_mayCut : zi_okt zi_mt yX9_mayCut cX9_mayCut 8 (some .int) 0 zt_X9_mayCut := zo_t zx_X9_mayCut_0 (zo_t zx_X9_mayCut_16 (zo_t zx_X9_mayCut_32 (zo_t zx_X9_mayCut_48 (zo_t zx_X9_mayCut_64 (zo_t zx_X9_mayCut_80 (zo_t zx_X9_mayCut_96 (zo_t zx_X9_mayCut_112 (zo_t zx_X9_mayCut_128 (zo_t zx_X9_mayCut_144 (zo_tz))))))))))
set_option maxRecDepth 100000 in
theorem zg_X9_rule : zi_okt zi_mt yX9_rule cX9_rule 2 (some .int) 0 zt_X9_rule := zo_t zx_X9_rule_0 (zo_t zx_X9_rule_16 (zo_t zx_X9_rule_32 (zo_t zx_X9_rule_48 (zo_t zx_X9_rule_64 (zo_t zx_X9_rule_80 (zo_tz))))))
set_option maxRecDepth 100000 in
theorem zg_X9_cell : zi_okt zi_mt yX9_cell cX9_cell 3 (some .int) 0 zt_X9_cell := zo_t zx_X9_cell_0 (zo_t zx_X9_cell_16 (zo_t zx_X9_cell_32 (zo_tz)))
set_option maxRecDepth 100000 in
theorem zg_X9_farm : zi_okt zi_mt yX9_farm cX9_farm 5 (some .int) 0 zt_X9_farm := zo_t zx_X9_farm_0 (zo_t zx_X9_farm_16 (zo_t zx_X9_farm_32 (zo_t zx_X9_farm_48 (zo_t zx_X9_farm_64 (zo_t zx_X9_farm_80 (zo_t zx_X9_farm_96 (zo_t zx_X9_farm_112 (zo_tz))))))))
set_option maxRecDepth 100000 in
theorem zg_X9_bed : zi_okt zi_mt yX9_bed cX9_bed 2 (some .int) 0 zt_X9_bed := zo_t zx_X9_bed_0 (zo_t zx_X9_bed_16 (zo_tz))
set_option maxRecDepth 100000 in
theorem zg_X9_becomes : zi_okt zi_mt yX9_becomes cX9_becomes 4 (some .int) 0 zt_X9_becomes := zo_t zx_X9_becomes_0 (zo_tz)
set_option maxRecDepth 100000 in
theorem zg_X9_dam : zi_okt zi_mt yX9_dam cX9_dam 3 (some .int) 0 zt_X9_dam := zo_t zx_X9_dam_0 (zo_t zx_X9_dam_16 (zo_tz))
set_option maxRecDepth 100000 in
theorem zg_X9_move : zi_okt zi_mt yX9_move cX9_move 2 (some .int) 0 zt_X9_move := zo_t zx_X9_move_0 (zo_t zx_X9_move_16 (zo_tz))
set_option maxRecDepth 100000 in
theorem zg_X9_law : zi_okt zi_mt yX9_law cX9_law 2 (some .int) 0 zt_X9_law := zo_t zx_X9_law_0 (zo_t zx_X9_law_16 (zo_tz))
set_option maxRecDepth 100000 in
theorem zg_X9_silt : zi_okt zi_mt yX9_silt cX9_silt 2 (some .int) 0 zt_X9_silt := zo_t zx_X9_silt_0 (zo_tz)
set_option maxRecDepth 100000 in
theorem zg_X9_price : zi_okt zi_mt yX9_price cX9_price 3 (some .int) 0 zt_X9_price := zo_t zx_X9_price_0 (zo_t zx_X9_price_16 (zo_t zx_X9_price_32 (zo_tz)))
set_option maxRecDepth 100000 in
theorem zg_X9_marks : zi_okt zi_mt yX9_marks cX9_marks 2 none 0 zt_X9_marks := zo_t zx_X9_marks_0 (zo_t zx_X9_marks_16 (zo_tz))
set_option maxRecDepth 100000 in
theorem zg_X9_returns : zi_okt zi_mt yX9_returns cX9_returns 2 none 0 zt_X9_returns := zo_t zx_X9_returns_0 (zo_t zx_X9_returns_16 (zo_tz))
set_option maxRecDepth 100000 in
theorem zg_X9_cutOf : zi_okt zi_mt yX9_cutOf cX9_cutOf 3 (some .int) 0 zt_X9_cutOf := zo_t zx_X9_cutOf_0 (zo_t zx_X9_cutOf_16 (zo_t zx_X9_cutOf_32 (zo_tz)))
set_option maxRecDepth 100000 in
theorem zg_X9_timesOf : zi_okt zi_mt yX9_timesOf cX9_timesOf 1 (some .int) 0 zt_X9_timesOf := zo_t zx_X9_timesOf_0 (zo_t zx_X9_timesOf_16 (zo_tz))
set_option maxRecDepth 100000 in
theorem zg_X9_firstWrong : zi_okt zi_mt yX9_firstWrong cX9_firstWrong 6 (some .int) 0 zt_X9_firstWrong := zo_t zx_X9_firstWrong_0 (zo_t zx_X9_firstWrong_16 (zo_t zx_X9_firstWrong_32 (zo_t zx_X9_firstWrong_48 (zo_t zx_X9_firstWrong_64 (zo_tz)))))
set_option maxRecDepth 100000 in
theorem zg_X9_canBe : zi_okt zi_mt yX9_canBe cX9_canBe 2 (some .boolean) 0 zt_X9_canBe := zo_t zx_X9_canBe_0 (zo_tz)
set_option maxRecDepth 100000 in
theorem zg_X9_silts : zi_okt zi_mt yX9_silts cX9_silts 4 none 0 zt_X9_silts := zo_t zx_X9_silts_0 (zo_t zx_X9_silts_16 (zo_t zx_X9_silts_32 (zo_t zx_X9_silts_48 (zo_t zx_X9_silts_64 (zo_t zx_X9_silts_80 (zo_t zx_X9_silts_96 (zo_tz)))))))
set_option maxRecDepth 100000 in
theorem zg_X9_goes : zi_okt zi_mt yX9_goes cX9_goes 4 none 0 zt_X9_goes := zo_t zx_X9_goes_0 (zo_t zx_X9_goes_16 (zo_t zx_X9_goes_32 (zo_tz)))
set_option maxRecDepth 100000 in
theorem zg_X9_year : zi_okt zi_mt yX9_year cX9_year 2 (some .int) 0 zt_X9_year := zo_t zx_X9_year_0 (zo_t zx_X9_year_16 (zo_t zx_X9_year_32 (zo_t zx_X9_year_48 (zo_tz))))
set_option maxRecDepth 100000 in
theorem zg_X9_hasBy : zi_okt zi_mt yX9_hasBy cX9_hasBy 4 (some .int) 0 zt_X9_hasBy := zo_t zx_X9_hasBy_0 (zo_t zx_X9_hasBy_16 (zo_tz))
set_option maxRecDepth 100000 in
theorem zg_X9_bedBy : zi_okt zi_mt yX9_bedBy cX9_bedBy 3 (some .int) 0 zt_X9_bedBy := zo_t zx_X9_bedBy_0 (zo_t zx_X9_bedBy_16 (zo_tz))
set_option maxRecDepth 100000 in
theorem zg_X9_would : zi_okt zi_mt yX9_would cX9_would 3 (some .int) 0 zt_X9_would := zo_t zx_X9_would_0 (zo_t zx_X9_would_16 (zo_t zx_X9_would_32 (zo_tz)))
set_option maxRecDepth 100000 in
theorem zg_X9_tell : zi_okt zi_mt yX9_tell cX9_tell 2 (some .int) 0 zt_X9_tell := zo_t zx_X9_tell_0 (zo_t zx_X9_tell_16 (zo_t zx_X9_tell_32 (zo_t zx_X9_tell_48 (zo_tz))))
set_option maxRecDepth 100000 in
theorem zg_X9_drop : zi_okt zi_mt yX9_drop cX9_drop 3 (some .int) 0 zt_X9_drop := zo_t zx_X9_drop_0 (zo_t zx_X9_drop_16 (zo_t zx_X9_drop_32 (zo_tz)))
set_option maxRecDepth 100000 in
theorem zg_X9_judge : zi_okt zi_mt yX9_judge cX9_judge 6 (some .int) 0 zt_X9_judge := zo_t zx_X9_judge_0 (zo_t zx_X9_judge_16 (zo_t zx_X9_judge_32 (zo_t zx_X9_judge_48 (zo_t zx_X9_judge_64 (zo_t zx_X9_judge_80 (zo_t zx_X9_judge_96 (zo_t zx_X9_judge_112 (zo_t zx_X9_judge_128 (zo_t zx_X9_judge_144 (zo_t zx_X9_judge_160 (zo_tz)))))))))))
set_option maxRecDepth 100000 in
theorem zg_X9_findOptions : zi_okt zi_mt yX9_findOptions cX9_findOptions 4 none 0 zt_X9_findOptions := zo_t zx_X9_findOptions_0 (zo_t zx_X9_findOptions_16 (zo_t zx_X9_findOptions_32 (zo_t zx_X9_findOptions_48 (zo_t zx_X9_findOptions_64 (zo_t zx_X9_findOptions_80 (zo_t zx_X9_findOptions_96 (zo_t zx_X9_findOptions_112 (zo_tz))))))))
set_option maxRecDepth 100000 in
theorem zg_X9_allOptions : zi_okt zi_mt yX9_allOptions cX9_allOptions 1 (some .int) 0 zt_X9_allOptions := zo_t zx_X9_allOptions_0 (zo_t zx_X9_allOptions_16 (zo_tz))
set_option maxRecDepth 100000 in
theorem zg_X9_yearOf : zi_okt zi_mt yX9_yearOf cX9_yearOf 4 (some .int) 0 zt_X9_yearOf := zo_t zx_X9_yearOf_0 (zo_t zx_X9_yearOf_16 (zo_tz))
set_option maxRecDepth 100000 in
theorem zg_X9_yearAt : zi_okt zi_mt yX9_yearAt cX9_yearAt 2 (some .int) 0 zt_X9_yearAt := zo_t zx_X9_yearAt_0 (zo_t zx_X9_yearAt_16 (zo_t zx_X9_yearAt_32 (zo_tz)))
set_option maxRecDepth 100000 in
theorem zg_X9_enters : zi_okt zi_mt yX9_enters cX9_enters 5 none 0 zt_X9_enters := zo_t zx_X9_enters_0 (zo_t zx_X9_enters_16 (zo_t zx_X9_enters_32 (zo_t zx_X9_enters_48 (zo_t zx_X9_enters_64 (zo_t zx_X9_enters_80 (zo_t zx_X9_enters_96 (zo_t zx_X9_enters_112 (zo_tz))))))))
set_option maxRecDepth 100000 in
theorem zg_X9_leaves : zi_okt zi_mt yX9_leaves cX9_leaves 3 none 0 zt_X9_leaves := zo_t zx_X9_leaves_0 (zo_t zx_X9_leaves_16 (zo_tz))
set_option maxRecDepth 100000 in
theorem zg_X9_isBrought : zi_okt zi_mt yX9_isBrought cX9_isBrought 7 (some .boolean) 0 zt_X9_isBrought := zo_t zx_X9_isBrought_0 (zo_t zx_X9_isBrought_16 (zo_t zx_X9_isBrought_32 (zo_t zx_X9_isBrought_48 (zo_t zx_X9_isBrought_64 (zo_t zx_X9_isBrought_80 (zo_t zx_X9_isBrought_96 (zo_t zx_X9_isBrought_112 (zo_t zx_X9_isBrought_128 (zo_t zx_X9_isBrought_144 (zo_t zx_X9_isBrought_160 (zo_t zx_X9_isBrought_176 (zo_t zx_X9_isBrought_192 (zo_t zx_X9_isBrought_208 (zo_t zx_X9_isBrought_224 (zo_tz)))))))))))))))
set_option maxRecDepth 100000 in
theorem zg_X9_alone : zi_okt zi_mt yX9_alone cX9_alone 5 (some .int) 0 zt_X9_alone := zo_t zx_X9_alone_0 (zo_t zx_X9_alone_16 (zo_t zx_X9_alone_32 (zo_t zx_X9_alone_48 (zo_t zx_X9_alone_64 (zo_t zx_X9_alone_80 (zo_t zx_X9_alone_96 (zo_tz)))))))
set_option maxRecDepth 100000 in
theorem zg_X9_cutsOf : zi_okt zi_mt yX9_cutsOf cX9_cutsOf 3 (some .int) 0 zt_X9_cutsOf := zo_t zx_X9_cutsOf_0 (zo_t zx_X9_cutsOf_16 (zo_t zx_X9_cutsOf_32 (zo_tz)))
set_option maxRecDepth 100000 in
theorem zg_X9_together : zi_okt zi_mt yX9_together cX9_together 9 (some .int) 0 zt_X9_together := zo_t zx_X9_together_0 (zo_t zx_X9_together_16 (zo_t zx_X9_together_32 (zo_t zx_X9_together_48 (zo_t zx_X9_together_64 (zo_t zx_X9_together_80 (zo_t zx_X9_together_96 (zo_t zx_X9_together_112 (zo_t zx_X9_together_128 (zo_t zx_X9_together_144 (zo_tz))))))))))
set_option maxRecDepth 100000 in
theorem zg_X9_lastOf : zi_okt zi_mt yX9_lastOf cX9_lastOf 7 (some .int) 0 zt_X9_lastOf := zo_t zx_X9_lastOf_0 (zo_t zx_X9_lastOf_16 (zo_t zx_X9_lastOf_32 (zo_t zx_X9_lastOf_48 (zo_t zx_X9_lastOf_64 (zo_t zx_X9_lastOf_80 (zo_tz))))))
set_option maxRecDepth 100000 in
theorem zg_X9_secondOf : zi_okt zi_mt yX9_secondOf cX9_secondOf 6 (some .int) 0 zt_X9_secondOf := zo_t zx_X9_secondOf_0 (zo_t zx_X9_secondOf_16 (zo_t zx_X9_secondOf_32 (zo_t zx_X9_secondOf_48 (zo_t zx_X9_secondOf_64 (zo_t zx_X9_secondOf_80 (zo_tz))))))
set_option maxRecDepth 100000 in
theorem zg_X9_selfishYear : zi_okt zi_mt yX9_selfishYear cX9_selfishYear 6 (some .int) 0 zt_X9_selfishYear := zo_t zx_X9_selfishYear_0 (zo_t zx_X9_selfishYear_16 (zo_t zx_X9_selfishYear_32 (zo_t zx_X9_selfishYear_48 (zo_t zx_X9_selfishYear_64 (zo_t zx_X9_selfishYear_80 (zo_t zx_X9_selfishYear_96 (zo_tz)))))))
set_option maxRecDepth 100000 in
theorem zg_X9_selfish : zi_okt zi_mt yX9_selfish cX9_selfish 3 (some .int) 0 zt_X9_selfish := zo_t zx_X9_selfish_0 (zo_t zx_X9_selfish_16 (zo_t zx_X9_selfish_32 (zo_tz)))
set_option maxRecDepth 100000 in
theorem zg_X9_breaksOf : zi_okt zi_mt yX9_breaksOf cX9_breaksOf 7 (some .int) 0 zt_X9_breaksOf := zo_t zx_X9_breaksOf_0 (zo_t zx_X9_breaksOf_16 (zo_t zx_X9_breaksOf_32 (zo_t zx_X9_breaksOf_48 (zo_t zx_X9_breaksOf_64 (zo_t zx_X9_breaksOf_80 (zo_t zx_X9_breaksOf_96 (zo_tz)))))))
set_option maxRecDepth 100000 in
theorem zg_X9_rests : zi_okt zi_mt yX9_rests cX9_rests 6 (some .int) 0 zt_X9_rests := zo_t zx_X9_rests_0 (zo_t zx_X9_rests_16 (zo_t zx_X9_rests_32 (zo_t zx_X9_rests_48 (zo_t zx_X9_rests_64 (zo_t zx_X9_rests_80 (zo_tz))))))
set_option maxRecDepth 100000 in
theorem zg_X9_breaks : zi_okt zi_mt yX9_breaks cX9_breaks 2 (some .int) 0 zt_X9_breaks := zo_t zx_X9_breaks_0 (zo_t zx_X9_breaks_16 (zo_tz))
set_option maxRecDepth 100000 in
theorem zg_X9_stands : zi_okt zi_mt yX9_stands cX9_stands 4 (some .int) 0 zt_X9_stands := zo_t zx_X9_stands_0 (zo_t zx_X9_stands_16 (zo_t zx_X9_stands_32 (zo_t zx_X9_stands_48 (zo_t zx_X9_stands_64 (zo_tz)))))
set_option maxRecDepth 100000 in
theorem zg_X9_areAlike : zi_okt zi_mt yX9_areAlike cX9_areAlike 5 (some .boolean) 0 zt_X9_areAlike := zo_t zx_X9_areAlike_0 (zo_t zx_X9_areAlike_16 (zo_t zx_X9_areAlike_32 (zo_t zx_X9_areAlike_48 (zo_tz))))
set_option maxRecDepth 100000 in
theorem zg_X9_again : zi_okt zi_mt yX9_again cX9_again 6 (some .int) 0 zt_X9_again := zo_t zx_X9_again_0 (zo_t zx_X9_again_16 (zo_t zx_X9_again_32 (zo_t zx_X9_again_48 (zo_t zx_X9_again_64 (zo_t zx_X9_again_80 (zo_t zx_X9_again_96 (zo_t zx_X9_again_112 (zo_t zx_X9_again_128 (zo_tz)))))))))
set_option maxRecDepth 100000 in
theorem zg_X9_common : zi_okt zi_mt yX9_common cX9_common 10 (some .long) 0 zt_X9_common := zo_t zx_X9_common_0 (zo_t zx_X9_common_16 (zo_t zx_X9_common_32 (zo_tz)))
set_option maxRecDepth 100000 in
theorem zg_X9_odds : zi_okt zi_mt yX9_odds cX9_odds 8 (some .long) 0 zt_X9_odds := zo_t zx_X9_odds_0 (zo_t zx_X9_odds_16 (zo_t zx_X9_odds_32 (zo_t zx_X9_odds_48 (zo_t zx_X9_odds_64 (zo_t zx_X9_odds_80 (zo_tz))))))
set_option maxRecDepth 100000 in
theorem zg_X9_see : zi_okt zi_mt yX9_see cX9_see 3 (some .int) 0 zt_X9_see := zo_t zx_X9_see_0 (zo_t zx_X9_see_16 (zo_t zx_X9_see_32 (zo_t zx_X9_see_48 (zo_t zx_X9_see_64 (zo_t zx_X9_see_80 (zo_tz))))))
set_option maxRecDepth 100000 in
theorem zg_X9_forget : zi_okt zi_mt yX9_forget cX9_forget 3 (some .int) 0 zt_X9_forget := zo_t zx_X9_forget_0 (zo_t zx_X9_forget_16 (zo_t zx_X9_forget_32 (zo_tz)))
set_option maxRecDepth 100000 in
theorem zg_X9_isSo : zi_okt zi_mt yX9_isSo cX9_isSo 4 (some .boolean) 0 zt_X9_isSo := zo_t zx_X9_isSo_0 (zo_t zx_X9_isSo_16 (zo_t zx_X9_isSo_32 (zo_t zx_X9_isSo_48 (zo_tz))))
set_option maxRecDepth 100000 in
theorem zg_X9_cutters : zi_okt zi_mt yX9_cutters cX9_cutters 3 (some .int) 0 zt_X9_cutters := zo_t zx_X9_cutters_0 (zo_t zx_X9_cutters_16 (zo_t zx_X9_cutters_32 (zo_tz)))
set_option maxRecDepth 100000 in
theorem zg_X9_fits : zi_okt zi_mt yX9_fits cX9_fits 8 (some .int) 0 zt_X9_fits := zo_t zx_X9_fits_0 (zo_t zx_X9_fits_16 (zo_t zx_X9_fits_32 (zo_t zx_X9_fits_48 (zo_t zx_X9_fits_64 (zo_t zx_X9_fits_80 (zo_t zx_X9_fits_96 (zo_t zx_X9_fits_112 (zo_t zx_X9_fits_128 (zo_t zx_X9_fits_144 (zo_t zx_X9_fits_160 (zo_tz)))))))))))
set_option maxRecDepth 100000 in
theorem zg_X9_copies : zi_okt zi_mt yX9_copies cX9_copies 4 none 0 zt_X9_copies := zo_t zx_X9_copies_0 (zo_t zx_X9_copies_16 (zo_tz))
set_option maxRecDepth 100000 in
theorem zg_X9_keep : zi_okt zi_mt yX9_keep cX9_keep 3 (some .int) 0 zt_X9_keep := zo_t zx_X9_keep_0 (zo_t zx_X9_keep_16 (zo_t zx_X9_keep_32 (zo_tz)))
set_option maxRecDepth 100000 in
theorem zg_X9_back : zi_okt zi_mt yX9_back cX9_back 2 (some .int) 0 zt_X9_back := zo_t zx_X9_back_0 (zo_t zx_X9_back_16 (zo_t zx_X9_back_32 (zo_tz)))
set_option maxRecDepth 100000 in
theorem zg_X9_isSheet : zi_okt zi_mt yX9_isSheet cX9_isSheet 2 (some .boolean) 0 zt_X9_isSheet := zo_t zx_X9_isSheet_0 (zo_t zx_X9_isSheet_16 (zo_tz))
set_option maxRecDepth 100000 in
theorem zg_X9_sheet : zi_okt zi_mt yX9_sheet cX9_sheet 5 (some .int) 0 zt_X9_sheet := zo_t zx_X9_sheet_0 (zo_t zx_X9_sheet_16 (zo_t zx_X9_sheet_32 (zo_t zx_X9_sheet_48 (zo_t zx_X9_sheet_64 (zo_tz)))))
set_option maxRecDepth 100000 in
theorem zg_X9_lay : zi_okt zi_mt yX9_lay cX9_lay 4 (some .int) 0 zt_X9_lay := zo_t zx_X9_lay_0 (zo_t zx_X9_lay_16 (zo_t zx_X9_lay_32 (zo_t zx_X9_lay_48 (zo_t zx_X9_lay_64 (zo_t zx_X9_lay_80 (zo_tz))))))
set_option maxRecDepth 100000 in
theorem zg_X9_read : zi_okt zi_mt yX9_read cX9_read 12 (some .int) 0 zt_X9_read := zo_t zx_X9_read_0 (zo_t zx_X9_read_16 (zo_t zx_X9_read_32 (zo_t zx_X9_read_48 (zo_t zx_X9_read_64 (zo_t zx_X9_read_80 (zo_t zx_X9_read_96 (zo_t zx_X9_read_112 (zo_t zx_X9_read_128 (zo_t zx_X9_read_144 (zo_t zx_X9_read_160 (zo_t zx_X9_read_176 (zo_t zx_X9_read_192 (zo_t zx_X9_read_208 (zo_t zx_X9_read_224 (zo_tz)))))))))))))))
set_option maxRecDepth 100000 in
theorem zg_X9_torn : zi_okt zi_mt yX9_torn cX9_torn 1 (some .int) 0 zt_X9_torn := zo_t zx_X9_torn_0 (zo_tz)
set_option maxRecDepth 100000 in
theorem zg_X9_count : zi_okt zi_mt yX9_count cX9_count 4 (some .int) 0 zt_X9_count := zo_t zx_X9_count_0 (zo_t zx_X9_count_16 (zo_t zx_X9_count_32 (zo_t zx_X9_count_48 (zo_t zx_X9_count_64 (zo_t zx_X9_count_80 (zo_t zx_X9_count_96 (zo_t zx_X9_count_112 (zo_t zx_X9_count_128 (zo_t zx_X9_count_144 (zo_tz))))))))))
set_option maxRecDepth 100000 in
theorem zg_J6_bitCount_0f7a4 : zi_okt zi_mt yJ6_bitCount_0f7a4 cJ6_bitCount_0f7a4 1 (some .int) 0 zt_J6_bitCount_0f7a4 := zo_t zx_J6_bitCount_0f7a4_0 (zo_t zx_J6_bitCount_0f7a4_16 (zo_t zx_J6_bitCount_0f7a4_32 (zo_t zx_J6_bitCount_0f7a4_48 (zo_tz))))
set_option maxRecDepth 100000 in
theorem zg_J7_fill_53178 : zi_okt zi_mt yJ7_fill_53178 cJ7_fill_53178 4 none 0 zt_J7_fill_53178 := zo_t zx_J7_fill_53178_0 (zo_t zx_J7_fill_53178_16 (zo_tz))
set_option maxRecDepth 100000 in
theorem zg_L_law : zi_okt zi_mt yL_law cL_law 4 (some .boolean) 0 zt_L_law := zo_t zx_L_law_0 (zo_t zx_L_law_16 (zo_t zx_L_law_32 (zo_t zx_L_law_48 (zo_t zx_L_law_64 (zo_t zx_L_law_80 (zo_t zx_L_law_96 (zo_t zx_L_law_112 (zo_t zx_L_law_128 (zo_t zx_L_law_144 (zo_t zx_L_law_160 (zo_t zx_L_law_176 (zo_t zx_L_law_192 (zo_t zx_L_law_208 (zo_t zx_L_law_224 (zo_t zx_L_law_240 (zo_t zx_L_law_256 (zo_t zx_L_law_272 (zo_t zx_L_law_288 (zo_t zx_L_law_304 (zo_t zx_L_law_320 (zo_t zx_L_law_336 (zo_t zx_L_law_352 (zo_t zx_L_law_368 (zo_t zx_L_law_384 (zo_t zx_L_law_400 (zo_t zx_L_law_416 (zo_t zx_L_law_432 (zo_t zx_L_law_448 (zo_t zx_L_law_464 (zo_t zx_L_law_480 (zo_t zx_L_law_496 (zo_t zx_L_law_512 (zo_t zx_L_law_528 (zo_t zx_L_law_544 (zo_t zx_L_law_560 (zo_t zx_L_law_576 (zo_t zx_L_law_592 (zo_t zx_L_law_608 (zo_t zx_L_law_624 (zo_t zx_L_law_640 (zo_t zx_L_law_656 (zo_t zx_L_law_672 (zo_t zx_L_law_688 (zo_t zx_L_law_704 (zo_t zx_L_law_720 (zo_t zx_L_law_736 (zo_t zx_L_law_752 (zo_t zx_L_law_768 (zo_t zx_L_law_784 (zo_t zx_L_law_800 (zo_t zx_L_law_816 (zo_t zx_L_law_832 (zo_t zx_L_law_848 (zo_t zx_L_law_864 (zo_t zx_L_law_880 (zo_t zx_L_law_896 (zo_t zx_L_law_912 (zo_t zx_L_law_928 (zo_t zx_L_law_944 (zo_t zx_L_law_960 (zo_t zx_L_law_976 (zo_t zx_L_law_992 (zo_t zx_L_law_1008 (zo_t zx_L_law_1024 (zo_t zx_L_law_1040 (zo_t zx_L_law_1056 (zo_t zx_L_law_1072 (zo_t zx_L_law_1088 (zo_t zx_L_law_1104 (zo_t zx_L_law_1120 (zo_t zx_L_law_1136 (zo_t zx_L_law_1152 (zo_t zx_L_law_1168 (zo_t zx_L_law_1184 (zo_t zx_L_law_1200 (zo_t zx_L_law_1216 (zo_tz)))))))))))))))))))))))))))))))))))))))))))))))))))))))))))))))))))))))))))))
set_option maxRecDepth 100000 in
theorem zh_X0_init : zi_mok zi_mt zm_X0_init := ⟨(zi_tab zg_X0_init).1, (zi_tab zg_X0_init).2, by decide⟩
set_option maxRecDepth 100000 in
theorem zh_X0_fewest : zi_mok zi_mt zm_X0_fewest := ⟨(zi_tab zg_X0_fewest).1, (zi_tab zg_X0_fewest).2, by decide⟩
set_option maxRecDepth 100000 in
theorem zh_X0_brings : zi_mok zi_mt zm_X0_brings := ⟨(zi_tab zg_X0_brings).1, (zi_tab zg_X0_brings).2, by decide⟩
set_option maxRecDepth 100000 in
theorem zh_X0_cutOf : zi_mok zi_mt zm_X0_cutOf := ⟨(zi_tab zg_X0_cutOf).1, (zi_tab zg_X0_cutOf).2, by decide⟩
set_option maxRecDepth 100000 in
theorem zh_X1_init : zi_mok zi_mt zm_X1_init := ⟨(zi_tab zg_X1_init).1, (zi_tab zg_X1_init).2, by decide⟩
set_option maxRecDepth 100000 in
theorem zh_X1_clear : zi_mok zi_mt zm_X1_clear := ⟨(zi_tab zg_X1_clear).1, (zi_tab zg_X1_clear).2, by decide⟩
set_option maxRecDepth 100000 in
theorem zh_X1_take : zi_mok zi_mt zm_X1_take := ⟨(zi_tab zg_X1_take).1, (zi_tab zg_X1_take).2, by decide⟩
set_option maxRecDepth 100000 in
theorem zh_X1_takeLine : zi_mok zi_mt zm_X1_takeLine := ⟨(zi_tab zg_X1_takeLine).1, (zi_tab zg_X1_takeLine).2, by decide⟩
set_option maxRecDepth 100000 in
theorem zh_X1_comesOnce : zi_mok zi_mt zm_X1_comesOnce := ⟨(zi_tab zg_X1_comesOnce).1, (zi_tab zg_X1_comesOnce).2, by decide⟩
set_option maxRecDepth 100000 in
theorem zh_X1_takePlain : zi_mok zi_mt zm_X1_takePlain := ⟨(zi_tab zg_X1_takePlain).1, (zi_tab zg_X1_takePlain).2, by decide⟩
set_option maxRecDepth 100000 in
theorem zh_X1_takeRow : zi_mok zi_mt zm_X1_takeRow := ⟨(zi_tab zg_X1_takeRow).1, (zi_tab zg_X1_takeRow).2, by decide⟩
set_option maxRecDepth 100000 in
theorem zh_X1_takeSpring : zi_mok zi_mt zm_X1_takeSpring := ⟨(zi_tab zg_X1_takeSpring).1, (zi_tab zg_X1_takeSpring).2, by decide⟩
set_option maxRecDepth 100000 in
theorem zh_X1_takeFarm : zi_mok zi_mt zm_X1_takeFarm := ⟨(zi_tab zg_X1_takeFarm).1, (zi_tab zg_X1_takeFarm).2, by decide⟩
set_option maxRecDepth 100000 in
theorem zh_X1_takeGround : zi_mok zi_mt zm_X1_takeGround := ⟨(zi_tab zg_X1_takeGround).1, (zi_tab zg_X1_takeGround).2, by decide⟩
set_option maxRecDepth 100000 in
theorem zh_X1_takeLaw : zi_mok zi_mt zm_X1_takeLaw := ⟨(zi_tab zg_X1_takeLaw).1, (zi_tab zg_X1_takeLaw).2, by decide⟩
set_option maxRecDepth 100000 in
theorem zh_X1_takeSilt : zi_mok zi_mt zm_X1_takeSilt := ⟨(zi_tab zg_X1_takeSilt).1, (zi_tab zg_X1_takeSilt).2, by decide⟩
set_option maxRecDepth 100000 in
theorem zh_X1_isWhole : zi_mok zi_mt zm_X1_isWhole := ⟨(zi_tab zg_X1_isWhole).1, (zi_tab zg_X1_isWhole).2, by decide⟩
set_option maxRecDepth 100000 in
theorem zh_X1_settle : zi_mok zi_mt zm_X1_settle := ⟨(zi_tab zg_X1_settle).1, (zi_tab zg_X1_settle).2, by decide⟩
set_option maxRecDepth 100000 in
theorem zh_X1_raise : zi_mok zi_mt zm_X1_raise := ⟨(zi_tab zg_X1_raise).1, (zi_tab zg_X1_raise).2, by decide⟩
set_option maxRecDepth 100000 in
theorem zh_X2_init : zi_mok zi_mt zm_X2_init := ⟨(zi_tab zg_X2_init).1, (zi_tab zg_X2_init).2, by decide⟩
set_option maxRecDepth 100000 in
theorem zh_X2_copy : zi_mok zi_mt zm_X2_copy := ⟨(zi_tab zg_X2_copy).1, (zi_tab zg_X2_copy).2, by decide⟩
set_option maxRecDepth 100000 in
theorem zh_X2_trace : zi_mok zi_mt zm_X2_trace := ⟨(zi_tab zg_X2_trace).1, (zi_tab zg_X2_trace).2, by decide⟩
set_option maxRecDepth 100000 in
theorem zh_X2_lowestNextTo : zi_mok zi_mt zm_X2_lowestNextTo := ⟨(zi_tab zg_X2_lowestNextTo).1, (zi_tab zg_X2_lowestNextTo).2, by decide⟩
set_option maxRecDepth 100000 in
theorem zh_X2_cuttable : zi_mok zi_mt zm_X2_cuttable := ⟨(zi_tab zg_X2_cuttable).1, (zi_tab zg_X2_cuttable).2, by decide⟩
set_option maxRecDepth 100000 in
theorem zh_X2_refused : zi_mok zi_mt zm_X2_refused := ⟨(zi_tab zg_X2_refused).1, (zi_tab zg_X2_refused).2, by decide⟩
set_option maxRecDepth 100000 in
theorem zh_X2_possibleYears : zi_mok zi_mt zm_X2_possibleYears := ⟨(zi_tab zg_X2_possibleYears).1, (zi_tab zg_X2_possibleYears).2, by decide⟩
set_option maxRecDepth 100000 in
theorem zh_X2_allParts : zi_mok zi_mt zm_X2_allParts := ⟨(zi_tab zg_X2_allParts).1, (zi_tab zg_X2_allParts).2, by decide⟩
set_option maxRecDepth 100000 in
theorem zh_X2_pass : zi_mok zi_mt zm_X2_pass := ⟨(zi_tab zg_X2_pass).1, (zi_tab zg_X2_pass).2, by decide⟩
set_option maxRecDepth 100000 in
theorem zh_X2_carrySilt : zi_mok zi_mt zm_X2_carrySilt := ⟨(zi_tab zg_X2_carrySilt).1, (zi_tab zg_X2_carrySilt).2, by decide⟩
set_option maxRecDepth 100000 in
theorem zh_X3_init : zi_mok zi_mt zm_X3_init := ⟨(zi_tab zg_X3_init).1, (zi_tab zg_X3_init).2, by decide⟩
set_option maxRecDepth 100000 in
theorem zh_X3_hasCell : zi_mok zi_mt zm_X3_hasCell := ⟨(zi_tab zg_X3_hasCell).1, (zi_tab zg_X3_hasCell).2, by decide⟩
set_option maxRecDepth 100000 in
theorem zh_X3_hasFarm : zi_mok zi_mt zm_X3_hasFarm := ⟨(zi_tab zg_X3_hasFarm).1, (zi_tab zg_X3_hasFarm).2, by decide⟩
set_option maxRecDepth 100000 in
theorem zh_X3_ownerOf : zi_mok zi_mt zm_X3_ownerOf := ⟨(zi_tab zg_X3_ownerOf).1, (zi_tab zg_X3_ownerOf).2, by decide⟩
set_option maxRecDepth 100000 in
theorem zh_X3_join : zi_mok zi_mt zm_X3_join := ⟨(zi_tab zg_X3_join).1, (zi_tab zg_X3_join).2, by decide⟩
set_option maxRecDepth 100000 in
theorem zh_X3_beside : zi_mok zi_mt zm_X3_beside := ⟨(zi_tab zg_X3_beside).1, (zi_tab zg_X3_beside).2, by decide⟩
set_option maxRecDepth 100000 in
theorem zh_X4_init : zi_mok zi_mt zm_X4_init := ⟨(zi_tab zg_X4_init).1, (zi_tab zg_X4_init).2, by decide⟩
set_option maxRecDepth 100000 in
theorem zh_X4_build : zi_mok zi_mt zm_X4_build := ⟨(zi_tab zg_X4_build).1, (zi_tab zg_X4_build).2, by decide⟩
set_option maxRecDepth 100000 in
theorem zh_X4_list : zi_mok zi_mt zm_X4_list := ⟨(zi_tab zg_X4_list).1, (zi_tab zg_X4_list).2, by decide⟩
set_option maxRecDepth 100000 in
theorem zh_X4_indexOf : zi_mok zi_mt zm_X4_indexOf := ⟨(zi_tab zg_X4_indexOf).1, (zi_tab zg_X4_indexOf).2, by decide⟩
set_option maxRecDepth 100000 in
theorem zh_X4_breakers : zi_mok zi_mt zm_X4_breakers := ⟨(zi_tab zg_X4_breakers).1, (zi_tab zg_X4_breakers).2, by decide⟩
set_option maxRecDepth 100000 in
theorem zh_X4_placeOf : zi_mok zi_mt zm_X4_placeOf := ⟨(zi_tab zg_X4_placeOf).1, (zi_tab zg_X4_placeOf).2, by decide⟩
set_option maxRecDepth 100000 in
theorem zh_X4_chosen : zi_mok zi_mt zm_X4_chosen := ⟨(zi_tab zg_X4_chosen).1, (zi_tab zg_X4_chosen).2, by decide⟩
set_option maxRecDepth 100000 in
theorem zh_X5_init : zi_mok zi_mt zm_X5_init := ⟨(zi_tab zg_X5_init).1, (zi_tab zg_X5_init).2, by decide⟩
set_option maxRecDepth 100000 in
theorem zh_X5_hasSheet : zi_mok zi_mt zm_X5_hasSheet := ⟨(zi_tab zg_X5_hasSheet).1, (zi_tab zg_X5_hasSheet).2, by decide⟩
set_option maxRecDepth 100000 in
theorem zh_X5_hasLane : zi_mok zi_mt zm_X5_hasLane := ⟨(zi_tab zg_X5_hasLane).1, (zi_tab zg_X5_hasLane).2, by decide⟩
set_option maxRecDepth 100000 in
theorem zh_X5_renew : zi_mok zi_mt zm_X5_renew := ⟨(zi_tab zg_X5_renew).1, (zi_tab zg_X5_renew).2, by decide⟩
set_option maxRecDepth 100000 in
theorem zh_X5_takeFault : zi_mok zi_mt zm_X5_takeFault := ⟨(zi_tab zg_X5_takeFault).1, (zi_tab zg_X5_takeFault).2, by decide⟩
set_option maxRecDepth 100000 in
theorem zh_X5_reachFault : zi_mok zi_mt zm_X5_reachFault := ⟨(zi_tab zg_X5_reachFault).1, (zi_tab zg_X5_reachFault).2, by decide⟩
set_option maxRecDepth 100000 in
theorem zh_X5_valueAt : zi_mok zi_mt zm_X5_valueAt := ⟨(zi_tab zg_X5_valueAt).1, (zi_tab zg_X5_valueAt).2, by decide⟩
set_option maxRecDepth 100000 in
theorem zh_X5_put : zi_mok zi_mt zm_X5_put := ⟨(zi_tab zg_X5_put).1, (zi_tab zg_X5_put).2, by decide⟩
set_option maxRecDepth 100000 in
theorem zh_X6_init : zi_mok zi_mt zm_X6_init := ⟨(zi_tab zg_X6_init).1, (zi_tab zg_X6_init).2, by decide⟩
set_option maxRecDepth 100000 in
theorem zh_X6_append : zi_mok zi_mt zm_X6_append := ⟨(zi_tab zg_X6_append).1, (zi_tab zg_X6_append).2, by decide⟩
set_option maxRecDepth 100000 in
theorem zh_X6_rewind : zi_mok zi_mt zm_X6_rewind := ⟨(zi_tab zg_X6_rewind).1, (zi_tab zg_X6_rewind).2, by decide⟩
set_option maxRecDepth 100000 in
theorem zh_X6_fail : zi_mok zi_mt zm_X6_fail := ⟨(zi_tab zg_X6_fail).1, (zi_tab zg_X6_fail).2, by decide⟩
set_option maxRecDepth 100000 in
theorem zh_X6_failBehindAll : zi_mok zi_mt zm_X6_failBehindAll := ⟨(zi_tab zg_X6_failBehindAll).1, (zi_tab zg_X6_failBehindAll).2, by decide⟩
set_option maxRecDepth 100000 in
theorem zh_X6_next : zi_mok zi_mt zm_X6_next := ⟨(zi_tab zg_X6_next).1, (zi_tab zg_X6_next).2, by decide⟩
set_option maxRecDepth 100000 in
theorem zh_X6_isLetter : zi_mok zi_mt zm_X6_isLetter := ⟨(zi_tab zg_X6_isLetter).1, (zi_tab zg_X6_isLetter).2, by decide⟩
set_option maxRecDepth 100000 in
theorem zh_X6_isFigure : zi_mok zi_mt zm_X6_isFigure := ⟨(zi_tab zg_X6_isFigure).1, (zi_tab zg_X6_isFigure).2, by decide⟩
set_option maxRecDepth 100000 in
theorem zh_X6_says : zi_mok zi_mt zm_X6_says := ⟨(zi_tab zg_X6_says).1, (zi_tab zg_X6_says).2, by decide⟩
set_option maxRecDepth 100000 in
theorem zh_X6_isNumber : zi_mok zi_mt zm_X6_isNumber := ⟨(zi_tab zg_X6_isNumber).1, (zi_tab zg_X6_isNumber).2, by decide⟩
set_option maxRecDepth 100000 in
theorem zh_X6_nextNumber : zi_mok zi_mt zm_X6_nextNumber := ⟨(zi_tab zg_X6_nextNumber).1, (zi_tab zg_X6_nextNumber).2, by decide⟩
set_option maxRecDepth 100000 in
theorem zh_X6_nextStop : zi_mok zi_mt zm_X6_nextStop := ⟨(zi_tab zg_X6_nextStop).1, (zi_tab zg_X6_nextStop).2, by decide⟩
set_option maxRecDepth 100000 in
theorem zh_X7_init : zi_mok zi_mt zm_X7_init := ⟨(zi_tab zg_X7_init).1, (zi_tab zg_X7_init).2, by decide⟩
set_option maxRecDepth 100000 in
theorem zh_X7_copy : zi_mok zi_mt zm_X7_copy := ⟨(zi_tab zg_X7_copy).1, (zi_tab zg_X7_copy).2, by decide⟩
set_option maxRecDepth 100000 in
theorem zh_X7_gain : zi_mok zi_mt zm_X7_gain := ⟨(zi_tab zg_X7_gain).1, (zi_tab zg_X7_gain).2, by decide⟩
set_option maxRecDepth 100000 in
theorem zh_X7_agrees : zi_mok zi_mt zm_X7_agrees := ⟨(zi_tab zg_X7_agrees).1, (zi_tab zg_X7_agrees).2, by decide⟩
set_option maxRecDepth 100000 in
theorem zh_X8_init : zi_mok zi_mt zm_X8_init := ⟨(zi_tab zg_X8_init).1, (zi_tab zg_X8_init).2, by decide⟩
set_option maxRecDepth 100000 in
theorem zh_X8_feed : zi_mok zi_mt zm_X8_feed := ⟨(zi_tab zg_X8_feed).1, (zi_tab zg_X8_feed).2, by decide⟩
set_option maxRecDepth 100000 in
theorem zh_X8_end : zi_mok zi_mt zm_X8_end := ⟨(zi_tab zg_X8_end).1, (zi_tab zg_X8_end).2, by decide⟩
set_option maxRecDepth 100000 in
theorem zh_X8_text : zi_mok zi_mt zm_X8_text := ⟨(zi_tab zg_X8_text).1, (zi_tab zg_X8_text).2, by decide⟩
set_option maxRecDepth 100000 in
theorem zh_X8_fault : zi_mok zi_mt zm_X8_fault := ⟨(zi_tab zg_X8_fault).1, (zi_tab zg_X8_fault).2, by decide⟩
set_option maxRecDepth 100000 in
theorem zh_X8_rule : zi_mok zi_mt zm_X8_rule := ⟨(zi_tab zg_X8_rule).1, (zi_tab zg_X8_rule).2, by decide⟩
set_option maxRecDepth 100000 in
theorem zh_X8_cell : zi_mok zi_mt zm_X8_cell := ⟨(zi_tab zg_X8_cell).1, (zi_tab zg_X8_cell).2, by decide⟩
set_option maxRecDepth 100000 in
theorem zh_X8_farm : zi_mok zi_mt zm_X8_farm := ⟨(zi_tab zg_X8_farm).1, (zi_tab zg_X8_farm).2, by decide⟩
set_option maxRecDepth 100000 in
theorem zh_X8_bed : zi_mok zi_mt zm_X8_bed := ⟨(zi_tab zg_X8_bed).1, (zi_tab zg_X8_bed).2, by decide⟩
set_option maxRecDepth 100000 in
theorem zh_X8_dam : zi_mok zi_mt zm_X8_dam := ⟨(zi_tab zg_X8_dam).1, (zi_tab zg_X8_dam).2, by decide⟩
set_option maxRecDepth 100000 in
theorem zh_X8_move : zi_mok zi_mt zm_X8_move := ⟨(zi_tab zg_X8_move).1, (zi_tab zg_X8_move).2, by decide⟩
set_option maxRecDepth 100000 in
theorem zh_X8_law : zi_mok zi_mt zm_X8_law := ⟨(zi_tab zg_X8_law).1, (zi_tab zg_X8_law).2, by decide⟩
set_option maxRecDepth 100000 in
theorem zh_X8_silt : zi_mok zi_mt zm_X8_silt := ⟨(zi_tab zg_X8_silt).1, (zi_tab zg_X8_silt).2, by decide⟩
set_option maxRecDepth 100000 in
theorem zh_X8_price : zi_mok zi_mt zm_X8_price := ⟨(zi_tab zg_X8_price).1, (zi_tab zg_X8_price).2, by decide⟩
set_option maxRecDepth 100000 in
theorem zh_X8_retrace : zi_mok zi_mt zm_X8_retrace := ⟨(zi_tab zg_X8_retrace).1, (zi_tab zg_X8_retrace).2, by decide⟩
set_option maxRecDepth 100000 in
theorem zh_X8_year : zi_mok zi_mt zm_X8_year := ⟨(zi_tab zg_X8_year).1, (zi_tab zg_X8_year).2, by decide⟩
set_option maxRecDepth 100000 in
theorem zh_X8_would : zi_mok zi_mt zm_X8_would := ⟨(zi_tab zg_X8_would).1, (zi_tab zg_X8_would).2, by decide⟩
set_option maxRecDepth 100000 in
theorem zh_X8_tell : zi_mok zi_mt zm_X8_tell := ⟨(zi_tab zg_X8_tell).1, (zi_tab zg_X8_tell).2, by decide⟩
set_option maxRecDepth 100000 in
theorem zh_X8_drop : zi_mok zi_mt zm_X8_drop := ⟨(zi_tab zg_X8_drop).1, (zi_tab zg_X8_drop).2, by decide⟩
set_option maxRecDepth 100000 in
theorem zh_X8_judge : zi_mok zi_mt zm_X8_judge := ⟨(zi_tab zg_X8_judge).1, (zi_tab zg_X8_judge).2, by decide⟩
set_option maxRecDepth 100000 in
theorem zh_X8_refusal : zi_mok zi_mt zm_X8_refusal := ⟨(zi_tab zg_X8_refusal).1, (zi_tab zg_X8_refusal).2, by decide⟩
set_option maxRecDepth 100000 in
theorem zh_X8_isNumber : zi_mok zi_mt zm_X8_isNumber := ⟨(zi_tab zg_X8_isNumber).1, (zi_tab zg_X8_isNumber).2, by decide⟩
set_option maxRecDepth 100000 in
theorem zh_X8_option : zi_mok zi_mt zm_X8_option := ⟨(zi_tab zg_X8_option).1, (zi_tab zg_X8_option).2, by decide⟩
set_option maxRecDepth 100000 in
theorem zh_X8_numberOf : zi_mok zi_mt zm_X8_numberOf := ⟨(zi_tab zg_X8_numberOf).1, (zi_tab zg_X8_numberOf).2, by decide⟩
set_option maxRecDepth 100000 in
theorem zh_X8_has : zi_mok zi_mt zm_X8_has := ⟨(zi_tab zg_X8_has).1, (zi_tab zg_X8_has).2, by decide⟩
set_option maxRecDepth 100000 in
theorem zh_X8_alone : zi_mok zi_mt zm_X8_alone := ⟨(zi_tab zg_X8_alone).1, (zi_tab zg_X8_alone).2, by decide⟩
set_option maxRecDepth 100000 in
theorem zh_X8_together : zi_mok zi_mt zm_X8_together := ⟨(zi_tab zg_X8_together).1, (zi_tab zg_X8_together).2, by decide⟩
set_option maxRecDepth 100000 in
theorem zh_X8_lookAhead : zi_mok zi_mt zm_X8_lookAhead := ⟨(zi_tab zg_X8_lookAhead).1, (zi_tab zg_X8_lookAhead).2, by decide⟩
set_option maxRecDepth 100000 in
theorem zh_X8_cutters : zi_mok zi_mt zm_X8_cutters := ⟨(zi_tab zg_X8_cutters).1, (zi_tab zg_X8_cutters).2, by decide⟩
set_option maxRecDepth 100000 in
theorem zh_X8_selfish : zi_mok zi_mt zm_X8_selfish := ⟨(zi_tab zg_X8_selfish).1, (zi_tab zg_X8_selfish).2, by decide⟩
set_option maxRecDepth 100000 in
theorem zh_X8_rests : zi_mok zi_mt zm_X8_rests := ⟨(zi_tab zg_X8_rests).1, (zi_tab zg_X8_rests).2, by decide⟩
set_option maxRecDepth 100000 in
theorem zh_X8_breaks : zi_mok zi_mt zm_X8_breaks := ⟨(zi_tab zg_X8_breaks).1, (zi_tab zg_X8_breaks).2, by decide⟩
set_option maxRecDepth 100000 in
theorem zh_X8_stands : zi_mok zi_mt zm_X8_stands := ⟨(zi_tab zg_X8_stands).1, (zi_tab zg_X8_stands).2, by decide⟩
set_option maxRecDepth 100000 in
theorem zh_X8_again : zi_mok zi_mt zm_X8_again := ⟨(zi_tab zg_X8_again).1, (zi_tab zg_X8_again).2, by decide⟩
set_option maxRecDepth 100000 in
theorem zh_X8_note : zi_mok zi_mt zm_X8_note := ⟨(zi_tab zg_X8_note).1, (zi_tab zg_X8_note).2, by decide⟩
set_option maxRecDepth 100000 in
theorem zh_X8_firstAlike : zi_mok zi_mt zm_X8_firstAlike := ⟨(zi_tab zg_X8_firstAlike).1, (zi_tab zg_X8_firstAlike).2, by decide⟩
set_option maxRecDepth 100000 in
theorem zh_X8_isAlike : zi_mok zi_mt zm_X8_isAlike := ⟨(zi_tab zg_X8_isAlike).1, (zi_tab zg_X8_isAlike).2, by decide⟩
set_option maxRecDepth 100000 in
theorem zh_X8_odds : zi_mok zi_mt zm_X8_odds := ⟨(zi_tab zg_X8_odds).1, (zi_tab zg_X8_odds).2, by decide⟩
set_option maxRecDepth 100000 in
theorem zh_X8_commonDivisor : zi_mok zi_mt zm_X8_commonDivisor := ⟨(zi_tab zg_X8_commonDivisor).1, (zi_tab zg_X8_commonDivisor).2, by decide⟩
set_option maxRecDepth 100000 in
theorem zh_X8_see : zi_mok zi_mt zm_X8_see := ⟨(zi_tab zg_X8_see).1, (zi_tab zg_X8_see).2, by decide⟩
set_option maxRecDepth 100000 in
theorem zh_X8_forget : zi_mok zi_mt zm_X8_forget := ⟨(zi_tab zg_X8_forget).1, (zi_tab zg_X8_forget).2, by decide⟩
set_option maxRecDepth 100000 in
theorem zh_X8_fits : zi_mok zi_mt zm_X8_fits := ⟨(zi_tab zg_X8_fits).1, (zi_tab zg_X8_fits).2, by decide⟩
set_option maxRecDepth 100000 in
theorem zh_X8_keep : zi_mok zi_mt zm_X8_keep := ⟨(zi_tab zg_X8_keep).1, (zi_tab zg_X8_keep).2, by decide⟩
set_option maxRecDepth 100000 in
theorem zh_X8_back : zi_mok zi_mt zm_X8_back := ⟨(zi_tab zg_X8_back).1, (zi_tab zg_X8_back).2, by decide⟩
set_option maxRecDepth 100000 in
theorem zh_X8_imageOf : zi_mok zi_mt zm_X8_imageOf := ⟨(zi_tab zg_X8_imageOf).1, (zi_tab zg_X8_imageOf).2, by decide⟩
set_option maxRecDepth 100000 in
theorem zh_X8_sheet : zi_mok zi_mt zm_X8_sheet := ⟨(zi_tab zg_X8_sheet).1, (zi_tab zg_X8_sheet).2, by decide⟩
set_option maxRecDepth 100000 in
theorem zh_X8_lay : zi_mok zi_mt zm_X8_lay := ⟨(zi_tab zg_X8_lay).1, (zi_tab zg_X8_lay).2, by decide⟩
set_option maxRecDepth 100000 in
theorem zh_X8_read : zi_mok zi_mt zm_X8_read := ⟨(zi_tab zg_X8_read).1, (zi_tab zg_X8_read).2, by decide⟩
set_option maxRecDepth 100000 in
theorem zh_X8_torn : zi_mok zi_mt zm_X8_torn := ⟨(zi_tab zg_X8_torn).1, (zi_tab zg_X8_torn).2, by decide⟩
set_option maxRecDepth 100000 in
theorem zh_X8_count : zi_mok zi_mt zm_X8_count := ⟨(zi_tab zg_X8_count).1, (zi_tab zg_X8_count).2, by decide⟩
set_option maxRecDepth 100000 in
theorem zh_X9_init : zi_mok zi_mt zm_X9_init := ⟨(zi_tab zg_X9_init).1, (zi_tab zg_X9_init).2, by decide⟩
set_option maxRecDepth 100000 in
theorem zh_X9_in : zi_mok zi_mt zm_X9_in := ⟨(zi_tab zg_X9_in).1, (zi_tab zg_X9_in).2, by decide⟩
set_option maxRecDepth 100000 in
theorem zh_X9_flag : zi_mok zi_mt zm_X9_flag := ⟨(zi_tab zg_X9_flag).1, (zi_tab zg_X9_flag).2, by decide⟩
set_option maxRecDepth 100000 in
theorem zh_X9_firstDraft : zi_mok zi_mt zm_X9_firstDraft := ⟨(zi_tab zg_X9_firstDraft).1, (zi_tab zg_X9_firstDraft).2, by decide⟩
set_option maxRecDepth 100000 in
theorem zh_X9_keepDraft : zi_mok zi_mt zm_X9_keepDraft := ⟨(zi_tab zg_X9_keepDraft).1, (zi_tab zg_X9_keepDraft).2, by decide⟩
set_option maxRecDepth 100000 in
theorem zh_X9_feed : zi_mok zi_mt zm_X9_feed := ⟨(zi_tab zg_X9_feed).1, (zi_tab zg_X9_feed).2, by decide⟩
set_option maxRecDepth 100000 in
theorem zh_X9_end : zi_mok zi_mt zm_X9_end := ⟨(zi_tab zg_X9_end).1, (zi_tab zg_X9_end).2, by decide⟩
set_option maxRecDepth 100000 in
theorem zh_X9_needs : zi_mok zi_mt zm_X9_needs := ⟨(zi_tab zg_X9_needs).1, (zi_tab zg_X9_needs).2, by decide⟩
set_option maxRecDepth 100000 in
theorem zh_X9_look : zi_mok zi_mt zm_X9_look := ⟨(zi_tab zg_X9_look).1, (zi_tab zg_X9_look).2, by decide⟩
set_option maxRecDepth 100000 in
theorem zh_X9_is : zi_mok zi_mt zm_X9_is := ⟨(zi_tab zg_X9_is).1, (zi_tab zg_X9_is).2, by decide⟩
set_option maxRecDepth 100000 in
theorem zh_X9_ends : zi_mok zi_mt zm_X9_ends := ⟨(zi_tab zg_X9_ends).1, (zi_tab zg_X9_ends).2, by decide⟩
set_option maxRecDepth 100000 in
theorem zh_X9_ruleLine : zi_mok zi_mt zm_X9_ruleLine := ⟨(zi_tab zg_X9_ruleLine).1, (zi_tab zg_X9_ruleLine).2, by decide⟩
set_option maxRecDepth 100000 in
theorem zh_X9_lineNow : zi_mok zi_mt zm_X9_lineNow := ⟨(zi_tab zg_X9_lineNow).1, (zi_tab zg_X9_lineNow).2, by decide⟩
set_option maxRecDepth 100000 in
theorem zh_X9_next : zi_mok zi_mt zm_X9_next := ⟨(zi_tab zg_X9_next).1, (zi_tab zg_X9_next).2, by decide⟩
set_option maxRecDepth 100000 in
theorem zh_X9_looked : zi_mok zi_mt zm_X9_looked := ⟨(zi_tab zg_X9_looked).1, (zi_tab zg_X9_looked).2, by decide⟩
set_option maxRecDepth 100000 in
theorem zh_X9_readNumber : zi_mok zi_mt zm_X9_readNumber := ⟨(zi_tab zg_X9_readNumber).1, (zi_tab zg_X9_readNumber).2, by decide⟩
set_option maxRecDepth 100000 in
theorem zh_X9_readRow : zi_mok zi_mt zm_X9_readRow := ⟨(zi_tab zg_X9_readRow).1, (zi_tab zg_X9_readRow).2, by decide⟩
set_option maxRecDepth 100000 in
theorem zh_X9_sawCell : zi_mok zi_mt zm_X9_sawCell := ⟨(zi_tab zg_X9_sawCell).1, (zi_tab zg_X9_sawCell).2, by decide⟩
set_option maxRecDepth 100000 in
theorem zh_X9_readGround : zi_mok zi_mt zm_X9_readGround := ⟨(zi_tab zg_X9_readGround).1, (zi_tab zg_X9_readGround).2, by decide⟩
set_option maxRecDepth 100000 in
theorem zh_X9_readLineOf : zi_mok zi_mt zm_X9_readLineOf := ⟨(zi_tab zg_X9_readLineOf).1, (zi_tab zg_X9_readLineOf).2, by decide⟩
set_option maxRecDepth 100000 in
theorem zh_X9_readLine : zi_mok zi_mt zm_X9_readLine := ⟨(zi_tab zg_X9_readLine).1, (zi_tab zg_X9_readLine).2, by decide⟩
set_option maxRecDepth 100000 in
theorem zh_X9_text : zi_mok zi_mt zm_X9_text := ⟨(zi_tab zg_X9_text).1, (zi_tab zg_X9_text).2, by decide⟩
set_option maxRecDepth 100000 in
theorem zh_X9_fault : zi_mok zi_mt zm_X9_fault := ⟨(zi_tab zg_X9_fault).1, (zi_tab zg_X9_fault).2, by decide⟩
set_option maxRecDepth 100000 in
theorem zh_X9_isCell : zi_mok zi_mt zm_X9_isCell := ⟨(zi_tab zg_X9_isCell).1, (zi_tab zg_X9_isCell).2, by decide⟩
set_option maxRecDepth 100000 in
theorem zh_X9_isFarm : zi_mok zi_mt zm_X9_isFarm := ⟨(zi_tab zg_X9_isFarm).1, (zi_tab zg_X9_isFarm).2, by decide⟩
set_option maxRecDepth 100000 in
theorem zh_X9_isYear : zi_mok zi_mt zm_X9_isYear := ⟨(zi_tab zg_X9_isYear).1, (zi_tab zg_X9_isYear).2, by decide⟩
set_option maxRecDepth 100000 in
theorem zh_X9_beside : zi_mok zi_mt zm_X9_beside := ⟨(zi_tab zg_X9_beside).1, (zi_tab zg_X9_beside).2, by decide⟩
set_option maxRecDepth 100000 in
theorem zh_X9_lowestBeside : zi_mok zi_mt zm_X9_lowestBeside := ⟨(zi_tab zg_X9_lowestBeside).1, (zi_tab zg_X9_lowestBeside).2, by decide⟩
set_option maxRecDepth 100000 in
theorem zh_X9_findBed : zi_mok zi_mt zm_X9_findBed := ⟨(zi_tab zg_X9_findBed).1, (zi_tab zg_X9_findBed).2, by decide⟩
set_option maxRecDepth 100000 in
theorem zh_X9_bedNow : zi_mok zi_mt zm_X9_bedNow := ⟨(zi_tab zg_X9_bedNow).1, (zi_tab zg_X9_bedNow).2, by decide⟩
set_option maxRecDepth 100000 in
theorem zh_X9_hasNow : zi_mok zi_mt zm_X9_hasNow := ⟨(zi_tab zg_X9_hasNow).1, (zi_tab zg_X9_hasNow).2, by decide⟩
set_option maxRecDepth 100000 in
theorem zh_X9_isBeside : zi_mok zi_mt zm_X9_isBeside := ⟨(zi_tab zg_X9_isBeside).1, (zi_tab zg_X9_isBeside).2, by decide⟩
set_option maxRecDepth 100000 in
theorem zh_X9_mayCut : zi_mok zi_mt zm_X9_mayCut := ⟨(zi_tab zg_X9_mayCut).1, (zi_tab zg_X9_mayCut).2, by decide⟩
set_option maxRecDepth 100000 in
theorem zh_X9_rule : zi_mok zi_mt zm_X9_rule := ⟨(zi_tab zg_X9_rule).1, (zi_tab zg_X9_rule).2, by decide⟩
set_option maxRecDepth 100000 in
theorem zh_X9_cell : zi_mok zi_mt zm_X9_cell := ⟨(zi_tab zg_X9_cell).1, (zi_tab zg_X9_cell).2, by decide⟩
set_option maxRecDepth 100000 in
theorem zh_X9_farm : zi_mok zi_mt zm_X9_farm := ⟨(zi_tab zg_X9_farm).1, (zi_tab zg_X9_farm).2, by decide⟩
set_option maxRecDepth 100000 in
theorem zh_X9_bed : zi_mok zi_mt zm_X9_bed := ⟨(zi_tab zg_X9_bed).1, (zi_tab zg_X9_bed).2, by decide⟩
set_option maxRecDepth 100000 in
theorem zh_X9_becomes : zi_mok zi_mt zm_X9_becomes := ⟨(zi_tab zg_X9_becomes).1, (zi_tab zg_X9_becomes).2, by decide⟩
set_option maxRecDepth 100000 in
theorem zh_X9_dam : zi_mok zi_mt zm_X9_dam := ⟨(zi_tab zg_X9_dam).1, (zi_tab zg_X9_dam).2, by decide⟩
set_option maxRecDepth 100000 in
theorem zh_X9_move : zi_mok zi_mt zm_X9_move := ⟨(zi_tab zg_X9_move).1, (zi_tab zg_X9_move).2, by decide⟩
set_option maxRecDepth 100000 in
theorem zh_X9_law : zi_mok zi_mt zm_X9_law := ⟨(zi_tab zg_X9_law).1, (zi_tab zg_X9_law).2, by decide⟩
set_option maxRecDepth 100000 in
theorem zh_X9_silt : zi_mok zi_mt zm_X9_silt := ⟨(zi_tab zg_X9_silt).1, (zi_tab zg_X9_silt).2, by decide⟩
set_option maxRecDepth 100000 in
theorem zh_X9_price : zi_mok zi_mt zm_X9_price := ⟨(zi_tab zg_X9_price).1, (zi_tab zg_X9_price).2, by decide⟩
set_option maxRecDepth 100000 in
theorem zh_X9_marks : zi_mok zi_mt zm_X9_marks := ⟨(zi_tab zg_X9_marks).1, (zi_tab zg_X9_marks).2, by decide⟩
set_option maxRecDepth 100000 in
theorem zh_X9_returns : zi_mok zi_mt zm_X9_returns := ⟨(zi_tab zg_X9_returns).1, (zi_tab zg_X9_returns).2, by decide⟩
set_option maxRecDepth 100000 in
theorem zh_X9_cutOf : zi_mok zi_mt zm_X9_cutOf := ⟨(zi_tab zg_X9_cutOf).1, (zi_tab zg_X9_cutOf).2, by decide⟩
set_option maxRecDepth 100000 in
theorem zh_X9_timesOf : zi_mok zi_mt zm_X9_timesOf := ⟨(zi_tab zg_X9_timesOf).1, (zi_tab zg_X9_timesOf).2, by decide⟩
set_option maxRecDepth 100000 in
theorem zh_X9_firstWrong : zi_mok zi_mt zm_X9_firstWrong := ⟨(zi_tab zg_X9_firstWrong).1, (zi_tab zg_X9_firstWrong).2, by decide⟩
set_option maxRecDepth 100000 in
theorem zh_X9_canBe : zi_mok zi_mt zm_X9_canBe := ⟨(zi_tab zg_X9_canBe).1, (zi_tab zg_X9_canBe).2, by decide⟩
set_option maxRecDepth 100000 in
theorem zh_X9_silts : zi_mok zi_mt zm_X9_silts := ⟨(zi_tab zg_X9_silts).1, (zi_tab zg_X9_silts).2, by decide⟩
set_option maxRecDepth 100000 in
theorem zh_X9_goes : zi_mok zi_mt zm_X9_goes := ⟨(zi_tab zg_X9_goes).1, (zi_tab zg_X9_goes).2, by decide⟩
set_option maxRecDepth 100000 in
theorem zh_X9_year : zi_mok zi_mt zm_X9_year := ⟨(zi_tab zg_X9_year).1, (zi_tab zg_X9_year).2, by decide⟩
set_option maxRecDepth 100000 in
theorem zh_X9_hasBy : zi_mok zi_mt zm_X9_hasBy := ⟨(zi_tab zg_X9_hasBy).1, (zi_tab zg_X9_hasBy).2, by decide⟩
set_option maxRecDepth 100000 in
theorem zh_X9_bedBy : zi_mok zi_mt zm_X9_bedBy := ⟨(zi_tab zg_X9_bedBy).1, (zi_tab zg_X9_bedBy).2, by decide⟩
set_option maxRecDepth 100000 in
theorem zh_X9_would : zi_mok zi_mt zm_X9_would := ⟨(zi_tab zg_X9_would).1, (zi_tab zg_X9_would).2, by decide⟩
set_option maxRecDepth 100000 in
theorem zh_X9_tell : zi_mok zi_mt zm_X9_tell := ⟨(zi_tab zg_X9_tell).1, (zi_tab zg_X9_tell).2, by decide⟩
set_option maxRecDepth 100000 in
theorem zh_X9_drop : zi_mok zi_mt zm_X9_drop := ⟨(zi_tab zg_X9_drop).1, (zi_tab zg_X9_drop).2, by decide⟩
set_option maxRecDepth 100000 in
theorem zh_X9_judge : zi_mok zi_mt zm_X9_judge := ⟨(zi_tab zg_X9_judge).1, (zi_tab zg_X9_judge).2, by decide⟩
set_option maxRecDepth 100000 in
theorem zh_X9_findOptions : zi_mok zi_mt zm_X9_findOptions := ⟨(zi_tab zg_X9_findOptions).1, (zi_tab zg_X9_findOptions).2, by decide⟩
set_option maxRecDepth 100000 in
theorem zh_X9_allOptions : zi_mok zi_mt zm_X9_allOptions := ⟨(zi_tab zg_X9_allOptions).1, (zi_tab zg_X9_allOptions).2, by decide⟩
set_option maxRecDepth 100000 in
theorem zh_X9_yearOf : zi_mok zi_mt zm_X9_yearOf := ⟨(zi_tab zg_X9_yearOf).1, (zi_tab zg_X9_yearOf).2, by decide⟩
set_option maxRecDepth 100000 in
theorem zh_X9_yearAt : zi_mok zi_mt zm_X9_yearAt := ⟨(zi_tab zg_X9_yearAt).1, (zi_tab zg_X9_yearAt).2, by decide⟩
set_option maxRecDepth 100000 in
theorem zh_X9_enters : zi_mok zi_mt zm_X9_enters := ⟨(zi_tab zg_X9_enters).1, (zi_tab zg_X9_enters).2, by decide⟩
set_option maxRecDepth 100000 in
theorem zh_X9_leaves : zi_mok zi_mt zm_X9_leaves := ⟨(zi_tab zg_X9_leaves).1, (zi_tab zg_X9_leaves).2, by decide⟩
set_option maxRecDepth 100000 in
theorem zh_X9_isBrought : zi_mok zi_mt zm_X9_isBrought := ⟨(zi_tab zg_X9_isBrought).1, (zi_tab zg_X9_isBrought).2, by decide⟩
set_option maxRecDepth 100000 in
theorem zh_X9_alone : zi_mok zi_mt zm_X9_alone := ⟨(zi_tab zg_X9_alone).1, (zi_tab zg_X9_alone).2, by decide⟩
set_option maxRecDepth 100000 in
theorem zh_X9_cutsOf : zi_mok zi_mt zm_X9_cutsOf := ⟨(zi_tab zg_X9_cutsOf).1, (zi_tab zg_X9_cutsOf).2, by decide⟩
set_option maxRecDepth 100000 in
theorem zh_X9_together : zi_mok zi_mt zm_X9_together := ⟨(zi_tab zg_X9_together).1, (zi_tab zg_X9_together).2, by decide⟩
set_option maxRecDepth 100000 in
theorem zh_X9_lastOf : zi_mok zi_mt zm_X9_lastOf := ⟨(zi_tab zg_X9_lastOf).1, (zi_tab zg_X9_lastOf).2, by decide⟩
set_option maxRecDepth 100000 in
theorem zh_X9_secondOf : zi_mok zi_mt zm_X9_secondOf := ⟨(zi_tab zg_X9_secondOf).1, (zi_tab zg_X9_secondOf).2, by decide⟩
set_option maxRecDepth 100000 in
theorem zh_X9_selfishYear : zi_mok zi_mt zm_X9_selfishYear := ⟨(zi_tab zg_X9_selfishYear).1, (zi_tab zg_X9_selfishYear).2, by decide⟩
set_option maxRecDepth 100000 in
theorem zh_X9_selfish : zi_mok zi_mt zm_X9_selfish := ⟨(zi_tab zg_X9_selfish).1, (zi_tab zg_X9_selfish).2, by decide⟩
set_option maxRecDepth 100000 in
theorem zh_X9_breaksOf : zi_mok zi_mt zm_X9_breaksOf := ⟨(zi_tab zg_X9_breaksOf).1, (zi_tab zg_X9_breaksOf).2, by decide⟩
set_option maxRecDepth 100000 in
theorem zh_X9_rests : zi_mok zi_mt zm_X9_rests := ⟨(zi_tab zg_X9_rests).1, (zi_tab zg_X9_rests).2, by decide⟩
set_option maxRecDepth 100000 in
theorem zh_X9_breaks : zi_mok zi_mt zm_X9_breaks := ⟨(zi_tab zg_X9_breaks).1, (zi_tab zg_X9_breaks).2, by decide⟩
set_option maxRecDepth 100000 in
theorem zh_X9_stands : zi_mok zi_mt zm_X9_stands := ⟨(zi_tab zg_X9_stands).1, (zi_tab zg_X9_stands).2, by decide⟩
set_option maxRecDepth 100000 in
theorem zh_X9_areAlike : zi_mok zi_mt zm_X9_areAlike := ⟨(zi_tab zg_X9_areAlike).1, (zi_tab zg_X9_areAlike).2, by decide⟩
set_option maxRecDepth 100000 in
theorem zh_X9_again : zi_mok zi_mt zm_X9_again := ⟨(zi_tab zg_X9_again).1, (zi_tab zg_X9_again).2, by decide⟩
set_option maxRecDepth 100000 in
theorem zh_X9_common : zi_mok zi_mt zm_X9_common := ⟨(zi_tab zg_X9_common).1, (zi_tab zg_X9_common).2, by decide⟩
set_option maxRecDepth 100000 in
theorem zh_X9_odds : zi_mok zi_mt zm_X9_odds := ⟨(zi_tab zg_X9_odds).1, (zi_tab zg_X9_odds).2, by decide⟩
set_option maxRecDepth 100000 in
theorem zh_X9_see : zi_mok zi_mt zm_X9_see := ⟨(zi_tab zg_X9_see).1, (zi_tab zg_X9_see).2, by decide⟩
set_option maxRecDepth 100000 in
theorem zh_X9_forget : zi_mok zi_mt zm_X9_forget := ⟨(zi_tab zg_X9_forget).1, (zi_tab zg_X9_forget).2, by decide⟩
set_option maxRecDepth 100000 in
theorem zh_X9_isSo : zi_mok zi_mt zm_X9_isSo := ⟨(zi_tab zg_X9_isSo).1, (zi_tab zg_X9_isSo).2, by decide⟩
set_option maxRecDepth 100000 in
theorem zh_X9_cutters : zi_mok zi_mt zm_X9_cutters := ⟨(zi_tab zg_X9_cutters).1, (zi_tab zg_X9_cutters).2, by decide⟩
set_option maxRecDepth 100000 in
theorem zh_X9_fits : zi_mok zi_mt zm_X9_fits := ⟨(zi_tab zg_X9_fits).1, (zi_tab zg_X9_fits).2, by decide⟩
set_option maxRecDepth 100000 in
theorem zh_X9_copies : zi_mok zi_mt zm_X9_copies := ⟨(zi_tab zg_X9_copies).1, (zi_tab zg_X9_copies).2, by decide⟩
set_option maxRecDepth 100000 in
theorem zh_X9_keep : zi_mok zi_mt zm_X9_keep := ⟨(zi_tab zg_X9_keep).1, (zi_tab zg_X9_keep).2, by decide⟩
set_option maxRecDepth 100000 in
theorem zh_X9_back : zi_mok zi_mt zm_X9_back := ⟨(zi_tab zg_X9_back).1, (zi_tab zg_X9_back).2, by decide⟩
set_option maxRecDepth 100000 in
theorem zh_X9_isSheet : zi_mok zi_mt zm_X9_isSheet := ⟨(zi_tab zg_X9_isSheet).1, (zi_tab zg_X9_isSheet).2, by decide⟩
set_option maxRecDepth 100000 in
theorem zh_X9_sheet : zi_mok zi_mt zm_X9_sheet := ⟨(zi_tab zg_X9_sheet).1, (zi_tab zg_X9_sheet).2, by decide⟩
set_option maxRecDepth 100000 in
theorem zh_X9_lay : zi_mok zi_mt zm_X9_lay := ⟨(zi_tab zg_X9_lay).1, (zi_tab zg_X9_lay).2, by decide⟩
set_option maxRecDepth 100000 in
theorem zh_X9_read : zi_mok zi_mt zm_X9_read := ⟨(zi_tab zg_X9_read).1, (zi_tab zg_X9_read).2, by decide⟩
set_option maxRecDepth 100000 in
theorem zh_X9_torn : zi_mok zi_mt zm_X9_torn := ⟨(zi_tab zg_X9_torn).1, (zi_tab zg_X9_torn).2, by decide⟩
set_option maxRecDepth 100000 in
theorem zh_X9_count : zi_mok zi_mt zm_X9_count := ⟨(zi_tab zg_X9_count).1, (zi_tab zg_X9_count).2, by decide⟩
set_option maxRecDepth 100000 in
theorem zh_J6_bitCount_0f7a4 : zi_mok zi_mt zm_J6_bitCount_0f7a4 := ⟨(zi_tab zg_J6_bitCount_0f7a4).1, (zi_tab zg_J6_bitCount_0f7a4).2, by decide⟩
set_option maxRecDepth 100000 in
theorem zh_J7_fill_53178 : zi_mok zi_mt zm_J7_fill_53178 := ⟨(zi_tab zg_J7_fill_53178).1, (zi_tab zg_J7_fill_53178).2, by decide⟩
set_option maxRecDepth 100000 in
theorem zj_208 : zi_pm (zi_mok zi_mt) zi_ml_208 := zp_c zh_X9_torn (zp_c zh_X9_count (zp_c zh_J6_bitCount_0f7a4 (zp_n (zp_n (zp_n (zp_n (zp_n (zp_n (zp_n (zp_n (zp_n (zp_n (zp_c zh_J7_fill_53178 (zp_n (zp_n (zp_z))))))))))))))))
set_option maxRecDepth 100000 in
theorem zj_192 : zi_pm (zi_mok zi_mt) zi_ml_192 := zp_c zh_X9_areAlike (zp_c zh_X9_again (zp_c zh_X9_common (zp_c zh_X9_odds (zp_c zh_X9_see (zp_c zh_X9_forget (zp_c zh_X9_isSo (zp_c zh_X9_cutters (zp_c zh_X9_fits (zp_c zh_X9_copies (zp_c zh_X9_keep (zp_c zh_X9_back (zp_c zh_X9_isSheet (zp_c zh_X9_sheet (zp_c zh_X9_lay (zp_c zh_X9_read (zp_z))))))))))))))))
set_option maxRecDepth 100000 in
theorem zj_176 : zi_pm (zi_mok zi_mt) zi_ml_176 := zp_c zh_X9_yearOf (zp_c zh_X9_yearAt (zp_c zh_X9_enters (zp_c zh_X9_leaves (zp_c zh_X9_isBrought (zp_c zh_X9_alone (zp_c zh_X9_cutsOf (zp_c zh_X9_together (zp_c zh_X9_lastOf (zp_c zh_X9_secondOf (zp_c zh_X9_selfishYear (zp_c zh_X9_selfish (zp_c zh_X9_breaksOf (zp_c zh_X9_rests (zp_c zh_X9_breaks (zp_c zh_X9_stands (zp_z))))))))))))))))
set_option maxRecDepth 100000 in
theorem zj_160 : zi_pm (zi_mok zi_mt) zi_ml_160 := zp_c zh_X9_returns (zp_c zh_X9_cutOf (zp_c zh_X9_timesOf (zp_c zh_X9_firstWrong (zp_c zh_X9_canBe (zp_c zh_X9_silts (zp_c zh_X9_goes (zp_c zh_X9_year (zp_c zh_X9_hasBy (zp_c zh_X9_bedBy (zp_c zh_X9_would (zp_c zh_X9_tell (zp_c zh_X9_drop (zp_c zh_X9_judge (zp_c zh_X9_findOptions (zp_c zh_X9_allOptions (zp_z))))))))))))))))
set_option maxRecDepth 100000 in
theorem zj_144 : zi_pm (zi_mok zi_mt) zi_ml_144 := zp_c zh_X9_findBed (zp_c zh_X9_bedNow (zp_c zh_X9_hasNow (zp_c zh_X9_isBeside (zp_c zh_X9_mayCut (zp_c zh_X9_rule (zp_c zh_X9_cell (zp_c zh_X9_farm (zp_c zh_X9_bed (zp_c zh_X9_becomes (zp_c zh_X9_dam (zp_c zh_X9_move (zp_c zh_X9_law (zp_c zh_X9_silt (zp_c zh_X9_price (zp_c zh_X9_marks (zp_z))))))))))))))))
set_option maxRecDepth 100000 in
theorem zj_128 : zi_pm (zi_mok zi_mt) zi_ml_128 := zp_c zh_X9_lineNow (zp_c zh_X9_next (zp_c zh_X9_looked (zp_c zh_X9_readNumber (zp_c zh_X9_readRow (zp_c zh_X9_sawCell (zp_c zh_X9_readGround (zp_c zh_X9_readLineOf (zp_c zh_X9_readLine (zp_c zh_X9_text (zp_c zh_X9_fault (zp_c zh_X9_isCell (zp_c zh_X9_isFarm (zp_c zh_X9_isYear (zp_c zh_X9_beside (zp_c zh_X9_lowestBeside (zp_z))))))))))))))))
set_option maxRecDepth 100000 in
theorem zj_112 : zi_pm (zi_mok zi_mt) zi_ml_112 := zp_c zh_X8_lay (zp_c zh_X8_read (zp_c zh_X8_torn (zp_c zh_X8_count (zp_c zh_X9_init (zp_c zh_X9_in (zp_c zh_X9_flag (zp_c zh_X9_firstDraft (zp_c zh_X9_keepDraft (zp_c zh_X9_feed (zp_c zh_X9_end (zp_c zh_X9_needs (zp_c zh_X9_look (zp_c zh_X9_is (zp_c zh_X9_ends (zp_c zh_X9_ruleLine (zp_z))))))))))))))))
set_option maxRecDepth 100000 in
theorem zj_96 : zi_pm (zi_mok zi_mt) zi_ml_96 := zp_c zh_X8_rests (zp_c zh_X8_breaks (zp_c zh_X8_stands (zp_c zh_X8_again (zp_c zh_X8_note (zp_c zh_X8_firstAlike (zp_c zh_X8_isAlike (zp_c zh_X8_odds (zp_c zh_X8_commonDivisor (zp_c zh_X8_see (zp_c zh_X8_forget (zp_c zh_X8_fits (zp_c zh_X8_keep (zp_c zh_X8_back (zp_c zh_X8_imageOf (zp_c zh_X8_sheet (zp_z))))))))))))))))
set_option maxRecDepth 100000 in
theorem zj_80 : zi_pm (zi_mok zi_mt) zi_ml_80 := zp_c zh_X8_retrace (zp_c zh_X8_year (zp_c zh_X8_would (zp_c zh_X8_tell (zp_c zh_X8_drop (zp_c zh_X8_judge (zp_c zh_X8_refusal (zp_c zh_X8_isNumber (zp_c zh_X8_option (zp_c zh_X8_numberOf (zp_c zh_X8_has (zp_c zh_X8_alone (zp_c zh_X8_together (zp_c zh_X8_lookAhead (zp_c zh_X8_cutters (zp_c zh_X8_selfish (zp_z))))))))))))))))
set_option maxRecDepth 100000 in
theorem zj_64 : zi_pm (zi_mok zi_mt) zi_ml_64 := zp_c zh_X7_gain (zp_c zh_X7_agrees (zp_c zh_X8_init (zp_c zh_X8_feed (zp_c zh_X8_end (zp_c zh_X8_text (zp_c zh_X8_fault (zp_c zh_X8_rule (zp_c zh_X8_cell (zp_c zh_X8_farm (zp_c zh_X8_bed (zp_c zh_X8_dam (zp_c zh_X8_move (zp_c zh_X8_law (zp_c zh_X8_silt (zp_c zh_X8_price (zp_z))))))))))))))))
set_option maxRecDepth 100000 in
theorem zj_48 : zi_pm (zi_mok zi_mt) zi_ml_48 := zp_c zh_X5_valueAt (zp_c zh_X5_put (zp_c zh_X6_init (zp_c zh_X6_append (zp_c zh_X6_rewind (zp_c zh_X6_fail (zp_c zh_X6_failBehindAll (zp_c zh_X6_next (zp_c zh_X6_isLetter (zp_c zh_X6_isFigure (zp_c zh_X6_says (zp_c zh_X6_isNumber (zp_c zh_X6_nextNumber (zp_c zh_X6_nextStop (zp_c zh_X7_init (zp_c zh_X7_copy (zp_z))))))))))))))))
set_option maxRecDepth 100000 in
theorem zj_32 : zi_pm (zi_mok zi_mt) zi_ml_32 := zp_c zh_X3_ownerOf (zp_c zh_X3_join (zp_c zh_X3_beside (zp_c zh_X4_init (zp_c zh_X4_build (zp_c zh_X4_list (zp_c zh_X4_indexOf (zp_c zh_X4_breakers (zp_c zh_X4_placeOf (zp_c zh_X4_chosen (zp_c zh_X5_init (zp_c zh_X5_hasSheet (zp_c zh_X5_hasLane (zp_c zh_X5_renew (zp_c zh_X5_takeFault (zp_c zh_X5_reachFault (zp_z))))))))))))))))
set_option maxRecDepth 100000 in
theorem zj_16 : zi_pm (zi_mok zi_mt) zi_ml_16 := zp_c zh_X1_isWhole (zp_c zh_X1_settle (zp_c zh_X1_raise (zp_c zh_X2_init (zp_c zh_X2_copy (zp_c zh_X2_trace (zp_c zh_X2_lowestNextTo (zp_c zh_X2_cuttable (zp_c zh_X2_refused (zp_c zh_X2_possibleYears (zp_c zh_X2_allParts (zp_c zh_X2_pass (zp_c zh_X2_carrySilt (zp_c zh_X3_init (zp_c zh_X3_hasCell (zp_c zh_X3_hasFarm (zp_z))))))))))))))))
set_option maxRecDepth 100000 in
theorem zj_0 : zi_pm (zi_mok zi_mt) zi_ml_0 := zp_c zh_X0_init (zp_c zh_X0_fewest (zp_c zh_X0_brings (zp_c zh_X0_cutOf (zp_c zh_X1_init (zp_c zh_X1_clear (zp_c zh_X1_take (zp_c zh_X1_takeLine (zp_c zh_X1_comesOnce (zp_c zh_X1_takePlain (zp_c zh_X1_takeRow (zp_c zh_X1_takeSpring (zp_c zh_X1_takeFarm (zp_c zh_X1_takeGround (zp_c zh_X1_takeLaw (zp_c zh_X1_takeSilt (zp_z))))))))))))))))
set_option maxRecDepth 100000 in
theorem zj_all : ∀ (j : Nat) (M : zi_M), zi_mt j = some M → zi_mok zi_mt M := zi_mtl_ok (zp_t zj_0 (zp_t zj_16 (zp_t zj_32 (zp_t zj_48 (zp_t zj_64 (zp_t zj_80 (zp_t zj_96 (zp_t zj_112 (zp_t zj_128 (zp_t zj_144 (zp_t zj_160 (zp_t zj_176 (zp_t zj_192 (zp_t zj_208 (zp_tz)))))))))))))))
