set_option maxRecDepth 100000 in
theorem zf_X0_init : zi_mf zi_mt 0 2 yX0_init cX0_init 3 none 3 58 := ⟨⟨_, rfl⟩, zl_875, zl_268, ⟨by decide, by decide⟩, by decide +kernel, by decide⟩
set_option maxRecDepth 100000 in
theorem zf_X0_fewest : zi_mf zi_mt 1 3 yX0_fewest cX0_fewest 5 (some .int) 0 0 := ⟨⟨_, rfl⟩, zl_876, zl_268, ⟨by decide, by decide⟩, by decide +kernel, by decide⟩
set_option maxRecDepth 100000 in
theorem zf_X0_brings : zi_mf zi_mt 2 3 yX0_brings cX0_brings 6 (some .boolean) 0 0 := ⟨⟨_, rfl⟩, zl_877, zl_268, ⟨by decide, by decide⟩, by decide +kernel, by decide⟩
set_option maxRecDepth 100000 in
theorem zf_X0_cutOf : zi_mf zi_mt 3 1 yX0_cutOf cX0_cutOf 4 (some .int) 0 0 := ⟨⟨_, rfl⟩, zl_878, zl_268, ⟨by decide, by decide⟩, by decide +kernel, by decide⟩
set_option maxRecDepth 100000 in
theorem zf_X1_init : zi_mf zi_mt 4 0 yX1_init cX1_init 1 none 4 36 := ⟨⟨_, rfl⟩, zl_879, zl_256, ⟨by decide, by decide⟩, by decide +kernel, by decide⟩
set_option maxRecDepth 100000 in
theorem zf_X1_clear : zi_mf zi_mt 5 0 yX1_clear cX1_clear 1 none 0 0 := ⟨⟨_, rfl⟩, zl_880, zl_256, ⟨by decide, by decide⟩, by decide +kernel, by decide⟩
set_option maxRecDepth 100000 in
theorem zf_X1_take : zi_mf zi_mt 6 1 yX1_take cX1_take 4 (some .int) 0 0 := ⟨⟨_, rfl⟩, zl_881, zl_256, ⟨by decide, by decide⟩, by decide +kernel, by decide⟩
set_option maxRecDepth 100000 in
theorem zf_X1_takeLine : zi_mf zi_mt 7 1 yX1_takeLine cX1_takeLine 2 none 0 0 := ⟨⟨_, rfl⟩, zl_882, zl_256, ⟨by decide, by decide⟩, by decide +kernel, by decide⟩
set_option maxRecDepth 100000 in
theorem zf_X1_comesOnce : zi_mf zi_mt 8 2 yX1_comesOnce cX1_comesOnce 3 (some .boolean) 0 0 := ⟨⟨_, rfl⟩, zl_883, zl_256, ⟨by decide, by decide⟩, by decide +kernel, by decide⟩
set_option maxRecDepth 100000 in
theorem zf_X1_takePlain : zi_mf zi_mt 9 1 yX1_takePlain cX1_takePlain 2 none 0 0 := ⟨⟨_, rfl⟩, zl_884, zl_256, ⟨by decide, by decide⟩, by decide +kernel, by decide⟩
set_option maxRecDepth 100000 in
theorem zf_X1_takeRow : zi_mf zi_mt 10 1 yX1_takeRow cX1_takeRow 4 none 0 0 := ⟨⟨_, rfl⟩, zl_885, zl_256, ⟨by decide, by decide⟩, by decide +kernel, by decide⟩
set_option maxRecDepth 100000 in
theorem zf_X1_takeSpring : zi_mf zi_mt 11 1 yX1_takeSpring cX1_takeSpring 2 none 0 0 := ⟨⟨_, rfl⟩, zl_886, zl_256, ⟨by decide, by decide⟩, by decide +kernel, by decide⟩
set_option maxRecDepth 100000 in
theorem zf_X1_takeFarm : zi_mf zi_mt 12 1 yX1_takeFarm cX1_takeFarm 2 none 0 0 := ⟨⟨_, rfl⟩, zl_887, zl_256, ⟨by decide, by decide⟩, by decide +kernel, by decide⟩
set_option maxRecDepth 100000 in
theorem zf_X1_takeGround : zi_mf zi_mt 13 1 yX1_takeGround cX1_takeGround 4 none 0 0 := ⟨⟨_, rfl⟩, zl_888, zl_256, ⟨by decide, by decide⟩, by decide +kernel, by decide⟩
set_option maxRecDepth 100000 in
theorem zf_X1_takeLaw : zi_mf zi_mt 14 1 yX1_takeLaw cX1_takeLaw 2 none 0 0 := ⟨⟨_, rfl⟩, zl_889, zl_256, ⟨by decide, by decide⟩, by decide +kernel, by decide⟩
set_option maxRecDepth 100000 in
theorem zf_X1_takeSilt : zi_mf zi_mt 15 1 yX1_takeSilt cX1_takeSilt 2 none 0 0 := ⟨⟨_, rfl⟩, zl_890, zl_256, ⟨by decide, by decide⟩, by decide +kernel, by decide⟩
set_option maxRecDepth 100000 in
theorem zf_X1_isWhole : zi_mf zi_mt 16 0 yX1_isWhole cX1_isWhole 2 (some .boolean) 0 0 := ⟨⟨_, rfl⟩, zl_891, zl_256, ⟨by decide, by decide⟩, by decide +kernel, by decide⟩
set_option maxRecDepth 100000 in
theorem zf_X1_settle : zi_mf zi_mt 17 2 yX1_settle cX1_settle 3 none 0 0 := ⟨⟨_, rfl⟩, zl_892, zl_256, ⟨by decide, by decide⟩, by decide +kernel, by decide⟩
set_option maxRecDepth 100000 in
theorem zf_X1_raise : zi_mf zi_mt 18 1 yX1_raise cX1_raise 4 none 0 0 := ⟨⟨_, rfl⟩, zl_893, zl_256, ⟨by decide, by decide⟩, by decide +kernel, by decide⟩
set_option maxRecDepth 100000 in
theorem zf_X2_init : zi_mf zi_mt 19 1 yX2_init cX2_init 2 none 2 50 := ⟨⟨_, rfl⟩, zl_894, zl_6, ⟨by decide, by decide⟩, by decide +kernel, by decide⟩
set_option maxRecDepth 100000 in
theorem zf_X2_copy : zi_mf zi_mt 20 1 yX2_copy cX2_copy 2 none 0 0 := ⟨⟨_, rfl⟩, zl_895, zl_6, ⟨by decide, by decide⟩, by decide +kernel, by decide⟩
set_option maxRecDepth 100000 in
theorem zf_X2_trace : zi_mf zi_mt 21 0 yX2_trace cX2_trace 2 none 0 0 := ⟨⟨_, rfl⟩, zl_896, zl_6, ⟨by decide, by decide⟩, by decide +kernel, by decide⟩
set_option maxRecDepth 100000 in
theorem zf_X2_lowestNextTo : zi_mf zi_mt 22 1 yX2_lowestNextTo cX2_lowestNextTo 6 (some .int) 0 0 := ⟨⟨_, rfl⟩, zl_897, zl_6, ⟨by decide, by decide⟩, by decide +kernel, by decide⟩
set_option maxRecDepth 100000 in
theorem zf_X2_cuttable : zi_mf zi_mt 23 1 yX2_cuttable cX2_cuttable 4 (some .int) 0 0 := ⟨⟨_, rfl⟩, zl_898, zl_6, ⟨by decide, by decide⟩, by decide +kernel, by decide⟩
set_option maxRecDepth 100000 in
theorem zf_X2_refused : zi_mf zi_mt 24 1 yX2_refused cX2_refused 4 (some .int) 0 0 := ⟨⟨_, rfl⟩, zl_899, zl_6, ⟨by decide, by decide⟩, by decide +kernel, by decide⟩
set_option maxRecDepth 100000 in
theorem zf_X2_possibleYears : zi_mf zi_mt 25 0 yX2_possibleYears cX2_possibleYears 3 (some .int) 0 0 := ⟨⟨_, rfl⟩, zl_900, zl_6, ⟨by decide, by decide⟩, by decide +kernel, by decide⟩
set_option maxRecDepth 100000 in
theorem zf_X2_allParts : zi_mf zi_mt 26 0 yX2_allParts cX2_allParts 3 (some .int) 0 0 := ⟨⟨_, rfl⟩, zl_901, zl_6, ⟨by decide, by decide⟩, by decide +kernel, by decide⟩
set_option maxRecDepth 100000 in
theorem zf_X2_pass : zi_mf zi_mt 27 1 yX2_pass cX2_pass 4 none 0 0 := ⟨⟨_, rfl⟩, zl_902, zl_6, ⟨by decide, by decide⟩, by decide +kernel, by decide⟩
set_option maxRecDepth 100000 in
theorem zf_X2_carrySilt : zi_mf zi_mt 28 0 yX2_carrySilt cX2_carrySilt 3 none 0 0 := ⟨⟨_, rfl⟩, zl_903, zl_6, ⟨by decide, by decide⟩, by decide +kernel, by decide⟩
set_option maxRecDepth 100000 in
theorem zf_X3_init : zi_mf zi_mt 29 0 yX3_init cX3_init 1 none 2 103 := ⟨⟨_, rfl⟩, zl_904, zl_289, ⟨by decide, by decide⟩, by decide +kernel, by decide⟩
set_option maxRecDepth 100000 in
theorem zf_X3_hasCell : zi_mf zi_mt 30 1 yX3_hasCell cX3_hasCell 2 (some .boolean) 0 0 := ⟨⟨_, rfl⟩, zl_905, zl_289, ⟨by decide, by decide⟩, by decide +kernel, by decide⟩
set_option maxRecDepth 100000 in
theorem zf_X3_hasFarm : zi_mf zi_mt 31 1 yX3_hasFarm cX3_hasFarm 2 (some .boolean) 0 0 := ⟨⟨_, rfl⟩, zl_906, zl_289, ⟨by decide, by decide⟩, by decide +kernel, by decide⟩
set_option maxRecDepth 100000 in
theorem zf_X3_ownerOf : zi_mf zi_mt 32 1 yX3_ownerOf cX3_ownerOf 3 (some .int) 0 0 := ⟨⟨_, rfl⟩, zl_907, zl_289, ⟨by decide, by decide⟩, by decide +kernel, by decide⟩
set_option maxRecDepth 100000 in
theorem zf_X3_join : zi_mf zi_mt 33 0 yX3_join cX3_join 4 none 0 0 := ⟨⟨_, rfl⟩, zl_908, zl_289, ⟨by decide, by decide⟩, by decide +kernel, by decide⟩
set_option maxRecDepth 100000 in
theorem zf_X3_beside : zi_mf zi_mt 34 1 yX3_beside cX3_beside 4 (some .int) 0 0 := ⟨⟨_, rfl⟩, zl_909, zl_289, ⟨by decide, by decide⟩, by decide +kernel, by decide⟩
set_option maxRecDepth 100000 in
theorem zf_X4_init : zi_mf zi_mt 35 0 yX4_init cX4_init 1 none 5 1491 := ⟨⟨_, rfl⟩, zl_910, zl_274, ⟨by decide, by decide⟩, by decide +kernel, by decide⟩
set_option maxRecDepth 100000 in
theorem zf_X4_build : zi_mf zi_mt 36 2 yX4_build cX4_build 8 none 0 0 := ⟨⟨_, rfl⟩, zl_911, zl_274, ⟨by decide, by decide⟩, by decide +kernel, by decide⟩
set_option maxRecDepth 100000 in
theorem zf_X4_list : zi_mf zi_mt 37 2 yX4_list cX4_list 5 none 0 0 := ⟨⟨_, rfl⟩, zl_912, zl_274, ⟨by decide, by decide⟩, by decide +kernel, by decide⟩
set_option maxRecDepth 100000 in
theorem zf_X4_indexOf : zi_mf zi_mt 38 1 yX4_indexOf cX4_indexOf 3 (some .int) 0 0 := ⟨⟨_, rfl⟩, zl_913, zl_274, ⟨by decide, by decide⟩, by decide +kernel, by decide⟩
set_option maxRecDepth 100000 in
theorem zf_X4_breakers : zi_mf zi_mt 39 2 yX4_breakers cX4_breakers 8 (some .int) 0 0 := ⟨⟨_, rfl⟩, zl_914, zl_274, ⟨by decide, by decide⟩, by decide +kernel, by decide⟩
set_option maxRecDepth 100000 in
theorem zf_X4_placeOf : zi_mf zi_mt 40 2 yX4_placeOf cX4_placeOf 4 (some .int) 0 0 := ⟨⟨_, rfl⟩, zl_915, zl_274, ⟨by decide, by decide⟩, by decide +kernel, by decide⟩
set_option maxRecDepth 100000 in
theorem zf_X4_chosen : zi_mf zi_mt 41 3 yX4_chosen cX4_chosen 7 (some .int) 0 0 := ⟨⟨_, rfl⟩, zl_916, zl_274, ⟨by decide, by decide⟩, by decide +kernel, by decide⟩
set_option maxRecDepth 100000 in
theorem zf_X5_init : zi_mf zi_mt 42 0 yX5_init cX5_init 1 none 3 168 := ⟨⟨_, rfl⟩, zl_917, zl_251, ⟨by decide, by decide⟩, by decide +kernel, by decide⟩
set_option maxRecDepth 100000 in
theorem zf_X5_hasSheet : zi_mf zi_mt 43 1 yX5_hasSheet cX5_hasSheet 2 (some .boolean) 0 0 := ⟨⟨_, rfl⟩, zl_918, zl_251, ⟨by decide, by decide⟩, by decide +kernel, by decide⟩
set_option maxRecDepth 100000 in
theorem zf_X5_hasLane : zi_mf zi_mt 44 1 yX5_hasLane cX5_hasLane 2 (some .boolean) 0 0 := ⟨⟨_, rfl⟩, zl_919, zl_251, ⟨by decide, by decide⟩, by decide +kernel, by decide⟩
set_option maxRecDepth 100000 in
theorem zf_X5_renew : zi_mf zi_mt 45 3 yX5_renew cX5_renew 5 none 0 0 := ⟨⟨_, rfl⟩, zl_920, zl_251, ⟨by decide, by decide⟩, by decide +kernel, by decide⟩
set_option maxRecDepth 100000 in
theorem zf_X5_takeFault : zi_mf zi_mt 46 3 yX5_takeFault cX5_takeFault 4 (some .int) 0 0 := ⟨⟨_, rfl⟩, zl_921, zl_251, ⟨by decide, by decide⟩, by decide +kernel, by decide⟩
set_option maxRecDepth 100000 in
theorem zf_X5_reachFault : zi_mf zi_mt 47 2 yX5_reachFault cX5_reachFault 3 (some .int) 0 0 := ⟨⟨_, rfl⟩, zl_922, zl_251, ⟨by decide, by decide⟩, by decide +kernel, by decide⟩
set_option maxRecDepth 100000 in
theorem zf_X5_valueAt : zi_mf zi_mt 48 2 yX5_valueAt cX5_valueAt 3 (some .int) 0 0 := ⟨⟨_, rfl⟩, zl_923, zl_251, ⟨by decide, by decide⟩, by decide +kernel, by decide⟩
set_option maxRecDepth 100000 in
theorem zf_X5_put : zi_mf zi_mt 49 3 yX5_put cX5_put 5 none 0 0 := ⟨⟨_, rfl⟩, zl_924, zl_251, ⟨by decide, by decide⟩, by decide +kernel, by decide⟩
set_option maxRecDepth 100000 in
theorem zf_X6_init : zi_mf zi_mt 50 0 yX6_init cX6_init 1 none 1 320 := ⟨⟨_, rfl⟩, zl_925, zl_262, ⟨by decide, by decide⟩, by decide +kernel, by decide⟩
set_option maxRecDepth 100000 in
theorem zf_X6_append : zi_mf zi_mt 51 1 yX6_append cX6_append 4 (some .boolean) 0 0 := ⟨⟨_, rfl⟩, zl_926, zl_262, ⟨by decide, by decide⟩, by decide +kernel, by decide⟩
set_option maxRecDepth 100000 in
theorem zf_X6_rewind : zi_mf zi_mt 52 0 yX6_rewind cX6_rewind 1 none 0 0 := ⟨⟨_, rfl⟩, zl_927, zl_262, ⟨by decide, by decide⟩, by decide +kernel, by decide⟩
set_option maxRecDepth 100000 in
theorem zf_X6_fail : zi_mf zi_mt 53 1 yX6_fail cX6_fail 2 none 0 0 := ⟨⟨_, rfl⟩, zl_928, zl_262, ⟨by decide, by decide⟩, by decide +kernel, by decide⟩
set_option maxRecDepth 100000 in
theorem zf_X6_failBehindAll : zi_mf zi_mt 54 1 yX6_failBehindAll cX6_failBehindAll 2 none 0 0 := ⟨⟨_, rfl⟩, zl_929, zl_262, ⟨by decide, by decide⟩, by decide +kernel, by decide⟩
set_option maxRecDepth 100000 in
theorem zf_X6_next : zi_mf zi_mt 55 0 yX6_next cX6_next 1 none 0 0 := ⟨⟨_, rfl⟩, zl_930, zl_262, ⟨by decide, by decide⟩, by decide +kernel, by decide⟩
set_option maxRecDepth 100000 in
theorem zf_X6_isLetter : zi_mf zi_mt 56 1 yX6_isLetter cX6_isLetter 1 (some .boolean) 0 0 := ⟨⟨_, rfl⟩, zl_931, zl_262, ⟨by decide, by decide⟩, by decide +kernel, by decide⟩
set_option maxRecDepth 100000 in
theorem zf_X6_isFigure : zi_mf zi_mt 57 1 yX6_isFigure cX6_isFigure 1 (some .boolean) 0 0 := ⟨⟨_, rfl⟩, zl_932, zl_262, ⟨by decide, by decide⟩, by decide +kernel, by decide⟩
set_option maxRecDepth 100000 in
theorem zf_X6_says : zi_mf zi_mt 58 1 yX6_says cX6_says 3 (some .boolean) 0 0 := ⟨⟨_, rfl⟩, zl_933, zl_262, ⟨by decide, by decide⟩, by decide +kernel, by decide⟩
set_option maxRecDepth 100000 in
theorem zf_X6_isNumber : zi_mf zi_mt 59 2 yX6_isNumber cX6_isNumber 3 (some .boolean) 0 0 := ⟨⟨_, rfl⟩, zl_934, zl_262, ⟨by decide, by decide⟩, by decide +kernel, by decide⟩
set_option maxRecDepth 100000 in
theorem zf_X6_nextNumber : zi_mf zi_mt 60 2 yX6_nextNumber cX6_nextNumber 3 (some .boolean) 0 0 := ⟨⟨_, rfl⟩, zl_935, zl_262, ⟨by decide, by decide⟩, by decide +kernel, by decide⟩
set_option maxRecDepth 100000 in
theorem zf_X6_nextStop : zi_mf zi_mt 61 0 yX6_nextStop cX6_nextStop 1 none 0 0 := ⟨⟨_, rfl⟩, zl_936, zl_262, ⟨by decide, by decide⟩, by decide +kernel, by decide⟩
set_option maxRecDepth 100000 in
theorem zf_X7_init : zi_mf zi_mt 62 1 yX7_init cX7_init 2 none 6 75 := ⟨⟨_, rfl⟩, zl_937, zl_283, ⟨by decide, by decide⟩, by decide +kernel, by decide⟩
set_option maxRecDepth 100000 in
theorem zf_X7_copy : zi_mf zi_mt 63 1 yX7_copy cX7_copy 2 none 0 0 := ⟨⟨_, rfl⟩, zl_938, zl_283, ⟨by decide, by decide⟩, by decide +kernel, by decide⟩
set_option maxRecDepth 100000 in
theorem zf_X7_gain : zi_mf zi_mt 64 2 yX7_gain cX7_gain 3 (some .int) 0 0 := ⟨⟨_, rfl⟩, zl_939, zl_283, ⟨by decide, by decide⟩, by decide +kernel, by decide⟩
set_option maxRecDepth 100000 in
theorem zf_X7_agrees : zi_mf zi_mt 65 1 yX7_agrees cX7_agrees 4 (some .boolean) 0 0 := ⟨⟨_, rfl⟩, zl_940, zl_283, ⟨by decide, by decide⟩, by decide +kernel, by decide⟩
set_option maxRecDepth 100000 in
theorem zf_X8_init : zi_mf zi_mt 66 0 yX8_init cX8_init 1 none 61 4224 := ⟨⟨_, rfl⟩, zl_941, zl_659, ⟨by decide, by decide⟩, by decide +kernel, by decide⟩
set_option maxRecDepth 100000 in
theorem zf_X8_feed : zi_mf zi_mt 67 1 yX8_feed cX8_feed 3 (some .int) 0 0 := ⟨⟨_, rfl⟩, zl_942, zl_659, ⟨by decide, by decide⟩, by decide +kernel, by decide⟩
set_option maxRecDepth 100000 in
theorem zf_X8_end : zi_mf zi_mt 68 1 yX8_end cX8_end 3 (some .int) 0 0 := ⟨⟨_, rfl⟩, zl_943, zl_659, ⟨by decide, by decide⟩, by decide +kernel, by decide⟩
set_option maxRecDepth 100000 in
theorem zf_X8_text : zi_mf zi_mt 69 0 yX8_text cX8_text 2 (some .int) 0 0 := ⟨⟨_, rfl⟩, zl_944, zl_659, ⟨by decide, by decide⟩, by decide +kernel, by decide⟩
set_option maxRecDepth 100000 in
theorem zf_X8_fault : zi_mf zi_mt 70 0 yX8_fault cX8_fault 1 (some .int) 0 0 := ⟨⟨_, rfl⟩, zl_945, zl_659, ⟨by decide, by decide⟩, by decide +kernel, by decide⟩
set_option maxRecDepth 100000 in
theorem zf_X8_rule : zi_mf zi_mt 71 1 yX8_rule cX8_rule 2 (some .int) 0 0 := ⟨⟨_, rfl⟩, zl_946, zl_659, ⟨by decide, by decide⟩, by decide +kernel, by decide⟩
set_option maxRecDepth 100000 in
theorem zf_X8_cell : zi_mf zi_mt 72 2 yX8_cell cX8_cell 3 (some .int) 0 0 := ⟨⟨_, rfl⟩, zl_947, zl_659, ⟨by decide, by decide⟩, by decide +kernel, by decide⟩
set_option maxRecDepth 100000 in
theorem zf_X8_farm : zi_mf zi_mt 73 2 yX8_farm cX8_farm 3 (some .int) 0 0 := ⟨⟨_, rfl⟩, zl_948, zl_659, ⟨by decide, by decide⟩, by decide +kernel, by decide⟩
set_option maxRecDepth 100000 in
theorem zf_X8_bed : zi_mf zi_mt 74 1 yX8_bed cX8_bed 2 (some .int) 0 0 := ⟨⟨_, rfl⟩, zl_949, zl_659, ⟨by decide, by decide⟩, by decide +kernel, by decide⟩
set_option maxRecDepth 100000 in
theorem zf_X8_dam : zi_mf zi_mt 75 2 yX8_dam cX8_dam 4 (some .int) 0 0 := ⟨⟨_, rfl⟩, zl_950, zl_659, ⟨by decide, by decide⟩, by decide +kernel, by decide⟩
set_option maxRecDepth 100000 in
theorem zf_X8_move : zi_mf zi_mt 76 1 yX8_move cX8_move 3 (some .int) 0 0 := ⟨⟨_, rfl⟩, zl_951, zl_659, ⟨by decide, by decide⟩, by decide +kernel, by decide⟩
set_option maxRecDepth 100000 in
theorem zf_X8_law : zi_mf zi_mt 77 1 yX8_law cX8_law 3 (some .int) 0 0 := ⟨⟨_, rfl⟩, zl_952, zl_659, ⟨by decide, by decide⟩, by decide +kernel, by decide⟩
set_option maxRecDepth 100000 in
theorem zf_X8_silt : zi_mf zi_mt 78 1 yX8_silt cX8_silt 3 (some .int) 0 0 := ⟨⟨_, rfl⟩, zl_953, zl_659, ⟨by decide, by decide⟩, by decide +kernel, by decide⟩
set_option maxRecDepth 100000 in
theorem zf_X8_price : zi_mf zi_mt 79 2 yX8_price cX8_price 4 (some .int) 0 0 := ⟨⟨_, rfl⟩, zl_954, zl_659, ⟨by decide, by decide⟩, by decide +kernel, by decide⟩
set_option maxRecDepth 100000 in
theorem zf_X8_retrace : zi_mf zi_mt 80 0 yX8_retrace cX8_retrace 1 none 0 0 := ⟨⟨_, rfl⟩, zl_955, zl_659, ⟨by decide, by decide⟩, by decide +kernel, by decide⟩
set_option maxRecDepth 100000 in
theorem zf_X8_year : zi_mf zi_mt 81 1 yX8_year cX8_year 3 (some .int) 0 0 := ⟨⟨_, rfl⟩, zl_956, zl_659, ⟨by decide, by decide⟩, by decide +kernel, by decide⟩
set_option maxRecDepth 100000 in
theorem zf_X8_would : zi_mf zi_mt 82 2 yX8_would cX8_would 3 (some .int) 0 0 := ⟨⟨_, rfl⟩, zl_957, zl_659, ⟨by decide, by decide⟩, by decide +kernel, by decide⟩
set_option maxRecDepth 100000 in
theorem zf_X8_tell : zi_mf zi_mt 83 1 yX8_tell cX8_tell 2 (some .int) 0 0 := ⟨⟨_, rfl⟩, zl_958, zl_659, ⟨by decide, by decide⟩, by decide +kernel, by decide⟩
set_option maxRecDepth 100000 in
theorem zf_X8_drop : zi_mf zi_mt 84 1 yX8_drop cX8_drop 3 (some .int) 0 0 := ⟨⟨_, rfl⟩, zl_959, zl_659, ⟨by decide, by decide⟩, by decide +kernel, by decide⟩
set_option maxRecDepth 100000 in
theorem zf_X8_judge : zi_mf zi_mt 85 1 yX8_judge cX8_judge 4 (some .int) 0 0 := ⟨⟨_, rfl⟩, zl_960, zl_659, ⟨by decide, by decide⟩, by decide +kernel, by decide⟩
set_option maxRecDepth 100000 in
theorem zf_X8_refusal : zi_mf zi_mt 86 3 yX8_refusal cX8_refusal 3 (some .int) 0 0 := ⟨⟨_, rfl⟩, zl_961, zl_659, ⟨by decide, by decide⟩, by decide +kernel, by decide⟩
set_option maxRecDepth 100000 in
theorem zf_X8_isNumber : zi_mf zi_mt 87 1 yX8_isNumber cX8_isNumber 1 (some .boolean) 0 0 := ⟨⟨_, rfl⟩, zl_962, zl_659, ⟨by decide, by decide⟩, by decide +kernel, by decide⟩
set_option maxRecDepth 100000 in
theorem zf_X8_option : zi_mf zi_mt 88 2 yX8_option cX8_option 2 (some .int) 0 0 := ⟨⟨_, rfl⟩, zl_963, zl_659, ⟨by decide, by decide⟩, by decide +kernel, by decide⟩
set_option maxRecDepth 100000 in
theorem zf_X8_numberOf : zi_mf zi_mt 89 2 yX8_numberOf cX8_numberOf 2 (some .int) 0 0 := ⟨⟨_, rfl⟩, zl_964, zl_659, ⟨by decide, by decide⟩, by decide +kernel, by decide⟩
set_option maxRecDepth 100000 in
theorem zf_X8_has : zi_mf zi_mt 90 2 yX8_has cX8_has 2 (some .boolean) 0 0 := ⟨⟨_, rfl⟩, zl_965, zl_659, ⟨by decide, by decide⟩, by decide +kernel, by decide⟩
set_option maxRecDepth 100000 in
theorem zf_X8_alone : zi_mf zi_mt 91 3 yX8_alone cX8_alone 6 (some .int) 0 0 := ⟨⟨_, rfl⟩, zl_966, zl_659, ⟨by decide, by decide⟩, by decide +kernel, by decide⟩
set_option maxRecDepth 100000 in
theorem zf_X8_together : zi_mf zi_mt 92 2 yX8_together cX8_together 7 (some .int) 0 0 := ⟨⟨_, rfl⟩, zl_967, zl_659, ⟨by decide, by decide⟩, by decide +kernel, by decide⟩
set_option maxRecDepth 100000 in
theorem zf_X8_lookAhead : zi_mf zi_mt 93 0 yX8_lookAhead cX8_lookAhead 1 none 0 0 := ⟨⟨_, rfl⟩, zl_968, zl_659, ⟨by decide, by decide⟩, by decide +kernel, by decide⟩
set_option maxRecDepth 100000 in
theorem zf_X8_cutters : zi_mf zi_mt 94 1 yX8_cutters cX8_cutters 3 (some .int) 0 0 := ⟨⟨_, rfl⟩, zl_969, zl_659, ⟨by decide, by decide⟩, by decide +kernel, by decide⟩
set_option maxRecDepth 100000 in
theorem zf_X8_selfish : zi_mf zi_mt 95 1 yX8_selfish cX8_selfish 3 (some .int) 0 0 := ⟨⟨_, rfl⟩, zl_970, zl_659, ⟨by decide, by decide⟩, by decide +kernel, by decide⟩
set_option maxRecDepth 100000 in
theorem zf_X8_rests : zi_mf zi_mt 96 1 yX8_rests cX8_rests 4 (some .int) 0 0 := ⟨⟨_, rfl⟩, zl_971, zl_659, ⟨by decide, by decide⟩, by decide +kernel, by decide⟩
set_option maxRecDepth 100000 in
theorem zf_X8_breaks : zi_mf zi_mt 97 1 yX8_breaks cX8_breaks 3 (some .int) 0 0 := ⟨⟨_, rfl⟩, zl_972, zl_659, ⟨by decide, by decide⟩, by decide +kernel, by decide⟩
set_option maxRecDepth 100000 in
theorem zf_X8_stands : zi_mf zi_mt 98 1 yX8_stands cX8_stands 3 (some .int) 0 0 := ⟨⟨_, rfl⟩, zl_973, zl_659, ⟨by decide, by decide⟩, by decide +kernel, by decide⟩
set_option maxRecDepth 100000 in
theorem zf_X8_again : zi_mf zi_mt 99 1 yX8_again cX8_again 4 (some .int) 0 0 := ⟨⟨_, rfl⟩, zl_974, zl_659, ⟨by decide, by decide⟩, by decide +kernel, by decide⟩
set_option maxRecDepth 100000 in
theorem zf_X8_note : zi_mf zi_mt 100 1 yX8_note cX8_note 2 none 0 0 := ⟨⟨_, rfl⟩, zl_975, zl_659, ⟨by decide, by decide⟩, by decide +kernel, by decide⟩
set_option maxRecDepth 100000 in
theorem zf_X8_firstAlike : zi_mf zi_mt 101 1 yX8_firstAlike cX8_firstAlike 3 (some .int) 0 0 := ⟨⟨_, rfl⟩, zl_976, zl_659, ⟨by decide, by decide⟩, by decide +kernel, by decide⟩
set_option maxRecDepth 100000 in
theorem zf_X8_isAlike : zi_mf zi_mt 102 1 yX8_isAlike cX8_isAlike 3 (some .boolean) 0 0 := ⟨⟨_, rfl⟩, zl_977, zl_659, ⟨by decide, by decide⟩, by decide +kernel, by decide⟩
set_option maxRecDepth 100000 in
theorem zf_X8_odds : zi_mf zi_mt 103 2 yX8_odds cX8_odds 5 (some .long) 0 0 := ⟨⟨_, rfl⟩, zl_978, zl_659, ⟨by decide, by decide⟩, by decide +kernel, by decide⟩
set_option maxRecDepth 100000 in
theorem zf_X8_commonDivisor : zi_mf zi_mt 104 2 yX8_commonDivisor cX8_commonDivisor 6 (some .int) 0 0 := ⟨⟨_, rfl⟩, zl_979, zl_659, ⟨by decide, by decide⟩, by decide +kernel, by decide⟩
set_option maxRecDepth 100000 in
theorem zf_X8_see : zi_mf zi_mt 105 2 yX8_see cX8_see 3 (some .int) 0 0 := ⟨⟨_, rfl⟩, zl_980, zl_659, ⟨by decide, by decide⟩, by decide +kernel, by decide⟩
set_option maxRecDepth 100000 in
theorem zf_X8_forget : zi_mf zi_mt 106 1 yX8_forget cX8_forget 3 (some .int) 0 0 := ⟨⟨_, rfl⟩, zl_981, zl_659, ⟨by decide, by decide⟩, by decide +kernel, by decide⟩
set_option maxRecDepth 100000 in
theorem zf_X8_fits : zi_mf zi_mt 107 1 yX8_fits cX8_fits 8 (some .int) 0 0 := ⟨⟨_, rfl⟩, zl_982, zl_659, ⟨by decide, by decide⟩, by decide +kernel, by decide⟩
set_option maxRecDepth 100000 in
theorem zf_X8_keep : zi_mf zi_mt 108 1 yX8_keep cX8_keep 3 (some .int) 0 0 := ⟨⟨_, rfl⟩, zl_983, zl_659, ⟨by decide, by decide⟩, by decide +kernel, by decide⟩
set_option maxRecDepth 100000 in
theorem zf_X8_back : zi_mf zi_mt 109 1 yX8_back cX8_back 2 (some .int) 0 0 := ⟨⟨_, rfl⟩, zl_984, zl_659, ⟨by decide, by decide⟩, by decide +kernel, by decide⟩
set_option maxRecDepth 100000 in
theorem zf_X8_imageOf : zi_mf zi_mt 110 1 yX8_imageOf cX8_imageOf 2 (some (.object "RiverDiggers$Times")) 0 0 := ⟨⟨_, rfl⟩, zl_985, zl_659, ⟨by decide, by decide⟩, by decide +kernel, by decide⟩
set_option maxRecDepth 100000 in
theorem zf_X8_sheet : zi_mf zi_mt 111 3 yX8_sheet cX8_sheet 4 (some .int) 0 0 := ⟨⟨_, rfl⟩, zl_986, zl_659, ⟨by decide, by decide⟩, by decide +kernel, by decide⟩
set_option maxRecDepth 100000 in
theorem zf_X8_lay : zi_mf zi_mt 112 3 yX8_lay cX8_lay 5 (some .int) 0 0 := ⟨⟨_, rfl⟩, zl_987, zl_659, ⟨by decide, by decide⟩, by decide +kernel, by decide⟩
set_option maxRecDepth 100000 in
theorem zf_X8_read : zi_mf zi_mt 113 4 yX8_read cX8_read 9 (some .int) 0 0 := ⟨⟨_, rfl⟩, zl_988, zl_659, ⟨by decide, by decide⟩, by decide +kernel, by decide⟩
set_option maxRecDepth 100000 in
theorem zf_X8_torn : zi_mf zi_mt 114 0 yX8_torn cX8_torn 1 (some .int) 0 0 := ⟨⟨_, rfl⟩, zl_989, zl_659, ⟨by decide, by decide⟩, by decide +kernel, by decide⟩
set_option maxRecDepth 100000 in
theorem zf_X8_count : zi_mf zi_mt 115 1 yX8_count cX8_count 2 (some .int) 0 0 := ⟨⟨_, rfl⟩, zl_990, zl_659, ⟨by decide, by decide⟩, by decide +kernel, by decide⟩
set_option maxRecDepth 100000 in
theorem zf_X9_init : zi_mf zi_mt 116 0 yX9_init cX9_init 2 none 22 2537 := ⟨⟨_, rfl⟩, zl_991, zl_654, ⟨by decide, by decide⟩, by decide +kernel, by decide⟩
set_option maxRecDepth 100000 in
theorem zf_X9_in : zi_mf zi_mt 117 3 yX9_in cX9_in 6 (some .boolean) 0 0 := ⟨⟨_, rfl⟩, zl_992, zl_654, ⟨by decide, by decide⟩, by decide +kernel, by decide⟩
set_option maxRecDepth 100000 in
theorem zf_X9_flag : zi_mf zi_mt 118 1 yX9_flag cX9_flag 1 (some .int) 0 0 := ⟨⟨_, rfl⟩, zl_993, zl_654, ⟨by decide, by decide⟩, by decide +kernel, by decide⟩
set_option maxRecDepth 100000 in
theorem zf_X9_firstDraft : zi_mf zi_mt 119 0 yX9_firstDraft cX9_firstDraft 2 none 0 0 := ⟨⟨_, rfl⟩, zl_994, zl_654, ⟨by decide, by decide⟩, by decide +kernel, by decide⟩
set_option maxRecDepth 100000 in
theorem zf_X9_keepDraft : zi_mf zi_mt 120 0 yX9_keepDraft cX9_keepDraft 2 none 0 0 := ⟨⟨_, rfl⟩, zl_995, zl_654, ⟨by decide, by decide⟩, by decide +kernel, by decide⟩
set_option maxRecDepth 100000 in
theorem zf_X9_feed : zi_mf zi_mt 121 1 yX9_feed cX9_feed 4 (some .int) 0 0 := ⟨⟨_, rfl⟩, zl_996, zl_654, ⟨by decide, by decide⟩, by decide +kernel, by decide⟩
set_option maxRecDepth 100000 in
theorem zf_X9_end : zi_mf zi_mt 122 1 yX9_end cX9_end 3 (some .int) 0 0 := ⟨⟨_, rfl⟩, zl_997, zl_654, ⟨by decide, by decide⟩, by decide +kernel, by decide⟩
set_option maxRecDepth 100000 in
theorem zf_X9_needs : zi_mf zi_mt 123 2 yX9_needs cX9_needs 3 none 0 0 := ⟨⟨_, rfl⟩, zl_998, zl_654, ⟨by decide, by decide⟩, by decide +kernel, by decide⟩
set_option maxRecDepth 100000 in
theorem zf_X9_look : zi_mf zi_mt 124 1 yX9_look cX9_look 2 (some .int) 0 0 := ⟨⟨_, rfl⟩, zl_999, zl_654, ⟨by decide, by decide⟩, by decide +kernel, by decide⟩
set_option maxRecDepth 100000 in
theorem zf_X9_is : zi_mf zi_mt 125 4 yX9_is cX9_is 5 (some .boolean) 0 0 := ⟨⟨_, rfl⟩, zl_1000, zl_654, ⟨by decide, by decide⟩, by decide +kernel, by decide⟩
set_option maxRecDepth 100000 in
theorem zf_X9_ends : zi_mf zi_mt 126 3 yX9_ends cX9_ends 4 (some .boolean) 0 0 := ⟨⟨_, rfl⟩, zl_1001, zl_654, ⟨by decide, by decide⟩, by decide +kernel, by decide⟩
set_option maxRecDepth 100000 in
theorem zf_X9_ruleLine : zi_mf zi_mt 127 0 yX9_ruleLine cX9_ruleLine 1 (some .int) 0 0 := ⟨⟨_, rfl⟩, zl_1002, zl_654, ⟨by decide, by decide⟩, by decide +kernel, by decide⟩
set_option maxRecDepth 100000 in
theorem zf_X9_lineNow : zi_mf zi_mt 128 0 yX9_lineNow cX9_lineNow 1 (some .int) 0 0 := ⟨⟨_, rfl⟩, zl_1003, zl_654, ⟨by decide, by decide⟩, by decide +kernel, by decide⟩
set_option maxRecDepth 100000 in
theorem zf_X9_next : zi_mf zi_mt 129 0 yX9_next cX9_next 2 none 0 0 := ⟨⟨_, rfl⟩, zl_1004, zl_654, ⟨by decide, by decide⟩, by decide +kernel, by decide⟩
set_option maxRecDepth 100000 in
theorem zf_X9_looked : zi_mf zi_mt 130 2 yX9_looked cX9_looked 3 (some .int) 0 0 := ⟨⟨_, rfl⟩, zl_1005, zl_654, ⟨by decide, by decide⟩, by decide +kernel, by decide⟩
set_option maxRecDepth 100000 in
theorem zf_X9_readNumber : zi_mf zi_mt 131 2 yX9_readNumber cX9_readNumber 4 (some .int) 0 0 := ⟨⟨_, rfl⟩, zl_1006, zl_654, ⟨by decide, by decide⟩, by decide +kernel, by decide⟩
set_option maxRecDepth 100000 in
theorem zf_X9_readRow : zi_mf zi_mt 132 0 yX9_readRow cX9_readRow 5 none 0 0 := ⟨⟨_, rfl⟩, zl_1007, zl_654, ⟨by decide, by decide⟩, by decide +kernel, by decide⟩
set_option maxRecDepth 100000 in
theorem zf_X9_sawCell : zi_mf zi_mt 133 1 yX9_sawCell cX9_sawCell 2 none 0 0 := ⟨⟨_, rfl⟩, zl_1008, zl_654, ⟨by decide, by decide⟩, by decide +kernel, by decide⟩
set_option maxRecDepth 100000 in
theorem zf_X9_readGround : zi_mf zi_mt 134 0 yX9_readGround cX9_readGround 4 none 0 0 := ⟨⟨_, rfl⟩, zl_1009, zl_654, ⟨by decide, by decide⟩, by decide +kernel, by decide⟩
set_option maxRecDepth 100000 in
theorem zf_X9_readLineOf : zi_mf zi_mt 135 1 yX9_readLineOf cX9_readLineOf 2 none 0 0 := ⟨⟨_, rfl⟩, zl_1010, zl_654, ⟨by decide, by decide⟩, by decide +kernel, by decide⟩
set_option maxRecDepth 100000 in
theorem zf_X9_readLine : zi_mf zi_mt 136 0 yX9_readLine cX9_readLine 2 none 0 0 := ⟨⟨_, rfl⟩, zl_1011, zl_654, ⟨by decide, by decide⟩, by decide +kernel, by decide⟩
set_option maxRecDepth 100000 in
theorem zf_X9_text : zi_mf zi_mt 137 0 yX9_text cX9_text 2 (some .int) 0 0 := ⟨⟨_, rfl⟩, zl_1012, zl_654, ⟨by decide, by decide⟩, by decide +kernel, by decide⟩
set_option maxRecDepth 100000 in
theorem zf_X9_fault : zi_mf zi_mt 138 0 yX9_fault cX9_fault 1 (some .int) 0 0 := ⟨⟨_, rfl⟩, zl_1013, zl_654, ⟨by decide, by decide⟩, by decide +kernel, by decide⟩
set_option maxRecDepth 100000 in
theorem zf_X9_isCell : zi_mf zi_mt 139 1 yX9_isCell cX9_isCell 2 (some .boolean) 0 0 := ⟨⟨_, rfl⟩, zl_1014, zl_654, ⟨by decide, by decide⟩, by decide +kernel, by decide⟩
set_option maxRecDepth 100000 in
theorem zf_X9_isFarm : zi_mf zi_mt 140 1 yX9_isFarm cX9_isFarm 2 (some .boolean) 0 0 := ⟨⟨_, rfl⟩, zl_1015, zl_654, ⟨by decide, by decide⟩, by decide +kernel, by decide⟩
set_option maxRecDepth 100000 in
theorem zf_X9_isYear : zi_mf zi_mt 141 1 yX9_isYear cX9_isYear 1 (some .boolean) 0 0 := ⟨⟨_, rfl⟩, zl_1016, zl_654, ⟨by decide, by decide⟩, by decide +kernel, by decide⟩
set_option maxRecDepth 100000 in
theorem zf_X9_beside : zi_mf zi_mt 142 2 yX9_beside cX9_beside 5 (some .int) 0 0 := ⟨⟨_, rfl⟩, zl_1017, zl_654, ⟨by decide, by decide⟩, by decide +kernel, by decide⟩
set_option maxRecDepth 100000 in
theorem zf_X9_lowestBeside : zi_mf zi_mt 143 1 yX9_lowestBeside cX9_lowestBeside 6 (some .int) 0 0 := ⟨⟨_, rfl⟩, zl_1018, zl_654, ⟨by decide, by decide⟩, by decide +kernel, by decide⟩
set_option maxRecDepth 100000 in
theorem zf_X9_findBed : zi_mf zi_mt 144 0 yX9_findBed cX9_findBed 2 none 0 0 := ⟨⟨_, rfl⟩, zl_1019, zl_654, ⟨by decide, by decide⟩, by decide +kernel, by decide⟩
set_option maxRecDepth 100000 in
theorem zf_X9_bedNow : zi_mf zi_mt 145 0 yX9_bedNow cX9_bedNow 1 (some .int) 0 0 := ⟨⟨_, rfl⟩, zl_1020, zl_654, ⟨by decide, by decide⟩, by decide +kernel, by decide⟩
set_option maxRecDepth 100000 in
theorem zf_X9_hasNow : zi_mf zi_mt 146 1 yX9_hasNow cX9_hasNow 5 (some .int) 0 0 := ⟨⟨_, rfl⟩, zl_1021, zl_654, ⟨by decide, by decide⟩, by decide +kernel, by decide⟩
set_option maxRecDepth 100000 in
theorem zf_X9_isBeside : zi_mf zi_mt 147 2 yX9_isBeside cX9_isBeside 6 (some .boolean) 0 0 := ⟨⟨_, rfl⟩, zl_1022, zl_654, ⟨by decide, by decide⟩, by decide +kernel, by decide⟩
set_option maxRecDepth 100000 in
theorem zf_X9_mayCut : zi_mf zi_mt 148 1 yX9_mayCut cX9_mayCut 8 (some .int) 0 0 := ⟨⟨_, rfl⟩, zl_1023, zl_654, ⟨by decide, by decide⟩, by decide +kernel, by decide⟩
set_option maxRecDepth 100000 in
theorem zf_X9_rule : zi_mf zi_mt 149 1 yX9_rule cX9_rule 2 (some .int) 0 0 := ⟨⟨_, rfl⟩, zl_1024, zl_654, ⟨by decide, by decide⟩, by decide +kernel, by decide⟩
set_option maxRecDepth 100000 in
theorem zf_X9_cell : zi_mf zi_mt 150 2 yX9_cell cX9_cell 3 (some .int) 0 0 := ⟨⟨_, rfl⟩, zl_1025, zl_654, ⟨by decide, by decide⟩, by decide +kernel, by decide⟩
set_option maxRecDepth 100000 in
theorem zf_X9_farm : zi_mf zi_mt 151 2 yX9_farm cX9_farm 5 (some .int) 0 0 := ⟨⟨_, rfl⟩, zl_1026, zl_654, ⟨by decide, by decide⟩, by decide +kernel, by decide⟩
set_option maxRecDepth 100000 in
theorem zf_X9_bed : zi_mf zi_mt 152 1 yX9_bed cX9_bed 2 (some .int) 0 0 := ⟨⟨_, rfl⟩, zl_1027, zl_654, ⟨by decide, by decide⟩, by decide +kernel, by decide⟩
set_option maxRecDepth 100000 in
theorem zf_X9_becomes : zi_mf zi_mt 153 2 yX9_becomes cX9_becomes 4 (some .int) 0 0 := ⟨⟨_, rfl⟩, zl_1028, zl_654, ⟨by decide, by decide⟩, by decide +kernel, by decide⟩
set_option maxRecDepth 100000 in
theorem zf_X9_dam : zi_mf zi_mt 154 2 yX9_dam cX9_dam 3 (some .int) 0 0 := ⟨⟨_, rfl⟩, zl_1029, zl_654, ⟨by decide, by decide⟩, by decide +kernel, by decide⟩
set_option maxRecDepth 100000 in
theorem zf_X9_move : zi_mf zi_mt 155 1 yX9_move cX9_move 2 (some .int) 0 0 := ⟨⟨_, rfl⟩, zl_1030, zl_654, ⟨by decide, by decide⟩, by decide +kernel, by decide⟩
set_option maxRecDepth 100000 in
theorem zf_X9_law : zi_mf zi_mt 156 1 yX9_law cX9_law 2 (some .int) 0 0 := ⟨⟨_, rfl⟩, zl_1031, zl_654, ⟨by decide, by decide⟩, by decide +kernel, by decide⟩
set_option maxRecDepth 100000 in
theorem zf_X9_silt : zi_mf zi_mt 157 1 yX9_silt cX9_silt 2 (some .int) 0 0 := ⟨⟨_, rfl⟩, zl_1032, zl_654, ⟨by decide, by decide⟩, by decide +kernel, by decide⟩
set_option maxRecDepth 100000 in
theorem zf_X9_price : zi_mf zi_mt 158 2 yX9_price cX9_price 3 (some .int) 0 0 := ⟨⟨_, rfl⟩, zl_1033, zl_654, ⟨by decide, by decide⟩, by decide +kernel, by decide⟩
set_option maxRecDepth 100000 in
theorem zf_X9_marks : zi_mf zi_mt 159 0 yX9_marks cX9_marks 2 none 0 0 := ⟨⟨_, rfl⟩, zl_1034, zl_654, ⟨by decide, by decide⟩, by decide +kernel, by decide⟩
set_option maxRecDepth 100000 in
theorem zf_X9_returns : zi_mf zi_mt 160 0 yX9_returns cX9_returns 2 none 0 0 := ⟨⟨_, rfl⟩, zl_1035, zl_654, ⟨by decide, by decide⟩, by decide +kernel, by decide⟩
set_option maxRecDepth 100000 in
theorem zf_X9_cutOf : zi_mf zi_mt 161 2 yX9_cutOf cX9_cutOf 3 (some .int) 0 0 := ⟨⟨_, rfl⟩, zl_1036, zl_654, ⟨by decide, by decide⟩, by decide +kernel, by decide⟩
set_option maxRecDepth 100000 in
theorem zf_X9_timesOf : zi_mf zi_mt 162 1 yX9_timesOf cX9_timesOf 1 (some .int) 0 0 := ⟨⟨_, rfl⟩, zl_1037, zl_654, ⟨by decide, by decide⟩, by decide +kernel, by decide⟩
set_option maxRecDepth 100000 in
theorem zf_X9_firstWrong : zi_mf zi_mt 163 1 yX9_firstWrong cX9_firstWrong 6 (some .int) 0 0 := ⟨⟨_, rfl⟩, zl_1038, zl_654, ⟨by decide, by decide⟩, by decide +kernel, by decide⟩
set_option maxRecDepth 100000 in
theorem zf_X9_canBe : zi_mf zi_mt 164 1 yX9_canBe cX9_canBe 2 (some .boolean) 0 0 := ⟨⟨_, rfl⟩, zl_1039, zl_654, ⟨by decide, by decide⟩, by decide +kernel, by decide⟩
set_option maxRecDepth 100000 in
theorem zf_X9_silts : zi_mf zi_mt 165 0 yX9_silts cX9_silts 4 none 0 0 := ⟨⟨_, rfl⟩, zl_1040, zl_654, ⟨by decide, by decide⟩, by decide +kernel, by decide⟩
set_option maxRecDepth 100000 in
theorem zf_X9_goes : zi_mf zi_mt 166 1 yX9_goes cX9_goes 4 none 0 0 := ⟨⟨_, rfl⟩, zl_1041, zl_654, ⟨by decide, by decide⟩, by decide +kernel, by decide⟩
set_option maxRecDepth 100000 in
theorem zf_X9_year : zi_mf zi_mt 167 1 yX9_year cX9_year 2 (some .int) 0 0 := ⟨⟨_, rfl⟩, zl_1042, zl_654, ⟨by decide, by decide⟩, by decide +kernel, by decide⟩
set_option maxRecDepth 100000 in
theorem zf_X9_hasBy : zi_mf zi_mt 168 2 yX9_hasBy cX9_hasBy 4 (some .int) 0 0 := ⟨⟨_, rfl⟩, zl_1043, zl_654, ⟨by decide, by decide⟩, by decide +kernel, by decide⟩
set_option maxRecDepth 100000 in
theorem zf_X9_bedBy : zi_mf zi_mt 169 1 yX9_bedBy cX9_bedBy 3 (some .int) 0 0 := ⟨⟨_, rfl⟩, zl_1044, zl_654, ⟨by decide, by decide⟩, by decide +kernel, by decide⟩
set_option maxRecDepth 100000 in
theorem zf_X9_would : zi_mf zi_mt 170 2 yX9_would cX9_would 3 (some .int) 0 0 := ⟨⟨_, rfl⟩, zl_1045, zl_654, ⟨by decide, by decide⟩, by decide +kernel, by decide⟩
set_option maxRecDepth 100000 in
theorem zf_X9_tell : zi_mf zi_mt 171 1 yX9_tell cX9_tell 2 (some .int) 0 0 := ⟨⟨_, rfl⟩, zl_1046, zl_654, ⟨by decide, by decide⟩, by decide +kernel, by decide⟩
set_option maxRecDepth 100000 in
theorem zf_X9_drop : zi_mf zi_mt 172 1 yX9_drop cX9_drop 3 (some .int) 0 0 := ⟨⟨_, rfl⟩, zl_1047, zl_654, ⟨by decide, by decide⟩, by decide +kernel, by decide⟩
set_option maxRecDepth 100000 in
theorem zf_X9_judge : zi_mf zi_mt 173 1 yX9_judge cX9_judge 6 (some .int) 0 0 := ⟨⟨_, rfl⟩, zl_1048, zl_654, ⟨by decide, by decide⟩, by decide +kernel, by decide⟩
set_option maxRecDepth 100000 in
theorem zf_X9_findOptions : zi_mf zi_mt 174 0 yX9_findOptions cX9_findOptions 4 none 0 0 := ⟨⟨_, rfl⟩, zl_1049, zl_654, ⟨by decide, by decide⟩, by decide +kernel, by decide⟩
set_option maxRecDepth 100000 in
theorem zf_X9_allOptions : zi_mf zi_mt 175 0 yX9_allOptions cX9_allOptions 1 (some .int) 0 0 := ⟨⟨_, rfl⟩, zl_1050, zl_654, ⟨by decide, by decide⟩, by decide +kernel, by decide⟩
set_option maxRecDepth 100000 in
theorem zf_X9_yearOf : zi_mf zi_mt 176 3 yX9_yearOf cX9_yearOf 4 (some .int) 0 0 := ⟨⟨_, rfl⟩, zl_1051, zl_654, ⟨by decide, by decide⟩, by decide +kernel, by decide⟩
set_option maxRecDepth 100000 in
theorem zf_X9_yearAt : zi_mf zi_mt 177 1 yX9_yearAt cX9_yearAt 2 (some .int) 0 0 := ⟨⟨_, rfl⟩, zl_1052, zl_654, ⟨by decide, by decide⟩, by decide +kernel, by decide⟩
set_option maxRecDepth 100000 in
theorem zf_X9_enters : zi_mf zi_mt 178 2 yX9_enters cX9_enters 5 none 0 0 := ⟨⟨_, rfl⟩, zl_1053, zl_654, ⟨by decide, by decide⟩, by decide +kernel, by decide⟩
set_option maxRecDepth 100000 in
theorem zf_X9_leaves : zi_mf zi_mt 179 1 yX9_leaves cX9_leaves 3 none 0 0 := ⟨⟨_, rfl⟩, zl_1054, zl_654, ⟨by decide, by decide⟩, by decide +kernel, by decide⟩
set_option maxRecDepth 100000 in
theorem zf_X9_isBrought : zi_mf zi_mt 180 3 yX9_isBrought cX9_isBrought 7 (some .boolean) 0 0 := ⟨⟨_, rfl⟩, zl_1055, zl_654, ⟨by decide, by decide⟩, by decide +kernel, by decide⟩
set_option maxRecDepth 100000 in
theorem zf_X9_alone : zi_mf zi_mt 181 3 yX9_alone cX9_alone 5 (some .int) 0 0 := ⟨⟨_, rfl⟩, zl_1056, zl_654, ⟨by decide, by decide⟩, by decide +kernel, by decide⟩
set_option maxRecDepth 100000 in
theorem zf_X9_cutsOf : zi_mf zi_mt 182 1 yX9_cutsOf cX9_cutsOf 3 (some .int) 0 0 := ⟨⟨_, rfl⟩, zl_1057, zl_654, ⟨by decide, by decide⟩, by decide +kernel, by decide⟩
set_option maxRecDepth 100000 in
theorem zf_X9_together : zi_mf zi_mt 183 2 yX9_together cX9_together 9 (some .int) 0 0 := ⟨⟨_, rfl⟩, zl_1058, zl_654, ⟨by decide, by decide⟩, by decide +kernel, by decide⟩
set_option maxRecDepth 100000 in
theorem zf_X9_lastOf : zi_mf zi_mt 184 2 yX9_lastOf cX9_lastOf 7 (some .int) 0 0 := ⟨⟨_, rfl⟩, zl_1059, zl_654, ⟨by decide, by decide⟩, by decide +kernel, by decide⟩
set_option maxRecDepth 100000 in
theorem zf_X9_secondOf : zi_mf zi_mt 185 1 yX9_secondOf cX9_secondOf 6 (some .int) 0 0 := ⟨⟨_, rfl⟩, zl_1060, zl_654, ⟨by decide, by decide⟩, by decide +kernel, by decide⟩
set_option maxRecDepth 100000 in
theorem zf_X9_selfishYear : zi_mf zi_mt 186 0 yX9_selfishYear cX9_selfishYear 6 (some .int) 0 0 := ⟨⟨_, rfl⟩, zl_1061, zl_654, ⟨by decide, by decide⟩, by decide +kernel, by decide⟩
set_option maxRecDepth 100000 in
theorem zf_X9_selfish : zi_mf zi_mt 187 1 yX9_selfish cX9_selfish 3 (some .int) 0 0 := ⟨⟨_, rfl⟩, zl_1062, zl_654, ⟨by decide, by decide⟩, by decide +kernel, by decide⟩
set_option maxRecDepth 100000 in
theorem zf_X9_breaksOf : zi_mf zi_mt 188 1 yX9_breaksOf cX9_breaksOf 7 (some .int) 0 0 := ⟨⟨_, rfl⟩, zl_1063, zl_654, ⟨by decide, by decide⟩, by decide +kernel, by decide⟩
set_option maxRecDepth 100000 in
theorem zf_X9_rests : zi_mf zi_mt 189 1 yX9_rests cX9_rests 6 (some .int) 0 0 := ⟨⟨_, rfl⟩, zl_1064, zl_654, ⟨by decide, by decide⟩, by decide +kernel, by decide⟩
set_option maxRecDepth 100000 in
theorem zf_X9_breaks : zi_mf zi_mt 190 1 yX9_breaks cX9_breaks 2 (some .int) 0 0 := ⟨⟨_, rfl⟩, zl_1065, zl_654, ⟨by decide, by decide⟩, by decide +kernel, by decide⟩
set_option maxRecDepth 100000 in
theorem zf_X9_stands : zi_mf zi_mt 191 1 yX9_stands cX9_stands 4 (some .int) 0 0 := ⟨⟨_, rfl⟩, zl_1066, zl_654, ⟨by decide, by decide⟩, by decide +kernel, by decide⟩
set_option maxRecDepth 100000 in
theorem zf_X9_areAlike : zi_mf zi_mt 192 2 yX9_areAlike cX9_areAlike 5 (some .boolean) 0 0 := ⟨⟨_, rfl⟩, zl_1067, zl_654, ⟨by decide, by decide⟩, by decide +kernel, by decide⟩
set_option maxRecDepth 100000 in
theorem zf_X9_again : zi_mf zi_mt 193 1 yX9_again cX9_again 6 (some .int) 0 0 := ⟨⟨_, rfl⟩, zl_1068, zl_654, ⟨by decide, by decide⟩, by decide +kernel, by decide⟩
set_option maxRecDepth 100000 in
theorem zf_X9_common : zi_mf zi_mt 194 2 yX9_common cX9_common 10 (some .long) 0 0 := ⟨⟨_, rfl⟩, zl_1069, zl_654, ⟨by decide, by decide⟩, by decide +kernel, by decide⟩
set_option maxRecDepth 100000 in
theorem zf_X9_odds : zi_mf zi_mt 195 2 yX9_odds cX9_odds 8 (some .long) 0 0 := ⟨⟨_, rfl⟩, zl_1070, zl_654, ⟨by decide, by decide⟩, by decide +kernel, by decide⟩
set_option maxRecDepth 100000 in
theorem zf_X9_see : zi_mf zi_mt 196 2 yX9_see cX9_see 3 (some .int) 0 0 := ⟨⟨_, rfl⟩, zl_1071, zl_654, ⟨by decide, by decide⟩, by decide +kernel, by decide⟩
set_option maxRecDepth 100000 in
theorem zf_X9_forget : zi_mf zi_mt 197 1 yX9_forget cX9_forget 3 (some .int) 0 0 := ⟨⟨_, rfl⟩, zl_1072, zl_654, ⟨by decide, by decide⟩, by decide +kernel, by decide⟩
set_option maxRecDepth 100000 in
theorem zf_X9_isSo : zi_mf zi_mt 198 1 yX9_isSo cX9_isSo 4 (some .boolean) 0 0 := ⟨⟨_, rfl⟩, zl_1073, zl_654, ⟨by decide, by decide⟩, by decide +kernel, by decide⟩
set_option maxRecDepth 100000 in
theorem zf_X9_cutters : zi_mf zi_mt 199 1 yX9_cutters cX9_cutters 3 (some .int) 0 0 := ⟨⟨_, rfl⟩, zl_1074, zl_654, ⟨by decide, by decide⟩, by decide +kernel, by decide⟩
set_option maxRecDepth 100000 in
theorem zf_X9_fits : zi_mf zi_mt 200 1 yX9_fits cX9_fits 8 (some .int) 0 0 := ⟨⟨_, rfl⟩, zl_1075, zl_654, ⟨by decide, by decide⟩, by decide +kernel, by decide⟩
set_option maxRecDepth 100000 in
theorem zf_X9_copies : zi_mf zi_mt 201 2 yX9_copies cX9_copies 4 none 0 0 := ⟨⟨_, rfl⟩, zl_1076, zl_654, ⟨by decide, by decide⟩, by decide +kernel, by decide⟩
set_option maxRecDepth 100000 in
theorem zf_X9_keep : zi_mf zi_mt 202 1 yX9_keep cX9_keep 3 (some .int) 0 0 := ⟨⟨_, rfl⟩, zl_1077, zl_654, ⟨by decide, by decide⟩, by decide +kernel, by decide⟩
set_option maxRecDepth 100000 in
theorem zf_X9_back : zi_mf zi_mt 203 1 yX9_back cX9_back 2 (some .int) 0 0 := ⟨⟨_, rfl⟩, zl_1078, zl_654, ⟨by decide, by decide⟩, by decide +kernel, by decide⟩
set_option maxRecDepth 100000 in
theorem zf_X9_isSheet : zi_mf zi_mt 204 2 yX9_isSheet cX9_isSheet 2 (some .boolean) 0 0 := ⟨⟨_, rfl⟩, zl_1079, zl_654, ⟨by decide, by decide⟩, by decide +kernel, by decide⟩
set_option maxRecDepth 100000 in
theorem zf_X9_sheet : zi_mf zi_mt 205 3 yX9_sheet cX9_sheet 5 (some .int) 0 0 := ⟨⟨_, rfl⟩, zl_1080, zl_654, ⟨by decide, by decide⟩, by decide +kernel, by decide⟩
set_option maxRecDepth 100000 in
theorem zf_X9_lay : zi_mf zi_mt 206 3 yX9_lay cX9_lay 4 (some .int) 0 0 := ⟨⟨_, rfl⟩, zl_1081, zl_654, ⟨by decide, by decide⟩, by decide +kernel, by decide⟩
set_option maxRecDepth 100000 in
theorem zf_X9_read : zi_mf zi_mt 207 4 yX9_read cX9_read 12 (some .int) 0 0 := ⟨⟨_, rfl⟩, zl_1082, zl_654, ⟨by decide, by decide⟩, by decide +kernel, by decide⟩
set_option maxRecDepth 100000 in
theorem zf_X9_torn : zi_mf zi_mt 208 0 yX9_torn cX9_torn 1 (some .int) 0 0 := ⟨⟨_, rfl⟩, zl_1083, zl_654, ⟨by decide, by decide⟩, by decide +kernel, by decide⟩
set_option maxRecDepth 100000 in
theorem zf_X9_count : zi_mf zi_mt 209 1 yX9_count cX9_count 4 (some .int) 0 0 := ⟨⟨_, rfl⟩, zl_1084, zl_654, ⟨by decide, by decide⟩, by decide +kernel, by decide⟩
set_option maxRecDepth 100000 in
theorem zf_J6_bitCount_0f7a4 : zi_mf zi_mt 210 1 yJ6_bitCount_0f7a4 cJ6_bitCount_0f7a4 1 (some .int) 0 0 := ⟨⟨_, rfl⟩, zl_1085, zl_1086, ⟨by decide, by decide⟩, by decide +kernel, by decide⟩
set_option maxRecDepth 100000 in
theorem zf_J7_fill_53178 : zi_mf zi_mt 221 2 yJ7_fill_53178 cJ7_fill_53178 4 none 0 0 := ⟨⟨_, rfl⟩, zl_1087, zl_1088, ⟨by decide, by decide⟩, by decide +kernel, by decide⟩
