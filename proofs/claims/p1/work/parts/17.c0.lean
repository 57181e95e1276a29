set_option maxRecDepth 100000 in
set_option maxHeartbeats 4000000 in
theorem zd_0 : zg 0 zi_tp zi_tp zi_tp zi_tp := zl_leaf 100000 (by decide +kernel)
set_option maxRecDepth 100000 in
set_option maxHeartbeats 4000000 in
theorem zd_1 : zg 1 zi_tp zi_tp zi_tp zi_tp := zs1 2147483647 (zl_leaf 100000 (by decide +kernel)) (zs1 2147483648 (zl_leaf 100000 (by decide +kernel)) (zl_leaf 100000 (by decide +kernel)))
set_option maxRecDepth 100000 in
set_option maxHeartbeats 4000000 in
theorem zd_2 : zg 2 zi_tp zi_tp zi_tp zi_tp := zl_leaf 100000 (by decide +kernel)
set_option maxRecDepth 100000 in
set_option maxHeartbeats 4000000 in
theorem zd_3 : zg 3 zi_tp zi_tp zi_tp zi_tp := zl_leaf 100000 (by decide +kernel)
set_option maxRecDepth 100000 in
set_option maxHeartbeats 4000000 in
theorem zd_4 : zg 4 zi_tp zi_tp zi_tp zi_tp := zs1 2147483647 (zl_leaf 100000 (by decide +kernel)) (zs1 2147483648 (zl_leaf 100000 (by decide +kernel)) (zs1 2147483649 (zl_leaf 100000 (by decide +kernel)) (zs1 2147483650 (zl_leaf 100000 (by decide +kernel)) (zs1 2147483651 (zl_leaf 100000 (by decide +kernel)) (zs1 2147483652 (zl_leaf 100000 (by decide +kernel)) (zs1 2147483653 (zl_leaf 100000 (by decide +kernel)) (zs1 2147483654 (zl_leaf 100000 (by decide +kernel)) (zl_leaf 100000 (by decide +kernel)))))))))
set_option maxRecDepth 100000 in
set_option maxHeartbeats 4000000 in
theorem zd_5 : zg 5 zi_tp zi_tp zi_tp zi_tp := zs1 2147483647 (zl_leaf 100000 (by decide +kernel)) (zs1 2147483656 (zs2 2147483647 (zl_leaf 100000 (by decide +kernel)) (zs2 2147483649 (zs2 2147483648 (zs1 2147483648 (zl_leaf 100000 (by decide +kernel)) (zs1 2147483649 (zl_leaf 100000 (by decide +kernel)) (zs1 2147483650 (zl_leaf 100000 (by decide +kernel)) (zs1 2147483651 (zl_leaf 100000 (by decide +kernel)) (zs1 2147483652 (zl_leaf 100000 (by decide +kernel)) (zs1 2147483653 (zl_leaf 100000 (by decide +kernel)) (zs1 2147483654 (zl_leaf 100000 (by decide +kernel)) (zs1 2147483655 (zl_leaf 100000 (by decide +kernel)) (zl_leaf 100000 (by decide +kernel)))))))))) (zs1 2147483648 (zl_leaf 100000 (by decide +kernel)) (zs1 2147483649 (zl_leaf 100000 (by decide +kernel)) (zs1 2147483650 (zl_leaf 100000 (by decide +kernel)) (zs1 2147483651 (zl_leaf 100000 (by decide +kernel)) (zs1 2147483652 (zl_leaf 100000 (by decide +kernel)) (zs1 2147483653 (zl_leaf 100000 (by decide +kernel)) (zs1 2147483654 (zl_leaf 100000 (by decide +kernel)) (zs1 2147483655 (zl_leaf 100000 (by decide +kernel)) (zl_leaf 100000 (by decide +kernel))))))))))) (zl_leaf 100000 (by decide +kernel)))) (zl_leaf 100000 (by decide +kernel)))
set_option maxRecDepth 100000 in
set_option maxHeartbeats 4000000 in
theorem zd_6 : zg 6 zi_tp zi_tp zi_tp zi_tp := zs1 2147483647 (zl_leaf 100000 (by decide +kernel)) (zl_leaf 100000 (by decide +kernel))
set_option maxRecDepth 100000 in
set_option maxHeartbeats 4000000 in
theorem zd_7 : zg 7 zi_tp zi_tp zi_tp zi_tp := zs1 2147483647 (zl_leaf 100000 (by decide +kernel)) (zs1 2147483656 (zs1 2147483648 (zl_leaf 100000 (by decide +kernel)) (zs1 2147483649 (zl_leaf 100000 (by decide +kernel)) (zs1 2147483650 (zl_leaf 100000 (by decide +kernel)) (zs1 2147483651 (zl_leaf 100000 (by decide +kernel)) (zs1 2147483652 (zl_leaf 100000 (by decide +kernel)) (zs1 2147483653 (zl_leaf 100000 (by decide +kernel)) (zs1 2147483654 (zl_leaf 100000 (by decide +kernel)) (zs1 2147483655 (zl_leaf 100000 (by decide +kernel)) (zl_leaf 100000 (by decide +kernel)))))))))) (zl_leaf 100000 (by decide +kernel)))
set_option maxRecDepth 100000 in
set_option maxHeartbeats 4000000 in
theorem zd_8 : zg 8 zi_tp zi_tp zi_tp zi_tp := zs1 2147483647 (zl_leaf 100000 (by decide +kernel)) (zs1 2147483656 (zs2 2147483647 (zl_leaf 100000 (by decide +kernel)) (zs2 2147483747 (zs1 2147483648 (zl_leaf 100000 (by decide +kernel)) (zs1 2147483649 (zs2 2147483648 (zl_leaf 100000 (by decide +kernel)) (zl_leaf 100000 (by decide +kernel))) (zs1 2147483650 (zs2 2147483648 (zl_leaf 100000 (by decide +kernel)) (zl_leaf 100000 (by decide +kernel))) (zs1 2147483651 (zs2 2147483648 (zl_leaf 100000 (by decide +kernel)) (zl_leaf 100000 (by decide +kernel))) (zs1 2147483652 (zs2 2147483648 (zl_leaf 100000 (by decide +kernel)) (zl_leaf 100000 (by decide +kernel))) (zs1 2147483653 (zs2 2147483648 (zl_leaf 100000 (by decide +kernel)) (zl_leaf 100000 (by decide +kernel))) (zs1 2147483654 (zs2 2147483648 (zl_leaf 100000 (by decide +kernel)) (zl_leaf 100000 (by decide +kernel))) (zs1 2147483655 (zs2 2147483648 (zl_leaf 100000 (by decide +kernel)) (zl_leaf 100000 (by decide +kernel))) (zs2 2147483648 (zl_leaf 100000 (by decide +kernel)) (zl_leaf 100000 (by decide +kernel))))))))))) (zl_leaf 100000 (by decide +kernel)))) (zl_leaf 100000 (by decide +kernel)))
set_option maxRecDepth 100000 in
set_option maxHeartbeats 4000000 in
theorem zd_9 : zg 9 zi_tp zi_tp zi_tp zi_tp := zs1 2147483647 (zl_leaf 100000 (by decide +kernel)) (zs1 2147483656 (zs1 2147483652 (zs1 2147483650 (zs1 2147483649 (zs1 2147483648 (zl_leaf 100000 (by decide +kernel)) (zl_leaf 100000 (by decide +kernel))) (zl_leaf 100000 (by decide +kernel))) (zs1 2147483651 (zl_leaf 100000 (by decide +kernel)) (zl_leaf 100000 (by decide +kernel)))) (zs1 2147483654 (zs1 2147483653 (zl_leaf 100000 (by decide +kernel)) (zl_leaf 100000 (by decide +kernel))) (zs1 2147483655 (zl_leaf 100000 (by decide +kernel)) (zl_leaf 100000 (by decide +kernel))))) (zl_leaf 100000 (by decide +kernel)))
set_option maxRecDepth 100000 in
set_option maxHeartbeats 4000000 in
theorem zd_10 : zg 10 zi_tp zi_tp zi_tp zi_tp := zs1 2147483647 (zl_leaf 100000 (by decide +kernel)) (zs1 2147483650 (zl_leaf 100000 (by decide +kernel)) (zl_leaf 100000 (by decide +kernel)))
set_option maxRecDepth 100000 in
set_option maxHeartbeats 4000000 in
theorem zd_11 : zg 11 zi_tp zi_tp zi_tp zi_tp := zs1 2147483647 (zl_leaf 100000 (by decide +kernel)) (zs1 2147483648 (zl_leaf 100000 (by decide +kernel)) (zl_leaf 100000 (by decide +kernel)))
set_option maxRecDepth 100000 in
set_option maxHeartbeats 4000000 in
theorem zd_12 : zg 12 zi_tp zi_tp zi_tp zi_tp := zs1 2147483647 (zl_leaf 100000 (by decide +kernel)) (zl_leaf 100000 (by decide +kernel))
set_option maxRecDepth 100000 in
set_option maxHeartbeats 4000000 in
theorem zd_13 : zg 13 zi_tp zi_tp zi_tp zi_tp := zs1 2147483647 (zl_leaf 100000 (by decide +kernel)) (zs1 2147501223 (zs_dig (zl_leaf 100000 (by decide +kernel)) (zl_leaf 100000 (by decide +kernel)) (zl_leaf 100000 (by decide +kernel)) (zl_leaf 100000 (by decide +kernel)) (zl_leaf 100000 (by decide +kernel)) (zl_leaf 100000 (by decide +kernel)) (zl_leaf 100000 (by decide +kernel)) (zl_leaf 100000 (by decide +kernel))) (zl_leaf 100000 (by decide +kernel)))
set_option maxRecDepth 100000 in
set_option maxHeartbeats 4000000 in
theorem zd_14 : zg 14 zi_tp zi_tp zi_tp zi_tp := zs1 2147483647 (zl_leaf 100000 (by decide +kernel)) (zs1 2147501223 (zs2 2147483647 (zl_leaf 100000 (by decide +kernel)) (zl_leaf 100000 (by decide +kernel))) (zl_leaf 100000 (by decide +kernel)))
set_option maxRecDepth 100000 in
set_option maxHeartbeats 4000000 in
theorem zd_15 : zg 15 zi_tp zi_tp zi_tp zi_tp := zs1 2147483647 (zl_leaf 100000 (by decide +kernel)) (zs1 2147501223 (zl_leaf 100000 (by decide +kernel)) (zl_leaf 100000 (by decide +kernel)))
set_option maxRecDepth 100000 in
set_option maxHeartbeats 4000000 in
theorem zd_16 : zg 16 zi_tp zi_tp zi_tp zi_tp := zs1 2147483647 (zl_leaf 100000 (by decide +kernel)) (zs1 2147483648 (zl_leaf 100000 (by decide +kernel)) (zl_leaf 100000 (by decide +kernel)))
set_option maxRecDepth 100000 in
set_option maxHeartbeats 4000000 in
theorem zd_17 : zg 17 zi_tp zi_tp zi_tp zi_tp := zs1 2147483647 (zl_leaf 100000 (by decide +kernel)) (zs1 2147483649 (zs1 2147483648 (zl_leaf 100000 (by decide +kernel)) (zl_leaf 100000 (by decide +kernel))) (zl_leaf 100000 (by decide +kernel)))
set_option maxRecDepth 100000 in
set_option maxHeartbeats 4000000 in
theorem zd_18 : zg 18 zi_tp zi_tp zi_tp zi_tp := zs1 2147483657 (zs2 2147483657 (zs3 2147483657 (zs1 2147483647 (zl_leaf 100000 (by decide +kernel)) (zl_leaf 100000 (by decide +kernel))) (zs3 2147483660 (zs1 2147483647 (zl_leaf 100000 (by decide +kernel)) (zl_leaf 100000 (by decide +kernel))) (zs1 2147483647 (zl_leaf 100000 (by decide +kernel)) (zl_leaf 100000 (by decide +kernel))))) (zs3 2147483657 (zs1 2147483647 (zl_leaf 100000 (by decide +kernel)) (zl_leaf 100000 (by decide +kernel))) (zs2 2147483660 (zs3 2147483660 (zs1 2147483647 (zl_leaf 100000 (by decide +kernel)) (zl_leaf 100000 (by decide +kernel))) (zs1 2147483647 (zl_leaf 100000 (by decide +kernel)) (zl_leaf 100000 (by decide +kernel)))) (zs3 2147483660 (zs1 2147483647 (zl_leaf 100000 (by decide +kernel)) (zl_leaf 100000 (by decide +kernel))) (zs1 2147483647 (zl_leaf 100000 (by decide +kernel)) (zl_leaf 100000 (by decide +kernel))))))) (zs2 2147483657 (zs3 2147483657 (zl_leaf 100000 (by decide +kernel)) (zs1 2147483660 (zs3 2147483660 (zl_leaf 100000 (by decide +kernel)) (zl_leaf 100000 (by decide +kernel))) (zs3 2147483660 (zl_leaf 100000 (by decide +kernel)) (zl_leaf 100000 (by decide +kernel))))) (zs3 2147483657 (zl_leaf 100000 (by decide +kernel)) (zs1 2147483660 (zs2 2147483660 (zs3 2147483660 (zl_leaf 100000 (by decide +kernel)) (zl_leaf 100000 (by decide +kernel))) (zs3 2147483660 (zl_leaf 100000 (by decide +kernel)) (zl_leaf 100000 (by decide +kernel)))) (zs2 2147483660 (zs3 2147483660 (zl_leaf 100000 (by decide +kernel)) (zl_leaf 100000 (by decide +kernel))) (zs3 2147483660 (zl_leaf 100000 (by decide +kernel)) (zl_leaf 100000 (by decide +kernel)))))))
set_option maxRecDepth 100000 in
set_option maxHeartbeats 4000000 in
theorem zd_20 : zg 20 zi_tp zi_tp zi_tp zi_tp := zs1 2147483647 (zs1 15 (zs1 7 (zs1 3 (zs1 1 (zs1 0 (zl_leaf 100000 (by decide +kernel)) (zl_leaf 100000 (by decide +kernel))) (zs1 2 (zl_leaf 100000 (by decide +kernel)) (zl_leaf 100000 (by decide +kernel)))) (zs1 5 (zs1 4 (zl_leaf 100000 (by decide +kernel)) (zl_leaf 100000 (by decide +kernel))) (zs1 6 (zl_leaf 100000 (by decide +kernel)) (zl_leaf 100000 (by decide +kernel))))) (zs1 11 (zs1 9 (zs1 8 (zl_leaf 100000 (by decide +kernel)) (zl_leaf 100000 (by decide +kernel))) (zl_leaf 100000 (by decide +kernel))) (zl_leaf 100000 (by decide +kernel)))) (zl_leaf 100000 (by decide +kernel))) (zs1 2147483648 (zl_leaf 100000 (by decide +kernel)) (zs1 2147483657 (zl_leaf 100000 (by decide +kernel)) (zl_leaf 100000 (by decide +kernel))))
set_option maxRecDepth 100000 in
set_option maxHeartbeats 4000000 in
theorem zd_21 : zg 21 zi_tp zi_tp zi_tp zi_tp := zs1 2147483647 (zl_leaf 100000 (by decide +kernel)) (zs1 2147483649 (zs1 2147483648 (zl_leaf 100000 (by decide +kernel)) (zl_leaf 100000 (by decide +kernel))) (zl_leaf 100000 (by decide +kernel)))
set_option maxRecDepth 100000 in
set_option maxHeartbeats 4000000 in
theorem zd_22 : zg 22 zi_tp zi_tp zi_tp zi_tp := zs1 2147483647 (zl_leaf 100000 (by decide +kernel)) (zs1 2147501223 (zs_dig (zl_leaf 100000 (by decide +kernel)) (zl_leaf 100000 (by decide +kernel)) (zl_leaf 100000 (by decide +kernel)) (zl_leaf 100000 (by decide +kernel)) (zl_leaf 100000 (by decide +kernel)) (zl_leaf 100000 (by decide +kernel)) (zl_leaf 100000 (by decide +kernel)) (zl_leaf 100000 (by decide +kernel))) (zl_leaf 100000 (by decide +kernel)))
set_option maxRecDepth 100000 in
set_option maxHeartbeats 4000000 in
theorem zd_24 : zg 24 zi_tp zi_tp zi_tp zi_tp := zs1 2147483647 (zl_leaf 100000 (by decide +kernel)) (zs1 2147483649 (zs1 2147483648 (zl_leaf 100000 (by decide +kernel)) (zl_leaf 100000 (by decide +kernel))) (zl_leaf 100000 (by decide +kernel)))
set_option maxRecDepth 100000 in
set_option maxHeartbeats 4000000 in
theorem zd_26 : zg 26 zi_tp zi_tp zi_tp zi_tp := zs1 2147483647 (zs2 2147483647 (zl_leaf 100000 (by decide +kernel)) (zs2 2147483648 (zl_leaf 100000 (by decide +kernel)) (zl_leaf 100000 (by decide +kernel)))) (zs1 2147483648 (zs2 2147483647 (zl_leaf 100000 (by decide +kernel)) (zs2 2147483648 (zl_leaf 100000 (by decide +kernel)) (zl_leaf 100000 (by decide +kernel)))) (zs2 2147483647 (zs1 2147483656 (zl_leaf 100000 (by decide +kernel)) (zl_leaf 100000 (by decide +kernel))) (zs2 2147483648 (zs1 2147483656 (zl_leaf 100000 (by decide +kernel)) (zl_leaf 100000 (by decide +kernel))) (zs1 2147483656 (zl_leaf 100000 (by decide +kernel)) (zl_leaf 100000 (by decide +kernel))))))
set_option maxRecDepth 100000 in
set_option maxHeartbeats 4000000 in
theorem zd_27 : zg 27 zi_tp zi_tp zi_tp zi_tp := zs1 2147483647 (zl_leaf 100000 (by decide +kernel)) (zs1 2147483648 (zl_leaf 100000 (by decide +kernel)) (zl_leaf 100000 (by decide +kernel)))
set_option maxRecDepth 100000 in
set_option maxHeartbeats 4000000 in
theorem zd_28 : zg 28 zi_tp zi_tp zi_tp zi_tp := zs1 2147483647 (zl_leaf 100000 (by decide +kernel)) (zs1 2147483651 (zs1 2147483648 (zl_leaf 100000 (by decide +kernel)) (zs1 2147483649 (zl_leaf 100000 (by decide +kernel)) (zs1 2147483650 (zl_leaf 100000 (by decide +kernel)) (zl_leaf 100000 (by decide +kernel))))) (zl_leaf 100000 (by decide +kernel)))
set_option maxRecDepth 100000 in
set_option maxHeartbeats 4000000 in
theorem zd_29 : zg 29 zi_tp zi_tp zi_tp zi_tp := zs1 2147483647 (zl_leaf 100000 (by decide +kernel)) (zs1 2147483649 (zs1 2147483648 (zl_leaf 100000 (by decide +kernel)) (zl_leaf 100000 (by decide +kernel))) (zl_leaf 100000 (by decide +kernel)))
set_option maxRecDepth 100000 in
set_option maxHeartbeats 4000000 in
theorem zd_30 : zg 30 zi_tp zi_tp zi_tp zi_tp := zs1 2147483647 (zl_leaf 100000 (by decide +kernel)) (zs1 2147483649 (zs1 2147483648 (zl_leaf 100000 (by decide +kernel)) (zl_leaf 100000 (by decide +kernel))) (zl_leaf 100000 (by decide +kernel)))
set_option maxRecDepth 100000 in
set_option maxHeartbeats 4000000 in
theorem zd_31 : zg 31 zi_tp zi_tp zi_tp zi_tp := zs1 2147483647 (zl_leaf 100000 (by decide +kernel)) (zs1 2147483651 (zs2 2147483647 (zl_leaf 100000 (by decide +kernel)) (zs2 2147483650 (zs3 2147483688 (zs3 2147483647 (zl_leaf 100000 (by decide +kernel)) (zs1 2147483648 (zl_leaf 100000 (by decide +kernel)) (zs1 2147483649 (zl_leaf 100000 (by decide +kernel)) (zs1 2147483650 (zl_leaf 100000 (by decide +kernel)) (zl_leaf 100000 (by decide +kernel)))))) (zl_leaf 100000 (by decide +kernel))) (zl_leaf 100000 (by decide +kernel)))) (zl_leaf 100000 (by decide +kernel)))
set_option maxRecDepth 100000 in
set_option maxHeartbeats 4000000 in
theorem zd_32 : zg 32 zi_tp zi_tp zi_tp zi_tp := zs1 2147483647 (zl_leaf 100000 (by decide +kernel)) (zs1 2147483651 (zs1 2147483648 (zl_leaf 100000 (by decide +kernel)) (zs1 2147483649 (zl_leaf 100000 (by decide +kernel)) (zs1 2147483650 (zl_leaf 100000 (by decide +kernel)) (zl_leaf 100000 (by decide +kernel))))) (zl_leaf 100000 (by decide +kernel)))
set_option maxRecDepth 100000 in
set_option maxHeartbeats 4000000 in
theorem zd_33 : zg 33 zi_tp zi_tp zi_tp zi_tp := zs1 2147483647 (zl_leaf 100000 (by decide +kernel)) (zs1 2147483651 (zs2 2147483647 (zl_leaf 100000 (by decide +kernel)) (zs2 2147483650 (zs3 2147483647 (zs4 2147483647 (zl_leaf 100000 (by decide +kernel)) (zs4 2147483668 (zs4 2147483648 (zl_leaf 100000 (by decide +kernel)) (zs1 2147483648 (zs4 2147483649 (zl_leaf 100000 (by decide +kernel)) (zl_leaf 100000 (by decide +kernel))) (zs1 2147483649 (zs4 2147483649 (zl_leaf 100000 (by decide +kernel)) (zl_leaf 100000 (by decide +kernel))) (zs1 2147483650 (zs4 2147483649 (zl_leaf 100000 (by decide +kernel)) (zl_leaf 100000 (by decide +kernel))) (zs4 2147483649 (zl_leaf 100000 (by decide +kernel)) (zl_leaf 100000 (by decide +kernel))))))) (zl_leaf 100000 (by decide +kernel)))) (zs4 2147483647 (zl_leaf 100000 (by decide +kernel)) (zs3 2147483668 (zs4 2147483668 (zs3 2147483648 (zs4 2147483648 (zl_leaf 100000 (by decide +kernel)) (zs1 2147483648 (zs4 2147483649 (zl_leaf 100000 (by decide +kernel)) (zl_leaf 100000 (by decide +kernel))) (zs1 2147483649 (zs4 2147483649 (zl_leaf 100000 (by decide +kernel)) (zl_leaf 100000 (by decide +kernel))) (zs1 2147483650 (zs4 2147483649 (zl_leaf 100000 (by decide +kernel)) (zl_leaf 100000 (by decide +kernel))) (zs4 2147483649 (zl_leaf 100000 (by decide +kernel)) (zl_leaf 100000 (by decide +kernel))))))) (zs4 2147483648 (zl_leaf 100000 (by decide +kernel)) (zs1 2147483648 (zs3 2147483649 (zs4 2147483649 (zl_leaf 100000 (by decide +kernel)) (zl_leaf 100000 (by decide +kernel))) (zs4 2147483649 (zl_leaf 100000 (by decide +kernel)) (zl_leaf 100000 (by decide +kernel)))) (zs1 2147483649 (zs3 2147483649 (zs4 2147483649 (zl_leaf 100000 (by decide +kernel)) (zl_leaf 100000 (by decide +kernel))) (zs4 2147483649 (zl_leaf 100000 (by decide +kernel)) (zl_leaf 100000 (by decide +kernel)))) (zs1 2147483650 (zs3 2147483649 (zs4 2147483649 (zl_leaf 100000 (by decide +kernel)) (zl_leaf 100000 (by decide +kernel))) (zs4 2147483649 (zl_leaf 100000 (by decide +kernel)) (zl_leaf 100000 (by decide +kernel)))) (zs3 2147483649 (zs4 2147483649 (zl_leaf 100000 (by decide +kernel)) (zl_leaf 100000 (by decide +kernel))) (zs4 2147483649 (zl_leaf 100000 (by decide +kernel)) (zl_leaf 100000 (by decide +kernel))))))))) (zl_leaf 100000 (by decide +kernel))) (zs4 2147483668 (zs4 2147483648 (zl_leaf 100000 (by decide +kernel)) (zs1 2147483648 (zs4 2147483649 (zl_leaf 100000 (by decide +kernel)) (zl_leaf 100000 (by decide +kernel))) (zs1 2147483649 (zs4 2147483649 (zl_leaf 100000 (by decide +kernel)) (zl_leaf 100000 (by decide +kernel))) (zs1 2147483650 (zs4 2147483649 (zl_leaf 100000 (by decide +kernel)) (zl_leaf 100000 (by decide +kernel))) (zs4 2147483649 (zl_leaf 100000 (by decide +kernel)) (zl_leaf 100000 (by decide +kernel))))))) (zl_leaf 100000 (by decide +kernel)))))) (zl_leaf 100000 (by decide +kernel)))) (zl_leaf 100000 (by decide +kernel)))
set_option maxRecDepth 100000 in
set_option maxHeartbeats 4000000 in
theorem zd_34 : zg 34 zi_tp zi_tp zi_tp zi_tp := zl_leaf 100000 (by decide +kernel)
set_option maxRecDepth 100000 in
set_option maxHeartbeats 4000000 in
theorem zd_35 : zg 35 zi_tp zi_tp zi_tp zi_tp := zs1 2147483647 (zl_leaf 100000 (by decide +kernel)) (zs1 2147483648 (zl_leaf 100000 (by decide +kernel)) (zs1 2147483649 (zl_leaf 100000 (by decide +kernel)) (zs1 2147483650 (zl_leaf 100000 (by decide +kernel)) (zs1 2147483651 (zl_leaf 100000 (by decide +kernel)) (zs1 2147483652 (zl_leaf 100000 (by decide +kernel)) (zs1 2147483653 (zl_leaf 100000 (by decide +kernel)) (zs1 2147483654 (zl_leaf 100000 (by decide +kernel)) (zs1 2147483655 (zl_leaf 100000 (by decide +kernel)) (zl_leaf 100000 (by decide +kernel))))))))))
