set_option maxRecDepth 100000 in
set_option maxHeartbeats 4000000 in
theorem zd_23_2 : zg 23 (.inl (2147483649, 2147483649)) (.inl (0, 4294967295)) (.inl (0, 4294967295)) (.inl (0, 4294967295)) := zl_leaf 100000 (by decide +kernel)
set_option maxRecDepth 100000 in
set_option maxHeartbeats 4000000 in
theorem zd_23_3 : zg 23 (.inl (2147483650, 2147483650)) (.inl (0, 4294967295)) (.inl (0, 4294967295)) (.inl (0, 4294967295)) := zl_leaf 100000 (by decide +kernel)
