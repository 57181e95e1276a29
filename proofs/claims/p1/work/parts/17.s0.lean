set_option maxRecDepth 100000 in
set_option maxHeartbeats 4000000 in
theorem zd_23_0 : zg 23 (.inl (0, 2147483647)) (.inl (0, 4294967295)) (.inl (0, 4294967295)) (.inl (0, 4294967295)) := zl_leaf 100000 (by decide +kernel)
set_option maxRecDepth 100000 in
set_option maxHeartbeats 4000000 in
theorem zd_23_1 : zg 23 (.inl (2147483648, 2147483648)) (.inl (0, 4294967295)) (.inl (0, 4294967295)) (.inl (0, 4294967295)) := zl_leaf 100000 (by decide +kernel)
