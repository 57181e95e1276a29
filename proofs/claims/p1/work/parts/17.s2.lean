set_option maxRecDepth 100000 in
set_option maxHeartbeats 4000000 in
theorem zd_23_4 : zg 23 (.inl (2147483651, 2147483651)) (.inl (0, 4294967295)) (.inl (0, 4294967295)) (.inl (0, 4294967295)) := zl_leaf 100000 (by decide +kernel)
set_option maxRecDepth 100000 in
set_option maxHeartbeats 4000000 in
theorem zd_23_5 : zg 23 (.inl (2147483652, 2147483652)) (.inl (0, 4294967295)) (.inl (0, 4294967295)) (.inl (0, 4294967295)) := zl_leaf 100000 (by decide +kernel)
