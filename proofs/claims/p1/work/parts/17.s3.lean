set_option maxRecDepth 100000 in
set_option maxHeartbeats 4000000 in
theorem zd_23_6 : zg 23 (.inl (2147483653, 2147483653)) (.inl (0, 4294967295)) (.inl (0, 4294967295)) (.inl (0, 4294967295)) := zl_leaf 100000 (by decide +kernel)
set_option maxRecDepth 100000 in
set_option maxHeartbeats 4000000 in
theorem zd_23_7 : zg 23 (.inl (2147483654, 2147483654)) (.inl (0, 4294967295)) (.inl (0, 4294967295)) (.inl (0, 4294967295)) := zl_leaf 100000 (by decide +kernel)
