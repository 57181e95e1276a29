set_option maxRecDepth 100000 in
theorem zc_0 : zi_cls 0 RX0 TX0 3 tyX0 := ⟨rfl, fun w h => zi_inG ((by decide +kernel : ∀ w ∈ u_ws RX0 TX0 3, w ∈ lw_tbl) w h) ((by decide +kernel : ∀ w ∈ u_ws RX0 TX0 3, goodWord w = true) w h), tyX0_ok, nmX0⟩
set_option maxRecDepth 100000 in
def zv_0 : List Value := [.null, .null, .int 0]
set_option maxRecDepth 100000 in
theorem zn_0 : ∀ j, j < 3 → defaultValue (tyX0 j) = vp_V zv_0 j := by decide +kernel
set_option maxRecDepth 100000 in
theorem zw_0 (b : Nat) (ads : List Nat) : zi_a2 (zi_g b ads) [.inr (.inr (.inl none)), .inr (.inr (.inl none)), (.inl (2147483648, 2147483648))] zv_0 := za_c za_nl (za_c za_nl (za_c za_i0 (za_n)))
set_option maxRecDepth 100000 in
theorem zc_1 : zi_cls 1 RX1 TX1 10 tyX1 := ⟨rfl, fun w h => zi_inG ((by decide +kernel : ∀ w ∈ u_ws RX1 TX1 10, w ∈ lw_tbl) w h) ((by decide +kernel : ∀ w ∈ u_ws RX1 TX1 10, goodWord w = true) w h), tyX1_ok, nmX1⟩
set_option maxRecDepth 100000 in
def zv_1 : List Value := [.null, .null, .null, .null, .int 0, .int 0, .int 0, .int 0, .int 0, .int 0]
set_option maxRecDepth 100000 in
theorem zn_1 : ∀ j, j < 10 → defaultValue (tyX1 j) = vp_V zv_1 j := by decide +kernel
set_option maxRecDepth 100000 in
theorem zw_1 (b : Nat) (ads : List Nat) : zi_a2 (zi_g b ads) [.inr (.inr (.inl none)), .inr (.inr (.inl none)), .inr (.inr (.inl none)), .inr (.inr (.inl none)), (.inl (2147483648, 2147483648)), (.inl (2147483648, 2147483648)), (.inl (2147483648, 2147483648)), (.inl (2147483648, 2147483648)), (.inl (2147483648, 2147483648)), (.inl (2147483648, 2147483648))] zv_1 := za_c za_nl (za_c za_nl (za_c za_nl (za_c za_nl (za_c za_i0 (za_c za_i0 (za_c za_i0 (za_c za_i0 (za_c za_i0 (za_c za_i0 (za_n))))))))))
set_option maxRecDepth 100000 in
theorem zc_2 : zi_cls 2 RX2 TX2 8 tyX2 := ⟨rfl, fun w h => zi_inG ((by decide +kernel : ∀ w ∈ u_ws RX2 TX2 8, w ∈ lw_tbl) w h) ((by decide +kernel : ∀ w ∈ u_ws RX2 TX2 8, goodWord w = true) w h), tyX2_ok, nmX2⟩
set_option maxRecDepth 100000 in
def zv_2 : List Value := [.null, .null, .null, .int 0, .int 0, .int 0, .int 0, .int 0]
set_option maxRecDepth 100000 in
theorem zn_2 : ∀ j, j < 8 → defaultValue (tyX2 j) = vp_V zv_2 j := by decide +kernel
set_option maxRecDepth 100000 in
theorem zw_2 (b : Nat) (ads : List Nat) : zi_a2 (zi_g b ads) [.inr (.inr (.inl none)), .inr (.inr (.inl none)), .inr (.inr (.inl none)), (.inl (2147483648, 2147483648)), (.inl (2147483648, 2147483648)), (.inl (2147483648, 2147483648)), (.inl (2147483648, 2147483648)), (.inl (2147483648, 2147483648))] zv_2 := za_c za_nl (za_c za_nl (za_c za_nl (za_c za_i0 (za_c za_i0 (za_c za_i0 (za_c za_i0 (za_c za_i0 (za_n))))))))
set_option maxRecDepth 100000 in
theorem zc_3 : zi_cls 3 RX3 TX3 5 tyX3 := ⟨rfl, fun w h => zi_inG ((by decide +kernel : ∀ w ∈ u_ws RX3 TX3 5, w ∈ lw_tbl) w h) ((by decide +kernel : ∀ w ∈ u_ws RX3 TX3 5, goodWord w = true) w h), tyX3_ok, nmX3⟩
set_option maxRecDepth 100000 in
def zv_3 : List Value := [.null, .null, .int 0, .int 0, .int 0]
set_option maxRecDepth 100000 in
theorem zn_3 : ∀ j, j < 5 → defaultValue (tyX3 j) = vp_V zv_3 j := by decide +kernel
set_option maxRecDepth 100000 in
theorem zw_3 (b : Nat) (ads : List Nat) : zi_a2 (zi_g b ads) [.inr (.inr (.inl none)), .inr (.inr (.inl none)), (.inl (2147483648, 2147483648)), (.inl (2147483648, 2147483648)), (.inl (2147483648, 2147483648))] zv_3 := za_c za_nl (za_c za_nl (za_c za_i0 (za_c za_i0 (za_c za_i0 (za_n)))))
set_option maxRecDepth 100000 in
theorem zc_4 : zi_cls 4 RX4 TX4 7 tyX4 := ⟨rfl, fun w h => zi_inG ((by decide +kernel : ∀ w ∈ u_ws RX4 TX4 7, w ∈ lw_tbl) w h) ((by decide +kernel : ∀ w ∈ u_ws RX4 TX4 7, goodWord w = true) w h), tyX4_ok, nmX4⟩
set_option maxRecDepth 100000 in
def zv_4 : List Value := [.null, .null, .null, .null, .null, .int 0, .int 0]
set_option maxRecDepth 100000 in
theorem zn_4 : ∀ j, j < 7 → defaultValue (tyX4 j) = vp_V zv_4 j := by decide +kernel
set_option maxRecDepth 100000 in
theorem zw_4 (b : Nat) (ads : List Nat) : zi_a2 (zi_g b ads) [.inr (.inr (.inl none)), .inr (.inr (.inl none)), .inr (.inr (.inl none)), .inr (.inr (.inl none)), .inr (.inr (.inl none)), (.inl (2147483648, 2147483648)), (.inl (2147483648, 2147483648))] zv_4 := za_c za_nl (za_c za_nl (za_c za_nl (za_c za_nl (za_c za_nl (za_c za_i0 (za_c za_i0 (za_n)))))))
set_option maxRecDepth 100000 in
theorem zc_5 : zi_cls 5 RX5 TX5 3 tyX5 := ⟨rfl, fun w h => zi_inG ((by decide +kernel : ∀ w ∈ u_ws RX5 TX5 3, w ∈ lw_tbl) w h) ((by decide +kernel : ∀ w ∈ u_ws RX5 TX5 3, goodWord w = true) w h), tyX5_ok, nmX5⟩
set_option maxRecDepth 100000 in
def zv_5 : List Value := [.null, .null, .null]
set_option maxRecDepth 100000 in
theorem zn_5 : ∀ j, j < 3 → defaultValue (tyX5 j) = vp_V zv_5 j := by decide +kernel
set_option maxRecDepth 100000 in
theorem zw_5 (b : Nat) (ads : List Nat) : zi_a2 (zi_g b ads) [.inr (.inr (.inl none)), .inr (.inr (.inl none)), .inr (.inr (.inl none))] zv_5 := za_c za_nl (za_c za_nl (za_c za_nl (za_n)))
set_option maxRecDepth 100000 in
theorem zc_6 : zi_cls 6 RX6 TX6 8 tyX6 := ⟨rfl, fun w h => zi_inG ((by decide +kernel : ∀ w ∈ u_ws RX6 TX6 8, w ∈ lw_tbl) w h) ((by decide +kernel : ∀ w ∈ u_ws RX6 TX6 8, goodWord w = true) w h), tyX6_ok, nmX6⟩
set_option maxRecDepth 100000 in
def zv_6 : List Value := [.null, .int 0, .int 0, .int 0, .int 0, .int 0, .int 0, .int 0]
set_option maxRecDepth 100000 in
theorem zn_6 : ∀ j, j < 8 → defaultValue (tyX6 j) = vp_V zv_6 j := by decide +kernel
set_option maxRecDepth 100000 in
theorem zw_6 (b : Nat) (ads : List Nat) : zi_a2 (zi_g b ads) [.inr (.inr (.inl none)), (.inl (2147483648, 2147483648)), (.inl (2147483648, 2147483648)), (.inl (2147483648, 2147483648)), (.inl (2147483648, 2147483648)), (.inl (2147483648, 2147483648)), (.inl (2147483648, 2147483648)), (.inl (2147483648, 2147483648))] zv_6 := za_c za_nl (za_c za_i0 (za_c za_i0 (za_c za_i0 (za_c za_i0 (za_c za_i0 (za_c za_i0 (za_c za_i0 (za_n))))))))
set_option maxRecDepth 100000 in
theorem zc_7 : zi_cls 7 RX7 TX7 7 tyX7 := ⟨rfl, fun w h => zi_inG ((by decide +kernel : ∀ w ∈ u_ws RX7 TX7 7, w ∈ lw_tbl) w h) ((by decide +kernel : ∀ w ∈ u_ws RX7 TX7 7, goodWord w = true) w h), tyX7_ok, nmX7⟩
set_option maxRecDepth 100000 in
def zv_7 : List Value := [.null, .null, .null, .null, .int 0, .int 0, .int 0]
set_option maxRecDepth 100000 in
theorem zn_7 : ∀ j, j < 7 → defaultValue (tyX7 j) = vp_V zv_7 j := by decide +kernel
set_option maxRecDepth 100000 in
theorem zw_7 (b : Nat) (ads : List Nat) : zi_a2 (zi_g b ads) [.inr (.inr (.inl none)), .inr (.inr (.inl none)), .inr (.inr (.inl none)), .inr (.inr (.inl none)), (.inl (2147483648, 2147483648)), (.inl (2147483648, 2147483648)), (.inl (2147483648, 2147483648))] zv_7 := za_c za_nl (za_c za_nl (za_c za_nl (za_c za_nl (za_c za_i0 (za_c za_i0 (za_c za_i0 (za_n)))))))
set_option maxRecDepth 100000 in
theorem zc_8 : zi_cls 8 RX8 TX8 14 tyX8 := ⟨rfl, fun w h => zi_inG ((by decide +kernel : ∀ w ∈ u_ws RX8 TX8 14, w ∈ lw_tbl) w h) ((by decide +kernel : ∀ w ∈ u_ws RX8 TX8 14, goodWord w = true) w h), tyX8_ok, nmX8⟩
set_option maxRecDepth 100000 in
def zv_8 : List Value := [.null, .null, .null, .null, .null, .null, .null, .null, .null, .null, .null, .int 0, .int 0, .int 0]
set_option maxRecDepth 100000 in
theorem zn_8 : ∀ j, j < 14 → defaultValue (tyX8 j) = vp_V zv_8 j := by decide +kernel
set_option maxRecDepth 100000 in
theorem zw_8 (b : Nat) (ads : List Nat) : zi_a2 (zi_g b ads) [.inr (.inr (.inl none)), .inr (.inr (.inl none)), .inr (.inr (.inl none)), .inr (.inr (.inl none)), .inr (.inr (.inl none)), .inr (.inr (.inl none)), .inr (.inr (.inl none)), .inr (.inr (.inl none)), .inr (.inr (.inl none)), .inr (.inr (.inl none)), .inr (.inr (.inl none)), (.inl (2147483648, 2147483648)), (.inl (2147483648, 2147483648)), (.inl (2147483648, 2147483648))] zv_8 := za_c za_nl (za_c za_nl (za_c za_nl (za_c za_nl (za_c za_nl (za_c za_nl (za_c za_nl (za_c za_nl (za_c za_nl (za_c za_nl (za_c za_nl (za_c za_i0 (za_c za_i0 (za_c za_i0 (za_n))))))))))))))
set_option maxRecDepth 100000 in
theorem zc_9 : zi_cls 9 RX9 TX9 47 tyX9 := ⟨rfl, fun w h => zi_inG ((by decide +kernel : ∀ w ∈ u_ws RX9 TX9 47, w ∈ lw_tbl) w h) ((by decide +kernel : ∀ w ∈ u_ws RX9 TX9 47, goodWord w = true) w h), tyX9_ok, nmX9⟩
set_option maxRecDepth 100000 in
def zv_9 : List Value := [.null, .null, .int 0, .int 0, .int 0, .null, .int 0, .int 0, .int 0, .int 0, .int 0, .int 0, .null, .null, .null, .null, .int 0, .int 0, .int 0, .int 0, .int 0, .int 0, .null, .int 0, .int 0, .int 0, .int 0, .int 0, .int 0, .int 0, .null, .int 0, .int 0, .null, .null, .null, .null, .null, .null, .null, .null, .null, .null, .null, .null, .int 0, .null]
set_option maxRecDepth 100000 in
theorem zn_9 : ∀ j, j < 47 → defaultValue (tyX9 j) = vp_V zv_9 j := by decide +kernel
set_option maxRecDepth 100000 in
theorem zw_9 (b : Nat) (ads : List Nat) : zi_a2 (zi_g b ads) [.inr (.inr (.inl none)), .inr (.inr (.inl none)), (.inl (2147483648, 2147483648)), (.inl (2147483648, 2147483648)), (.inl (2147483648, 2147483648)), .inr (.inr (.inl none)), (.inl (2147483648, 2147483648)), (.inl (2147483648, 2147483648)), (.inl (2147483648, 2147483648)), (.inl (2147483648, 2147483648)), (.inl (2147483648, 2147483648)), (.inl (2147483648, 2147483648)), .inr (.inr (.inl none)), .inr (.inr (.inl none)), .inr (.inr (.inl none)), .inr (.inr (.inl none)), (.inl (2147483648, 2147483648)), (.inl (2147483648, 2147483648)), (.inl (2147483648, 2147483648)), (.inl (2147483648, 2147483648)), (.inl (2147483648, 2147483648)), (.inl (2147483648, 2147483648)), .inr (.inr (.inl none)), (.inl (2147483648, 2147483648)), (.inl (2147483648, 2147483648)), (.inl (2147483648, 2147483648)), (.inl (2147483648, 2147483648)), (.inl (2147483648, 2147483648)), (.inl (2147483648, 2147483648)), (.inl (2147483648, 2147483648)), .inr (.inr (.inl none)), (.inl (2147483648, 2147483648)), (.inl (2147483648, 2147483648)), .inr (.inr (.inl none)), .inr (.inr (.inl none)), .inr (.inr (.inl none)), .inr (.inr (.inl none)), .inr (.inr (.inl none)), .inr (.inr (.inl none)), .inr (.inr (.inl none)), .inr (.inr (.inl none)), .inr (.inr (.inl none)), .inr (.inr (.inl none)), .inr (.inr (.inl none)), .inr (.inr (.inl none)), (.inl (2147483648, 2147483648)), .inr (.inr (.inl none))] zv_9 := za_c za_nl (za_c za_nl (za_c za_i0 (za_c za_i0 (za_c za_i0 (za_c za_nl (za_c za_i0 (za_c za_i0 (za_c za_i0 (za_c za_i0 (za_c za_i0 (za_c za_i0 (za_c za_nl (za_c za_nl (za_c za_nl (za_c za_nl (za_c za_i0 (za_c za_i0 (za_c za_i0 (za_c za_i0 (za_c za_i0 (za_c za_i0 (za_c za_nl (za_c za_i0 (za_c za_i0 (za_c za_i0 (za_c za_i0 (za_c za_i0 (za_c za_i0 (za_c za_i0 (za_c za_nl (za_c za_i0 (za_c za_i0 (za_c za_nl (za_c za_nl (za_c za_nl (za_c za_nl (za_c za_nl (za_c za_nl (za_c za_nl (za_c za_nl (za_c za_nl (za_c za_nl (za_c za_nl (za_c za_nl (za_c za_i0 (za_c za_nl (za_n)))))))))))))))))))))))))))))))))))))))))))))))
set_option maxRecDepth 100000 in
theorem zl_0 : Cond.fieldLink "RiverDiggers$Digger" 20 "RiverDiggers$Digger" "next" "LRiverDiggers$Digger;" ∈ zi_G := zi_inG (List.mem_append_right _ (List.mem_append_left _ (List.mem_of_getElem? (l := tables_1_1) (i := 189) rfl))) rfl
set_option maxRecDepth 100000 in
theorem zl_1 : Cond.fieldLink "RiverDiggers$Digger" 14 "RiverDiggers$Digger" "flow" "LRiverDiggers$Flow;" ∈ zi_G := zi_inG (List.mem_append_right _ (List.mem_append_left _ (List.mem_of_getElem? (l := tables_1_1) (i := 188) rfl))) rfl
set_option maxRecDepth 100000 in
theorem zl_2 : Cond.methodLink "RiverDiggers$Digger" 11 yX2_init ∈ zi_G := zi_inG (List.mem_append_right _ (List.mem_append_left _ (List.mem_of_getElem? (l := tables_1_1) (i := 187) rfl))) rfl
set_option maxRecDepth 100000 in
theorem zl_3 : Cond.instanceMethod yX2_init ∈ zi_G := zi_inG (List.mem_append_right _ (List.mem_append_left _ (List.mem_of_getElem? (l := tables_1_1) (i := 70) rfl))) rfl
set_option maxRecDepth 100000 in
theorem zl_4 : Cond.classLink "RiverDiggers$Digger" 9 "RiverDiggers$Flow" ∈ zi_G := zi_inG (List.mem_append_right _ (List.mem_append_left _ (List.mem_of_getElem? (l := tables_1_1) (i := 186) rfl))) rfl
set_option maxRecDepth 100000 in
theorem zl_5 : Cond.instantiable "RiverDiggers$Flow" 8 ∈ zi_G := zi_inG (List.mem_append_right _ (List.mem_append_left _ (List.mem_of_getElem? (l := tables_1_1) (i := 68) rfl))) rfl
set_option maxRecDepth 100000 in
theorem zl_6 : Cond.initialized "RiverDiggers$Flow" ∈ zi_G := zi_inG (List.mem_append_right _ (List.mem_append_left _ (List.mem_of_getElem? (l := tables_1_1) (i := 4) rfl))) rfl
set_option maxRecDepth 100000 in
theorem zl_7 : Cond.methodLink "RiverDiggers$Digger" 3 Lib.objectInit ∈ zi_G := zi_inG (List.mem_append_right _ (List.mem_append_left _ (List.mem_of_getElem? (l := tables_1_1) (i := 185) rfl))) rfl
set_option maxRecDepth 100000 in
theorem zl_8 : Cond.code Lib.objectInit ⟨#[0xb1]⟩ 1 none ∈ zi_G := zi_inG (List.mem_append_right _ (List.mem_append_left _ (List.mem_of_getElem? (l := tables_1_1) (i := 25) (rfl)))) rfl
set_option maxRecDepth 100000 in
theorem zl_9 : Cond.instanceMethod Lib.objectInit ∈ zi_G := zi_inG (List.mem_append_right _ (List.mem_append_left _ (List.mem_of_getElem? (l := tables_1_1) (i := 24) rfl))) rfl
set_option maxRecDepth 100000 in
theorem zl_10 : Cond.methodLink "RiverDiggers$Digger" 24 yX2_copy ∈ zi_G := zi_inG (List.mem_append_right _ (List.mem_append_right _ (List.mem_append_right _ (List.mem_append_left _ (List.mem_of_getElem? (l := tables_1_3) (i := 180) rfl))))) rfl
set_option maxRecDepth 100000 in
theorem zl_11 : Cond.instanceMethod yX2_copy ∈ zi_G := zi_inG (List.mem_append_right _ (List.mem_append_right _ (List.mem_append_right _ (List.mem_append_left _ (List.mem_of_getElem? (l := tables_1_3) (i := 156) rfl))))) rfl
set_option maxRecDepth 100000 in
theorem zl_12 : Cond.selects "RiverDiggers$Flow" yX2_copy yX2_copy ∈ zi_G := zi_inG (List.mem_append_right _ (List.mem_append_right _ (List.mem_append_right _ (List.mem_append_left _ (List.mem_of_getElem? (l := tables_1_3) (i := 157) rfl))))) rfl
set_option maxRecDepth 100000 in
theorem zl_13 : Cond.methodLink "RiverDiggers$Digger" 28 yX0_brings ∈ zi_G := zi_inG (List.mem_append_right _ (List.mem_append_right _ (List.mem_append_right _ (List.mem_append_left _ (List.mem_of_getElem? (l := tables_1_3) (i := 181) rfl))))) rfl
set_option maxRecDepth 100000 in
theorem zl_14 : Cond.instanceMethod yX0_brings ∈ zi_G := zi_inG (List.mem_append_right _ (List.mem_append_right _ (List.mem_append_right _ (List.mem_append_left _ (List.mem_of_getElem? (l := tables_1_3) (i := 183) rfl))))) rfl
set_option maxRecDepth 100000 in
theorem zl_15 : Cond.selects "RiverDiggers$Digger" yX0_brings yX0_brings ∈ zi_G := zi_inG (List.mem_append_left _ (List.mem_of_getElem? (i := 14) (by decide +kernel))) rfl
set_option maxRecDepth 100000 in
theorem zl_16 : Cond.methodLinkNest "RiverDiggers$Digger" 36 yX8_has "RiverDiggers" ∈ lw_tbl := List.mem_append_right _ (List.mem_append_right _ (List.mem_append_right _ (List.mem_append_left _ (List.mem_of_getElem? (l := tables_1_3) (i := 185) rfl))))
set_option maxRecDepth 100000 in
theorem zl_17 : Cond.static yX8_has ∈ zi_G := zi_inG (List.mem_append_right _ (List.mem_append_right _ (List.mem_append_left _ (List.mem_of_getElem? (l := tables_1_2) (i := 82) rfl)))) rfl
set_option maxRecDepth 100000 in
theorem zl_18 : Cond.fieldLink "RiverDiggers$Digger" 32 "RiverDiggers$Flow" "bits" "I" ∈ zi_G := zi_inG (List.mem_append_right _ (List.mem_append_left _ (List.mem_of_getElem? (l := tables_1_1) (i := 84) rfl))) rfl
set_option maxRecDepth 100000 in
theorem zl_19 : Cond.methodLink "RiverDiggers$Digger" 40 yX2_cuttable ∈ zi_G := zi_inG (List.mem_append_right _ (List.mem_append_right _ (List.mem_append_right _ (List.mem_append_left _ (List.mem_of_getElem? (l := tables_1_3) (i := 186) rfl))))) rfl
set_option maxRecDepth 100000 in
theorem zl_20 : Cond.instanceMethod yX2_cuttable ∈ zi_G := zi_inG (List.mem_append_right _ (List.mem_append_right _ (List.mem_append_right _ (List.mem_append_left _ (List.mem_of_getElem? (l := tables_1_3) (i := 87) rfl))))) rfl
set_option maxRecDepth 100000 in
theorem zl_21 : Cond.selects "RiverDiggers$Flow" yX2_cuttable yX2_cuttable ∈ zi_G := zi_inG (List.mem_append_right _ (List.mem_append_right _ (List.mem_append_right _ (List.mem_append_left _ (List.mem_of_getElem? (l := tables_1_3) (i := 88) rfl))))) rfl
set_option maxRecDepth 100000 in
theorem zl_22 : Cond.methodLink "RiverDiggers$Digger" 51 yX2_pass ∈ zi_G := zi_inG (List.mem_append_right _ (List.mem_append_right _ (List.mem_append_right _ (List.mem_append_left _ (List.mem_of_getElem? (l := tables_1_3) (i := 190) rfl))))) rfl
set_option maxRecDepth 100000 in
theorem zl_23 : Cond.instanceMethod yX2_pass ∈ zi_G := zi_inG (List.mem_append_right _ (List.mem_append_right _ (List.mem_append_right _ (List.mem_append_left _ (List.mem_of_getElem? (l := tables_1_3) (i := 143) rfl))))) rfl
set_option maxRecDepth 100000 in
theorem zl_24 : Cond.selects "RiverDiggers$Flow" yX2_pass yX2_pass ∈ zi_G := zi_inG (List.mem_append_right _ (List.mem_append_right _ (List.mem_append_right _ (List.mem_append_left _ (List.mem_of_getElem? (l := tables_1_3) (i := 144) rfl))))) rfl
set_option maxRecDepth 100000 in
theorem zl_25 : Cond.methodLinkNest "RiverDiggers$Digger" 47 yX8_numberOf "RiverDiggers" ∈ lw_tbl := List.mem_append_right _ (List.mem_append_right _ (List.mem_append_right _ (List.mem_append_left _ (List.mem_of_getElem? (l := tables_1_3) (i := 187) rfl))))
set_option maxRecDepth 100000 in
theorem zl_26 : Cond.static yX8_numberOf ∈ zi_G := zi_inG (List.mem_append_right _ (List.mem_append_right _ (List.mem_append_right _ (List.mem_append_left _ (List.mem_of_getElem? (l := tables_1_3) (i := 188) rfl))))) rfl
set_option maxRecDepth 100000 in
theorem zl_27 : Cond.fieldLink "RiverDiggers$Digger" 44 "RiverDiggers$Digger" "cut" "I" ∈ zi_G := zi_inG (List.mem_append_right _ (List.mem_append_left _ (List.mem_of_getElem? (l := tables_1_1) (i := 190) rfl))) rfl
set_option maxRecDepth 100000 in
theorem zl_28 : Cond.fieldLink "RiverDiggers$Draft" 21 "RiverDiggers$Draft" "worths" "[I" ∈ zi_G := zi_inG (List.mem_append_right _ (List.mem_append_right _ (List.mem_append_left _ (List.mem_of_getElem? (l := tables_1_2) (i := 5) rfl)))) rfl
set_option maxRecDepth 100000 in
theorem zl_29 : Cond.arrayClass .int ∈ zi_G := zi_inG (List.mem_append_right _ (List.mem_append_left _ (List.mem_of_getElem? (l := tables_1_1) (i := 60) rfl))) rfl
set_option maxRecDepth 100000 in
theorem zl_30 : Cond.fieldLink "RiverDiggers$Draft" 18 "RiverDiggers$Draft" "ground" "[I" ∈ zi_G := zi_inG (List.mem_append_right _ (List.mem_append_right _ (List.mem_append_left _ (List.mem_of_getElem? (l := tables_1_2) (i := 4) rfl)))) rfl
set_option maxRecDepth 100000 in
theorem zl_31 : Cond.fieldLink "RiverDiggers$Draft" 15 "RiverDiggers$Draft" "lengths" "[I" ∈ zi_G := zi_inG (List.mem_append_right _ (List.mem_append_right _ (List.mem_append_left _ (List.mem_of_getElem? (l := tables_1_2) (i := 3) rfl)))) rfl
set_option maxRecDepth 100000 in
theorem zl_32 : Cond.fieldLink "RiverDiggers$Draft" 9 "RiverDiggers$Draft" "yards" "[I" ∈ zi_G := zi_inG (List.mem_append_right _ (List.mem_append_right _ (List.mem_append_left _ (List.mem_of_getElem? (l := tables_1_2) (i := 2) rfl)))) rfl
set_option maxRecDepth 100000 in
theorem zl_33 : Cond.methodLink "RiverDiggers$Draft" 3 Lib.objectInit ∈ zi_G := zi_inG (List.mem_append_right _ (List.mem_append_right _ (List.mem_append_left _ (List.mem_of_getElem? (l := tables_1_2) (i := 1) rfl)))) rfl
set_option maxRecDepth 100000 in
theorem zl_34 : Cond.fieldLink "RiverDiggers$Draft" 46 "RiverDiggers$Draft" "came" "I" ∈ zi_G := zi_inG (List.mem_append_right _ (List.mem_append_right _ (List.mem_append_left _ (List.mem_of_getElem? (l := tables_1_2) (i := 11) rfl)))) rfl
set_option maxRecDepth 100000 in
theorem zl_35 : Cond.fieldLink "RiverDiggers$Draft" 43 "RiverDiggers$Draft" "farms" "I" ∈ zi_G := zi_inG (List.mem_append_right _ (List.mem_append_right _ (List.mem_append_left _ (List.mem_of_getElem? (l := tables_1_2) (i := 10) rfl)))) rfl
set_option maxRecDepth 100000 in
theorem zl_36 : Cond.fieldLink "RiverDiggers$Draft" 40 "RiverDiggers$Draft" "law" "I" ∈ zi_G := zi_inG (List.mem_append_right _ (List.mem_append_right _ (List.mem_append_left _ (List.mem_of_getElem? (l := tables_1_2) (i := 9) rfl)))) rfl
set_option maxRecDepth 100000 in
theorem zl_37 : Cond.fieldLink "RiverDiggers$Draft" 37 "RiverDiggers$Draft" "spring" "I" ∈ zi_G := zi_inG (List.mem_append_right _ (List.mem_append_right _ (List.mem_append_left _ (List.mem_of_getElem? (l := tables_1_2) (i := 8) rfl)))) rfl
set_option maxRecDepth 100000 in
theorem zl_38 : Cond.fieldLink "RiverDiggers$Draft" 34 "RiverDiggers$Draft" "high" "I" ∈ zi_G := zi_inG (List.mem_append_right _ (List.mem_append_right _ (List.mem_append_left _ (List.mem_of_getElem? (l := tables_1_2) (i := 7) rfl)))) rfl
set_option maxRecDepth 100000 in
theorem zl_39 : Cond.fieldLink "RiverDiggers$Draft" 30 "RiverDiggers$Draft" "wide" "I" ∈ zi_G := zi_inG (List.mem_append_right _ (List.mem_append_right _ (List.mem_append_left _ (List.mem_of_getElem? (l := tables_1_2) (i := 6) rfl)))) rfl
set_option maxRecDepth 100000 in
theorem zl_40 : Cond.methodLink "RiverDiggers$Draft" 24 yJ7_fill_53178 ∈ zi_G := zi_inG (List.mem_append_right _ (List.mem_append_right _ (List.mem_append_left _ (List.mem_of_getElem? (l := tables_1_2) (i := 57) rfl)))) rfl
set_option maxRecDepth 100000 in
theorem zl_41 : Cond.static yJ7_fill_53178 ∈ zi_G := zi_inG (List.mem_append_right _ (List.mem_append_right _ (List.mem_append_left _ (List.mem_of_getElem? (l := tables_1_2) (i := 40) rfl)))) rfl
set_option maxRecDepth 100000 in
theorem zl_42 : Cond.methodLink "RiverDiggers$Draft" 52 yX6_rewind ∈ zi_G := zi_inG (List.mem_append_right _ (List.mem_append_right _ (List.mem_append_left _ (List.mem_of_getElem? (l := tables_1_2) (i := 148) rfl)))) rfl
set_option maxRecDepth 100000 in
theorem zl_43 : Cond.instanceMethod yX6_rewind ∈ zi_G := zi_inG (List.mem_append_right _ (List.mem_append_right _ (List.mem_append_left _ (List.mem_of_getElem? (l := tables_1_2) (i := 149) rfl)))) rfl
set_option maxRecDepth 100000 in
theorem zl_44 : Cond.selects "RiverDiggers$Tape" yX6_rewind yX6_rewind ∈ zi_G := zi_inG (List.mem_append_right _ (List.mem_append_right _ (List.mem_append_left _ (List.mem_of_getElem? (l := tables_1_2) (i := 150) rfl)))) rfl
set_option maxRecDepth 100000 in
theorem zl_45 : Cond.methodLink "RiverDiggers$Draft" 49 yX1_clear ∈ zi_G := zi_inG (List.mem_append_right _ (List.mem_append_right _ (List.mem_append_left _ (List.mem_of_getElem? (l := tables_1_2) (i := 147) rfl)))) rfl
set_option maxRecDepth 100000 in
theorem zl_46 : Cond.instanceMethod yX1_clear ∈ zi_G := zi_inG (List.mem_append_right _ (List.mem_append_right _ (List.mem_append_left _ (List.mem_of_getElem? (l := tables_1_2) (i := 54) rfl)))) rfl
set_option maxRecDepth 100000 in
theorem zl_47 : Cond.selects "RiverDiggers$Draft" yX1_clear yX1_clear ∈ zi_G := zi_inG (List.mem_append_right _ (List.mem_append_right _ (List.mem_append_left _ (List.mem_of_getElem? (l := tables_1_2) (i := 55) rfl)))) rfl
set_option maxRecDepth 100000 in
theorem zl_48 : Cond.fieldLink "RiverDiggers$Draft" 60 "RiverDiggers$Tape" "flaw" "I" ∈ zi_G := zi_inG (List.mem_append_right _ (List.mem_append_left _ (List.mem_of_getElem? (l := tables_1_1) (i := 214) rfl))) rfl
set_option maxRecDepth 100000 in
theorem zl_49 : Cond.methodLink "RiverDiggers$Draft" 57 yX6_next ∈ zi_G := zi_inG (List.mem_append_right _ (List.mem_append_right _ (List.mem_append_left _ (List.mem_of_getElem? (l := tables_1_2) (i := 152) rfl)))) rfl
set_option maxRecDepth 100000 in
theorem zl_50 : Cond.instanceMethod yX6_next ∈ zi_G := zi_inG (List.mem_append_right _ (List.mem_append_right _ (List.mem_append_left _ (List.mem_of_getElem? (l := tables_1_2) (i := 153) rfl)))) rfl
set_option maxRecDepth 100000 in
theorem zl_51 : Cond.selects "RiverDiggers$Tape" yX6_next yX6_next ∈ zi_G := zi_inG (List.mem_append_right _ (List.mem_append_right _ (List.mem_append_left _ (List.mem_of_getElem? (l := tables_1_2) (i := 154) rfl)))) rfl
set_option maxRecDepth 100000 in
theorem zl_52 : Cond.fieldLink "RiverDiggers$Draft" 63 "RiverDiggers$Tape" "kind" "I" ∈ zi_G := zi_inG (List.mem_append_right _ (List.mem_append_left _ (List.mem_of_getElem? (l := tables_1_1) (i := 208) rfl))) rfl
set_option maxRecDepth 100000 in
theorem zl_53 : Cond.methodLink "RiverDiggers$Draft" 66 yX1_takeLine ∈ zi_G := zi_inG (List.mem_append_right _ (List.mem_append_right _ (List.mem_append_left _ (List.mem_of_getElem? (l := tables_1_2) (i := 166) rfl)))) rfl
set_option maxRecDepth 100000 in
theorem zl_54 : Cond.instanceMethod yX1_takeLine ∈ zi_G := zi_inG (List.mem_append_right _ (List.mem_append_right _ (List.mem_append_left _ (List.mem_of_getElem? (l := tables_1_2) (i := 168) rfl)))) rfl
set_option maxRecDepth 100000 in
theorem zl_55 : Cond.selects "RiverDiggers$Draft" yX1_takeLine yX1_takeLine ∈ zi_G := zi_inG (List.mem_append_left _ (List.mem_of_getElem? (i := 2) (by decide +kernel))) rfl
set_option maxRecDepth 100000 in
theorem zl_56 : Cond.methodLink "RiverDiggers$Draft" 70 yX1_isWhole ∈ zi_G := zi_inG (List.mem_append_right _ (List.mem_append_right _ (List.mem_append_right _ (List.mem_append_left _ (List.mem_of_getElem? (l := tables_1_3) (i := 43) rfl))))) rfl
set_option maxRecDepth 100000 in
theorem zl_57 : Cond.instanceMethod yX1_isWhole ∈ zi_G := zi_inG (List.mem_append_right _ (List.mem_append_right _ (List.mem_append_right _ (List.mem_append_left _ (List.mem_of_getElem? (l := tables_1_3) (i := 45) rfl))))) rfl
set_option maxRecDepth 100000 in
theorem zl_58 : Cond.selects "RiverDiggers$Draft" yX1_isWhole yX1_isWhole ∈ zi_G := zi_inG (List.mem_append_left _ (List.mem_of_getElem? (i := 11) (by decide +kernel))) rfl
set_option maxRecDepth 100000 in
theorem zl_59 : Cond.methodLink "RiverDiggers$Draft" 74 yX6_failBehindAll ∈ zi_G := zi_inG (List.mem_append_right _ (List.mem_append_right _ (List.mem_append_right _ (List.mem_append_left _ (List.mem_of_getElem? (l := tables_1_3) (i := 47) rfl))))) rfl
set_option maxRecDepth 100000 in
theorem zl_60 : Cond.instanceMethod yX6_failBehindAll ∈ zi_G := zi_inG (List.mem_append_right _ (List.mem_append_right _ (List.mem_append_right _ (List.mem_append_left _ (List.mem_of_getElem? (l := tables_1_3) (i := 48) rfl))))) rfl
set_option maxRecDepth 100000 in
theorem zl_61 : Cond.selects "RiverDiggers$Tape" yX6_failBehindAll yX6_failBehindAll ∈ zi_G := zi_inG (List.mem_append_right _ (List.mem_append_right _ (List.mem_append_right _ (List.mem_append_left _ (List.mem_of_getElem? (l := tables_1_3) (i := 49) rfl))))) rfl
set_option maxRecDepth 100000 in
theorem zl_62 : Cond.methodLink "RiverDiggers$Draft" 80 yX6_says ∈ zi_G := zi_inG (List.mem_append_right _ (List.mem_append_right _ (List.mem_append_left _ (List.mem_of_getElem? (l := tables_1_2) (i := 171) rfl)))) rfl
set_option maxRecDepth 100000 in
theorem zl_63 : Cond.instanceMethod yX6_says ∈ zi_G := zi_inG (List.mem_append_right _ (List.mem_append_right _ (List.mem_append_left _ (List.mem_of_getElem? (l := tables_1_2) (i := 172) rfl)))) rfl
set_option maxRecDepth 100000 in
theorem zl_64 : Cond.selects "RiverDiggers$Tape" yX6_says yX6_says ∈ zi_G := zi_inG (List.mem_append_right _ (List.mem_append_right _ (List.mem_append_left _ (List.mem_of_getElem? (l := tables_1_2) (i := 173) rfl)))) rfl
set_option maxRecDepth 100000 in
theorem zl_65 : Cond.methodLink "RiverDiggers$Draft" 84 yX1_takePlain ∈ zi_G := zi_inG (List.mem_append_right _ (List.mem_append_right _ (List.mem_append_left _ (List.mem_of_getElem? (l := tables_1_2) (i := 223) rfl)))) rfl
set_option maxRecDepth 100000 in
theorem zl_66 : Cond.instanceMethod yX1_takePlain ∈ zi_G := zi_inG (List.mem_append_right _ (List.mem_append_right _ (List.mem_append_left _ (List.mem_of_getElem? (l := tables_1_2) (i := 225) rfl)))) rfl
set_option maxRecDepth 100000 in
theorem zl_67 : Cond.selects "RiverDiggers$Draft" yX1_takePlain yX1_takePlain ∈ zi_G := zi_inG (List.mem_append_left _ (List.mem_of_getElem? (i := 3) (by decide +kernel))) rfl
set_option maxRecDepth 100000 in
theorem zl_68 : Cond.methodLink "RiverDiggers$Draft" 89 yX1_takeRow ∈ zi_G := zi_inG (List.mem_append_right _ (List.mem_append_right _ (List.mem_append_right _ (List.mem_append_left _ (List.mem_of_getElem? (l := tables_1_3) (i := 6) rfl))))) rfl
set_option maxRecDepth 100000 in
theorem zl_69 : Cond.instanceMethod yX1_takeRow ∈ zi_G := zi_inG (List.mem_append_right _ (List.mem_append_right _ (List.mem_append_right _ (List.mem_append_left _ (List.mem_of_getElem? (l := tables_1_3) (i := 8) rfl))))) rfl
set_option maxRecDepth 100000 in
theorem zl_70 : Cond.selects "RiverDiggers$Draft" yX1_takeRow yX1_takeRow ∈ zi_G := zi_inG (List.mem_append_left _ (List.mem_of_getElem? (i := 5) (by decide +kernel))) rfl
set_option maxRecDepth 100000 in
theorem zl_71 : Cond.methodLink "RiverDiggers$Draft" 93 yX1_takeSpring ∈ zi_G := zi_inG (List.mem_append_right _ (List.mem_append_right _ (List.mem_append_right _ (List.mem_append_left _ (List.mem_of_getElem? (l := tables_1_3) (i := 12) rfl))))) rfl
set_option maxRecDepth 100000 in
theorem zl_72 : Cond.instanceMethod yX1_takeSpring ∈ zi_G := zi_inG (List.mem_append_right _ (List.mem_append_right _ (List.mem_append_right _ (List.mem_append_left _ (List.mem_of_getElem? (l := tables_1_3) (i := 14) rfl))))) rfl
set_option maxRecDepth 100000 in
theorem zl_73 : Cond.selects "RiverDiggers$Draft" yX1_takeSpring yX1_takeSpring ∈ zi_G := zi_inG (List.mem_append_left _ (List.mem_of_getElem? (i := 6) (by decide +kernel))) rfl
set_option maxRecDepth 100000 in
theorem zl_74 : Cond.methodLink "RiverDiggers$Draft" 98 yX1_takeFarm ∈ zi_G := zi_inG (List.mem_append_right _ (List.mem_append_right _ (List.mem_append_right _ (List.mem_append_left _ (List.mem_of_getElem? (l := tables_1_3) (i := 17) rfl))))) rfl
set_option maxRecDepth 100000 in
theorem zl_75 : Cond.instanceMethod yX1_takeFarm ∈ zi_G := zi_inG (List.mem_append_right _ (List.mem_append_right _ (List.mem_append_right _ (List.mem_append_left _ (List.mem_of_getElem? (l := tables_1_3) (i := 19) rfl))))) rfl
set_option maxRecDepth 100000 in
theorem zl_76 : Cond.selects "RiverDiggers$Draft" yX1_takeFarm yX1_takeFarm ∈ zi_G := zi_inG (List.mem_append_left _ (List.mem_of_getElem? (i := 7) (by decide +kernel))) rfl
set_option maxRecDepth 100000 in
theorem zl_77 : Cond.methodLink "RiverDiggers$Draft" 102 yX1_takeGround ∈ zi_G := zi_inG (List.mem_append_right _ (List.mem_append_right _ (List.mem_append_right _ (List.mem_append_left _ (List.mem_of_getElem? (l := tables_1_3) (i := 22) rfl))))) rfl
set_option maxRecDepth 100000 in
theorem zl_78 : Cond.instanceMethod yX1_takeGround ∈ zi_G := zi_inG (List.mem_append_right _ (List.mem_append_right _ (List.mem_append_right _ (List.mem_append_left _ (List.mem_of_getElem? (l := tables_1_3) (i := 24) rfl))))) rfl
set_option maxRecDepth 100000 in
theorem zl_79 : Cond.selects "RiverDiggers$Draft" yX1_takeGround yX1_takeGround ∈ zi_G := zi_inG (List.mem_append_left _ (List.mem_of_getElem? (i := 8) (by decide +kernel))) rfl
set_option maxRecDepth 100000 in
theorem zl_80 : Cond.methodLink "RiverDiggers$Draft" 106 yX1_takeLaw ∈ zi_G := zi_inG (List.mem_append_right _ (List.mem_append_right _ (List.mem_append_right _ (List.mem_append_left _ (List.mem_of_getElem? (l := tables_1_3) (i := 34) rfl))))) rfl
set_option maxRecDepth 100000 in
theorem zl_81 : Cond.instanceMethod yX1_takeLaw ∈ zi_G := zi_inG (List.mem_append_right _ (List.mem_append_right _ (List.mem_append_right _ (List.mem_append_left _ (List.mem_of_getElem? (l := tables_1_3) (i := 36) rfl))))) rfl
set_option maxRecDepth 100000 in
theorem zl_82 : Cond.selects "RiverDiggers$Draft" yX1_takeLaw yX1_takeLaw ∈ zi_G := zi_inG (List.mem_append_left _ (List.mem_of_getElem? (i := 9) (by decide +kernel))) rfl
set_option maxRecDepth 100000 in
theorem zl_83 : Cond.methodLink "RiverDiggers$Draft" 111 yX1_takeSilt ∈ zi_G := zi_inG (List.mem_append_right _ (List.mem_append_right _ (List.mem_append_right _ (List.mem_append_left _ (List.mem_of_getElem? (l := tables_1_3) (i := 39) rfl))))) rfl
set_option maxRecDepth 100000 in
theorem zl_84 : Cond.instanceMethod yX1_takeSilt ∈ zi_G := zi_inG (List.mem_append_right _ (List.mem_append_right _ (List.mem_append_right _ (List.mem_append_left _ (List.mem_of_getElem? (l := tables_1_3) (i := 41) rfl))))) rfl
set_option maxRecDepth 100000 in
theorem zl_85 : Cond.selects "RiverDiggers$Draft" yX1_takeSilt yX1_takeSilt ∈ zi_G := zi_inG (List.mem_append_left _ (List.mem_of_getElem? (i := 10) (by decide +kernel))) rfl
set_option maxRecDepth 100000 in
theorem zl_86 : Cond.methodLink "RiverDiggers$Draft" 114 yX6_fail ∈ zi_G := zi_inG (List.mem_append_right _ (List.mem_append_right _ (List.mem_append_left _ (List.mem_of_getElem? (l := tables_1_2) (i := 231) rfl)))) rfl
set_option maxRecDepth 100000 in
theorem zl_87 : Cond.instanceMethod yX6_fail ∈ zi_G := zi_inG (List.mem_append_right _ (List.mem_append_right _ (List.mem_append_left _ (List.mem_of_getElem? (l := tables_1_2) (i := 163) rfl)))) rfl
set_option maxRecDepth 100000 in
theorem zl_88 : Cond.selects "RiverDiggers$Tape" yX6_fail yX6_fail ∈ zi_G := zi_inG (List.mem_append_right _ (List.mem_append_right _ (List.mem_append_left _ (List.mem_of_getElem? (l := tables_1_2) (i := 164) rfl)))) rfl
set_option maxRecDepth 100000 in
theorem zl_89 : Cond.methodLink "RiverDiggers$Draft" 117 yX1_comesOnce ∈ zi_G := zi_inG (List.mem_append_right _ (List.mem_append_right _ (List.mem_append_left _ (List.mem_of_getElem? (l := tables_1_2) (i := 227) rfl)))) rfl
set_option maxRecDepth 100000 in
theorem zl_90 : Cond.instanceMethod yX1_comesOnce ∈ zi_G := zi_inG (List.mem_append_right _ (List.mem_append_right _ (List.mem_append_left _ (List.mem_of_getElem? (l := tables_1_2) (i := 229) rfl)))) rfl
set_option maxRecDepth 100000 in
theorem zl_91 : Cond.selects "RiverDiggers$Draft" yX1_comesOnce yX1_comesOnce ∈ zi_G := zi_inG (List.mem_append_left _ (List.mem_of_getElem? (i := 4) (by decide +kernel))) rfl
set_option maxRecDepth 100000 in
theorem zl_92 : Cond.methodLink "RiverDiggers$Draft" 121 yX6_nextNumber ∈ zi_G := zi_inG (List.mem_append_right _ (List.mem_append_right _ (List.mem_append_left _ (List.mem_of_getElem? (l := tables_1_2) (i := 232) rfl)))) rfl
set_option maxRecDepth 100000 in
theorem zl_93 : Cond.instanceMethod yX6_nextNumber ∈ zi_G := zi_inG (List.mem_append_right _ (List.mem_append_right _ (List.mem_append_left _ (List.mem_of_getElem? (l := tables_1_2) (i := 233) rfl)))) rfl
set_option maxRecDepth 100000 in
theorem zl_94 : Cond.selects "RiverDiggers$Tape" yX6_nextNumber yX6_nextNumber ∈ zi_G := zi_inG (List.mem_append_right _ (List.mem_append_right _ (List.mem_append_left _ (List.mem_of_getElem? (l := tables_1_2) (i := 234) rfl)))) rfl
set_option maxRecDepth 100000 in
theorem zl_95 : Cond.fieldLink "RiverDiggers$Draft" 125 "RiverDiggers$Tape" "value" "I" ∈ zi_G := zi_inG (List.mem_append_right _ (List.mem_append_left _ (List.mem_of_getElem? (l := tables_1_1) (i := 211) rfl))) rfl
set_option maxRecDepth 100000 in
theorem zl_96 : Cond.methodLink "RiverDiggers$Draft" 128 yX6_nextStop ∈ zi_G := zi_inG (List.mem_append_right _ (List.mem_append_right _ (List.mem_append_right _ (List.mem_append_left _ (List.mem_of_getElem? (l := tables_1_3) (i := 1) rfl))))) rfl
set_option maxRecDepth 100000 in
theorem zl_97 : Cond.instanceMethod yX6_nextStop ∈ zi_G := zi_inG (List.mem_append_right _ (List.mem_append_right _ (List.mem_append_right _ (List.mem_append_left _ (List.mem_of_getElem? (l := tables_1_3) (i := 2) rfl))))) rfl
set_option maxRecDepth 100000 in
theorem zl_98 : Cond.selects "RiverDiggers$Tape" yX6_nextStop yX6_nextStop ∈ zi_G := zi_inG (List.mem_append_right _ (List.mem_append_right _ (List.mem_append_right _ (List.mem_append_left _ (List.mem_of_getElem? (l := tables_1_3) (i := 3) rfl))))) rfl
set_option maxRecDepth 100000 in
theorem zl_99 : Cond.methodLink "RiverDiggers$Draft" 131 yX6_isNumber ∈ zi_G := zi_inG (List.mem_append_right _ (List.mem_append_right _ (List.mem_append_right _ (List.mem_append_left _ (List.mem_of_getElem? (l := tables_1_3) (i := 10) rfl))))) rfl
set_option maxRecDepth 100000 in
theorem zl_100 : Cond.instanceMethod yX6_isNumber ∈ zi_G := zi_inG (List.mem_append_right _ (List.mem_append_right _ (List.mem_append_left _ (List.mem_of_getElem? (l := tables_1_2) (i := 238) rfl)))) rfl
set_option maxRecDepth 100000 in
theorem zl_101 : Cond.selects "RiverDiggers$Tape" yX6_isNumber yX6_isNumber ∈ zi_G := zi_inG (List.mem_append_right _ (List.mem_append_right _ (List.mem_append_left _ (List.mem_of_getElem? (l := tables_1_2) (i := 239) rfl)))) rfl
set_option maxRecDepth 100000 in
theorem zl_102 : Cond.methodLinkNest "RiverDiggers$Draft" 134 yX8_has "RiverDiggers" ∈ lw_tbl := List.mem_append_right _ (List.mem_append_right _ (List.mem_append_right _ (List.mem_append_left _ (List.mem_of_getElem? (l := tables_1_3) (i := 26) rfl))))
set_option maxRecDepth 100000 in
theorem zl_103 : Cond.methodLink "RiverDiggers$Draft" 137 yJ6_bitCount_0f7a4 ∈ zi_G := zi_inG (List.mem_append_right _ (List.mem_append_right _ (List.mem_append_right _ (List.mem_append_left _ (List.mem_of_getElem? (l := tables_1_3) (i := 27) rfl))))) rfl
set_option maxRecDepth 100000 in
theorem zl_104 : Cond.static yJ6_bitCount_0f7a4 ∈ zi_G := zi_inG (List.mem_append_right _ (List.mem_append_right _ (List.mem_append_right _ (List.mem_append_left _ (List.mem_of_getElem? (l := tables_1_3) (i := 28) rfl))))) rfl
set_option maxRecDepth 100000 in
theorem zl_105 : Cond.fieldLink "RiverDiggers$Draft" 170 "RiverDiggers$Times" "flow" "LRiverDiggers$Flow;" ∈ zi_G := zi_inG (List.mem_append_right _ (List.mem_append_left _ (List.mem_of_getElem? (l := tables_1_1) (i := 114) rfl))) rfl
set_option maxRecDepth 100000 in
theorem zl_106 : Cond.fieldLink "RiverDiggers$Draft" 184 "RiverDiggers$Flow" "law" "I" ∈ zi_G := zi_inG (List.mem_append_right _ (List.mem_append_left _ (List.mem_of_getElem? (l := tables_1_1) (i := 91) rfl))) rfl
set_option maxRecDepth 100000 in
theorem zl_107 : Cond.fieldLink "RiverDiggers$Draft" 183 "RiverDiggers$Flow" "spring" "I" ∈ zi_G := zi_inG (List.mem_append_right _ (List.mem_append_left _ (List.mem_of_getElem? (l := tables_1_1) (i := 88) rfl))) rfl
set_option maxRecDepth 100000 in
theorem zl_108 : Cond.methodLink "RiverDiggers$Draft" 179 yX1_raise ∈ zi_G := zi_inG (List.mem_append_right _ (List.mem_append_right _ (List.mem_append_left _ (List.mem_of_getElem? (l := tables_1_2) (i := 69) rfl)))) rfl
set_option maxRecDepth 100000 in
theorem zl_109 : Cond.instanceMethod yX1_raise ∈ zi_G := zi_inG (List.mem_append_right _ (List.mem_append_right _ (List.mem_append_left _ (List.mem_of_getElem? (l := tables_1_2) (i := 71) rfl)))) rfl
set_option maxRecDepth 100000 in
theorem zl_110 : Cond.selects "RiverDiggers$Draft" yX1_raise yX1_raise ∈ zi_G := zi_inG (List.mem_append_left _ (List.mem_of_getElem? (i := 0) (by decide +kernel))) rfl
set_option maxRecDepth 100000 in
theorem zl_111 : Cond.fieldLink "RiverDiggers$Draft" 174 "RiverDiggers$Flow" "heights" "[I" ∈ zi_G := zi_inG (List.mem_append_right _ (List.mem_append_left _ (List.mem_of_getElem? (l := tables_1_1) (i := 77) rfl))) rfl
set_option maxRecDepth 100000 in
theorem zl_112 : Cond.fieldLink "RiverDiggers$Draft" 167 "RiverDiggers$Times" "seens" "I" ∈ zi_G := zi_inG (List.mem_append_right _ (List.mem_append_left _ (List.mem_of_getElem? (l := tables_1_1) (i := 129) rfl))) rfl
set_option maxRecDepth 100000 in
theorem zl_113 : Cond.fieldLink "RiverDiggers$Draft" 164 "RiverDiggers$Times" "tolds" "I" ∈ zi_G := zi_inG (List.mem_append_right _ (List.mem_append_left _ (List.mem_of_getElem? (l := tables_1_1) (i := 126) rfl))) rfl
set_option maxRecDepth 100000 in
theorem zl_114 : Cond.fieldLink "RiverDiggers$Draft" 161 "RiverDiggers$Times" "years" "I" ∈ zi_G := zi_inG (List.mem_append_right _ (List.mem_append_left _ (List.mem_of_getElem? (l := tables_1_1) (i := 124) rfl))) rfl
set_option maxRecDepth 100000 in
theorem zl_115 : Cond.methodLink "RiverDiggers$Draft" 149 arraycopyName ∈ zi_G := zi_inG (List.mem_append_right _ (List.mem_append_right _ (List.mem_append_left _ (List.mem_of_getElem? (l := tables_1_2) (i := 62) rfl)))) rfl
set_option maxRecDepth 100000 in
theorem zl_116 : Cond.native arraycopyName ∈ zi_G := zi_inG (List.mem_append_right _ (List.mem_append_right _ (List.mem_append_left _ (List.mem_of_getElem? (l := tables_1_2) (i := 64) rfl)))) rfl
set_option maxRecDepth 100000 in
theorem zl_117 : Cond.static arraycopyName ∈ zi_G := zi_inG (List.mem_append_right _ (List.mem_append_right _ (List.mem_append_left _ (List.mem_of_getElem? (l := tables_1_2) (i := 63) rfl)))) rfl
set_option maxRecDepth 100000 in
theorem zl_118 : Cond.initialized "java/lang/System" ∈ zi_G := zi_inG (List.mem_append_right _ (List.mem_append_left _ (List.mem_of_getElem? (l := tables_1_1) (i := 11) rfl))) rfl
set_option maxRecDepth 100000 in
theorem zl_119 : Cond.fieldLink "RiverDiggers$Draft" 158 "RiverDiggers$Times" "worths" "[I" ∈ zi_G := zi_inG (List.mem_append_right _ (List.mem_append_left _ (List.mem_of_getElem? (l := tables_1_1) (i := 117) rfl))) rfl
set_option maxRecDepth 100000 in
theorem zl_120 : Cond.methodLink "RiverDiggers$Draft" 155 yX3_join ∈ zi_G := zi_inG (List.mem_append_right _ (List.mem_append_right _ (List.mem_append_left _ (List.mem_of_getElem? (l := tables_1_2) (i := 65) rfl)))) rfl
set_option maxRecDepth 100000 in
theorem zl_121 : Cond.instanceMethod yX3_join ∈ zi_G := zi_inG (List.mem_append_right _ (List.mem_append_right _ (List.mem_append_left _ (List.mem_of_getElem? (l := tables_1_2) (i := 66) rfl)))) rfl
set_option maxRecDepth 100000 in
theorem zl_122 : Cond.selects "RiverDiggers$Land" yX3_join yX3_join ∈ zi_G := zi_inG (List.mem_append_right _ (List.mem_append_right _ (List.mem_append_left _ (List.mem_of_getElem? (l := tables_1_2) (i := 67) rfl)))) rfl
set_option maxRecDepth 100000 in
theorem zl_123 : Cond.fieldLink "RiverDiggers$Draft" 148 "RiverDiggers$Land" "ground" "[I" ∈ zi_G := zi_inG (List.mem_append_right _ (List.mem_append_left _ (List.mem_of_getElem? (l := tables_1_1) (i := 36) rfl))) rfl
set_option maxRecDepth 100000 in
theorem zl_124 : Cond.fieldLink "RiverDiggers$Draft" 147 "RiverDiggers$Land" "farms" "I" ∈ zi_G := zi_inG (List.mem_append_right _ (List.mem_append_left _ (List.mem_of_getElem? (l := tables_1_1) (i := 48) rfl))) rfl
set_option maxRecDepth 100000 in
theorem zl_125 : Cond.fieldLink "RiverDiggers$Draft" 146 "RiverDiggers$Land" "high" "I" ∈ zi_G := zi_inG (List.mem_append_right _ (List.mem_append_left _ (List.mem_of_getElem? (l := tables_1_1) (i := 44) rfl))) rfl
set_option maxRecDepth 100000 in
theorem zl_126 : Cond.fieldLink "RiverDiggers$Draft" 143 "RiverDiggers$Land" "wide" "I" ∈ zi_G := zi_inG (List.mem_append_right _ (List.mem_append_left _ (List.mem_of_getElem? (l := tables_1_1) (i := 41) rfl))) rfl
set_option maxRecDepth 100000 in
theorem zl_127 : Cond.methodLink "RiverDiggers$Draft" 189 yX2_trace ∈ zi_G := zi_inG (List.mem_append_right _ (List.mem_append_right _ (List.mem_append_left _ (List.mem_of_getElem? (l := tables_1_2) (i := 73) rfl)))) rfl
set_option maxRecDepth 100000 in
theorem zl_128 : Cond.instanceMethod yX2_trace ∈ zi_G := zi_inG (List.mem_append_right _ (List.mem_append_right _ (List.mem_append_left _ (List.mem_of_getElem? (l := tables_1_2) (i := 74) rfl)))) rfl
set_option maxRecDepth 100000 in
theorem zl_129 : Cond.selects "RiverDiggers$Flow" yX2_trace yX2_trace ∈ zi_G := zi_inG (List.mem_append_right _ (List.mem_append_right _ (List.mem_append_left _ (List.mem_of_getElem? (l := tables_1_2) (i := 75) rfl)))) rfl
set_option maxRecDepth 100000 in
theorem zl_130 : Cond.fieldLink "RiverDiggers$Draft" 185 "RiverDiggers$Flow" "silted" "Z" ∈ zi_G := zi_inG (List.mem_append_right _ (List.mem_append_left _ (List.mem_of_getElem? (l := tables_1_1) (i := 94) rfl))) rfl
set_option maxRecDepth 100000 in
theorem zl_131 : Cond.fieldLink "RiverDiggers$Flow" 18 "RiverDiggers$Flow" "land" "LRiverDiggers$Land;" ∈ zi_G := zi_inG (List.mem_append_right _ (List.mem_append_left _ (List.mem_of_getElem? (l := tables_1_1) (i := 73) rfl))) rfl
set_option maxRecDepth 100000 in
theorem zl_132 : Cond.fieldLink "RiverDiggers$Flow" 15 "RiverDiggers$Flow" "way" "[I" ∈ zi_G := zi_inG (List.mem_append_right _ (List.mem_append_left _ (List.mem_of_getElem? (l := tables_1_1) (i := 78) rfl))) rfl
set_option maxRecDepth 100000 in
theorem zl_133 : Cond.fieldLink "RiverDiggers$Flow" 9 "RiverDiggers$Flow" "heights" "[I" ∈ zi_G := zi_inG (List.mem_append_right _ (List.mem_append_left _ (List.mem_of_getElem? (l := tables_1_1) (i := 75) rfl))) rfl
set_option maxRecDepth 100000 in
theorem zl_134 : Cond.methodLink "RiverDiggers$Flow" 3 Lib.objectInit ∈ zi_G := zi_inG (List.mem_append_right _ (List.mem_append_left _ (List.mem_of_getElem? (l := tables_1_1) (i := 72) rfl))) rfl
set_option maxRecDepth 100000 in
theorem zl_135 : Cond.fieldLink "RiverDiggers$Flow" 41 "RiverDiggers$Flow" "silted" "Z" ∈ zi_G := zi_inG (List.mem_append_right _ (List.mem_append_left _ (List.mem_of_getElem? (l := tables_1_1) (i := 92) rfl))) rfl
set_option maxRecDepth 100000 in
theorem zl_136 : Cond.fieldLink "RiverDiggers$Flow" 38 "RiverDiggers$Flow" "law" "I" ∈ zi_G := zi_inG (List.mem_append_right _ (List.mem_append_left _ (List.mem_of_getElem? (l := tables_1_1) (i := 89) rfl))) rfl
set_option maxRecDepth 100000 in
theorem zl_137 : Cond.fieldLink "RiverDiggers$Flow" 35 "RiverDiggers$Flow" "spring" "I" ∈ zi_G := zi_inG (List.mem_append_right _ (List.mem_append_left _ (List.mem_of_getElem? (l := tables_1_1) (i := 86) rfl))) rfl
set_option maxRecDepth 100000 in
theorem zl_138 : Cond.fieldLink "RiverDiggers$Flow" 32 "RiverDiggers$Flow" "bits" "I" ∈ zi_G := zi_inG (List.mem_append_right _ (List.mem_append_left _ (List.mem_of_getElem? (l := tables_1_1) (i := 82) rfl))) rfl
set_option maxRecDepth 100000 in
theorem zl_139 : Cond.fieldLink "RiverDiggers$Flow" 28 "RiverDiggers$Flow" "length" "I" ∈ zi_G := zi_inG (List.mem_append_right _ (List.mem_append_left _ (List.mem_of_getElem? (l := tables_1_1) (i := 80) rfl))) rfl
set_option maxRecDepth 100000 in
theorem zl_140 : Cond.methodLink "RiverDiggers$Flow" 22 arraycopyName ∈ zi_G := zi_inG (List.mem_append_right _ (List.mem_append_right _ (List.mem_append_right _ (List.mem_append_left _ (List.mem_of_getElem? (l := tables_1_3) (i := 159) rfl))))) rfl
set_option maxRecDepth 100000 in
theorem zl_141 : Cond.methodLink "RiverDiggers$Flow" 45 yX2_lowestNextTo ∈ zi_G := zi_inG (List.mem_append_right _ (List.mem_append_right _ (List.mem_append_left _ (List.mem_of_getElem? (l := tables_1_2) (i := 77) rfl)))) rfl
set_option maxRecDepth 100000 in
theorem zl_142 : Cond.instanceMethod yX2_lowestNextTo ∈ zi_G := zi_inG (List.mem_append_right _ (List.mem_append_right _ (List.mem_append_left _ (List.mem_of_getElem? (l := tables_1_2) (i := 79) rfl)))) rfl
set_option maxRecDepth 100000 in
theorem zl_143 : Cond.selects "RiverDiggers$Flow" yX2_lowestNextTo yX2_lowestNextTo ∈ zi_G := zi_inG (List.mem_append_left _ (List.mem_of_getElem? (i := 1) (by decide +kernel))) rfl
set_option maxRecDepth 100000 in
theorem zl_144 : Cond.fieldLink "RiverDiggers$Flow" 49 "RiverDiggers$Land" "near" "[I" ∈ zi_G := zi_inG (List.mem_append_right _ (List.mem_append_left _ (List.mem_of_getElem? (l := tables_1_1) (i := 38) rfl))) rfl
set_option maxRecDepth 100000 in
theorem zl_145 : Cond.methodLinkNest "RiverDiggers$Flow" 54 yX8_has "RiverDiggers" ∈ lw_tbl := List.mem_append_right _ (List.mem_append_right _ (List.mem_append_left _ (List.mem_of_getElem? (l := tables_1_2) (i := 81) rfl)))
set_option maxRecDepth 100000 in
theorem zl_146 : Cond.methodLink "RiverDiggers$Flow" 58 yX3_hasFarm ∈ zi_G := zi_inG (List.mem_append_right _ (List.mem_append_right _ (List.mem_append_right _ (List.mem_append_left _ (List.mem_of_getElem? (l := tables_1_3) (i := 90) rfl))))) rfl
set_option maxRecDepth 100000 in
theorem zl_147 : Cond.instanceMethod yX3_hasFarm ∈ zi_G := zi_inG (List.mem_append_right _ (List.mem_append_right _ (List.mem_append_right _ (List.mem_append_left _ (List.mem_of_getElem? (l := tables_1_3) (i := 77) rfl))))) rfl
set_option maxRecDepth 100000 in
theorem zl_148 : Cond.selects "RiverDiggers$Land" yX3_hasFarm yX3_hasFarm ∈ zi_G := zi_inG (List.mem_append_right _ (List.mem_append_right _ (List.mem_append_right _ (List.mem_append_left _ (List.mem_of_getElem? (l := tables_1_3) (i := 78) rfl))))) rfl
set_option maxRecDepth 100000 in
theorem zl_149 : Cond.fieldLink "RiverDiggers$Flow" 62 "RiverDiggers$Land" "ground" "[I" ∈ zi_G := zi_inG (List.mem_append_right _ (List.mem_append_left _ (List.mem_of_getElem? (l := tables_1_1) (i := 34) rfl))) rfl
set_option maxRecDepth 100000 in
theorem zl_150 : Cond.methodLink "RiverDiggers$Flow" 65 yX3_beside ∈ zi_G := zi_inG (List.mem_append_right _ (List.mem_append_right _ (List.mem_append_right _ (List.mem_append_left _ (List.mem_of_getElem? (l := tables_1_3) (i := 91) rfl))))) rfl
set_option maxRecDepth 100000 in
theorem zl_151 : Cond.instanceMethod yX3_beside ∈ zi_G := zi_inG (List.mem_append_right _ (List.mem_append_right _ (List.mem_append_right _ (List.mem_append_left _ (List.mem_of_getElem? (l := tables_1_3) (i := 92) rfl))))) rfl
set_option maxRecDepth 100000 in
theorem zl_152 : Cond.selects "RiverDiggers$Land" yX3_beside yX3_beside ∈ zi_G := zi_inG (List.mem_append_right _ (List.mem_append_right _ (List.mem_append_right _ (List.mem_append_left _ (List.mem_of_getElem? (l := tables_1_3) (i := 93) rfl))))) rfl
set_option maxRecDepth 100000 in
theorem zl_153 : Cond.methodLinkNest "RiverDiggers$Flow" 68 yX8_option "RiverDiggers" ∈ lw_tbl := List.mem_append_right _ (List.mem_append_right _ (List.mem_append_right _ (List.mem_append_left _ (List.mem_of_getElem? (l := tables_1_3) (i := 138) rfl))))
set_option maxRecDepth 100000 in
theorem zl_154 : Cond.static yX8_option ∈ zi_G := zi_inG (List.mem_append_right _ (List.mem_append_right _ (List.mem_append_right _ (List.mem_append_left _ (List.mem_of_getElem? (l := tables_1_3) (i := 139) rfl))))) rfl
set_option maxRecDepth 100000 in
theorem zl_155 : Cond.methodLink "RiverDiggers$Flow" 72 yX2_cuttable ∈ zi_G := zi_inG (List.mem_append_right _ (List.mem_append_right _ (List.mem_append_right _ (List.mem_append_left _ (List.mem_of_getElem? (l := tables_1_3) (i := 141) rfl))))) rfl
set_option maxRecDepth 100000 in
theorem zl_156 : Cond.fieldLink "RiverDiggers$Flow" 75 "RiverDiggers$Land" "farms" "I" ∈ zi_G := zi_inG (List.mem_append_right _ (List.mem_append_left _ (List.mem_of_getElem? (l := tables_1_1) (i := 47) rfl))) rfl
set_option maxRecDepth 100000 in
theorem zl_157 : Cond.methodLink "RiverDiggers$Flow" 78 yJ6_bitCount_0f7a4 ∈ zi_G := zi_inG (List.mem_append_right _ (List.mem_append_right _ (List.mem_append_right _ (List.mem_append_right _ (List.mem_append_left _ (List.mem_of_getElem? (l := tables_1_4) (i := 134) rfl)))))) rfl
set_option maxRecDepth 100000 in
theorem zl_158 : Cond.methodLink "RiverDiggers$Flow" 83 yX2_trace ∈ zi_G := zi_inG (List.mem_append_right _ (List.mem_append_right _ (List.mem_append_right _ (List.mem_append_left _ (List.mem_of_getElem? (l := tables_1_3) (i := 146) rfl))))) rfl
set_option maxRecDepth 100000 in
theorem zl_159 : Cond.methodLink "RiverDiggers$Flow" 86 yX2_carrySilt ∈ zi_G := zi_inG (List.mem_append_right _ (List.mem_append_right _ (List.mem_append_right _ (List.mem_append_left _ (List.mem_of_getElem? (l := tables_1_3) (i := 147) rfl))))) rfl
set_option maxRecDepth 100000 in
theorem zl_160 : Cond.instanceMethod yX2_carrySilt ∈ zi_G := zi_inG (List.mem_append_right _ (List.mem_append_right _ (List.mem_append_right _ (List.mem_append_left _ (List.mem_of_getElem? (l := tables_1_3) (i := 149) rfl))))) rfl
set_option maxRecDepth 100000 in
theorem zl_161 : Cond.selects "RiverDiggers$Flow" yX2_carrySilt yX2_carrySilt ∈ zi_G := zi_inG (List.mem_append_left _ (List.mem_of_getElem? (i := 13) (by decide +kernel))) rfl
set_option maxRecDepth 100000 in
theorem zl_162 : Cond.fieldLink "RiverDiggers$Land" 15 "RiverDiggers$Land" "near" "[I" ∈ zi_G := zi_inG (List.mem_append_right _ (List.mem_append_left _ (List.mem_of_getElem? (l := tables_1_1) (i := 37) rfl))) rfl
set_option maxRecDepth 100000 in
theorem zl_163 : Cond.fieldLink "RiverDiggers$Land" 9 "RiverDiggers$Land" "ground" "[I" ∈ zi_G := zi_inG (List.mem_append_right _ (List.mem_append_left _ (List.mem_of_getElem? (l := tables_1_1) (i := 32) rfl))) rfl
set_option maxRecDepth 100000 in
theorem zl_164 : Cond.methodLink "RiverDiggers$Land" 3 Lib.objectInit ∈ zi_G := zi_inG (List.mem_append_right _ (List.mem_append_left _ (List.mem_of_getElem? (l := tables_1_1) (i := 31) rfl))) rfl
set_option maxRecDepth 100000 in
theorem zl_165 : Cond.fieldLink "RiverDiggers$Land" 22 "RiverDiggers$Land" "high" "I" ∈ zi_G := zi_inG (List.mem_append_right _ (List.mem_append_left _ (List.mem_of_getElem? (l := tables_1_1) (i := 42) rfl))) rfl
set_option maxRecDepth 100000 in
theorem zl_166 : Cond.fieldLink "RiverDiggers$Land" 18 "RiverDiggers$Land" "wide" "I" ∈ zi_G := zi_inG (List.mem_append_right _ (List.mem_append_left _ (List.mem_of_getElem? (l := tables_1_1) (i := 39) rfl))) rfl
set_option maxRecDepth 100000 in
theorem zl_167 : Cond.fieldLink "RiverDiggers$Land" 25 "RiverDiggers$Land" "farms" "I" ∈ zi_G := zi_inG (List.mem_append_right _ (List.mem_append_left _ (List.mem_of_getElem? (l := tables_1_1) (i := 45) rfl))) rfl
set_option maxRecDepth 100000 in
theorem zl_168 : Cond.methodLinkNest "RiverDiggers$Land" 28 yX8_has "RiverDiggers" ∈ lw_tbl := List.mem_append_right _ (List.mem_append_right _ (List.mem_append_right _ (List.mem_append_left _ (List.mem_of_getElem? (l := tables_1_3) (i := 71) rfl))))
set_option maxRecDepth 100000 in
theorem zl_169 : Cond.fieldLink "RiverDiggers$Outlook" 24 "RiverDiggers$Outlook" "beds" "[I" ∈ zi_G := zi_inG (List.mem_append_right _ (List.mem_append_left _ (List.mem_of_getElem? (l := tables_1_1) (i := 159) rfl))) rfl
set_option maxRecDepth 100000 in
theorem zl_170 : Cond.fieldLink "RiverDiggers$Outlook" 21 "RiverDiggers$Outlook" "years" "[I" ∈ zi_G := zi_inG (List.mem_append_right _ (List.mem_append_left _ (List.mem_of_getElem? (l := tables_1_1) (i := 157) rfl))) rfl
set_option maxRecDepth 100000 in
theorem zl_171 : Cond.fieldLink "RiverDiggers$Outlook" 18 "RiverDiggers$Outlook" "steps" "[I" ∈ zi_G := zi_inG (List.mem_append_right _ (List.mem_append_left _ (List.mem_of_getElem? (l := tables_1_1) (i := 156) rfl))) rfl
set_option maxRecDepth 100000 in
theorem zl_172 : Cond.fieldLink "RiverDiggers$Outlook" 15 "RiverDiggers$Outlook" "counts" "[I" ∈ zi_G := zi_inG (List.mem_append_right _ (List.mem_append_left _ (List.mem_of_getElem? (l := tables_1_1) (i := 155) rfl))) rfl
set_option maxRecDepth 100000 in
theorem zl_173 : Cond.fieldLink "RiverDiggers$Outlook" 9 "RiverDiggers$Outlook" "options" "[I" ∈ zi_G := zi_inG (List.mem_append_right _ (List.mem_append_left _ (List.mem_of_getElem? (l := tables_1_1) (i := 154) rfl))) rfl
set_option maxRecDepth 100000 in
theorem zl_174 : Cond.methodLink "RiverDiggers$Outlook" 3 Lib.objectInit ∈ zi_G := zi_inG (List.mem_append_right _ (List.mem_append_left _ (List.mem_of_getElem? (l := tables_1_1) (i := 153) rfl))) rfl
set_option maxRecDepth 100000 in
theorem zl_175 : Cond.methodLink "RiverDiggers$Outlook" 33 yX4_list ∈ zi_G := zi_inG (List.mem_append_right _ (List.mem_append_right _ (List.mem_append_right _ (List.mem_append_left _ (List.mem_of_getElem? (l := tables_1_3) (i := 208) rfl))))) rfl
set_option maxRecDepth 100000 in
theorem zl_176 : Cond.instanceMethod yX4_list ∈ zi_G := zi_inG (List.mem_append_right _ (List.mem_append_right _ (List.mem_append_right _ (List.mem_append_left _ (List.mem_of_getElem? (l := tables_1_3) (i := 210) rfl))))) rfl
set_option maxRecDepth 100000 in
theorem zl_177 : Cond.selects "RiverDiggers$Outlook" yX4_list yX4_list ∈ zi_G := zi_inG (List.mem_append_left _ (List.mem_of_getElem? (i := 16) (by decide +kernel))) rfl
set_option maxRecDepth 100000 in
theorem zl_178 : Cond.methodLink "RiverDiggers$Outlook" 27 yX2_cuttable ∈ zi_G := zi_inG (List.mem_append_right _ (List.mem_append_right _ (List.mem_append_right _ (List.mem_append_left _ (List.mem_of_getElem? (l := tables_1_3) (i := 207) rfl))))) rfl
set_option maxRecDepth 100000 in
theorem zl_179 : Cond.fieldLink "RiverDiggers$Outlook" 37 "RiverDiggers$Outlook" "size" "I" ∈ zi_G := zi_inG (List.mem_append_right _ (List.mem_append_left _ (List.mem_of_getElem? (l := tables_1_1) (i := 161) rfl))) rfl
set_option maxRecDepth 100000 in
theorem zl_180 : Cond.methodLinkNest "RiverDiggers$Outlook" 41 yX8_numberOf "RiverDiggers" ∈ lw_tbl := List.mem_append_right _ (List.mem_append_right _ (List.mem_append_right _ (List.mem_append_left _ (List.mem_of_getElem? (l := tables_1_3) (i := 213) rfl))))
set_option maxRecDepth 100000 in
theorem zl_181 : Cond.fieldLink "RiverDiggers$Outlook" 53 "RiverDiggers$Flow" "bits" "I" ∈ zi_G := zi_inG (List.mem_append_right _ (List.mem_append_left _ (List.mem_of_getElem? (l := tables_1_1) (i := 83) rfl))) rfl
set_option maxRecDepth 100000 in
theorem zl_182 : Cond.methodLink "RiverDiggers$Outlook" 49 yX2_pass ∈ zi_G := zi_inG (List.mem_append_right _ (List.mem_append_right _ (List.mem_append_right _ (List.mem_append_left _ (List.mem_of_getElem? (l := tables_1_3) (i := 215) rfl))))) rfl
set_option maxRecDepth 100000 in
theorem zl_183 : Cond.methodLink "RiverDiggers$Outlook" 45 yX2_copy ∈ zi_G := zi_inG (List.mem_append_right _ (List.mem_append_right _ (List.mem_append_right _ (List.mem_append_left _ (List.mem_of_getElem? (l := tables_1_3) (i := 214) rfl))))) rfl
set_option maxRecDepth 100000 in
theorem zl_184 : Cond.fieldLink "RiverDiggers$Outlook" 56 "RiverDiggers$Outlook" "ready" "Z" ∈ zi_G := zi_inG (List.mem_append_right _ (List.mem_append_left _ (List.mem_of_getElem? (l := tables_1_1) (i := 163) rfl))) rfl
set_option maxRecDepth 100000 in
theorem zl_185 : Cond.methodLinkNest "RiverDiggers$Outlook" 60 yX8_has "RiverDiggers" ∈ lw_tbl := List.mem_append_right _ (List.mem_append_right _ (List.mem_append_right _ (List.mem_append_left _ (List.mem_of_getElem? (l := tables_1_3) (i := 212) rfl))))
set_option maxRecDepth 100000 in
theorem zl_186 : Cond.methodLink "RiverDiggers$Outlook" 70 yX7_gain ∈ zi_G := zi_inG (List.mem_append_right _ (List.mem_append_right _ (List.mem_append_right _ (List.mem_append_left _ (List.mem_of_getElem? (l := tables_1_3) (i := 231) rfl))))) rfl
set_option maxRecDepth 100000 in
theorem zl_187 : Cond.instanceMethod yX7_gain ∈ zi_G := zi_inG (List.mem_append_right _ (List.mem_append_right _ (List.mem_append_right _ (List.mem_append_left _ (List.mem_of_getElem? (l := tables_1_3) (i := 81) rfl))))) rfl
set_option maxRecDepth 100000 in
theorem zl_188 : Cond.selects "RiverDiggers$Times" yX7_gain yX7_gain ∈ zi_G := zi_inG (List.mem_append_right _ (List.mem_append_right _ (List.mem_append_right _ (List.mem_append_left _ (List.mem_of_getElem? (l := tables_1_3) (i := 82) rfl))))) rfl
set_option maxRecDepth 100000 in
theorem zl_189 : Cond.methodLink "RiverDiggers$Outlook" 67 yX4_placeOf ∈ zi_G := zi_inG (List.mem_append_right _ (List.mem_append_right _ (List.mem_append_right _ (List.mem_append_right _ (List.mem_append_left _ (List.mem_of_getElem? (l := tables_1_4) (i := 1) rfl)))))) rfl
set_option maxRecDepth 100000 in
theorem zl_190 : Cond.instanceMethod yX4_placeOf ∈ zi_G := zi_inG (List.mem_append_right _ (List.mem_append_right _ (List.mem_append_right _ (List.mem_append_right _ (List.mem_append_left _ (List.mem_of_getElem? (l := tables_1_4) (i := 3) rfl)))))) rfl
set_option maxRecDepth 100000 in
theorem zl_191 : Cond.selects "RiverDiggers$Outlook" yX4_placeOf yX4_placeOf ∈ zi_G := zi_inG (List.mem_append_left _ (List.mem_of_getElem? (i := 18) (by decide +kernel))) rfl
set_option maxRecDepth 100000 in
theorem zl_192 : Cond.methodLinkNest "RiverDiggers$Outlook" 64 yX8_option "RiverDiggers" ∈ lw_tbl := List.mem_append_right _ (List.mem_append_right _ (List.mem_append_right _ (List.mem_append_right _ (List.mem_append_left _ (List.mem_of_getElem? (l := tables_1_4) (i := 0) rfl)))))
set_option maxRecDepth 100000 in
theorem zl_193 : Cond.methodLink "RiverDiggers$Outlook" 75 yX4_chosen ∈ zi_G := zi_inG (List.mem_append_right _ (List.mem_append_right _ (List.mem_append_right _ (List.mem_append_left _ (List.mem_of_getElem? (l := tables_1_3) (i := 230) rfl))))) rfl
set_option maxRecDepth 100000 in
theorem zl_194 : Cond.instanceMethod yX4_chosen ∈ zi_G := zi_inG (List.mem_append_right _ (List.mem_append_right _ (List.mem_append_right _ (List.mem_append_left _ (List.mem_of_getElem? (l := tables_1_3) (i := 228) rfl))))) rfl
set_option maxRecDepth 100000 in
theorem zl_195 : Cond.selects "RiverDiggers$Outlook" yX4_chosen yX4_chosen ∈ zi_G := zi_inG (List.mem_append_left _ (List.mem_of_getElem? (i := 17) (by decide +kernel))) rfl
set_option maxRecDepth 100000 in
theorem zl_196 : Cond.methodLink "RiverDiggers$Sheets" 21 yJ7_fill_53178 ∈ zi_G := zi_inG (List.mem_append_right _ (List.mem_append_right _ (List.mem_append_left _ (List.mem_of_getElem? (l := tables_1_2) (i := 39) rfl)))) rfl
set_option maxRecDepth 100000 in
theorem zl_197 : Cond.fieldLink "RiverDiggers$Sheets" 15 "RiverDiggers$Sheets" "sizes" "[I" ∈ zi_G := zi_inG (List.mem_append_right _ (List.mem_append_right _ (List.mem_append_left _ (List.mem_of_getElem? (l := tables_1_2) (i := 43) rfl)))) rfl
set_option maxRecDepth 100000 in
theorem zl_198 : Cond.fieldLink "RiverDiggers$Sheets" 18 "RiverDiggers$Sheets" "values" "[I" ∈ zi_G := zi_inG (List.mem_append_right _ (List.mem_append_right _ (List.mem_append_left _ (List.mem_of_getElem? (l := tables_1_2) (i := 45) rfl)))) rfl
set_option maxRecDepth 100000 in
theorem zl_199 : Cond.fieldLink "RiverDiggers$Sheets" 9 "RiverDiggers$Sheets" "lanes" "[I" ∈ zi_G := zi_inG (List.mem_append_right _ (List.mem_append_right _ (List.mem_append_left _ (List.mem_of_getElem? (l := tables_1_2) (i := 42) rfl)))) rfl
set_option maxRecDepth 100000 in
theorem zl_200 : Cond.methodLink "RiverDiggers$Sheets" 3 Lib.objectInit ∈ zi_G := zi_inG (List.mem_append_right _ (List.mem_append_right _ (List.mem_append_left _ (List.mem_of_getElem? (l := tables_1_2) (i := 38) rfl)))) rfl
set_option maxRecDepth 100000 in
theorem zl_201 : Cond.methodLink "RiverDiggers$Sheets" 27 yX5_reachFault ∈ zi_G := zi_inG (List.mem_append_right _ (List.mem_append_right _ (List.mem_append_right _ (List.mem_append_right _ (List.mem_append_left _ (List.mem_of_getElem? (l := tables_1_4) (i := 113) rfl)))))) rfl
set_option maxRecDepth 100000 in
theorem zl_202 : Cond.instanceMethod yX5_reachFault ∈ zi_G := zi_inG (List.mem_append_right _ (List.mem_append_right _ (List.mem_append_right _ (List.mem_append_right _ (List.mem_append_left _ (List.mem_of_getElem? (l := tables_1_4) (i := 98) rfl)))))) rfl
set_option maxRecDepth 100000 in
theorem zl_203 : Cond.selects "RiverDiggers$Sheets" yX5_reachFault yX5_reachFault ∈ zi_G := zi_inG (List.mem_append_right _ (List.mem_append_right _ (List.mem_append_right _ (List.mem_append_right _ (List.mem_append_left _ (List.mem_of_getElem? (l := tables_1_4) (i := 99) rfl)))))) rfl
set_option maxRecDepth 100000 in
theorem zl_204 : Cond.fieldLink "RiverDiggers$Tape" 9 "RiverDiggers$Tape" "bytes" "[B" ∈ zi_G := zi_inG (List.mem_append_right _ (List.mem_append_left _ (List.mem_of_getElem? (l := tables_1_1) (i := 204) rfl))) rfl
set_option maxRecDepth 100000 in
theorem zl_205 : Cond.arrayClass .byte ∈ zi_G := zi_inG (List.mem_append_right _ (List.mem_append_left _ (List.mem_of_getElem? (l := tables_1_1) (i := 235) rfl))) rfl
set_option maxRecDepth 100000 in
theorem zl_206 : Cond.methodLink "RiverDiggers$Tape" 3 Lib.objectInit ∈ zi_G := zi_inG (List.mem_append_right _ (List.mem_append_left _ (List.mem_of_getElem? (l := tables_1_1) (i := 203) rfl))) rfl
set_option maxRecDepth 100000 in
theorem zl_207 : Cond.fieldLink "RiverDiggers$Tape" 15 "RiverDiggers$Tape" "length" "I" ∈ zi_G := zi_inG (List.mem_append_right _ (List.mem_append_left _ (List.mem_of_getElem? (l := tables_1_1) (i := 205) rfl))) rfl
set_option maxRecDepth 100000 in
theorem zl_208 : Cond.fieldLink "RiverDiggers$Tape" 25 "RiverDiggers$Tape" "place" "I" ∈ zi_G := zi_inG (List.mem_append_right _ (List.mem_append_left _ (List.mem_of_getElem? (l := tables_1_1) (i := 216) rfl))) rfl
set_option maxRecDepth 100000 in
theorem zl_209 : Cond.fieldLink "RiverDiggers$Tape" 22 "RiverDiggers$Tape" "flaw" "I" ∈ zi_G := zi_inG (List.mem_append_right _ (List.mem_append_left _ (List.mem_of_getElem? (l := tables_1_1) (i := 213) rfl))) rfl
set_option maxRecDepth 100000 in
theorem zl_210 : Cond.fieldLink "RiverDiggers$Tape" 19 "RiverDiggers$Tape" "at" "I" ∈ zi_G := zi_inG (List.mem_append_right _ (List.mem_append_left _ (List.mem_of_getElem? (l := tables_1_1) (i := 207) rfl))) rfl
set_option maxRecDepth 100000 in
theorem zl_211 : Cond.fieldLink "RiverDiggers$Tape" 28 "RiverDiggers$Tape" "start" "I" ∈ zi_G := zi_inG (List.mem_append_right _ (List.mem_append_left _ (List.mem_of_getElem? (l := tables_1_1) (i := 210) rfl))) rfl
set_option maxRecDepth 100000 in
theorem zl_212 : Cond.fieldLink "RiverDiggers$Tape" 31 "RiverDiggers$Tape" "value" "I" ∈ zi_G := zi_inG (List.mem_append_right _ (List.mem_append_left _ (List.mem_of_getElem? (l := tables_1_1) (i := 212) rfl))) rfl
set_option maxRecDepth 100000 in
theorem zl_213 : Cond.fieldLink "RiverDiggers$Tape" 34 "RiverDiggers$Tape" "kind" "I" ∈ zi_G := zi_inG (List.mem_append_right _ (List.mem_append_left _ (List.mem_of_getElem? (l := tables_1_1) (i := 209) rfl))) rfl
set_option maxRecDepth 100000 in
theorem zl_214 : Cond.methodLink "RiverDiggers$Tape" 37 yX6_isLetter ∈ zi_G := zi_inG (List.mem_append_right _ (List.mem_append_right _ (List.mem_append_left _ (List.mem_of_getElem? (l := tables_1_2) (i := 156) rfl)))) rfl
set_option maxRecDepth 100000 in
theorem zl_215 : Cond.static yX6_isLetter ∈ zi_G := zi_inG (List.mem_append_right _ (List.mem_append_right _ (List.mem_append_left _ (List.mem_of_getElem? (l := tables_1_2) (i := 157) rfl)))) rfl
set_option maxRecDepth 100000 in
theorem zl_216 : Cond.methodLink "RiverDiggers$Tape" 41 yX6_isFigure ∈ zi_G := zi_inG (List.mem_append_right _ (List.mem_append_right _ (List.mem_append_left _ (List.mem_of_getElem? (l := tables_1_2) (i := 159) rfl)))) rfl
set_option maxRecDepth 100000 in
theorem zl_217 : Cond.static yX6_isFigure ∈ zi_G := zi_inG (List.mem_append_right _ (List.mem_append_right _ (List.mem_append_left _ (List.mem_of_getElem? (l := tables_1_2) (i := 160) rfl)))) rfl
set_option maxRecDepth 100000 in
theorem zl_218 : Cond.methodLink "RiverDiggers$Tape" 44 yX6_fail ∈ zi_G := zi_inG (List.mem_append_right _ (List.mem_append_right _ (List.mem_append_left _ (List.mem_of_getElem? (l := tables_1_2) (i := 162) rfl)))) rfl
set_option maxRecDepth 100000 in
theorem zl_219 : Cond.methodLink "RiverDiggers$Tape" 60 yX6_isNumber ∈ zi_G := zi_inG (List.mem_append_right _ (List.mem_append_right _ (List.mem_append_left _ (List.mem_of_getElem? (l := tables_1_2) (i := 237) rfl)))) rfl
set_option maxRecDepth 100000 in
theorem zl_220 : Cond.methodLink "RiverDiggers$Tape" 57 yX6_next ∈ zi_G := zi_inG (List.mem_append_right _ (List.mem_append_right _ (List.mem_append_left _ (List.mem_of_getElem? (l := tables_1_2) (i := 236) rfl)))) rfl
set_option maxRecDepth 100000 in
theorem zl_221 : Cond.fieldLink "RiverDiggers$Times" 26 "RiverDiggers$Times" "flow" "LRiverDiggers$Flow;" ∈ zi_G := zi_inG (List.mem_append_right _ (List.mem_append_left _ (List.mem_of_getElem? (l := tables_1_1) (i := 112) rfl))) rfl
set_option maxRecDepth 100000 in
theorem zl_222 : Cond.methodLink "RiverDiggers$Times" 23 yX2_init ∈ zi_G := zi_inG (List.mem_append_right _ (List.mem_append_left _ (List.mem_of_getElem? (l := tables_1_1) (i := 69) rfl))) rfl
set_option maxRecDepth 100000 in
theorem zl_223 : Cond.classLink "RiverDiggers$Times" 21 "RiverDiggers$Flow" ∈ zi_G := zi_inG (List.mem_append_right _ (List.mem_append_left _ (List.mem_of_getElem? (l := tables_1_1) (i := 67) rfl))) rfl
set_option maxRecDepth 100000 in
theorem zl_224 : Cond.fieldLink "RiverDiggers$Times" 18 "RiverDiggers$Times" "seen" "[I" ∈ zi_G := zi_inG (List.mem_append_right _ (List.mem_append_left _ (List.mem_of_getElem? (l := tables_1_1) (i := 120) rfl))) rfl
set_option maxRecDepth 100000 in
theorem zl_225 : Cond.fieldLink "RiverDiggers$Times" 15 "RiverDiggers$Times" "told" "[I" ∈ zi_G := zi_inG (List.mem_append_right _ (List.mem_append_left _ (List.mem_of_getElem? (l := tables_1_1) (i := 118) rfl))) rfl
set_option maxRecDepth 100000 in
theorem zl_226 : Cond.fieldLink "RiverDiggers$Times" 9 "RiverDiggers$Times" "worths" "[I" ∈ zi_G := zi_inG (List.mem_append_right _ (List.mem_append_left _ (List.mem_of_getElem? (l := tables_1_1) (i := 115) rfl))) rfl
set_option maxRecDepth 100000 in
theorem zl_227 : Cond.methodLink "RiverDiggers$Times" 3 Lib.objectInit ∈ zi_G := zi_inG (List.mem_append_right _ (List.mem_append_left _ (List.mem_of_getElem? (l := tables_1_1) (i := 66) rfl))) rfl
set_option maxRecDepth 100000 in
theorem zl_228 : Cond.fieldLink "RiverDiggers$Times" 47 "RiverDiggers$Times" "seens" "I" ∈ zi_G := zi_inG (List.mem_append_right _ (List.mem_append_left _ (List.mem_of_getElem? (l := tables_1_1) (i := 128) rfl))) rfl
set_option maxRecDepth 100000 in
theorem zl_229 : Cond.fieldLink "RiverDiggers$Times" 44 "RiverDiggers$Times" "tolds" "I" ∈ zi_G := zi_inG (List.mem_append_right _ (List.mem_append_left _ (List.mem_of_getElem? (l := tables_1_1) (i := 125) rfl))) rfl
set_option maxRecDepth 100000 in
theorem zl_230 : Cond.fieldLink "RiverDiggers$Times" 40 "RiverDiggers$Times" "years" "I" ∈ zi_G := zi_inG (List.mem_append_right _ (List.mem_append_left _ (List.mem_of_getElem? (l := tables_1_1) (i := 122) rfl))) rfl
set_option maxRecDepth 100000 in
theorem zl_231 : Cond.methodLink "RiverDiggers$Times" 34 arraycopyName ∈ zi_G := zi_inG (List.mem_append_right _ (List.mem_append_right _ (List.mem_append_right _ (List.mem_append_right _ (List.mem_append_left _ (List.mem_of_getElem? (l := tables_1_4) (i := 72) rfl)))))) rfl
set_option maxRecDepth 100000 in
theorem zl_232 : Cond.methodLink "RiverDiggers$Times" 30 yX2_copy ∈ zi_G := zi_inG (List.mem_append_right _ (List.mem_append_right _ (List.mem_append_right _ (List.mem_append_right _ (List.mem_append_left _ (List.mem_of_getElem? (l := tables_1_4) (i := 71) rfl)))))) rfl
set_option maxRecDepth 100000 in
theorem zl_233 : Cond.methodLink "RiverDiggers$Times" 54 yX3_hasFarm ∈ zi_G := zi_inG (List.mem_append_right _ (List.mem_append_right _ (List.mem_append_right _ (List.mem_append_left _ (List.mem_of_getElem? (l := tables_1_3) (i := 84) rfl))))) rfl
set_option maxRecDepth 100000 in
theorem zl_234 : Cond.fieldLink "RiverDiggers$Times" 50 "RiverDiggers$Flow" "land" "LRiverDiggers$Land;" ∈ zi_G := zi_inG (List.mem_append_right _ (List.mem_append_left _ (List.mem_of_getElem? (l := tables_1_1) (i := 74) rfl))) rfl
set_option maxRecDepth 100000 in
theorem zl_235 : Cond.methodLink "RiverDiggers$Times" 63 yJ6_bitCount_0f7a4 ∈ zi_G := zi_inG (List.mem_append_right _ (List.mem_append_right _ (List.mem_append_right _ (List.mem_append_left _ (List.mem_of_getElem? (l := tables_1_3) (i := 85) rfl))))) rfl
set_option maxRecDepth 100000 in
theorem zl_236 : Cond.fieldLink "RiverDiggers$Times" 60 "RiverDiggers$Land" "ground" "[I" ∈ zi_G := zi_inG (List.mem_append_right _ (List.mem_append_left _ (List.mem_of_getElem? (l := tables_1_1) (i := 33) rfl))) rfl
set_option maxRecDepth 100000 in
theorem zl_237 : Cond.methodLinkNest "RiverDiggers$Times" 69 yX8_has "RiverDiggers" ∈ lw_tbl := List.mem_append_right _ (List.mem_append_right _ (List.mem_append_right _ (List.mem_append_right _ (List.mem_append_left _ (List.mem_of_getElem? (l := tables_1_4) (i := 58) rfl)))))
set_option maxRecDepth 100000 in
theorem zl_238 : Cond.methodLink "RiverDiggers" 82 yX1_settle ∈ zi_G := zi_inG (List.mem_append_right _ (List.mem_append_right _ (List.mem_append_left _ (List.mem_of_getElem? (l := tables_1_2) (i := 58) rfl)))) rfl
set_option maxRecDepth 100000 in
theorem zl_239 : Cond.instanceMethod yX1_settle ∈ zi_G := zi_inG (List.mem_append_right _ (List.mem_append_right _ (List.mem_append_left _ (List.mem_of_getElem? (l := tables_1_2) (i := 59) rfl)))) rfl
set_option maxRecDepth 100000 in
theorem zl_240 : Cond.selects "RiverDiggers$Draft" yX1_settle yX1_settle ∈ zi_G := zi_inG (List.mem_append_right _ (List.mem_append_right _ (List.mem_append_left _ (List.mem_of_getElem? (l := tables_1_2) (i := 60) rfl)))) rfl
set_option maxRecDepth 100000 in
theorem zl_241 : Cond.fieldLink "RiverDiggers" 21 "RiverDiggers" "now" "LRiverDiggers$Times;" ∈ zi_G := zi_inG (List.mem_append_right _ (List.mem_append_right _ (List.mem_append_left _ (List.mem_of_getElem? (l := tables_1_2) (i := 85) rfl)))) rfl
set_option maxRecDepth 100000 in
theorem zl_242 : Cond.fieldLink "RiverDiggers" 10 "RiverDiggers" "land" "LRiverDiggers$Land;" ∈ zi_G := zi_inG (List.mem_append_right _ (List.mem_append_right _ (List.mem_append_left _ (List.mem_of_getElem? (l := tables_1_2) (i := 84) rfl)))) rfl
set_option maxRecDepth 100000 in
theorem zl_243 : Cond.fieldLink "RiverDiggers" 64 "RiverDiggers" "draft" "LRiverDiggers$Draft;" ∈ zi_G := zi_inG (List.mem_append_right _ (List.mem_append_right _ (List.mem_append_left _ (List.mem_of_getElem? (l := tables_1_2) (i := 92) rfl)))) rfl
set_option maxRecDepth 100000 in
theorem zl_244 : Cond.methodLink "RiverDiggers" 79 yX1_clear ∈ zi_G := zi_inG (List.mem_append_right _ (List.mem_append_right _ (List.mem_append_left _ (List.mem_of_getElem? (l := tables_1_2) (i := 53) rfl)))) rfl
set_option maxRecDepth 100000 in
theorem zl_245 : Cond.fieldLink "RiverDiggers" 75 "RiverDiggers" "history" "[I" ∈ zi_G := zi_inG (List.mem_append_right _ (List.mem_append_right _ (List.mem_append_left _ (List.mem_of_getElem? (l := tables_1_2) (i := 94) rfl)))) rfl
set_option maxRecDepth 100000 in
theorem zl_246 : Cond.fieldLink "RiverDiggers" 71 "RiverDiggers" "sheets" "LRiverDiggers$Sheets;" ∈ zi_G := zi_inG (List.mem_append_right _ (List.mem_append_right _ (List.mem_append_left _ (List.mem_of_getElem? (l := tables_1_2) (i := 93) rfl)))) rfl
set_option maxRecDepth 100000 in
theorem zl_247 : Cond.methodLink "RiverDiggers" 70 yX5_init ∈ zi_G := zi_inG (List.mem_append_right _ (List.mem_append_right _ (List.mem_append_left _ (List.mem_of_getElem? (l := tables_1_2) (i := 35) rfl)))) rfl
set_option maxRecDepth 100000 in
theorem zl_248 : Cond.instanceMethod yX5_init ∈ zi_G := zi_inG (List.mem_append_right _ (List.mem_append_right _ (List.mem_append_left _ (List.mem_of_getElem? (l := tables_1_2) (i := 36) rfl)))) rfl
set_option maxRecDepth 100000 in
theorem zl_249 : Cond.classLink "RiverDiggers" 68 "RiverDiggers$Sheets" ∈ zi_G := zi_inG (List.mem_append_right _ (List.mem_append_right _ (List.mem_append_left _ (List.mem_of_getElem? (l := tables_1_2) (i := 33) rfl)))) rfl
set_option maxRecDepth 100000 in
theorem zl_250 : Cond.instantiable "RiverDiggers$Sheets" 3 ∈ zi_G := zi_inG (List.mem_append_right _ (List.mem_append_right _ (List.mem_append_left _ (List.mem_of_getElem? (l := tables_1_2) (i := 34) rfl)))) rfl
set_option maxRecDepth 100000 in
theorem zl_251 : Cond.initialized "RiverDiggers$Sheets" ∈ zi_G := zi_inG (List.mem_append_right _ (List.mem_append_left _ (List.mem_of_getElem? (l := tables_1_1) (i := 9) rfl))) rfl
set_option maxRecDepth 100000 in
theorem zl_252 : Cond.methodLinkNest "RiverDiggers" 63 yX1_init "RiverDiggers" ∈ lw_tbl := List.mem_append_right _ (List.mem_append_left _ (List.mem_of_getElem? (l := tables_1_1) (i := 238) rfl))
set_option maxRecDepth 100000 in
theorem zl_253 : Cond.instanceMethod yX1_init ∈ zi_G := zi_inG (List.mem_append_right _ (List.mem_append_left _ (List.mem_of_getElem? (l := tables_1_1) (i := 239) rfl))) rfl
set_option maxRecDepth 100000 in
theorem zl_254 : Cond.classLink "RiverDiggers" 61 "RiverDiggers$Draft" ∈ zi_G := zi_inG (List.mem_append_right _ (List.mem_append_left _ (List.mem_of_getElem? (l := tables_1_1) (i := 236) rfl))) rfl
set_option maxRecDepth 100000 in
theorem zl_255 : Cond.instantiable "RiverDiggers$Draft" 10 ∈ zi_G := zi_inG (List.mem_append_right _ (List.mem_append_left _ (List.mem_of_getElem? (l := tables_1_1) (i := 237) rfl))) rfl
set_option maxRecDepth 100000 in
theorem zl_256 : Cond.initialized "RiverDiggers$Draft" ∈ zi_G := zi_inG (List.mem_append_right _ (List.mem_append_left _ (List.mem_of_getElem? (l := tables_1_1) (i := 8) rfl))) rfl
set_option maxRecDepth 100000 in
theorem zl_257 : Cond.fieldLink "RiverDiggers" 57 "RiverDiggers" "tape" "LRiverDiggers$Tape;" ∈ zi_G := zi_inG (List.mem_append_right _ (List.mem_append_right _ (List.mem_append_left _ (List.mem_of_getElem? (l := tables_1_2) (i := 91) rfl)))) rfl
set_option maxRecDepth 100000 in
theorem zl_258 : Cond.methodLinkNest "RiverDiggers" 56 yX6_init "RiverDiggers" ∈ lw_tbl := List.mem_append_right _ (List.mem_append_left _ (List.mem_of_getElem? (l := tables_1_1) (i := 200) rfl))
set_option maxRecDepth 100000 in
theorem zl_259 : Cond.instanceMethod yX6_init ∈ zi_G := zi_inG (List.mem_append_right _ (List.mem_append_left _ (List.mem_of_getElem? (l := tables_1_1) (i := 201) rfl))) rfl
set_option maxRecDepth 100000 in
theorem zl_260 : Cond.classLink "RiverDiggers" 54 "RiverDiggers$Tape" ∈ zi_G := zi_inG (List.mem_append_right _ (List.mem_append_left _ (List.mem_of_getElem? (l := tables_1_1) (i := 198) rfl))) rfl
set_option maxRecDepth 100000 in
theorem zl_261 : Cond.instantiable "RiverDiggers$Tape" 8 ∈ zi_G := zi_inG (List.mem_append_right _ (List.mem_append_left _ (List.mem_of_getElem? (l := tables_1_1) (i := 199) rfl))) rfl
set_option maxRecDepth 100000 in
theorem zl_262 : Cond.initialized "RiverDiggers$Tape" ∈ zi_G := zi_inG (List.mem_append_right _ (List.mem_append_left _ (List.mem_of_getElem? (l := tables_1_1) (i := 7) rfl))) rfl
set_option maxRecDepth 100000 in
theorem zl_263 : Cond.fieldLink "RiverDiggers" 50 "RiverDiggers" "digger" "LRiverDiggers$Digger;" ∈ zi_G := zi_inG (List.mem_append_right _ (List.mem_append_right _ (List.mem_append_left _ (List.mem_of_getElem? (l := tables_1_2) (i := 90) rfl)))) rfl
set_option maxRecDepth 100000 in
theorem zl_264 : Cond.methodLink "RiverDiggers" 47 yX0_init ∈ zi_G := zi_inG (List.mem_append_right _ (List.mem_append_left _ (List.mem_of_getElem? (l := tables_1_1) (i := 182) rfl))) rfl
set_option maxRecDepth 100000 in
theorem zl_265 : Cond.instanceMethod yX0_init ∈ zi_G := zi_inG (List.mem_append_right _ (List.mem_append_left _ (List.mem_of_getElem? (l := tables_1_1) (i := 183) rfl))) rfl
set_option maxRecDepth 100000 in
theorem zl_266 : Cond.classLink "RiverDiggers" 45 "RiverDiggers$Digger" ∈ zi_G := zi_inG (List.mem_append_right _ (List.mem_append_left _ (List.mem_of_getElem? (l := tables_1_1) (i := 180) rfl))) rfl
set_option maxRecDepth 100000 in
theorem zl_267 : Cond.instantiable "RiverDiggers$Digger" 3 ∈ zi_G := zi_inG (List.mem_append_right _ (List.mem_append_left _ (List.mem_of_getElem? (l := tables_1_1) (i := 181) rfl))) rfl
set_option maxRecDepth 100000 in
theorem zl_268 : Cond.initialized "RiverDiggers$Digger" ∈ zi_G := zi_inG (List.mem_append_right _ (List.mem_append_left _ (List.mem_of_getElem? (l := tables_1_1) (i := 6) rfl))) rfl
set_option maxRecDepth 100000 in
theorem zl_269 : Cond.fieldLink "RiverDiggers" 41 "RiverDiggers" "outlook" "LRiverDiggers$Outlook;" ∈ zi_G := zi_inG (List.mem_append_right _ (List.mem_append_right _ (List.mem_append_left _ (List.mem_of_getElem? (l := tables_1_2) (i := 89) rfl)))) rfl
set_option maxRecDepth 100000 in
theorem zl_270 : Cond.methodLinkNest "RiverDiggers" 40 yX4_init "RiverDiggers" ∈ lw_tbl := List.mem_append_right _ (List.mem_append_left _ (List.mem_of_getElem? (l := tables_1_1) (i := 150) rfl))
set_option maxRecDepth 100000 in
theorem zl_271 : Cond.instanceMethod yX4_init ∈ zi_G := zi_inG (List.mem_append_right _ (List.mem_append_left _ (List.mem_of_getElem? (l := tables_1_1) (i := 151) rfl))) rfl
set_option maxRecDepth 100000 in
theorem zl_272 : Cond.classLink "RiverDiggers" 38 "RiverDiggers$Outlook" ∈ zi_G := zi_inG (List.mem_append_right _ (List.mem_append_left _ (List.mem_of_getElem? (l := tables_1_1) (i := 148) rfl))) rfl
set_option maxRecDepth 100000 in
theorem zl_273 : Cond.instantiable "RiverDiggers$Outlook" 7 ∈ zi_G := zi_inG (List.mem_append_right _ (List.mem_append_left _ (List.mem_of_getElem? (l := tables_1_1) (i := 149) rfl))) rfl
set_option maxRecDepth 100000 in
theorem zl_274 : Cond.initialized "RiverDiggers$Outlook" ∈ zi_G := zi_inG (List.mem_append_right _ (List.mem_append_left _ (List.mem_of_getElem? (l := tables_1_1) (i := 5) rfl))) rfl
set_option maxRecDepth 100000 in
theorem zl_275 : Cond.fieldLink "RiverDiggers" 34 "RiverDiggers" "trial" "LRiverDiggers$Flow;" ∈ zi_G := zi_inG (List.mem_append_right _ (List.mem_append_right _ (List.mem_append_left _ (List.mem_of_getElem? (l := tables_1_2) (i := 88) rfl)))) rfl
set_option maxRecDepth 100000 in
theorem zl_276 : Cond.methodLink "RiverDiggers" 33 yX2_init ∈ zi_G := zi_inG (List.mem_append_right _ (List.mem_append_left _ (List.mem_of_getElem? (l := tables_1_1) (i := 147) rfl))) rfl
set_option maxRecDepth 100000 in
theorem zl_277 : Cond.classLink "RiverDiggers" 31 "RiverDiggers$Flow" ∈ zi_G := zi_inG (List.mem_append_right _ (List.mem_append_left _ (List.mem_of_getElem? (l := tables_1_1) (i := 146) rfl))) rfl
set_option maxRecDepth 100000 in
theorem zl_278 : Cond.fieldLink "RiverDiggers" 28 "RiverDiggers" "image1" "LRiverDiggers$Times;" ∈ zi_G := zi_inG (List.mem_append_right _ (List.mem_append_right _ (List.mem_append_left _ (List.mem_of_getElem? (l := tables_1_2) (i := 87) rfl)))) rfl
set_option maxRecDepth 100000 in
theorem zl_279 : Cond.methodLink "RiverDiggers" 18 yX7_init ∈ zi_G := zi_inG (List.mem_append_right _ (List.mem_append_left _ (List.mem_of_getElem? (l := tables_1_1) (i := 63) rfl))) rfl
set_option maxRecDepth 100000 in
theorem zl_280 : Cond.instanceMethod yX7_init ∈ zi_G := zi_inG (List.mem_append_right _ (List.mem_append_left _ (List.mem_of_getElem? (l := tables_1_1) (i := 64) rfl))) rfl
set_option maxRecDepth 100000 in
theorem zl_281 : Cond.classLink "RiverDiggers" 16 "RiverDiggers$Times" ∈ zi_G := zi_inG (List.mem_append_right _ (List.mem_append_left _ (List.mem_of_getElem? (l := tables_1_1) (i := 61) rfl))) rfl
set_option maxRecDepth 100000 in
theorem zl_282 : Cond.instantiable "RiverDiggers$Times" 7 ∈ zi_G := zi_inG (List.mem_append_right _ (List.mem_append_left _ (List.mem_of_getElem? (l := tables_1_1) (i := 62) rfl))) rfl
set_option maxRecDepth 100000 in
theorem zl_283 : Cond.initialized "RiverDiggers$Times" ∈ zi_G := zi_inG (List.mem_append_right _ (List.mem_append_left _ (List.mem_of_getElem? (l := tables_1_1) (i := 3) rfl))) rfl
set_option maxRecDepth 100000 in
theorem zl_284 : Cond.fieldLink "RiverDiggers" 25 "RiverDiggers" "image0" "LRiverDiggers$Times;" ∈ zi_G := zi_inG (List.mem_append_right _ (List.mem_append_right _ (List.mem_append_left _ (List.mem_of_getElem? (l := tables_1_2) (i := 86) rfl)))) rfl
set_option maxRecDepth 100000 in
theorem zl_285 : Cond.methodLinkNest "RiverDiggers" 9 yX3_init "RiverDiggers" ∈ lw_tbl := List.mem_append_right _ (List.mem_append_left _ (List.mem_of_getElem? (l := tables_1_1) (i := 28) rfl))
set_option maxRecDepth 100000 in
theorem zl_286 : Cond.instanceMethod yX3_init ∈ zi_G := zi_inG (List.mem_append_right _ (List.mem_append_left _ (List.mem_of_getElem? (l := tables_1_1) (i := 29) rfl))) rfl
set_option maxRecDepth 100000 in
theorem zl_287 : Cond.classLink "RiverDiggers" 7 "RiverDiggers$Land" ∈ zi_G := zi_inG (List.mem_append_right _ (List.mem_append_left _ (List.mem_of_getElem? (l := tables_1_1) (i := 26) rfl))) rfl
set_option maxRecDepth 100000 in
theorem zl_288 : Cond.instantiable "RiverDiggers$Land" 5 ∈ zi_G := zi_inG (List.mem_append_right _ (List.mem_append_left _ (List.mem_of_getElem? (l := tables_1_1) (i := 27) rfl))) rfl
set_option maxRecDepth 100000 in
theorem zl_289 : Cond.initialized "RiverDiggers$Land" ∈ zi_G := zi_inG (List.mem_append_right _ (List.mem_append_left _ (List.mem_of_getElem? (l := tables_1_1) (i := 2) rfl))) rfl
set_option maxRecDepth 100000 in
theorem zl_290 : Cond.methodLink "RiverDiggers" 1 Lib.objectInit ∈ zi_G := zi_inG (List.mem_append_right _ (List.mem_append_left _ (List.mem_of_getElem? (l := tables_1_1) (i := 23) rfl))) rfl
set_option maxRecDepth 100000 in
theorem zl_291 : Cond.methodLink "RiverDiggers" 86 yX6_append ∈ zi_G := zi_inG (List.mem_append_right _ (List.mem_append_right _ (List.mem_append_left _ (List.mem_of_getElem? (l := tables_1_2) (i := 131) rfl)))) rfl
set_option maxRecDepth 100000 in
theorem zl_292 : Cond.instanceMethod yX6_append ∈ zi_G := zi_inG (List.mem_append_right _ (List.mem_append_right _ (List.mem_append_left _ (List.mem_of_getElem? (l := tables_1_2) (i := 132) rfl)))) rfl
set_option maxRecDepth 100000 in
theorem zl_293 : Cond.selects "RiverDiggers$Tape" yX6_append yX6_append ∈ zi_G := zi_inG (List.mem_append_right _ (List.mem_append_right _ (List.mem_append_left _ (List.mem_of_getElem? (l := tables_1_2) (i := 133) rfl)))) rfl
set_option maxRecDepth 100000 in
theorem zl_294 : Cond.fieldLink "RiverDiggers" 90 "RiverDiggers$Tape" "length" "I" ∈ zi_G := zi_inG (List.mem_append_right _ (List.mem_append_left _ (List.mem_of_getElem? (l := tables_1_1) (i := 206) rfl))) rfl
set_option maxRecDepth 100000 in
theorem zl_295 : Cond.fieldLink "RiverDiggers" 101 "RiverDiggers" "textFault" "I" ∈ zi_G := zi_inG (List.mem_append_right _ (List.mem_append_right _ (List.mem_append_left _ (List.mem_of_getElem? (l := tables_1_2) (i := 96) rfl)))) rfl
set_option maxRecDepth 100000 in
theorem zl_296 : Cond.fieldLink "RiverDiggers" 98 "RiverDiggers$Tape" "flaw" "I" ∈ zi_G := zi_inG (List.mem_append_right _ (List.mem_append_left _ (List.mem_of_getElem? (l := tables_1_1) (i := 215) rfl))) rfl
set_option maxRecDepth 100000 in
theorem zl_297 : Cond.methodLink "RiverDiggers" 94 yX1_take ∈ zi_G := zi_inG (List.mem_append_right _ (List.mem_append_right _ (List.mem_append_left _ (List.mem_of_getElem? (l := tables_1_2) (i := 143) rfl)))) rfl
set_option maxRecDepth 100000 in
theorem zl_298 : Cond.instanceMethod yX1_take ∈ zi_G := zi_inG (List.mem_append_right _ (List.mem_append_right _ (List.mem_append_left _ (List.mem_of_getElem? (l := tables_1_2) (i := 144) rfl)))) rfl
set_option maxRecDepth 100000 in
theorem zl_299 : Cond.selects "RiverDiggers$Draft" yX1_take yX1_take ∈ zi_G := zi_inG (List.mem_append_right _ (List.mem_append_right _ (List.mem_append_left _ (List.mem_of_getElem? (l := tables_1_2) (i := 145) rfl)))) rfl
set_option maxRecDepth 100000 in
theorem zl_300 : Cond.fieldLink "RiverDiggers" 104 "RiverDiggers$Tape" "place" "I" ∈ zi_G := zi_inG (List.mem_append_right _ (List.mem_append_left _ (List.mem_of_getElem? (l := tables_1_1) (i := 217) rfl))) rfl
set_option maxRecDepth 100000 in
theorem zl_301 : Cond.fieldLink "RiverDiggers" 111 "RiverDiggers" "kept" "I" ∈ zi_G := zi_inG (List.mem_append_right _ (List.mem_append_right _ (List.mem_append_left _ (List.mem_of_getElem? (l := tables_1_2) (i := 95) rfl)))) rfl
set_option maxRecDepth 100000 in
theorem zl_302 : Cond.fieldLink "RiverDiggers" 107 "RiverDiggers$Outlook" "ready" "Z" ∈ zi_G := zi_inG (List.mem_append_right _ (List.mem_append_left _ (List.mem_of_getElem? (l := tables_1_1) (i := 164) rfl))) rfl
set_option maxRecDepth 100000 in
theorem zl_303 : Cond.fieldLink "RiverDiggers" 114 "RiverDiggers$Land" "wide" "I" ∈ zi_G := zi_inG (List.mem_append_right _ (List.mem_append_left _ (List.mem_of_getElem? (l := tables_1_1) (i := 40) rfl))) rfl
set_option maxRecDepth 100000 in
theorem zl_304 : Cond.fieldLink "RiverDiggers" 117 "RiverDiggers$Land" "high" "I" ∈ zi_G := zi_inG (List.mem_append_right _ (List.mem_append_left _ (List.mem_of_getElem? (l := tables_1_1) (i := 43) rfl))) rfl
set_option maxRecDepth 100000 in
theorem zl_305 : Cond.fieldLink "RiverDiggers" 123 "RiverDiggers$Flow" "spring" "I" ∈ zi_G := zi_inG (List.mem_append_right _ (List.mem_append_left _ (List.mem_of_getElem? (l := tables_1_1) (i := 87) rfl))) rfl
set_option maxRecDepth 100000 in
theorem zl_306 : Cond.fieldLink "RiverDiggers" 120 "RiverDiggers$Times" "flow" "LRiverDiggers$Flow;" ∈ zi_G := zi_inG (List.mem_append_right _ (List.mem_append_left _ (List.mem_of_getElem? (l := tables_1_1) (i := 113) rfl))) rfl
set_option maxRecDepth 100000 in
theorem zl_307 : Cond.fieldLink "RiverDiggers" 126 "RiverDiggers$Land" "farms" "I" ∈ zi_G := zi_inG (List.mem_append_right _ (List.mem_append_left _ (List.mem_of_getElem? (l := tables_1_1) (i := 46) rfl))) rfl
set_option maxRecDepth 100000 in
theorem zl_308 : Cond.fieldLink "RiverDiggers" 129 "RiverDiggers$Flow" "law" "I" ∈ zi_G := zi_inG (List.mem_append_right _ (List.mem_append_left _ (List.mem_of_getElem? (l := tables_1_1) (i := 90) rfl))) rfl
set_option maxRecDepth 100000 in
theorem zl_309 : Cond.fieldLink "RiverDiggers" 132 "RiverDiggers$Flow" "silted" "Z" ∈ zi_G := zi_inG (List.mem_append_right _ (List.mem_append_left _ (List.mem_of_getElem? (l := tables_1_1) (i := 93) rfl))) rfl
set_option maxRecDepth 100000 in
theorem zl_310 : Cond.fieldLink "RiverDiggers" 135 "RiverDiggers$Times" "years" "I" ∈ zi_G := zi_inG (List.mem_append_right _ (List.mem_append_left _ (List.mem_of_getElem? (l := tables_1_1) (i := 123) rfl))) rfl
set_option maxRecDepth 100000 in
theorem zl_311 : Cond.methodLink "RiverDiggers" 138 yX3_hasCell ∈ zi_G := zi_inG (List.mem_append_right _ (List.mem_append_right _ (List.mem_append_right _ (List.mem_append_left _ (List.mem_of_getElem? (l := tables_1_3) (i := 63) rfl))))) rfl
set_option maxRecDepth 100000 in
theorem zl_312 : Cond.instanceMethod yX3_hasCell ∈ zi_G := zi_inG (List.mem_append_right _ (List.mem_append_right _ (List.mem_append_right _ (List.mem_append_left _ (List.mem_of_getElem? (l := tables_1_3) (i := 64) rfl))))) rfl
set_option maxRecDepth 100000 in
theorem zl_313 : Cond.selects "RiverDiggers$Land" yX3_hasCell yX3_hasCell ∈ zi_G := zi_inG (List.mem_append_right _ (List.mem_append_right _ (List.mem_append_right _ (List.mem_append_left _ (List.mem_of_getElem? (l := tables_1_3) (i := 65) rfl))))) rfl
set_option maxRecDepth 100000 in
theorem zl_314 : Cond.fieldLink "RiverDiggers" 142 "RiverDiggers$Flow" "heights" "[I" ∈ zi_G := zi_inG (List.mem_append_right _ (List.mem_append_left _ (List.mem_of_getElem? (l := tables_1_1) (i := 76) rfl))) rfl
set_option maxRecDepth 100000 in
theorem zl_315 : Cond.methodLink "RiverDiggers" 145 yX3_ownerOf ∈ zi_G := zi_inG (List.mem_append_right _ (List.mem_append_right _ (List.mem_append_right _ (List.mem_append_left _ (List.mem_of_getElem? (l := tables_1_3) (i := 67) rfl))))) rfl
set_option maxRecDepth 100000 in
theorem zl_316 : Cond.instanceMethod yX3_ownerOf ∈ zi_G := zi_inG (List.mem_append_right _ (List.mem_append_right _ (List.mem_append_right _ (List.mem_append_left _ (List.mem_of_getElem? (l := tables_1_3) (i := 68) rfl))))) rfl
set_option maxRecDepth 100000 in
theorem zl_317 : Cond.selects "RiverDiggers$Land" yX3_ownerOf yX3_ownerOf ∈ zi_G := zi_inG (List.mem_append_right _ (List.mem_append_right _ (List.mem_append_right _ (List.mem_append_left _ (List.mem_of_getElem? (l := tables_1_3) (i := 69) rfl))))) rfl
set_option maxRecDepth 100000 in
theorem zl_318 : Cond.methodLink "RiverDiggers" 149 yX3_hasFarm ∈ zi_G := zi_inG (List.mem_append_right _ (List.mem_append_right _ (List.mem_append_right _ (List.mem_append_left _ (List.mem_of_getElem? (l := tables_1_3) (i := 76) rfl))))) rfl
set_option maxRecDepth 100000 in
theorem zl_319 : Cond.fieldLink "RiverDiggers" 152 "RiverDiggers$Times" "worths" "[I" ∈ zi_G := zi_inG (List.mem_append_right _ (List.mem_append_left _ (List.mem_of_getElem? (l := tables_1_1) (i := 116) rfl))) rfl
set_option maxRecDepth 100000 in
theorem zl_320 : Cond.fieldLink "RiverDiggers" 155 "RiverDiggers$Land" "ground" "[I" ∈ zi_G := zi_inG (List.mem_append_right _ (List.mem_append_left _ (List.mem_of_getElem? (l := tables_1_1) (i := 35) rfl))) rfl
set_option maxRecDepth 100000 in
theorem zl_321 : Cond.methodLink "RiverDiggers" 161 yX7_gain ∈ zi_G := zi_inG (List.mem_append_right _ (List.mem_append_right _ (List.mem_append_right _ (List.mem_append_left _ (List.mem_of_getElem? (l := tables_1_3) (i := 80) rfl))))) rfl
set_option maxRecDepth 100000 in
theorem zl_322 : Cond.fieldLink "RiverDiggers" 158 "RiverDiggers$Flow" "bits" "I" ∈ zi_G := zi_inG (List.mem_append_right _ (List.mem_append_left _ (List.mem_of_getElem? (l := tables_1_1) (i := 85) rfl))) rfl
set_option maxRecDepth 100000 in
theorem zl_323 : Cond.methodLink "RiverDiggers" 165 yX2_cuttable ∈ zi_G := zi_inG (List.mem_append_right _ (List.mem_append_right _ (List.mem_append_right _ (List.mem_append_left _ (List.mem_of_getElem? (l := tables_1_3) (i := 86) rfl))))) rfl
set_option maxRecDepth 100000 in
theorem zl_324 : Cond.fieldLink "RiverDiggers" 168 "RiverDiggers$Flow" "length" "I" ∈ zi_G := zi_inG (List.mem_append_right _ (List.mem_append_left _ (List.mem_of_getElem? (l := tables_1_1) (i := 81) rfl))) rfl
set_option maxRecDepth 100000 in
theorem zl_325 : Cond.fieldLink "RiverDiggers" 169 "RiverDiggers$Flow" "way" "[I" ∈ zi_G := zi_inG (List.mem_append_right _ (List.mem_append_left _ (List.mem_of_getElem? (l := tables_1_1) (i := 79) rfl))) rfl
set_option maxRecDepth 100000 in
theorem zl_326 : Cond.methodLink "RiverDiggers" 172 yX8_retrace ∈ zi_G := zi_inG (List.mem_append_right _ (List.mem_append_right _ (List.mem_append_right _ (List.mem_append_left _ (List.mem_of_getElem? (l := tables_1_3) (i := 103) rfl))))) rfl
set_option maxRecDepth 100000 in
theorem zl_327 : Cond.instanceMethod yX8_retrace ∈ zi_G := zi_inG (List.mem_append_right _ (List.mem_append_right _ (List.mem_append_right _ (List.mem_append_left _ (List.mem_of_getElem? (l := tables_1_3) (i := 105) rfl))))) rfl
set_option maxRecDepth 100000 in
theorem zl_328 : Cond.selects "RiverDiggers" yX8_retrace yX8_retrace ∈ zi_G := zi_inG (List.mem_append_left _ (List.mem_of_getElem? (i := 12) (by decide +kernel))) rfl
set_option maxRecDepth 100000 in
theorem zl_329 : Cond.methodLink "RiverDiggers" 175 yX2_trace ∈ zi_G := zi_inG (List.mem_append_right _ (List.mem_append_right _ (List.mem_append_right _ (List.mem_append_left _ (List.mem_of_getElem? (l := tables_1_3) (i := 107) rfl))))) rfl
set_option maxRecDepth 100000 in
theorem zl_330 : Cond.methodLink "RiverDiggers" 178 yX8_refusal ∈ zi_G := zi_inG (List.mem_append_right _ (List.mem_append_right _ (List.mem_append_right _ (List.mem_append_left _ (List.mem_of_getElem? (l := tables_1_3) (i := 128) rfl))))) rfl
set_option maxRecDepth 100000 in
theorem zl_331 : Cond.static yX8_refusal ∈ zi_G := zi_inG (List.mem_append_right _ (List.mem_append_right _ (List.mem_append_right _ (List.mem_append_left _ (List.mem_of_getElem? (l := tables_1_3) (i := 129) rfl))))) rfl
set_option maxRecDepth 100000 in
theorem zl_332 : Cond.methodLink "RiverDiggers" 182 yX2_pass ∈ zi_G := zi_inG (List.mem_append_right _ (List.mem_append_right _ (List.mem_append_right _ (List.mem_append_left _ (List.mem_of_getElem? (l := tables_1_3) (i := 142) rfl))))) rfl
set_option maxRecDepth 100000 in
theorem zl_333 : Cond.methodLink "RiverDiggers" 186 yX8_isNumber ∈ zi_G := zi_inG (List.mem_append_right _ (List.mem_append_right _ (List.mem_append_right _ (List.mem_append_left _ (List.mem_of_getElem? (l := tables_1_3) (i := 131) rfl))))) rfl
set_option maxRecDepth 100000 in
theorem zl_334 : Cond.static yX8_isNumber ∈ zi_G := zi_inG (List.mem_append_right _ (List.mem_append_right _ (List.mem_append_right _ (List.mem_append_left _ (List.mem_of_getElem? (l := tables_1_3) (i := 132) rfl))))) rfl
set_option maxRecDepth 100000 in
theorem zl_335 : Cond.methodLink "RiverDiggers" 189 yX2_refused ∈ zi_G := zi_inG (List.mem_append_right _ (List.mem_append_right _ (List.mem_append_right _ (List.mem_append_left _ (List.mem_of_getElem? (l := tables_1_3) (i := 134) rfl))))) rfl
set_option maxRecDepth 100000 in
theorem zl_336 : Cond.instanceMethod yX2_refused ∈ zi_G := zi_inG (List.mem_append_right _ (List.mem_append_right _ (List.mem_append_right _ (List.mem_append_left _ (List.mem_of_getElem? (l := tables_1_3) (i := 135) rfl))))) rfl
set_option maxRecDepth 100000 in
theorem zl_337 : Cond.selects "RiverDiggers$Flow" yX2_refused yX2_refused ∈ zi_G := zi_inG (List.mem_append_right _ (List.mem_append_right _ (List.mem_append_right _ (List.mem_append_left _ (List.mem_of_getElem? (l := tables_1_3) (i := 136) rfl))))) rfl
set_option maxRecDepth 100000 in
theorem zl_338 : Cond.methodLink "RiverDiggers" 192 yX2_copy ∈ zi_G := zi_inG (List.mem_append_right _ (List.mem_append_right _ (List.mem_append_right _ (List.mem_append_left _ (List.mem_of_getElem? (l := tables_1_3) (i := 155) rfl))))) rfl
set_option maxRecDepth 100000 in
theorem zl_339 : Cond.fieldLink "RiverDiggers" 196 "RiverDiggers$Times" "tolds" "I" ∈ zi_G := zi_inG (List.mem_append_right _ (List.mem_append_left _ (List.mem_of_getElem? (l := tables_1_1) (i := 127) rfl))) rfl
set_option maxRecDepth 100000 in
theorem zl_340 : Cond.fieldLink "RiverDiggers" 199 "RiverDiggers$Times" "told" "[I" ∈ zi_G := zi_inG (List.mem_append_right _ (List.mem_append_left _ (List.mem_of_getElem? (l := tables_1_1) (i := 119) rfl))) rfl
set_option maxRecDepth 100000 in
theorem zl_341 : Cond.methodLink "RiverDiggers" 202 yX0_fewest ∈ zi_G := zi_inG (List.mem_append_right _ (List.mem_append_right _ (List.mem_append_right _ (List.mem_append_left _ (List.mem_of_getElem? (l := tables_1_3) (i := 176) rfl))))) rfl
set_option maxRecDepth 100000 in
theorem zl_342 : Cond.instanceMethod yX0_fewest ∈ zi_G := zi_inG (List.mem_append_right _ (List.mem_append_right _ (List.mem_append_right _ (List.mem_append_left _ (List.mem_of_getElem? (l := tables_1_3) (i := 177) rfl))))) rfl
set_option maxRecDepth 100000 in
theorem zl_343 : Cond.selects "RiverDiggers$Digger" yX0_fewest yX0_fewest ∈ zi_G := zi_inG (List.mem_append_right _ (List.mem_append_right _ (List.mem_append_right _ (List.mem_append_left _ (List.mem_of_getElem? (l := tables_1_3) (i := 178) rfl))))) rfl
set_option maxRecDepth 100000 in
theorem zl_344 : Cond.methodLink "RiverDiggers" 205 yX0_cutOf ∈ zi_G := zi_inG (List.mem_append_right _ (List.mem_append_right _ (List.mem_append_right _ (List.mem_append_left _ (List.mem_of_getElem? (l := tables_1_3) (i := 191) rfl))))) rfl
set_option maxRecDepth 100000 in
theorem zl_345 : Cond.instanceMethod yX0_cutOf ∈ zi_G := zi_inG (List.mem_append_right _ (List.mem_append_right _ (List.mem_append_right _ (List.mem_append_left _ (List.mem_of_getElem? (l := tables_1_3) (i := 192) rfl))))) rfl
set_option maxRecDepth 100000 in
theorem zl_346 : Cond.selects "RiverDiggers$Digger" yX0_cutOf yX0_cutOf ∈ zi_G := zi_inG (List.mem_append_right _ (List.mem_append_right _ (List.mem_append_right _ (List.mem_append_left _ (List.mem_of_getElem? (l := tables_1_3) (i := 193) rfl))))) rfl
set_option maxRecDepth 100000 in
theorem zl_347 : Cond.methodLink "RiverDiggers" 208 yX8_lookAhead ∈ zi_G := zi_inG (List.mem_append_right _ (List.mem_append_right _ (List.mem_append_right _ (List.mem_append_left _ (List.mem_of_getElem? (l := tables_1_3) (i := 199) rfl))))) rfl
set_option maxRecDepth 100000 in
theorem zl_348 : Cond.instanceMethod yX8_lookAhead ∈ zi_G := zi_inG (List.mem_append_right _ (List.mem_append_right _ (List.mem_append_right _ (List.mem_append_left _ (List.mem_of_getElem? (l := tables_1_3) (i := 201) rfl))))) rfl
set_option maxRecDepth 100000 in
theorem zl_349 : Cond.selects "RiverDiggers" yX8_lookAhead yX8_lookAhead ∈ zi_G := zi_inG (List.mem_append_left _ (List.mem_of_getElem? (i := 15) (by decide +kernel))) rfl
set_option maxRecDepth 100000 in
theorem zl_350 : Cond.fieldLink "RiverDiggers" 211 "RiverDiggers$Outlook" "size" "I" ∈ zi_G := zi_inG (List.mem_append_right _ (List.mem_append_left _ (List.mem_of_getElem? (l := tables_1_1) (i := 162) rfl))) rfl
set_option maxRecDepth 100000 in
theorem zl_351 : Cond.methodLink "RiverDiggers" 227 yX8_has ∈ zi_G := zi_inG (List.mem_append_right _ (List.mem_append_right _ (List.mem_append_right _ (List.mem_append_left _ (List.mem_of_getElem? (l := tables_1_3) (i := 221) rfl))))) rfl
set_option maxRecDepth 100000 in
theorem zl_352 : Cond.fieldLink "RiverDiggers" 224 "RiverDiggers$Outlook" "beds" "[I" ∈ zi_G := zi_inG (List.mem_append_right _ (List.mem_append_left _ (List.mem_of_getElem? (l := tables_1_1) (i := 160) rfl))) rfl
set_option maxRecDepth 100000 in
theorem zl_353 : Cond.methodLink "RiverDiggers" 219 yJ6_bitCount_0f7a4 ∈ zi_G := zi_inG (List.mem_append_right _ (List.mem_append_right _ (List.mem_append_right _ (List.mem_append_left _ (List.mem_of_getElem? (l := tables_1_3) (i := 220) rfl))))) rfl
set_option maxRecDepth 100000 in
theorem zl_354 : Cond.methodLink "RiverDiggers" 216 yX8_cutters ∈ zi_G := zi_inG (List.mem_append_right _ (List.mem_append_right _ (List.mem_append_right _ (List.mem_append_left _ (List.mem_of_getElem? (l := tables_1_3) (i := 216) rfl))))) rfl
set_option maxRecDepth 100000 in
theorem zl_355 : Cond.static yX8_cutters ∈ zi_G := zi_inG (List.mem_append_right _ (List.mem_append_right _ (List.mem_append_right _ (List.mem_append_left _ (List.mem_of_getElem? (l := tables_1_3) (i := 217) rfl))))) rfl
set_option maxRecDepth 100000 in
theorem zl_356 : Cond.fieldLink "RiverDiggers" 214 "RiverDiggers$Outlook" "years" "[I" ∈ zi_G := zi_inG (List.mem_append_right _ (List.mem_append_left _ (List.mem_of_getElem? (l := tables_1_1) (i := 158) rfl))) rfl
set_option maxRecDepth 100000 in
theorem zl_357 : Cond.methodLink "RiverDiggers" 231 yX4_build ∈ zi_G := zi_inG (List.mem_append_right _ (List.mem_append_right _ (List.mem_append_right _ (List.mem_append_left _ (List.mem_of_getElem? (l := tables_1_3) (i := 203) rfl))))) rfl
set_option maxRecDepth 100000 in
theorem zl_358 : Cond.instanceMethod yX4_build ∈ zi_G := zi_inG (List.mem_append_right _ (List.mem_append_right _ (List.mem_append_right _ (List.mem_append_left _ (List.mem_of_getElem? (l := tables_1_3) (i := 204) rfl))))) rfl
set_option maxRecDepth 100000 in
theorem zl_359 : Cond.selects "RiverDiggers$Outlook" yX4_build yX4_build ∈ zi_G := zi_inG (List.mem_append_right _ (List.mem_append_right _ (List.mem_append_right _ (List.mem_append_left _ (List.mem_of_getElem? (l := tables_1_3) (i := 205) rfl))))) rfl
set_option maxRecDepth 100000 in
theorem zl_360 : Cond.methodLink "RiverDiggers" 235 yX8_option ∈ zi_G := zi_inG (List.mem_append_right _ (List.mem_append_right _ (List.mem_append_right _ (List.mem_append_left _ (List.mem_of_getElem? (l := tables_1_3) (i := 219) rfl))))) rfl
set_option maxRecDepth 100000 in
theorem zl_361 : Cond.methodLinkNest "RiverDiggers" 238 yX4_chosen "RiverDiggers" ∈ lw_tbl := List.mem_append_right _ (List.mem_append_right _ (List.mem_append_right _ (List.mem_append_left _ (List.mem_of_getElem? (l := tables_1_3) (i := 226) rfl))))
set_option maxRecDepth 100000 in
theorem zl_362 : Cond.methodLink "RiverDiggers" 242 yX4_breakers ∈ zi_G := zi_inG (List.mem_append_right _ (List.mem_append_right _ (List.mem_append_right _ (List.mem_append_left _ (List.mem_of_getElem? (l := tables_1_3) (i := 236) rfl))))) rfl
set_option maxRecDepth 100000 in
theorem zl_363 : Cond.instanceMethod yX4_breakers ∈ zi_G := zi_inG (List.mem_append_right _ (List.mem_append_right _ (List.mem_append_right _ (List.mem_append_left _ (List.mem_of_getElem? (l := tables_1_3) (i := 237) rfl))))) rfl
set_option maxRecDepth 100000 in
theorem zl_364 : Cond.selects "RiverDiggers$Outlook" yX4_breakers yX4_breakers ∈ zi_G := zi_inG (List.mem_append_right _ (List.mem_append_right _ (List.mem_append_right _ (List.mem_append_left _ (List.mem_of_getElem? (l := tables_1_3) (i := 238) rfl))))) rfl
set_option maxRecDepth 100000 in
theorem zl_365 : Cond.methodLink "RiverDiggers" 246 yX4_indexOf ∈ zi_G := zi_inG (List.mem_append_right _ (List.mem_append_right _ (List.mem_append_right _ (List.mem_append_right _ (List.mem_append_left _ (List.mem_of_getElem? (l := tables_1_4) (i := 9) rfl)))))) rfl
set_option maxRecDepth 100000 in
theorem zl_366 : Cond.instanceMethod yX4_indexOf ∈ zi_G := zi_inG (List.mem_append_right _ (List.mem_append_right _ (List.mem_append_right _ (List.mem_append_right _ (List.mem_append_left _ (List.mem_of_getElem? (l := tables_1_4) (i := 10) rfl)))))) rfl
set_option maxRecDepth 100000 in
theorem zl_367 : Cond.selects "RiverDiggers$Outlook" yX4_indexOf yX4_indexOf ∈ zi_G := zi_inG (List.mem_append_right _ (List.mem_append_right _ (List.mem_append_right _ (List.mem_append_right _ (List.mem_append_left _ (List.mem_of_getElem? (l := tables_1_4) (i := 11) rfl)))))) rfl
set_option maxRecDepth 100000 in
theorem zl_368 : Cond.methodLink "RiverDiggers" 249 yX8_note ∈ zi_G := zi_inG (List.mem_append_right _ (List.mem_append_right _ (List.mem_append_right _ (List.mem_append_right _ (List.mem_append_left _ (List.mem_of_getElem? (l := tables_1_4) (i := 21) rfl)))))) rfl
set_option maxRecDepth 100000 in
theorem zl_369 : Cond.instanceMethod yX8_note ∈ zi_G := zi_inG (List.mem_append_right _ (List.mem_append_right _ (List.mem_append_right _ (List.mem_append_right _ (List.mem_append_left _ (List.mem_of_getElem? (l := tables_1_4) (i := 23) rfl)))))) rfl
set_option maxRecDepth 100000 in
theorem zl_370 : Cond.selects "RiverDiggers" yX8_note yX8_note ∈ zi_G := zi_inG (List.mem_append_left _ (List.mem_of_getElem? (i := 19) (by decide +kernel))) rfl
set_option maxRecDepth 100000 in
theorem zl_371 : Cond.methodLink "RiverDiggers" 252 yX8_firstAlike ∈ zi_G := zi_inG (List.mem_append_right _ (List.mem_append_right _ (List.mem_append_right _ (List.mem_append_right _ (List.mem_append_left _ (List.mem_of_getElem? (l := tables_1_4) (i := 26) rfl)))))) rfl
set_option maxRecDepth 100000 in
theorem zl_372 : Cond.instanceMethod yX8_firstAlike ∈ zi_G := zi_inG (List.mem_append_right _ (List.mem_append_right _ (List.mem_append_right _ (List.mem_append_right _ (List.mem_append_left _ (List.mem_of_getElem? (l := tables_1_4) (i := 28) rfl)))))) rfl
set_option maxRecDepth 100000 in
theorem zl_373 : Cond.selects "RiverDiggers" yX8_firstAlike yX8_firstAlike ∈ zi_G := zi_inG (List.mem_append_left _ (List.mem_of_getElem? (i := 20) (by decide +kernel))) rfl
set_option maxRecDepth 100000 in
theorem zl_374 : Cond.methodLink "RiverDiggers" 255 arraycopyName ∈ zi_G := zi_inG (List.mem_append_right _ (List.mem_append_right _ (List.mem_append_right _ (List.mem_append_right _ (List.mem_append_left _ (List.mem_of_getElem? (l := tables_1_4) (i := 25) rfl)))))) rfl
set_option maxRecDepth 100000 in
theorem zl_375 : Cond.methodLink "RiverDiggers" 261 yX8_isAlike ∈ zi_G := zi_inG (List.mem_append_right _ (List.mem_append_right _ (List.mem_append_right _ (List.mem_append_right _ (List.mem_append_left _ (List.mem_of_getElem? (l := tables_1_4) (i := 30) rfl)))))) rfl
set_option maxRecDepth 100000 in
theorem zl_376 : Cond.instanceMethod yX8_isAlike ∈ zi_G := zi_inG (List.mem_append_right _ (List.mem_append_right _ (List.mem_append_right _ (List.mem_append_right _ (List.mem_append_left _ (List.mem_of_getElem? (l := tables_1_4) (i := 32) rfl)))))) rfl
set_option maxRecDepth 100000 in
theorem zl_377 : Cond.selects "RiverDiggers" yX8_isAlike yX8_isAlike ∈ zi_G := zi_inG (List.mem_append_left _ (List.mem_of_getElem? (i := 21) (by decide +kernel))) rfl
set_option maxRecDepth 100000 in
theorem zl_378 : Cond.constantLong "RiverDiggers" 264 (-1) ∈ zi_G := zi_inG (List.mem_append_right _ (List.mem_append_right _ (List.mem_append_right _ (List.mem_append_right _ (List.mem_append_left _ (List.mem_of_getElem? (l := tables_1_4) (i := 38) rfl)))))) rfl
set_option maxRecDepth 100000 in
theorem zl_379 : Cond.methodLink "RiverDiggers" 266 yX8_commonDivisor ∈ zi_G := zi_inG (List.mem_append_right _ (List.mem_append_right _ (List.mem_append_right _ (List.mem_append_right _ (List.mem_append_left _ (List.mem_of_getElem? (l := tables_1_4) (i := 39) rfl)))))) rfl
set_option maxRecDepth 100000 in
theorem zl_380 : Cond.static yX8_commonDivisor ∈ zi_G := zi_inG (List.mem_append_right _ (List.mem_append_right _ (List.mem_append_right _ (List.mem_append_right _ (List.mem_append_left _ (List.mem_of_getElem? (l := tables_1_4) (i := 40) rfl)))))) rfl
set_option maxRecDepth 100000 in
theorem zl_381 : Cond.fieldLink "RiverDiggers" 269 "RiverDiggers$Times" "seens" "I" ∈ zi_G := zi_inG (List.mem_append_right _ (List.mem_append_left _ (List.mem_of_getElem? (l := tables_1_1) (i := 130) rfl))) rfl
set_option maxRecDepth 100000 in
theorem zl_382 : Cond.fieldLink "RiverDiggers" 272 "RiverDiggers$Times" "seen" "[I" ∈ zi_G := zi_inG (List.mem_append_right _ (List.mem_append_left _ (List.mem_of_getElem? (l := tables_1_1) (i := 121) rfl))) rfl
set_option maxRecDepth 100000 in
theorem zl_383 : Cond.methodLink "RiverDiggers" 275 yX7_agrees ∈ zi_G := zi_inG (List.mem_append_right _ (List.mem_append_right _ (List.mem_append_right _ (List.mem_append_right _ (List.mem_append_left _ (List.mem_of_getElem? (l := tables_1_4) (i := 54) rfl)))))) rfl
set_option maxRecDepth 100000 in
theorem zl_384 : Cond.instanceMethod yX7_agrees ∈ zi_G := zi_inG (List.mem_append_right _ (List.mem_append_right _ (List.mem_append_right _ (List.mem_append_right _ (List.mem_append_left _ (List.mem_of_getElem? (l := tables_1_4) (i := 55) rfl)))))) rfl
set_option maxRecDepth 100000 in
theorem zl_385 : Cond.selects "RiverDiggers$Times" yX7_agrees yX7_agrees ∈ zi_G := zi_inG (List.mem_append_right _ (List.mem_append_right _ (List.mem_append_right _ (List.mem_append_right _ (List.mem_append_left _ (List.mem_of_getElem? (l := tables_1_4) (i := 56) rfl)))))) rfl
set_option maxRecDepth 100000 in
theorem zl_386 : Cond.methodLink "RiverDiggers" 282 yX7_copy ∈ zi_G := zi_inG (List.mem_append_right _ (List.mem_append_right _ (List.mem_append_right _ (List.mem_append_right _ (List.mem_append_left _ (List.mem_of_getElem? (l := tables_1_4) (i := 67) rfl)))))) rfl
set_option maxRecDepth 100000 in
theorem zl_387 : Cond.instanceMethod yX7_copy ∈ zi_G := zi_inG (List.mem_append_right _ (List.mem_append_right _ (List.mem_append_right _ (List.mem_append_right _ (List.mem_append_left _ (List.mem_of_getElem? (l := tables_1_4) (i := 68) rfl)))))) rfl
set_option maxRecDepth 100000 in
theorem zl_388 : Cond.selects "RiverDiggers$Times" yX7_copy yX7_copy ∈ zi_G := zi_inG (List.mem_append_right _ (List.mem_append_right _ (List.mem_append_right _ (List.mem_append_right _ (List.mem_append_left _ (List.mem_of_getElem? (l := tables_1_4) (i := 69) rfl)))))) rfl
set_option maxRecDepth 100000 in
theorem zl_389 : Cond.methodLink "RiverDiggers" 278 yX8_imageOf ∈ zi_G := zi_inG (List.mem_append_right _ (List.mem_append_right _ (List.mem_append_right _ (List.mem_append_right _ (List.mem_append_left _ (List.mem_of_getElem? (l := tables_1_4) (i := 63) rfl)))))) rfl
set_option maxRecDepth 100000 in
theorem zl_390 : Cond.instanceMethod yX8_imageOf ∈ zi_G := zi_inG (List.mem_append_right _ (List.mem_append_right _ (List.mem_append_right _ (List.mem_append_right _ (List.mem_append_left _ (List.mem_of_getElem? (l := tables_1_4) (i := 65) rfl)))))) rfl
set_option maxRecDepth 100000 in
theorem zl_391 : Cond.selects "RiverDiggers" yX8_imageOf yX8_imageOf ∈ zi_G := zi_inG (List.mem_append_left _ (List.mem_of_getElem? (i := 22) (by decide +kernel))) rfl
set_option maxRecDepth 100000 in
theorem zl_392 : Cond.methodLink "RiverDiggers" 285 yX5_hasSheet ∈ zi_G := zi_inG (List.mem_append_right _ (List.mem_append_right _ (List.mem_append_right _ (List.mem_append_right _ (List.mem_append_left _ (List.mem_of_getElem? (l := tables_1_4) (i := 81) rfl)))))) rfl
set_option maxRecDepth 100000 in
theorem zl_393 : Cond.instanceMethod yX5_hasSheet ∈ zi_G := zi_inG (List.mem_append_right _ (List.mem_append_right _ (List.mem_append_right _ (List.mem_append_right _ (List.mem_append_left _ (List.mem_of_getElem? (l := tables_1_4) (i := 82) rfl)))))) rfl
set_option maxRecDepth 100000 in
theorem zl_394 : Cond.selects "RiverDiggers$Sheets" yX5_hasSheet yX5_hasSheet ∈ zi_G := zi_inG (List.mem_append_right _ (List.mem_append_right _ (List.mem_append_right _ (List.mem_append_right _ (List.mem_append_left _ (List.mem_of_getElem? (l := tables_1_4) (i := 83) rfl)))))) rfl
set_option maxRecDepth 100000 in
theorem zl_395 : Cond.methodLink "RiverDiggers" 288 yX5_hasLane ∈ zi_G := zi_inG (List.mem_append_right _ (List.mem_append_right _ (List.mem_append_right _ (List.mem_append_right _ (List.mem_append_left _ (List.mem_of_getElem? (l := tables_1_4) (i := 85) rfl)))))) rfl
set_option maxRecDepth 100000 in
theorem zl_396 : Cond.instanceMethod yX5_hasLane ∈ zi_G := zi_inG (List.mem_append_right _ (List.mem_append_right _ (List.mem_append_right _ (List.mem_append_right _ (List.mem_append_left _ (List.mem_of_getElem? (l := tables_1_4) (i := 86) rfl)))))) rfl
set_option maxRecDepth 100000 in
theorem zl_397 : Cond.selects "RiverDiggers$Sheets" yX5_hasLane yX5_hasLane ∈ zi_G := zi_inG (List.mem_append_right _ (List.mem_append_right _ (List.mem_append_right _ (List.mem_append_right _ (List.mem_append_left _ (List.mem_of_getElem? (l := tables_1_4) (i := 87) rfl)))))) rfl
set_option maxRecDepth 100000 in
theorem zl_398 : Cond.methodLink "RiverDiggers" 291 yX5_renew ∈ zi_G := zi_inG (List.mem_append_right _ (List.mem_append_right _ (List.mem_append_right _ (List.mem_append_right _ (List.mem_append_left _ (List.mem_of_getElem? (l := tables_1_4) (i := 89) rfl)))))) rfl
set_option maxRecDepth 100000 in
theorem zl_399 : Cond.instanceMethod yX5_renew ∈ zi_G := zi_inG (List.mem_append_right _ (List.mem_append_right _ (List.mem_append_right _ (List.mem_append_right _ (List.mem_append_left _ (List.mem_of_getElem? (l := tables_1_4) (i := 90) rfl)))))) rfl
set_option maxRecDepth 100000 in
theorem zl_400 : Cond.selects "RiverDiggers$Sheets" yX5_renew yX5_renew ∈ zi_G := zi_inG (List.mem_append_right _ (List.mem_append_right _ (List.mem_append_right _ (List.mem_append_right _ (List.mem_append_left _ (List.mem_of_getElem? (l := tables_1_4) (i := 91) rfl)))))) rfl
set_option maxRecDepth 100000 in
theorem zl_401 : Cond.methodLink "RiverDiggers" 295 yX5_reachFault ∈ zi_G := zi_inG (List.mem_append_right _ (List.mem_append_right _ (List.mem_append_right _ (List.mem_append_right _ (List.mem_append_left _ (List.mem_of_getElem? (l := tables_1_4) (i := 97) rfl)))))) rfl
set_option maxRecDepth 100000 in
theorem zl_402 : Cond.methodLink "RiverDiggers" 298 yX5_put ∈ zi_G := zi_inG (List.mem_append_right _ (List.mem_append_right _ (List.mem_append_right _ (List.mem_append_right _ (List.mem_append_left _ (List.mem_of_getElem? (l := tables_1_4) (i := 101) rfl)))))) rfl
set_option maxRecDepth 100000 in
theorem zl_403 : Cond.instanceMethod yX5_put ∈ zi_G := zi_inG (List.mem_append_right _ (List.mem_append_right _ (List.mem_append_right _ (List.mem_append_right _ (List.mem_append_left _ (List.mem_of_getElem? (l := tables_1_4) (i := 102) rfl)))))) rfl
set_option maxRecDepth 100000 in
theorem zl_404 : Cond.selects "RiverDiggers$Sheets" yX5_put yX5_put ∈ zi_G := zi_inG (List.mem_append_right _ (List.mem_append_right _ (List.mem_append_right _ (List.mem_append_right _ (List.mem_append_left _ (List.mem_of_getElem? (l := tables_1_4) (i := 103) rfl)))))) rfl
set_option maxRecDepth 100000 in
theorem zl_405 : Cond.methodLink "RiverDiggers" 301 yX5_takeFault ∈ zi_G := zi_inG (List.mem_append_right _ (List.mem_append_right _ (List.mem_append_right _ (List.mem_append_right _ (List.mem_append_left _ (List.mem_of_getElem? (l := tables_1_4) (i := 109) rfl)))))) rfl
set_option maxRecDepth 100000 in
theorem zl_406 : Cond.instanceMethod yX5_takeFault ∈ zi_G := zi_inG (List.mem_append_right _ (List.mem_append_right _ (List.mem_append_right _ (List.mem_append_right _ (List.mem_append_left _ (List.mem_of_getElem? (l := tables_1_4) (i := 110) rfl)))))) rfl
set_option maxRecDepth 100000 in
theorem zl_407 : Cond.selects "RiverDiggers$Sheets" yX5_takeFault yX5_takeFault ∈ zi_G := zi_inG (List.mem_append_right _ (List.mem_append_right _ (List.mem_append_right _ (List.mem_append_right _ (List.mem_append_left _ (List.mem_of_getElem? (l := tables_1_4) (i := 111) rfl)))))) rfl
set_option maxRecDepth 100000 in
theorem zl_408 : Cond.methodLink "RiverDiggers" 305 yX5_valueAt ∈ zi_G := zi_inG (List.mem_append_right _ (List.mem_append_right _ (List.mem_append_right _ (List.mem_append_right _ (List.mem_append_left _ (List.mem_of_getElem? (l := tables_1_4) (i := 114) rfl)))))) rfl
set_option maxRecDepth 100000 in
theorem zl_409 : Cond.instanceMethod yX5_valueAt ∈ zi_G := zi_inG (List.mem_append_right _ (List.mem_append_right _ (List.mem_append_right _ (List.mem_append_right _ (List.mem_append_left _ (List.mem_of_getElem? (l := tables_1_4) (i := 115) rfl)))))) rfl
set_option maxRecDepth 100000 in
theorem zl_410 : Cond.selects "RiverDiggers$Sheets" yX5_valueAt yX5_valueAt ∈ zi_G := zi_inG (List.mem_append_right _ (List.mem_append_right _ (List.mem_append_right _ (List.mem_append_right _ (List.mem_append_left _ (List.mem_of_getElem? (l := tables_1_4) (i := 116) rfl)))))) rfl
set_option maxRecDepth 100000 in
theorem zl_411 : Cond.fieldLink "RiverDiggers" 308 "RiverDiggers" "readFault" "I" ∈ zi_G := zi_inG (List.mem_append_right _ (List.mem_append_right _ (List.mem_append_left _ (List.mem_of_getElem? (l := tables_1_2) (i := 97) rfl)))) rfl
set_option maxRecDepth 100000 in
theorem zl_412 : Cond.fieldLink "RiverDiggers" 311 "RiverDiggers$Sheets" "sizes" "[I" ∈ zi_G := zi_inG (List.mem_append_right _ (List.mem_append_right _ (List.mem_append_left _ (List.mem_of_getElem? (l := tables_1_2) (i := 44) rfl)))) rfl
set_option maxRecDepth 100000 in
theorem zl_413 : Cond.methodLink "RiverDiggers" 314 yX2_allParts ∈ zi_G := zi_inG (List.mem_append_right _ (List.mem_append_right _ (List.mem_append_right _ (List.mem_append_right _ (List.mem_append_left _ (List.mem_of_getElem? (l := tables_1_4) (i := 126) rfl)))))) rfl
set_option maxRecDepth 100000 in
theorem zl_414 : Cond.instanceMethod yX2_allParts ∈ zi_G := zi_inG (List.mem_append_right _ (List.mem_append_right _ (List.mem_append_right _ (List.mem_append_right _ (List.mem_append_left _ (List.mem_of_getElem? (l := tables_1_4) (i := 127) rfl)))))) rfl
set_option maxRecDepth 100000 in
theorem zl_415 : Cond.selects "RiverDiggers$Flow" yX2_allParts yX2_allParts ∈ zi_G := zi_inG (List.mem_append_right _ (List.mem_append_right _ (List.mem_append_right _ (List.mem_append_right _ (List.mem_append_left _ (List.mem_of_getElem? (l := tables_1_4) (i := 128) rfl)))))) rfl
set_option maxRecDepth 100000 in
theorem zl_416 : Cond.methodLink "RiverDiggers" 318 yX2_possibleYears ∈ zi_G := zi_inG (List.mem_append_right _ (List.mem_append_right _ (List.mem_append_right _ (List.mem_append_right _ (List.mem_append_left _ (List.mem_of_getElem? (l := tables_1_4) (i := 130) rfl)))))) rfl
set_option maxRecDepth 100000 in
theorem zl_417 : Cond.instanceMethod yX2_possibleYears ∈ zi_G := zi_inG (List.mem_append_right _ (List.mem_append_right _ (List.mem_append_right _ (List.mem_append_right _ (List.mem_append_left _ (List.mem_of_getElem? (l := tables_1_4) (i := 131) rfl)))))) rfl
set_option maxRecDepth 100000 in
theorem zl_418 : Cond.selects "RiverDiggers$Flow" yX2_possibleYears yX2_possibleYears ∈ zi_G := zi_inG (List.mem_append_right _ (List.mem_append_right _ (List.mem_append_right _ (List.mem_append_right _ (List.mem_append_left _ (List.mem_of_getElem? (l := tables_1_4) (i := 132) rfl)))))) rfl
set_option maxRecDepth 100000 in
theorem zl_419 : Cond.fieldLink "RiverDiggersModel" 74 "RiverDiggersModel" "readHigh" "[I" ∈ zi_G := zi_inG (List.mem_append_right _ (List.mem_append_right _ (List.mem_append_right _ (List.mem_append_right _ (List.mem_append_left _ (List.mem_of_getElem? (l := tables_1_4) (i := 195) rfl)))))) rfl
set_option maxRecDepth 100000 in
theorem zl_420 : Cond.fieldLink "RiverDiggersModel" 71 "RiverDiggersModel" "cells" "[I" ∈ zi_G := zi_inG (List.mem_append_right _ (List.mem_append_right _ (List.mem_append_right _ (List.mem_append_right _ (List.mem_append_left _ (List.mem_of_getElem? (l := tables_1_4) (i := 193) rfl)))))) rfl
set_option maxRecDepth 100000 in
theorem zl_421 : Cond.fieldLink "RiverDiggersModel" 68 "RiverDiggersModel" "sizes" "[I" ∈ zi_G := zi_inG (List.mem_append_right _ (List.mem_append_right _ (List.mem_append_right _ (List.mem_append_right _ (List.mem_append_left _ (List.mem_of_getElem? (l := tables_1_4) (i := 192) rfl)))))) rfl
set_option maxRecDepth 100000 in
theorem zl_422 : Cond.fieldLink "RiverDiggersModel" 65 "RiverDiggersModel" "lanes" "[I" ∈ zi_G := zi_inG (List.mem_append_right _ (List.mem_append_right _ (List.mem_append_right _ (List.mem_append_right _ (List.mem_append_left _ (List.mem_of_getElem? (l := tables_1_4) (i := 191) rfl)))))) rfl
set_option maxRecDepth 100000 in
theorem zl_423 : Cond.fieldLink "RiverDiggersModel" 62 "RiverDiggersModel" "rows" "[I" ∈ zi_G := zi_inG (List.mem_append_right _ (List.mem_append_right _ (List.mem_append_right _ (List.mem_append_right _ (List.mem_append_left _ (List.mem_of_getElem? (l := tables_1_4) (i := 190) rfl)))))) rfl
set_option maxRecDepth 100000 in
theorem zl_424 : Cond.fieldLink "RiverDiggersModel" 59 "RiverDiggersModel" "ownMany" "[I" ∈ zi_G := zi_inG (List.mem_append_right _ (List.mem_append_right _ (List.mem_append_right _ (List.mem_append_right _ (List.mem_append_left _ (List.mem_of_getElem? (l := tables_1_4) (i := 189) rfl)))))) rfl
set_option maxRecDepth 100000 in
theorem zl_425 : Cond.fieldLink "RiverDiggersModel" 56 "RiverDiggersModel" "ownOptions" "[I" ∈ zi_G := zi_inG (List.mem_append_right _ (List.mem_append_right _ (List.mem_append_right _ (List.mem_append_right _ (List.mem_append_left _ (List.mem_of_getElem? (l := tables_1_4) (i := 188) rfl)))))) rfl
set_option maxRecDepth 100000 in
theorem zl_426 : Cond.fieldLink "RiverDiggersModel" 53 "RiverDiggersModel" "picks" "[I" ∈ zi_G := zi_inG (List.mem_append_right _ (List.mem_append_right _ (List.mem_append_right _ (List.mem_append_right _ (List.mem_append_left _ (List.mem_of_getElem? (l := tables_1_4) (i := 187) rfl)))))) rfl
set_option maxRecDepth 100000 in
theorem zl_427 : Cond.fieldLink "RiverDiggersModel" 50 "RiverDiggersModel" "highs" "[I" ∈ zi_G := zi_inG (List.mem_append_right _ (List.mem_append_right _ (List.mem_append_right _ (List.mem_append_right _ (List.mem_append_left _ (List.mem_of_getElem? (l := tables_1_4) (i := 186) rfl)))))) rfl
set_option maxRecDepth 100000 in
theorem zl_428 : Cond.fieldLink "RiverDiggersModel" 47 "RiverDiggersModel" "optionMany" "[I" ∈ zi_G := zi_inG (List.mem_append_right _ (List.mem_append_right _ (List.mem_append_right _ (List.mem_append_right _ (List.mem_append_left _ (List.mem_of_getElem? (l := tables_1_4) (i := 185) rfl)))))) rfl
set_option maxRecDepth 100000 in
theorem zl_429 : Cond.fieldLink "RiverDiggersModel" 44 "RiverDiggersModel" "options" "[I" ∈ zi_G := zi_inG (List.mem_append_right _ (List.mem_append_right _ (List.mem_append_right _ (List.mem_append_right _ (List.mem_append_left _ (List.mem_of_getElem? (l := tables_1_4) (i := 184) rfl)))))) rfl
set_option maxRecDepth 100000 in
theorem zl_430 : Cond.fieldLink "RiverDiggersModel" 41 "RiverDiggersModel" "firstHigh" "[I" ∈ zi_G := zi_inG (List.mem_append_right _ (List.mem_append_right _ (List.mem_append_right _ (List.mem_append_right _ (List.mem_append_left _ (List.mem_of_getElem? (l := tables_1_4) (i := 183) rfl)))))) rfl
set_option maxRecDepth 100000 in
theorem zl_431 : Cond.fieldLink "RiverDiggersModel" 38 "RiverDiggersModel" "wasHigh" "[I" ∈ zi_G := zi_inG (List.mem_append_right _ (List.mem_append_right _ (List.mem_append_right _ (List.mem_append_right _ (List.mem_append_left _ (List.mem_of_getElem? (l := tables_1_4) (i := 182) rfl)))))) rfl
set_option maxRecDepth 100000 in
theorem zl_432 : Cond.fieldLink "RiverDiggersModel" 35 "RiverDiggersModel" "bed" "[I" ∈ zi_G := zi_inG (List.mem_append_right _ (List.mem_append_right _ (List.mem_append_right _ (List.mem_append_right _ (List.mem_append_left _ (List.mem_of_getElem? (l := tables_1_4) (i := 179) rfl)))))) rfl
set_option maxRecDepth 100000 in
theorem zl_433 : Cond.fieldLink "RiverDiggersModel" 32 "RiverDiggersModel" "tape" "[I" ∈ zi_G := zi_inG (List.mem_append_right _ (List.mem_append_right _ (List.mem_append_right _ (List.mem_append_right _ (List.mem_append_left _ (List.mem_of_getElem? (l := tables_1_4) (i := 171) rfl)))))) rfl
set_option maxRecDepth 100000 in
theorem zl_434 : Cond.fieldLink "RiverDiggersModel" 29 "RiverDiggersModel" "dGrounds" "[I" ∈ zi_G := zi_inG (List.mem_append_right _ (List.mem_append_right _ (List.mem_append_right _ (List.mem_append_right _ (List.mem_append_left _ (List.mem_of_getElem? (l := tables_1_4) (i := 164) rfl)))))) rfl
set_option maxRecDepth 100000 in
theorem zl_435 : Cond.fieldLink "RiverDiggersModel" 26 "RiverDiggersModel" "dOwner" "[I" ∈ zi_G := zi_inG (List.mem_append_right _ (List.mem_append_right _ (List.mem_append_right _ (List.mem_append_right _ (List.mem_append_left _ (List.mem_of_getElem? (l := tables_1_4) (i := 163) rfl)))))) rfl
set_option maxRecDepth 100000 in
theorem zl_436 : Cond.fieldLink "RiverDiggersModel" 23 "RiverDiggersModel" "dWorth" "[I" ∈ zi_G := zi_inG (List.mem_append_right _ (List.mem_append_right _ (List.mem_append_right _ (List.mem_append_right _ (List.mem_append_left _ (List.mem_of_getElem? (l := tables_1_4) (i := 162) rfl)))))) rfl
set_option maxRecDepth 100000 in
theorem zl_437 : Cond.fieldLink "RiverDiggersModel" 20 "RiverDiggersModel" "dYards" "[I" ∈ zi_G := zi_inG (List.mem_append_right _ (List.mem_append_right _ (List.mem_append_right _ (List.mem_append_right _ (List.mem_append_left _ (List.mem_of_getElem? (l := tables_1_4) (i := 161) rfl)))))) rfl
set_option maxRecDepth 100000 in
theorem zl_438 : Cond.fieldLink "RiverDiggersModel" 17 "RiverDiggersModel" "owner" "[I" ∈ zi_G := zi_inG (List.mem_append_right _ (List.mem_append_right _ (List.mem_append_right _ (List.mem_append_right _ (List.mem_append_left _ (List.mem_of_getElem? (l := tables_1_4) (i := 154) rfl)))))) rfl
set_option maxRecDepth 100000 in
theorem zl_439 : Cond.fieldLink "RiverDiggersModel" 13 "RiverDiggersModel" "isKept" "[Z" ∈ zi_G := zi_inG (List.mem_append_right _ (List.mem_append_right _ (List.mem_append_right _ (List.mem_append_right _ (List.mem_append_left _ (List.mem_of_getElem? (l := tables_1_4) (i := 150) rfl)))))) rfl
set_option maxRecDepth 100000 in
theorem zl_440 : Cond.arrayClass .boolean ∈ zi_G := zi_inG (List.mem_append_right _ (List.mem_append_right _ (List.mem_append_right _ (List.mem_append_right _ (List.mem_append_right _ (List.mem_append_left _ (List.mem_of_getElem? (l := tables_1_5) (i := 51) rfl))))))) rfl
set_option maxRecDepth 100000 in
theorem zl_441 : Cond.fieldLink "RiverDiggersModel" 7 "RiverDiggersModel" "st" "[I" ∈ zi_G := zi_inG (List.mem_append_right _ (List.mem_append_right _ (List.mem_append_right _ (List.mem_append_right _ (List.mem_append_left _ (List.mem_of_getElem? (l := tables_1_4) (i := 149) rfl)))))) rfl
set_option maxRecDepth 100000 in
theorem zl_442 : Cond.methodLink "RiverDiggersModel" 1 Lib.objectInit ∈ zi_G := zi_inG (List.mem_append_right _ (List.mem_append_right _ (List.mem_append_right _ (List.mem_append_right _ (List.mem_append_left _ (List.mem_of_getElem? (l := tables_1_4) (i := 140) rfl)))))) rfl
set_option maxRecDepth 100000 in
theorem zl_443 : Cond.methodLink "RiverDiggersModel" 80 yX9_keepDraft ∈ zi_G := zi_inG (List.mem_append_right _ (List.mem_append_right _ (List.mem_append_right _ (List.mem_append_right _ (List.mem_append_left _ (List.mem_of_getElem? (l := tables_1_4) (i := 145) rfl)))))) rfl
set_option maxRecDepth 100000 in
theorem zl_444 : Cond.instanceMethod yX9_keepDraft ∈ zi_G := zi_inG (List.mem_append_right _ (List.mem_append_right _ (List.mem_append_right _ (List.mem_append_right _ (List.mem_append_left _ (List.mem_of_getElem? (l := tables_1_4) (i := 147) rfl)))))) rfl
set_option maxRecDepth 100000 in
theorem zl_445 : Cond.selects "RiverDiggersModel" yX9_keepDraft yX9_keepDraft ∈ zi_G := zi_inG (List.mem_append_left _ (List.mem_of_getElem? (i := 24) (by decide +kernel))) rfl
set_option maxRecDepth 100000 in
theorem zl_446 : Cond.methodLink "RiverDiggersModel" 77 yX9_firstDraft ∈ zi_G := zi_inG (List.mem_append_right _ (List.mem_append_right _ (List.mem_append_right _ (List.mem_append_right _ (List.mem_append_left _ (List.mem_of_getElem? (l := tables_1_4) (i := 141) rfl)))))) rfl
set_option maxRecDepth 100000 in
theorem zl_447 : Cond.instanceMethod yX9_firstDraft ∈ zi_G := zi_inG (List.mem_append_right _ (List.mem_append_right _ (List.mem_append_right _ (List.mem_append_right _ (List.mem_append_left _ (List.mem_of_getElem? (l := tables_1_4) (i := 143) rfl)))))) rfl
set_option maxRecDepth 100000 in
theorem zl_448 : Cond.selects "RiverDiggersModel" yX9_firstDraft yX9_firstDraft ∈ zi_G := zi_inG (List.mem_append_left _ (List.mem_of_getElem? (i := 23) (by decide +kernel))) rfl
set_option maxRecDepth 100000 in
theorem zl_449 : Cond.fieldLink "RiverDiggersModel" 99 "RiverDiggersModel" "dSilt" "I" ∈ zi_G := zi_inG (List.mem_append_right _ (List.mem_append_right _ (List.mem_append_right _ (List.mem_append_right _ (List.mem_append_left _ (List.mem_of_getElem? (l := tables_1_4) (i := 160) rfl)))))) rfl
set_option maxRecDepth 100000 in
theorem zl_450 : Cond.fieldLink "RiverDiggersModel" 96 "RiverDiggersModel" "dLaw" "I" ∈ zi_G := zi_inG (List.mem_append_right _ (List.mem_append_right _ (List.mem_append_right _ (List.mem_append_right _ (List.mem_append_left _ (List.mem_of_getElem? (l := tables_1_4) (i := 159) rfl)))))) rfl
set_option maxRecDepth 100000 in
theorem zl_451 : Cond.fieldLink "RiverDiggersModel" 93 "RiverDiggersModel" "dFarms" "I" ∈ zi_G := zi_inG (List.mem_append_right _ (List.mem_append_right _ (List.mem_append_right _ (List.mem_append_right _ (List.mem_append_left _ (List.mem_of_getElem? (l := tables_1_4) (i := 158) rfl)))))) rfl
set_option maxRecDepth 100000 in
theorem zl_452 : Cond.fieldLink "RiverDiggersModel" 90 "RiverDiggersModel" "dSpring" "I" ∈ zi_G := zi_inG (List.mem_append_right _ (List.mem_append_right _ (List.mem_append_right _ (List.mem_append_right _ (List.mem_append_left _ (List.mem_of_getElem? (l := tables_1_4) (i := 157) rfl)))))) rfl
set_option maxRecDepth 100000 in
theorem zl_453 : Cond.fieldLink "RiverDiggersModel" 87 "RiverDiggersModel" "dHigh" "I" ∈ zi_G := zi_inG (List.mem_append_right _ (List.mem_append_right _ (List.mem_append_right _ (List.mem_append_right _ (List.mem_append_left _ (List.mem_of_getElem? (l := tables_1_4) (i := 156) rfl)))))) rfl
set_option maxRecDepth 100000 in
theorem zl_454 : Cond.fieldLink "RiverDiggersModel" 83 "RiverDiggersModel" "dWide" "I" ∈ zi_G := zi_inG (List.mem_append_right _ (List.mem_append_right _ (List.mem_append_right _ (List.mem_append_right _ (List.mem_append_left _ (List.mem_of_getElem? (l := tables_1_4) (i := 155) rfl)))))) rfl
set_option maxRecDepth 100000 in
theorem zl_455 : Cond.fieldLink "RiverDiggersModel" 117 "RiverDiggersModel" "highestFarm" "I" ∈ zi_G := zi_inG (List.mem_append_right _ (List.mem_append_right _ (List.mem_append_right _ (List.mem_append_right _ (List.mem_append_left _ (List.mem_of_getElem? (l := tables_1_4) (i := 170) rfl)))))) rfl
set_option maxRecDepth 100000 in
theorem zl_456 : Cond.fieldLink "RiverDiggersModel" 114 "RiverDiggersModel" "highestCell" "I" ∈ zi_G := zi_inG (List.mem_append_right _ (List.mem_append_right _ (List.mem_append_right _ (List.mem_append_right _ (List.mem_append_left _ (List.mem_of_getElem? (l := tables_1_4) (i := 169) rfl)))))) rfl
set_option maxRecDepth 100000 in
theorem zl_457 : Cond.fieldLink "RiverDiggersModel" 111 "RiverDiggersModel" "highestColumn" "I" ∈ zi_G := zi_inG (List.mem_append_right _ (List.mem_append_right _ (List.mem_append_right _ (List.mem_append_right _ (List.mem_append_left _ (List.mem_of_getElem? (l := tables_1_4) (i := 168) rfl)))))) rfl
set_option maxRecDepth 100000 in
theorem zl_458 : Cond.fieldLink "RiverDiggersModel" 108 "RiverDiggersModel" "highestRow" "I" ∈ zi_G := zi_inG (List.mem_append_right _ (List.mem_append_right _ (List.mem_append_right _ (List.mem_append_right _ (List.mem_append_left _ (List.mem_of_getElem? (l := tables_1_4) (i := 167) rfl)))))) rfl
set_option maxRecDepth 100000 in
theorem zl_459 : Cond.fieldLink "RiverDiggersModel" 105 "RiverDiggersModel" "toldRows" "I" ∈ zi_G := zi_inG (List.mem_append_right _ (List.mem_append_right _ (List.mem_append_right _ (List.mem_append_right _ (List.mem_append_left _ (List.mem_of_getElem? (l := tables_1_4) (i := 166) rfl)))))) rfl
set_option maxRecDepth 100000 in
theorem zl_460 : Cond.fieldLink "RiverDiggersModel" 102 "RiverDiggersModel" "toldLines" "I" ∈ zi_G := zi_inG (List.mem_append_right _ (List.mem_append_right _ (List.mem_append_right _ (List.mem_append_right _ (List.mem_append_left _ (List.mem_of_getElem? (l := tables_1_4) (i := 165) rfl)))))) rfl
set_option maxRecDepth 100000 in
theorem zl_461 : Cond.fieldLink "RiverDiggersModel" 126 "RiverDiggersModel" "farms" "I" ∈ zi_G := zi_inG (List.mem_append_right _ (List.mem_append_right _ (List.mem_append_right _ (List.mem_append_right _ (List.mem_append_left _ (List.mem_of_getElem? (l := tables_1_4) (i := 153) rfl)))))) rfl
set_option maxRecDepth 100000 in
theorem zl_462 : Cond.fieldLink "RiverDiggersModel" 123 "RiverDiggersModel" "high" "I" ∈ zi_G := zi_inG (List.mem_append_right _ (List.mem_append_right _ (List.mem_append_right _ (List.mem_append_right _ (List.mem_append_left _ (List.mem_of_getElem? (l := tables_1_4) (i := 152) rfl)))))) rfl
set_option maxRecDepth 100000 in
theorem zl_463 : Cond.fieldLink "RiverDiggersModel" 120 "RiverDiggersModel" "wide" "I" ∈ zi_G := zi_inG (List.mem_append_right _ (List.mem_append_right _ (List.mem_append_right _ (List.mem_append_right _ (List.mem_append_left _ (List.mem_of_getElem? (l := tables_1_4) (i := 151) rfl)))))) rfl
set_option maxRecDepth 100000 in
theorem zl_464 : Cond.fieldLink "RiverDiggersModel" 129 "RiverDiggersModel" "taped" "I" ∈ zi_G := zi_inG (List.mem_append_right _ (List.mem_append_right _ (List.mem_append_right _ (List.mem_append_right _ (List.mem_append_left _ (List.mem_of_getElem? (l := tables_1_4) (i := 172) rfl)))))) rfl
set_option maxRecDepth 100000 in
theorem zl_465 : Cond.constantLong "RiverDiggersModel" 132 (255) ∈ zi_G := zi_inG (List.mem_append_right _ (List.mem_append_right _ (List.mem_append_right _ (List.mem_append_right _ (List.mem_append_right _ (List.mem_append_left _ (List.mem_of_getElem? (l := tables_1_5) (i := 56) rfl))))))) rfl
set_option maxRecDepth 100000 in
theorem zl_466 : Cond.methodLink "RiverDiggersModel" 134 yX9_in ∈ zi_G := zi_inG (List.mem_append_right _ (List.mem_append_right _ (List.mem_append_right _ (List.mem_append_right _ (List.mem_append_right _ (List.mem_append_left _ (List.mem_of_getElem? (l := tables_1_5) (i := 61) rfl))))))) rfl
set_option maxRecDepth 100000 in
theorem zl_467 : Cond.static yX9_in ∈ zi_G := zi_inG (List.mem_append_right _ (List.mem_append_right _ (List.mem_append_right _ (List.mem_append_right _ (List.mem_append_right _ (List.mem_append_left _ (List.mem_of_getElem? (l := tables_1_5) (i := 62) rfl))))))) rfl
set_option maxRecDepth 100000 in
theorem zl_468 : Cond.fieldLink "RiverDiggersModel" 138 "RiverDiggersModel" "fault" "I" ∈ zi_G := zi_inG (List.mem_append_right _ (List.mem_append_right _ (List.mem_append_right _ (List.mem_append_right _ (List.mem_append_left _ (List.mem_of_getElem? (l := tables_1_4) (i := 177) rfl)))))) rfl
set_option maxRecDepth 100000 in
theorem zl_469 : Cond.fieldLink "RiverDiggersModel" 144 "RiverDiggersModel" "wrongAt" "I" ∈ zi_G := zi_inG (List.mem_append_right _ (List.mem_append_right _ (List.mem_append_right _ (List.mem_append_right _ (List.mem_append_left _ (List.mem_of_getElem? (l := tables_1_4) (i := 178) rfl)))))) rfl
set_option maxRecDepth 100000 in
theorem zl_470 : Cond.fieldLink "RiverDiggersModel" 141 "RiverDiggersModel" "from" "I" ∈ zi_G := zi_inG (List.mem_append_right _ (List.mem_append_right _ (List.mem_append_right _ (List.mem_append_right _ (List.mem_append_left _ (List.mem_of_getElem? (l := tables_1_4) (i := 174) rfl)))))) rfl
set_option maxRecDepth 100000 in
theorem zl_471 : Cond.fieldLink "RiverDiggersModel" 147 "RiverDiggersModel" "pos" "I" ∈ zi_G := zi_inG (List.mem_append_right _ (List.mem_append_right _ (List.mem_append_right _ (List.mem_append_right _ (List.mem_append_left _ (List.mem_of_getElem? (l := tables_1_4) (i := 173) rfl)))))) rfl
set_option maxRecDepth 100000 in
theorem zl_472 : Cond.methodLink "RiverDiggersModel" 150 yX9_look ∈ zi_G := zi_inG (List.mem_append_right _ (List.mem_append_right _ (List.mem_append_right _ (List.mem_append_right _ (List.mem_append_right _ (List.mem_append_left _ (List.mem_of_getElem? (l := tables_1_5) (i := 72) rfl))))))) rfl
set_option maxRecDepth 100000 in
theorem zl_473 : Cond.instanceMethod yX9_look ∈ zi_G := zi_inG (List.mem_append_right _ (List.mem_append_right _ (List.mem_append_right _ (List.mem_append_right _ (List.mem_append_right _ (List.mem_append_left _ (List.mem_of_getElem? (l := tables_1_5) (i := 74) rfl))))))) rfl
set_option maxRecDepth 100000 in
theorem zl_474 : Cond.selects "RiverDiggersModel" yX9_look yX9_look ∈ zi_G := zi_inG (List.mem_append_left _ (List.mem_of_getElem? (i := 26) (by decide +kernel))) rfl
set_option maxRecDepth 100000 in
theorem zl_475 : Cond.methodLink "RiverDiggersModel" 154 yX9_is ∈ zi_G := zi_inG (List.mem_append_right _ (List.mem_append_right _ (List.mem_append_right _ (List.mem_append_right _ (List.mem_append_right _ (List.mem_append_left _ (List.mem_of_getElem? (l := tables_1_5) (i := 92) rfl))))))) rfl
set_option maxRecDepth 100000 in
theorem zl_476 : Cond.instanceMethod yX9_is ∈ zi_G := zi_inG (List.mem_append_right _ (List.mem_append_right _ (List.mem_append_right _ (List.mem_append_right _ (List.mem_append_right _ (List.mem_append_left _ (List.mem_of_getElem? (l := tables_1_5) (i := 94) rfl))))))) rfl
set_option maxRecDepth 100000 in
theorem zl_477 : Cond.selects "RiverDiggersModel" yX9_is yX9_is ∈ zi_G := zi_inG (List.mem_append_left _ (List.mem_of_getElem? (i := 30) (by decide +kernel))) rfl
set_option maxRecDepth 100000 in
theorem zl_478 : Cond.methodLink "RiverDiggersModel" 158 yX9_ends ∈ zi_G := zi_inG (List.mem_append_right _ (List.mem_append_right _ (List.mem_append_right _ (List.mem_append_right _ (List.mem_append_right _ (List.mem_append_left _ (List.mem_of_getElem? (l := tables_1_5) (i := 96) rfl))))))) rfl
set_option maxRecDepth 100000 in
theorem zl_479 : Cond.instanceMethod yX9_ends ∈ zi_G := zi_inG (List.mem_append_right _ (List.mem_append_right _ (List.mem_append_right _ (List.mem_append_right _ (List.mem_append_right _ (List.mem_append_left _ (List.mem_of_getElem? (l := tables_1_5) (i := 98) rfl))))))) rfl
set_option maxRecDepth 100000 in
theorem zl_480 : Cond.selects "RiverDiggersModel" yX9_ends yX9_ends ∈ zi_G := zi_inG (List.mem_append_left _ (List.mem_of_getElem? (i := 31) (by decide +kernel))) rfl
set_option maxRecDepth 100000 in
theorem zl_481 : Cond.methodLink "RiverDiggersModel" 162 yX9_ruleLine ∈ zi_G := zi_inG (List.mem_append_right _ (List.mem_append_right _ (List.mem_append_right _ (List.mem_append_right _ (List.mem_append_right _ (List.mem_append_left _ (List.mem_of_getElem? (l := tables_1_5) (i := 100) rfl))))))) rfl
set_option maxRecDepth 100000 in
theorem zl_482 : Cond.instanceMethod yX9_ruleLine ∈ zi_G := zi_inG (List.mem_append_right _ (List.mem_append_right _ (List.mem_append_right _ (List.mem_append_right _ (List.mem_append_right _ (List.mem_append_left _ (List.mem_of_getElem? (l := tables_1_5) (i := 102) rfl))))))) rfl
set_option maxRecDepth 100000 in
theorem zl_483 : Cond.selects "RiverDiggersModel" yX9_ruleLine yX9_ruleLine ∈ zi_G := zi_inG (List.mem_append_left _ (List.mem_of_getElem? (i := 32) (by decide +kernel))) rfl
set_option maxRecDepth 100000 in
theorem zl_484 : Cond.fieldLink "RiverDiggersModel" 166 "RiverDiggersModel" "sort" "I" ∈ zi_G := zi_inG (List.mem_append_right _ (List.mem_append_right _ (List.mem_append_right _ (List.mem_append_right _ (List.mem_append_left _ (List.mem_of_getElem? (l := tables_1_4) (i := 175) rfl)))))) rfl
set_option maxRecDepth 100000 in
theorem zl_485 : Cond.constantLong "RiverDiggersModel" 171 (122) ∈ zi_G := zi_inG (List.mem_append_right _ (List.mem_append_right _ (List.mem_append_right _ (List.mem_append_right _ (List.mem_append_right _ (List.mem_append_left _ (List.mem_of_getElem? (l := tables_1_5) (i := 77) rfl))))))) rfl
set_option maxRecDepth 100000 in
theorem zl_486 : Cond.constantLong "RiverDiggersModel" 169 (97) ∈ zi_G := zi_inG (List.mem_append_right _ (List.mem_append_right _ (List.mem_append_right _ (List.mem_append_right _ (List.mem_append_right _ (List.mem_append_left _ (List.mem_of_getElem? (l := tables_1_5) (i := 76) rfl))))))) rfl
set_option maxRecDepth 100000 in
theorem zl_487 : Cond.constantLong "RiverDiggersModel" 175 (57) ∈ zi_G := zi_inG (List.mem_append_right _ (List.mem_append_right _ (List.mem_append_right _ (List.mem_append_right _ (List.mem_append_right _ (List.mem_append_left _ (List.mem_of_getElem? (l := tables_1_5) (i := 79) rfl))))))) rfl
set_option maxRecDepth 100000 in
theorem zl_488 : Cond.constantLong "RiverDiggersModel" 173 (48) ∈ zi_G := zi_inG (List.mem_append_right _ (List.mem_append_right _ (List.mem_append_right _ (List.mem_append_right _ (List.mem_append_right _ (List.mem_append_left _ (List.mem_of_getElem? (l := tables_1_5) (i := 78) rfl))))))) rfl
set_option maxRecDepth 100000 in
theorem zl_489 : Cond.fieldLink "RiverDiggersModel" 177 "RiverDiggersModel" "value" "I" ∈ zi_G := zi_inG (List.mem_append_right _ (List.mem_append_right _ (List.mem_append_right _ (List.mem_append_right _ (List.mem_append_left _ (List.mem_of_getElem? (l := tables_1_4) (i := 176) rfl)))))) rfl
set_option maxRecDepth 100000 in
theorem zl_490 : Cond.methodLink "RiverDiggersModel" 180 yX9_needs ∈ zi_G := zi_inG (List.mem_append_right _ (List.mem_append_right _ (List.mem_append_right _ (List.mem_append_right _ (List.mem_append_right _ (List.mem_append_left _ (List.mem_of_getElem? (l := tables_1_5) (i := 80) rfl))))))) rfl
set_option maxRecDepth 100000 in
theorem zl_491 : Cond.instanceMethod yX9_needs ∈ zi_G := zi_inG (List.mem_append_right _ (List.mem_append_right _ (List.mem_append_right _ (List.mem_append_right _ (List.mem_append_right _ (List.mem_append_left _ (List.mem_of_getElem? (l := tables_1_5) (i := 82) rfl))))))) rfl
set_option maxRecDepth 100000 in
theorem zl_492 : Cond.selects "RiverDiggersModel" yX9_needs yX9_needs ∈ zi_G := zi_inG (List.mem_append_left _ (List.mem_of_getElem? (i := 27) (by decide +kernel))) rfl
set_option maxRecDepth 100000 in
theorem zl_493 : Cond.methodLink "RiverDiggersModel" 188 yX9_next ∈ zi_G := zi_inG (List.mem_append_right _ (List.mem_append_right _ (List.mem_append_right _ (List.mem_append_right _ (List.mem_append_right _ (List.mem_append_left _ (List.mem_of_getElem? (l := tables_1_5) (i := 68) rfl))))))) rfl
set_option maxRecDepth 100000 in
theorem zl_494 : Cond.instanceMethod yX9_next ∈ zi_G := zi_inG (List.mem_append_right _ (List.mem_append_right _ (List.mem_append_right _ (List.mem_append_right _ (List.mem_append_right _ (List.mem_append_left _ (List.mem_of_getElem? (l := tables_1_5) (i := 70) rfl))))))) rfl
set_option maxRecDepth 100000 in
theorem zl_495 : Cond.selects "RiverDiggersModel" yX9_next yX9_next ∈ zi_G := zi_inG (List.mem_append_left _ (List.mem_of_getElem? (i := 25) (by decide +kernel))) rfl
set_option maxRecDepth 100000 in
theorem zl_496 : Cond.methodLink "RiverDiggersModel" 184 yX9_looked ∈ zi_G := zi_inG (List.mem_append_right _ (List.mem_append_right _ (List.mem_append_right _ (List.mem_append_right _ (List.mem_append_right _ (List.mem_append_left _ (List.mem_of_getElem? (l := tables_1_5) (i := 112) rfl))))))) rfl
set_option maxRecDepth 100000 in
theorem zl_497 : Cond.instanceMethod yX9_looked ∈ zi_G := zi_inG (List.mem_append_right _ (List.mem_append_right _ (List.mem_append_right _ (List.mem_append_right _ (List.mem_append_right _ (List.mem_append_left _ (List.mem_of_getElem? (l := tables_1_5) (i := 114) rfl))))))) rfl
set_option maxRecDepth 100000 in
theorem zl_498 : Cond.selects "RiverDiggersModel" yX9_looked yX9_looked ∈ zi_G := zi_inG (List.mem_append_left _ (List.mem_of_getElem? (i := 35) (by decide +kernel))) rfl
set_option maxRecDepth 100000 in
theorem zl_499 : Cond.methodLink "RiverDiggersModel" 191 yX9_readNumber ∈ zi_G := zi_inG (List.mem_append_right _ (List.mem_append_right _ (List.mem_append_right _ (List.mem_append_right _ (List.mem_append_right _ (List.mem_append_left _ (List.mem_of_getElem? (l := tables_1_5) (i := 108) rfl))))))) rfl
set_option maxRecDepth 100000 in
theorem zl_500 : Cond.instanceMethod yX9_readNumber ∈ zi_G := zi_inG (List.mem_append_right _ (List.mem_append_right _ (List.mem_append_right _ (List.mem_append_right _ (List.mem_append_right _ (List.mem_append_left _ (List.mem_of_getElem? (l := tables_1_5) (i := 110) rfl))))))) rfl
set_option maxRecDepth 100000 in
theorem zl_501 : Cond.selects "RiverDiggersModel" yX9_readNumber yX9_readNumber ∈ zi_G := zi_inG (List.mem_append_left _ (List.mem_of_getElem? (i := 34) (by decide +kernel))) rfl
set_option maxRecDepth 100000 in
theorem zl_502 : Cond.methodLink "RiverDiggersModel" 194 yX9_sawCell ∈ zi_G := zi_inG (List.mem_append_right _ (List.mem_append_right _ (List.mem_append_right _ (List.mem_append_right _ (List.mem_append_right _ (List.mem_append_left _ (List.mem_of_getElem? (l := tables_1_5) (i := 116) rfl))))))) rfl
set_option maxRecDepth 100000 in
theorem zl_503 : Cond.instanceMethod yX9_sawCell ∈ zi_G := zi_inG (List.mem_append_right _ (List.mem_append_right _ (List.mem_append_right _ (List.mem_append_right _ (List.mem_append_right _ (List.mem_append_left _ (List.mem_of_getElem? (l := tables_1_5) (i := 118) rfl))))))) rfl
set_option maxRecDepth 100000 in
theorem zl_504 : Cond.selects "RiverDiggersModel" yX9_sawCell yX9_sawCell ∈ zi_G := zi_inG (List.mem_append_left _ (List.mem_of_getElem? (i := 36) (by decide +kernel))) rfl
set_option maxRecDepth 100000 in
theorem zl_505 : Cond.methodLink "RiverDiggersModel" 198 yX9_readRow ∈ zi_G := zi_inG (List.mem_append_right _ (List.mem_append_right _ (List.mem_append_right _ (List.mem_append_right _ (List.mem_append_right _ (List.mem_append_left _ (List.mem_of_getElem? (l := tables_1_5) (i := 120) rfl))))))) rfl
set_option maxRecDepth 100000 in
theorem zl_506 : Cond.instanceMethod yX9_readRow ∈ zi_G := zi_inG (List.mem_append_right _ (List.mem_append_right _ (List.mem_append_right _ (List.mem_append_right _ (List.mem_append_right _ (List.mem_append_left _ (List.mem_of_getElem? (l := tables_1_5) (i := 122) rfl))))))) rfl
set_option maxRecDepth 100000 in
theorem zl_507 : Cond.selects "RiverDiggersModel" yX9_readRow yX9_readRow ∈ zi_G := zi_inG (List.mem_append_left _ (List.mem_of_getElem? (i := 37) (by decide +kernel))) rfl
set_option maxRecDepth 100000 in
theorem zl_508 : Cond.methodLink "RiverDiggersModel" 201 yX9_readGround ∈ zi_G := zi_inG (List.mem_append_right _ (List.mem_append_right _ (List.mem_append_right _ (List.mem_append_right _ (List.mem_append_right _ (List.mem_append_left _ (List.mem_of_getElem? (l := tables_1_5) (i := 124) rfl))))))) rfl
set_option maxRecDepth 100000 in
theorem zl_509 : Cond.instanceMethod yX9_readGround ∈ zi_G := zi_inG (List.mem_append_right _ (List.mem_append_right _ (List.mem_append_right _ (List.mem_append_right _ (List.mem_append_right _ (List.mem_append_left _ (List.mem_of_getElem? (l := tables_1_5) (i := 126) rfl))))))) rfl
set_option maxRecDepth 100000 in
theorem zl_510 : Cond.selects "RiverDiggersModel" yX9_readGround yX9_readGround ∈ zi_G := zi_inG (List.mem_append_left _ (List.mem_of_getElem? (i := 38) (by decide +kernel))) rfl
set_option maxRecDepth 100000 in
theorem zl_511 : Cond.methodLink "RiverDiggersModel" 204 yX9_lineNow ∈ zi_G := zi_inG (List.mem_append_right _ (List.mem_append_right _ (List.mem_append_right _ (List.mem_append_right _ (List.mem_append_right _ (List.mem_append_left _ (List.mem_of_getElem? (l := tables_1_5) (i := 88) rfl))))))) rfl
set_option maxRecDepth 100000 in
theorem zl_512 : Cond.instanceMethod yX9_lineNow ∈ zi_G := zi_inG (List.mem_append_right _ (List.mem_append_right _ (List.mem_append_right _ (List.mem_append_right _ (List.mem_append_right _ (List.mem_append_left _ (List.mem_of_getElem? (l := tables_1_5) (i := 90) rfl))))))) rfl
set_option maxRecDepth 100000 in
theorem zl_513 : Cond.selects "RiverDiggersModel" yX9_lineNow yX9_lineNow ∈ zi_G := zi_inG (List.mem_append_left _ (List.mem_of_getElem? (i := 29) (by decide +kernel))) rfl
set_option maxRecDepth 100000 in
theorem zl_514 : Cond.methodLink "RiverDiggersModel" 207 yX9_readLineOf ∈ zi_G := zi_inG (List.mem_append_right _ (List.mem_append_right _ (List.mem_append_right _ (List.mem_append_right _ (List.mem_append_right _ (List.mem_append_left _ (List.mem_of_getElem? (l := tables_1_5) (i := 104) rfl))))))) rfl
set_option maxRecDepth 100000 in
theorem zl_515 : Cond.instanceMethod yX9_readLineOf ∈ zi_G := zi_inG (List.mem_append_right _ (List.mem_append_right _ (List.mem_append_right _ (List.mem_append_right _ (List.mem_append_right _ (List.mem_append_left _ (List.mem_of_getElem? (l := tables_1_5) (i := 106) rfl))))))) rfl
set_option maxRecDepth 100000 in
theorem zl_516 : Cond.selects "RiverDiggersModel" yX9_readLineOf yX9_readLineOf ∈ zi_G := zi_inG (List.mem_append_left _ (List.mem_of_getElem? (i := 33) (by decide +kernel))) rfl
set_option maxRecDepth 100000 in
theorem zl_517 : Cond.methodLink "RiverDiggersModel" 210 yX9_readLine ∈ zi_G := zi_inG (List.mem_append_right _ (List.mem_append_right _ (List.mem_append_right _ (List.mem_append_right _ (List.mem_append_right _ (List.mem_append_left _ (List.mem_of_getElem? (l := tables_1_5) (i := 84) rfl))))))) rfl
set_option maxRecDepth 100000 in
theorem zl_518 : Cond.instanceMethod yX9_readLine ∈ zi_G := zi_inG (List.mem_append_right _ (List.mem_append_right _ (List.mem_append_right _ (List.mem_append_right _ (List.mem_append_right _ (List.mem_append_left _ (List.mem_of_getElem? (l := tables_1_5) (i := 86) rfl))))))) rfl
set_option maxRecDepth 100000 in
theorem zl_519 : Cond.selects "RiverDiggersModel" yX9_readLine yX9_readLine ∈ zi_G := zi_inG (List.mem_append_left _ (List.mem_of_getElem? (i := 28) (by decide +kernel))) rfl
set_option maxRecDepth 100000 in
theorem zl_520 : Cond.constantLong "RiverDiggersModel" 213 (17575) ∈ zi_G := zi_inG (List.mem_append_right _ (List.mem_append_right _ (List.mem_append_right _ (List.mem_append_right _ (List.mem_append_right _ (List.mem_append_left _ (List.mem_of_getElem? (l := tables_1_5) (i := 222) rfl))))))) rfl
set_option maxRecDepth 100000 in
theorem zl_521 : Cond.methodLink "RiverDiggersModel" 215 yX9_beside ∈ zi_G := zi_inG (List.mem_append_right _ (List.mem_append_right _ (List.mem_append_right _ (List.mem_append_right _ (List.mem_append_right _ (List.mem_append_left _ (List.mem_of_getElem? (l := tables_1_5) (i := 172) rfl))))))) rfl
set_option maxRecDepth 100000 in
theorem zl_522 : Cond.instanceMethod yX9_beside ∈ zi_G := zi_inG (List.mem_append_right _ (List.mem_append_right _ (List.mem_append_right _ (List.mem_append_right _ (List.mem_append_right _ (List.mem_append_left _ (List.mem_of_getElem? (l := tables_1_5) (i := 174) rfl))))))) rfl
set_option maxRecDepth 100000 in
theorem zl_523 : Cond.selects "RiverDiggersModel" yX9_beside yX9_beside ∈ zi_G := zi_inG (List.mem_append_left _ (List.mem_of_getElem? (i := 45) (by decide +kernel))) rfl
set_option maxRecDepth 100000 in
theorem zl_524 : Cond.fieldLink "RiverDiggersModel" 218 "RiverDiggersModel" "bedBits" "I" ∈ zi_G := zi_inG (List.mem_append_right _ (List.mem_append_right _ (List.mem_append_right _ (List.mem_append_right _ (List.mem_append_left _ (List.mem_of_getElem? (l := tables_1_4) (i := 181) rfl)))))) rfl
set_option maxRecDepth 100000 in
theorem zl_525 : Cond.fieldLink "RiverDiggersModel" 221 "RiverDiggersModel" "bedMany" "I" ∈ zi_G := zi_inG (List.mem_append_right _ (List.mem_append_right _ (List.mem_append_right _ (List.mem_append_right _ (List.mem_append_left _ (List.mem_of_getElem? (l := tables_1_4) (i := 180) rfl)))))) rfl
set_option maxRecDepth 100000 in
theorem zl_526 : Cond.methodLink "RiverDiggersModel" 224 yX9_lowestBeside ∈ zi_G := zi_inG (List.mem_append_right _ (List.mem_append_right _ (List.mem_append_right _ (List.mem_append_right _ (List.mem_append_right _ (List.mem_append_left _ (List.mem_of_getElem? (l := tables_1_5) (i := 168) rfl))))))) rfl
set_option maxRecDepth 100000 in
theorem zl_527 : Cond.instanceMethod yX9_lowestBeside ∈ zi_G := zi_inG (List.mem_append_right _ (List.mem_append_right _ (List.mem_append_right _ (List.mem_append_right _ (List.mem_append_right _ (List.mem_append_left _ (List.mem_of_getElem? (l := tables_1_5) (i := 170) rfl))))))) rfl
set_option maxRecDepth 100000 in
theorem zl_528 : Cond.selects "RiverDiggersModel" yX9_lowestBeside yX9_lowestBeside ∈ zi_G := zi_inG (List.mem_append_left _ (List.mem_of_getElem? (i := 44) (by decide +kernel))) rfl
set_option maxRecDepth 100000 in
theorem zl_529 : Cond.methodLink "RiverDiggersModel" 227 yX9_findBed ∈ zi_G := zi_inG (List.mem_append_right _ (List.mem_append_right _ (List.mem_append_right _ (List.mem_append_right _ (List.mem_append_right _ (List.mem_append_left _ (List.mem_of_getElem? (l := tables_1_5) (i := 164) rfl))))))) rfl
set_option maxRecDepth 100000 in
theorem zl_530 : Cond.instanceMethod yX9_findBed ∈ zi_G := zi_inG (List.mem_append_right _ (List.mem_append_right _ (List.mem_append_right _ (List.mem_append_right _ (List.mem_append_right _ (List.mem_append_left _ (List.mem_of_getElem? (l := tables_1_5) (i := 166) rfl))))))) rfl
set_option maxRecDepth 100000 in
theorem zl_531 : Cond.selects "RiverDiggersModel" yX9_findBed yX9_findBed ∈ zi_G := zi_inG (List.mem_append_left _ (List.mem_of_getElem? (i := 43) (by decide +kernel))) rfl
set_option maxRecDepth 100000 in
theorem zl_532 : Cond.methodLink "RiverDiggersModel" 230 yX9_bedNow ∈ zi_G := zi_inG (List.mem_append_right _ (List.mem_append_right _ (List.mem_append_right _ (List.mem_append_right _ (List.mem_append_right _ (List.mem_append_left _ (List.mem_of_getElem? (l := tables_1_5) (i := 160) rfl))))))) rfl
set_option maxRecDepth 100000 in
theorem zl_533 : Cond.instanceMethod yX9_bedNow ∈ zi_G := zi_inG (List.mem_append_right _ (List.mem_append_right _ (List.mem_append_right _ (List.mem_append_right _ (List.mem_append_right _ (List.mem_append_left _ (List.mem_of_getElem? (l := tables_1_5) (i := 162) rfl))))))) rfl
set_option maxRecDepth 100000 in
theorem zl_534 : Cond.selects "RiverDiggersModel" yX9_bedNow yX9_bedNow ∈ zi_G := zi_inG (List.mem_append_left _ (List.mem_of_getElem? (i := 42) (by decide +kernel))) rfl
set_option maxRecDepth 100000 in
theorem zl_535 : Cond.methodLink "RiverDiggersModel" 233 yX9_isBeside ∈ zi_G := zi_inG (List.mem_append_right _ (List.mem_append_right _ (List.mem_append_right _ (List.mem_append_right _ (List.mem_append_right _ (List.mem_append_left _ (List.mem_of_getElem? (l := tables_1_5) (i := 180) rfl))))))) rfl
set_option maxRecDepth 100000 in
theorem zl_536 : Cond.instanceMethod yX9_isBeside ∈ zi_G := zi_inG (List.mem_append_right _ (List.mem_append_right _ (List.mem_append_right _ (List.mem_append_right _ (List.mem_append_right _ (List.mem_append_left _ (List.mem_of_getElem? (l := tables_1_5) (i := 182) rfl))))))) rfl
set_option maxRecDepth 100000 in
theorem zl_537 : Cond.selects "RiverDiggersModel" yX9_isBeside yX9_isBeside ∈ zi_G := zi_inG (List.mem_append_left _ (List.mem_of_getElem? (i := 47) (by decide +kernel))) rfl
set_option maxRecDepth 100000 in
theorem zl_538 : Cond.methodLink "RiverDiggersModel" 237 yX9_flag ∈ zi_G := zi_inG (List.mem_append_right _ (List.mem_append_right _ (List.mem_append_right _ (List.mem_append_right _ (List.mem_append_right _ (List.mem_append_left _ (List.mem_of_getElem? (l := tables_1_5) (i := 153) rfl))))))) rfl
set_option maxRecDepth 100000 in
theorem zl_539 : Cond.static yX9_flag ∈ zi_G := zi_inG (List.mem_append_right _ (List.mem_append_right _ (List.mem_append_right _ (List.mem_append_right _ (List.mem_append_right _ (List.mem_append_left _ (List.mem_of_getElem? (l := tables_1_5) (i := 154) rfl))))))) rfl
set_option maxRecDepth 100000 in
theorem zl_540 : Cond.methodLink "RiverDiggersModel" 241 yX9_isCell ∈ zi_G := zi_inG (List.mem_append_right _ (List.mem_append_right _ (List.mem_append_right _ (List.mem_append_right _ (List.mem_append_right _ (List.mem_append_left _ (List.mem_of_getElem? (l := tables_1_5) (i := 140) rfl))))))) rfl
set_option maxRecDepth 100000 in
theorem zl_541 : Cond.instanceMethod yX9_isCell ∈ zi_G := zi_inG (List.mem_append_right _ (List.mem_append_right _ (List.mem_append_right _ (List.mem_append_right _ (List.mem_append_right _ (List.mem_append_left _ (List.mem_of_getElem? (l := tables_1_5) (i := 142) rfl))))))) rfl
set_option maxRecDepth 100000 in
theorem zl_542 : Cond.selects "RiverDiggersModel" yX9_isCell yX9_isCell ∈ zi_G := zi_inG (List.mem_append_left _ (List.mem_of_getElem? (i := 39) (by decide +kernel))) rfl
set_option maxRecDepth 100000 in
theorem zl_543 : Cond.methodLink "RiverDiggersModel" 245 yX9_isFarm ∈ zi_G := zi_inG (List.mem_append_right _ (List.mem_append_right _ (List.mem_append_right _ (List.mem_append_right _ (List.mem_append_right _ (List.mem_append_left _ (List.mem_of_getElem? (l := tables_1_5) (i := 148) rfl))))))) rfl
set_option maxRecDepth 100000 in
theorem zl_544 : Cond.instanceMethod yX9_isFarm ∈ zi_G := zi_inG (List.mem_append_right _ (List.mem_append_right _ (List.mem_append_right _ (List.mem_append_right _ (List.mem_append_right _ (List.mem_append_left _ (List.mem_of_getElem? (l := tables_1_5) (i := 150) rfl))))))) rfl
set_option maxRecDepth 100000 in
theorem zl_545 : Cond.selects "RiverDiggersModel" yX9_isFarm yX9_isFarm ∈ zi_G := zi_inG (List.mem_append_left _ (List.mem_of_getElem? (i := 40) (by decide +kernel))) rfl
set_option maxRecDepth 100000 in
theorem zl_546 : Cond.constantLong "RiverDiggersModel" 248 (3) ∈ zi_G := zi_inG (List.mem_append_right _ (List.mem_append_right _ (List.mem_append_right _ (List.mem_append_right _ (List.mem_append_right _ (List.mem_append_left _ (List.mem_of_getElem? (l := tables_1_5) (i := 152) rfl))))))) rfl
set_option maxRecDepth 100000 in
theorem zl_547 : Cond.methodLink "RiverDiggersModel" 250 yX9_hasNow ∈ zi_G := zi_inG (List.mem_append_right _ (List.mem_append_right _ (List.mem_append_right _ (List.mem_append_right _ (List.mem_append_right _ (List.mem_append_left _ (List.mem_of_getElem? (l := tables_1_5) (i := 156) rfl))))))) rfl
set_option maxRecDepth 100000 in
theorem zl_548 : Cond.instanceMethod yX9_hasNow ∈ zi_G := zi_inG (List.mem_append_right _ (List.mem_append_right _ (List.mem_append_right _ (List.mem_append_right _ (List.mem_append_right _ (List.mem_append_left _ (List.mem_of_getElem? (l := tables_1_5) (i := 158) rfl))))))) rfl
set_option maxRecDepth 100000 in
theorem zl_549 : Cond.selects "RiverDiggersModel" yX9_hasNow yX9_hasNow ∈ zi_G := zi_inG (List.mem_append_left _ (List.mem_of_getElem? (i := 41) (by decide +kernel))) rfl
set_option maxRecDepth 100000 in
theorem zl_550 : Cond.methodLink "RiverDiggersModel" 253 yX9_mayCut ∈ zi_G := zi_inG (List.mem_append_right _ (List.mem_append_right _ (List.mem_append_right _ (List.mem_append_right _ (List.mem_append_right _ (List.mem_append_left _ (List.mem_of_getElem? (l := tables_1_5) (i := 176) rfl))))))) rfl
set_option maxRecDepth 100000 in
theorem zl_551 : Cond.instanceMethod yX9_mayCut ∈ zi_G := zi_inG (List.mem_append_right _ (List.mem_append_right _ (List.mem_append_right _ (List.mem_append_right _ (List.mem_append_right _ (List.mem_append_left _ (List.mem_of_getElem? (l := tables_1_5) (i := 178) rfl))))))) rfl
set_option maxRecDepth 100000 in
theorem zl_552 : Cond.selects "RiverDiggersModel" yX9_mayCut yX9_mayCut ∈ zi_G := zi_inG (List.mem_append_left _ (List.mem_of_getElem? (i := 46) (by decide +kernel))) rfl
set_option maxRecDepth 100000 in
theorem zl_553 : Cond.constantLong "RiverDiggersModel" 256 (99) ∈ zi_G := zi_inG (List.mem_append_right _ (List.mem_append_right _ (List.mem_append_right _ (List.mem_append_right _ (List.mem_append_right _ (List.mem_append_left _ (List.mem_of_getElem? (l := tables_1_5) (i := 192) rfl))))))) rfl
set_option maxRecDepth 100000 in
theorem zl_554 : Cond.methodLink "RiverDiggersModel" 258 yX9_becomes ∈ zi_G := zi_inG (List.mem_append_right _ (List.mem_append_right _ (List.mem_append_right _ (List.mem_append_right _ (List.mem_append_right _ (List.mem_append_left _ (List.mem_of_getElem? (l := tables_1_5) (i := 193) rfl))))))) rfl
set_option maxRecDepth 100000 in
theorem zl_555 : Cond.instanceMethod yX9_becomes ∈ zi_G := zi_inG (List.mem_append_right _ (List.mem_append_right _ (List.mem_append_right _ (List.mem_append_right _ (List.mem_append_right _ (List.mem_append_left _ (List.mem_of_getElem? (l := tables_1_5) (i := 195) rfl))))))) rfl
set_option maxRecDepth 100000 in
theorem zl_556 : Cond.selects "RiverDiggersModel" yX9_becomes yX9_becomes ∈ zi_G := zi_inG (List.mem_append_left _ (List.mem_of_getElem? (i := 48) (by decide +kernel))) rfl
set_option maxRecDepth 100000 in
theorem zl_557 : Cond.constantLong "RiverDiggersModel" 261 (2) ∈ zi_G := zi_inG (List.mem_append_right _ (List.mem_append_right _ (List.mem_append_right _ (List.mem_append_right _ (List.mem_append_right _ (List.mem_append_left _ (List.mem_of_getElem? (l := tables_1_5) (i := 205) rfl))))))) rfl
set_option maxRecDepth 100000 in
theorem zl_558 : Cond.constantLong "RiverDiggersModel" 263 (9) ∈ zi_G := zi_inG (List.mem_append_right _ (List.mem_append_right _ (List.mem_append_right _ (List.mem_append_right _ (List.mem_append_right _ (List.mem_append_left _ (List.mem_of_getElem? (l := tables_1_5) (i := 214) rfl))))))) rfl
set_option maxRecDepth 100000 in
theorem zl_559 : Cond.methodLink "RiverDiggersModel" 265 yX9_cutOf ∈ zi_G := zi_inG (List.mem_append_right _ (List.mem_append_right _ (List.mem_append_right _ (List.mem_append_right _ (List.mem_append_right _ (List.mem_append_left _ (List.mem_of_getElem? (l := tables_1_5) (i := 231) rfl))))))) rfl
set_option maxRecDepth 100000 in
theorem zl_560 : Cond.static yX9_cutOf ∈ zi_G := zi_inG (List.mem_append_right _ (List.mem_append_right _ (List.mem_append_right _ (List.mem_append_right _ (List.mem_append_right _ (List.mem_append_left _ (List.mem_of_getElem? (l := tables_1_5) (i := 232) rfl))))))) rfl
set_option maxRecDepth 100000 in
theorem zl_561 : Cond.methodLink "RiverDiggersModel" 268 yX9_firstWrong ∈ zi_G := zi_inG (List.mem_append_right _ (List.mem_append_right _ (List.mem_append_right _ (List.mem_append_right _ (List.mem_append_right _ (List.mem_append_left _ (List.mem_of_getElem? (l := tables_1_5) (i := 227) rfl))))))) rfl
set_option maxRecDepth 100000 in
theorem zl_562 : Cond.instanceMethod yX9_firstWrong ∈ zi_G := zi_inG (List.mem_append_right _ (List.mem_append_right _ (List.mem_append_right _ (List.mem_append_right _ (List.mem_append_right _ (List.mem_append_left _ (List.mem_of_getElem? (l := tables_1_5) (i := 229) rfl))))))) rfl
set_option maxRecDepth 100000 in
theorem zl_563 : Cond.selects "RiverDiggersModel" yX9_firstWrong yX9_firstWrong ∈ zi_G := zi_inG (List.mem_append_left _ (List.mem_of_getElem? (i := 50) (by decide +kernel))) rfl
set_option maxRecDepth 100000 in
theorem zl_564 : Cond.methodLink "RiverDiggersModel" 271 yX9_silts ∈ zi_G := zi_inG (List.mem_append_right _ (List.mem_append_right _ (List.mem_append_right _ (List.mem_append_right _ (List.mem_append_right _ (List.mem_append_left _ (List.mem_of_getElem? (l := tables_1_5) (i := 238) rfl))))))) rfl
set_option maxRecDepth 100000 in
theorem zl_565 : Cond.instanceMethod yX9_silts ∈ zi_G := zi_inG (List.mem_append_right _ (List.mem_append_right _ (List.mem_append_right _ (List.mem_append_right _ (List.mem_append_right _ (List.mem_append_right _ (List.mem_of_getElem? (l := tables_1_6) (i := 0) rfl))))))) rfl
set_option maxRecDepth 100000 in
theorem zl_566 : Cond.selects "RiverDiggersModel" yX9_silts yX9_silts ∈ zi_G := zi_inG (List.mem_append_left _ (List.mem_of_getElem? (i := 52) (by decide +kernel))) rfl
set_option maxRecDepth 100000 in
theorem zl_567 : Cond.methodLink "RiverDiggersModel" 274 yX9_isYear ∈ zi_G := zi_inG (List.mem_append_right _ (List.mem_append_right _ (List.mem_append_right _ (List.mem_append_right _ (List.mem_append_right _ (List.mem_append_left _ (List.mem_of_getElem? (l := tables_1_5) (i := 219) rfl))))))) rfl
set_option maxRecDepth 100000 in
theorem zl_568 : Cond.static yX9_isYear ∈ zi_G := zi_inG (List.mem_append_right _ (List.mem_append_right _ (List.mem_append_right _ (List.mem_append_right _ (List.mem_append_right _ (List.mem_append_left _ (List.mem_of_getElem? (l := tables_1_5) (i := 220) rfl))))))) rfl
set_option maxRecDepth 100000 in
theorem zl_569 : Cond.methodLink "RiverDiggersModel" 277 yX9_canBe ∈ zi_G := zi_inG (List.mem_append_right _ (List.mem_append_right _ (List.mem_append_right _ (List.mem_append_right _ (List.mem_append_right _ (List.mem_append_left _ (List.mem_of_getElem? (l := tables_1_5) (i := 223) rfl))))))) rfl
set_option maxRecDepth 100000 in
theorem zl_570 : Cond.instanceMethod yX9_canBe ∈ zi_G := zi_inG (List.mem_append_right _ (List.mem_append_right _ (List.mem_append_right _ (List.mem_append_right _ (List.mem_append_right _ (List.mem_append_left _ (List.mem_of_getElem? (l := tables_1_5) (i := 225) rfl))))))) rfl
set_option maxRecDepth 100000 in
theorem zl_571 : Cond.selects "RiverDiggersModel" yX9_canBe yX9_canBe ∈ zi_G := zi_inG (List.mem_append_left _ (List.mem_of_getElem? (i := 49) (by decide +kernel))) rfl
set_option maxRecDepth 100000 in
theorem zl_572 : Cond.methodLink "RiverDiggersModel" 280 yX9_goes ∈ zi_G := zi_inG (List.mem_append_right _ (List.mem_append_right _ (List.mem_append_right _ (List.mem_append_right _ (List.mem_append_right _ (List.mem_append_left _ (List.mem_of_getElem? (l := tables_1_5) (i := 234) rfl))))))) rfl
set_option maxRecDepth 100000 in
theorem zl_573 : Cond.instanceMethod yX9_goes ∈ zi_G := zi_inG (List.mem_append_right _ (List.mem_append_right _ (List.mem_append_right _ (List.mem_append_right _ (List.mem_append_right _ (List.mem_append_left _ (List.mem_of_getElem? (l := tables_1_5) (i := 236) rfl))))))) rfl
set_option maxRecDepth 100000 in
theorem zl_574 : Cond.selects "RiverDiggersModel" yX9_goes yX9_goes ∈ zi_G := zi_inG (List.mem_append_left _ (List.mem_of_getElem? (i := 51) (by decide +kernel))) rfl
set_option maxRecDepth 100000 in
theorem zl_575 : Cond.methodLink "RiverDiggersModel" 286 yX9_returns ∈ zi_G := zi_inG (List.mem_append_right _ (List.mem_append_right _ (List.mem_append_right _ (List.mem_append_right _ (List.mem_append_right _ (List.mem_append_right _ (List.mem_of_getElem? (l := tables_1_6) (i := 14) rfl))))))) rfl
set_option maxRecDepth 100000 in
theorem zl_576 : Cond.instanceMethod yX9_returns ∈ zi_G := zi_inG (List.mem_append_right _ (List.mem_append_right _ (List.mem_append_right _ (List.mem_append_right _ (List.mem_append_right _ (List.mem_append_right _ (List.mem_of_getElem? (l := tables_1_6) (i := 16) rfl))))))) rfl
set_option maxRecDepth 100000 in
theorem zl_577 : Cond.selects "RiverDiggersModel" yX9_returns yX9_returns ∈ zi_G := zi_inG (List.mem_append_left _ (List.mem_of_getElem? (i := 55) (by decide +kernel))) rfl
set_option maxRecDepth 100000 in
theorem zl_578 : Cond.methodLink "RiverDiggersModel" 283 yX9_marks ∈ zi_G := zi_inG (List.mem_append_right _ (List.mem_append_right _ (List.mem_append_right _ (List.mem_append_right _ (List.mem_append_right _ (List.mem_append_right _ (List.mem_of_getElem? (l := tables_1_6) (i := 10) rfl))))))) rfl
set_option maxRecDepth 100000 in
theorem zl_579 : Cond.instanceMethod yX9_marks ∈ zi_G := zi_inG (List.mem_append_right _ (List.mem_append_right _ (List.mem_append_right _ (List.mem_append_right _ (List.mem_append_right _ (List.mem_append_right _ (List.mem_of_getElem? (l := tables_1_6) (i := 12) rfl))))))) rfl
set_option maxRecDepth 100000 in
theorem zl_580 : Cond.selects "RiverDiggersModel" yX9_marks yX9_marks ∈ zi_G := zi_inG (List.mem_append_left _ (List.mem_of_getElem? (i := 54) (by decide +kernel))) rfl
set_option maxRecDepth 100000 in
theorem zl_581 : Cond.methodLink "RiverDiggersModel" 289 yX9_hasBy ∈ zi_G := zi_inG (List.mem_append_right _ (List.mem_append_right _ (List.mem_append_right _ (List.mem_append_right _ (List.mem_append_right _ (List.mem_append_right _ (List.mem_of_getElem? (l := tables_1_6) (i := 6) rfl))))))) rfl
set_option maxRecDepth 100000 in
theorem zl_582 : Cond.instanceMethod yX9_hasBy ∈ zi_G := zi_inG (List.mem_append_right _ (List.mem_append_right _ (List.mem_append_right _ (List.mem_append_right _ (List.mem_append_right _ (List.mem_append_right _ (List.mem_of_getElem? (l := tables_1_6) (i := 8) rfl))))))) rfl
set_option maxRecDepth 100000 in
theorem zl_583 : Cond.selects "RiverDiggersModel" yX9_hasBy yX9_hasBy ∈ zi_G := zi_inG (List.mem_append_left _ (List.mem_of_getElem? (i := 53) (by decide +kernel))) rfl
set_option maxRecDepth 100000 in
theorem zl_584 : Cond.methodLink "RiverDiggersModel" 292 yX9_timesOf ∈ zi_G := zi_inG (List.mem_append_right _ (List.mem_append_right _ (List.mem_append_right _ (List.mem_append_right _ (List.mem_append_right _ (List.mem_append_right _ (List.mem_of_getElem? (l := tables_1_6) (i := 48) rfl))))))) rfl
set_option maxRecDepth 100000 in
theorem zl_585 : Cond.static yX9_timesOf ∈ zi_G := zi_inG (List.mem_append_right _ (List.mem_append_right _ (List.mem_append_right _ (List.mem_append_right _ (List.mem_append_right _ (List.mem_append_right _ (List.mem_of_getElem? (l := tables_1_6) (i := 49) rfl))))))) rfl
set_option maxRecDepth 100000 in
theorem zl_586 : Cond.methodLink "RiverDiggersModel" 295 yX9_yearOf ∈ zi_G := zi_inG (List.mem_append_right _ (List.mem_append_right _ (List.mem_append_right _ (List.mem_append_right _ (List.mem_append_right _ (List.mem_append_right _ (List.mem_of_getElem? (l := tables_1_6) (i := 67) rfl))))))) rfl
set_option maxRecDepth 100000 in
theorem zl_587 : Cond.instanceMethod yX9_yearOf ∈ zi_G := zi_inG (List.mem_append_right _ (List.mem_append_right _ (List.mem_append_right _ (List.mem_append_right _ (List.mem_append_right _ (List.mem_append_right _ (List.mem_of_getElem? (l := tables_1_6) (i := 69) rfl))))))) rfl
set_option maxRecDepth 100000 in
theorem zl_588 : Cond.selects "RiverDiggersModel" yX9_yearOf yX9_yearOf ∈ zi_G := zi_inG (List.mem_append_left _ (List.mem_of_getElem? (i := 62) (by decide +kernel))) rfl
set_option maxRecDepth 100000 in
theorem zl_589 : Cond.methodLink "RiverDiggersModel" 299 yX9_enters ∈ zi_G := zi_inG (List.mem_append_right _ (List.mem_append_right _ (List.mem_append_right _ (List.mem_append_right _ (List.mem_append_right _ (List.mem_append_right _ (List.mem_of_getElem? (l := tables_1_6) (i := 40) rfl))))))) rfl
set_option maxRecDepth 100000 in
theorem zl_590 : Cond.instanceMethod yX9_enters ∈ zi_G := zi_inG (List.mem_append_right _ (List.mem_append_right _ (List.mem_append_right _ (List.mem_append_right _ (List.mem_append_right _ (List.mem_append_right _ (List.mem_of_getElem? (l := tables_1_6) (i := 42) rfl))))))) rfl
set_option maxRecDepth 100000 in
theorem zl_591 : Cond.selects "RiverDiggersModel" yX9_enters yX9_enters ∈ zi_G := zi_inG (List.mem_append_left _ (List.mem_of_getElem? (i := 57) (by decide +kernel))) rfl
set_option maxRecDepth 100000 in
theorem zl_592 : Cond.methodLink "RiverDiggersModel" 303 yX9_leaves ∈ zi_G := zi_inG (List.mem_append_right _ (List.mem_append_right _ (List.mem_append_right _ (List.mem_append_right _ (List.mem_append_right _ (List.mem_append_right _ (List.mem_of_getElem? (l := tables_1_6) (i := 44) rfl))))))) rfl
set_option maxRecDepth 100000 in
theorem zl_593 : Cond.instanceMethod yX9_leaves ∈ zi_G := zi_inG (List.mem_append_right _ (List.mem_append_right _ (List.mem_append_right _ (List.mem_append_right _ (List.mem_append_right _ (List.mem_append_right _ (List.mem_of_getElem? (l := tables_1_6) (i := 46) rfl))))))) rfl
set_option maxRecDepth 100000 in
theorem zl_594 : Cond.selects "RiverDiggersModel" yX9_leaves yX9_leaves ∈ zi_G := zi_inG (List.mem_append_left _ (List.mem_of_getElem? (i := 58) (by decide +kernel))) rfl
set_option maxRecDepth 100000 in
theorem zl_595 : Cond.constantLong "RiverDiggersModel" 308 (12) ∈ zi_G := zi_inG (List.mem_append_right _ (List.mem_append_right _ (List.mem_append_right _ (List.mem_append_right _ (List.mem_append_right _ (List.mem_append_right _ (List.mem_of_getElem? (l := tables_1_6) (i := 35) rfl))))))) rfl
set_option maxRecDepth 100000 in
theorem zl_596 : Cond.constantLong "RiverDiggersModel" 306 (10) ∈ zi_G := zi_inG (List.mem_append_right _ (List.mem_append_right _ (List.mem_append_right _ (List.mem_append_right _ (List.mem_append_right _ (List.mem_append_right _ (List.mem_of_getElem? (l := tables_1_6) (i := 34) rfl))))))) rfl
set_option maxRecDepth 100000 in
theorem zl_597 : Cond.methodLink "RiverDiggersModel" 310 yX9_isBrought ∈ zi_G := zi_inG (List.mem_append_right _ (List.mem_append_right _ (List.mem_append_right _ (List.mem_append_right _ (List.mem_append_right _ (List.mem_append_right _ (List.mem_of_getElem? (l := tables_1_6) (i := 36) rfl))))))) rfl
set_option maxRecDepth 100000 in
theorem zl_598 : Cond.instanceMethod yX9_isBrought ∈ zi_G := zi_inG (List.mem_append_right _ (List.mem_append_right _ (List.mem_append_right _ (List.mem_append_right _ (List.mem_append_right _ (List.mem_append_right _ (List.mem_of_getElem? (l := tables_1_6) (i := 38) rfl))))))) rfl
set_option maxRecDepth 100000 in
theorem zl_599 : Cond.selects "RiverDiggersModel" yX9_isBrought yX9_isBrought ∈ zi_G := zi_inG (List.mem_append_left _ (List.mem_of_getElem? (i := 56) (by decide +kernel))) rfl
set_option maxRecDepth 100000 in
theorem zl_600 : Cond.methodLink "RiverDiggersModel" 313 yX9_findOptions ∈ zi_G := zi_inG (List.mem_append_right _ (List.mem_append_right _ (List.mem_append_right _ (List.mem_append_right _ (List.mem_append_right _ (List.mem_append_right _ (List.mem_of_getElem? (l := tables_1_6) (i := 55) rfl))))))) rfl
set_option maxRecDepth 100000 in
theorem zl_601 : Cond.instanceMethod yX9_findOptions ∈ zi_G := zi_inG (List.mem_append_right _ (List.mem_append_right _ (List.mem_append_right _ (List.mem_append_right _ (List.mem_append_right _ (List.mem_append_right _ (List.mem_of_getElem? (l := tables_1_6) (i := 57) rfl))))))) rfl
set_option maxRecDepth 100000 in
theorem zl_602 : Cond.selects "RiverDiggersModel" yX9_findOptions yX9_findOptions ∈ zi_G := zi_inG (List.mem_append_left _ (List.mem_of_getElem? (i := 59) (by decide +kernel))) rfl
set_option maxRecDepth 100000 in
theorem zl_603 : Cond.methodLink "RiverDiggersModel" 316 yX9_allOptions ∈ zi_G := zi_inG (List.mem_append_right _ (List.mem_append_right _ (List.mem_append_right _ (List.mem_append_right _ (List.mem_append_right _ (List.mem_append_right _ (List.mem_of_getElem? (l := tables_1_6) (i := 59) rfl))))))) rfl
set_option maxRecDepth 100000 in
theorem zl_604 : Cond.instanceMethod yX9_allOptions ∈ zi_G := zi_inG (List.mem_append_right _ (List.mem_append_right _ (List.mem_append_right _ (List.mem_append_right _ (List.mem_append_right _ (List.mem_append_right _ (List.mem_of_getElem? (l := tables_1_6) (i := 61) rfl))))))) rfl
set_option maxRecDepth 100000 in
theorem zl_605 : Cond.selects "RiverDiggersModel" yX9_allOptions yX9_allOptions ∈ zi_G := zi_inG (List.mem_append_left _ (List.mem_of_getElem? (i := 60) (by decide +kernel))) rfl
set_option maxRecDepth 100000 in
theorem zl_606 : Cond.methodLink "RiverDiggersModel" 322 yX9_bedBy ∈ zi_G := zi_inG (List.mem_append_right _ (List.mem_append_right _ (List.mem_append_right _ (List.mem_append_right _ (List.mem_append_right _ (List.mem_append_right _ (List.mem_of_getElem? (l := tables_1_6) (i := 71) rfl))))))) rfl
set_option maxRecDepth 100000 in
theorem zl_607 : Cond.instanceMethod yX9_bedBy ∈ zi_G := zi_inG (List.mem_append_right _ (List.mem_append_right _ (List.mem_append_right _ (List.mem_append_right _ (List.mem_append_right _ (List.mem_append_right _ (List.mem_of_getElem? (l := tables_1_6) (i := 73) rfl))))))) rfl
set_option maxRecDepth 100000 in
theorem zl_608 : Cond.selects "RiverDiggersModel" yX9_bedBy yX9_bedBy ∈ zi_G := zi_inG (List.mem_append_left _ (List.mem_of_getElem? (i := 63) (by decide +kernel))) rfl
set_option maxRecDepth 100000 in
theorem zl_609 : Cond.methodLink "RiverDiggersModel" 319 yX9_yearAt ∈ zi_G := zi_inG (List.mem_append_right _ (List.mem_append_right _ (List.mem_append_right _ (List.mem_append_right _ (List.mem_append_right _ (List.mem_append_right _ (List.mem_of_getElem? (l := tables_1_6) (i := 63) rfl))))))) rfl
set_option maxRecDepth 100000 in
theorem zl_610 : Cond.instanceMethod yX9_yearAt ∈ zi_G := zi_inG (List.mem_append_right _ (List.mem_append_right _ (List.mem_append_right _ (List.mem_append_right _ (List.mem_append_right _ (List.mem_append_right _ (List.mem_of_getElem? (l := tables_1_6) (i := 65) rfl))))))) rfl
set_option maxRecDepth 100000 in
theorem zl_611 : Cond.selects "RiverDiggersModel" yX9_yearAt yX9_yearAt ∈ zi_G := zi_inG (List.mem_append_left _ (List.mem_of_getElem? (i := 61) (by decide +kernel))) rfl
set_option maxRecDepth 100000 in
theorem zl_612 : Cond.methodLink "RiverDiggersModel" 325 yX9_cutsOf ∈ zi_G := zi_inG (List.mem_append_right _ (List.mem_append_right _ (List.mem_append_right _ (List.mem_append_right _ (List.mem_append_right _ (List.mem_append_right _ (List.mem_of_getElem? (l := tables_1_6) (i := 75) rfl))))))) rfl
set_option maxRecDepth 100000 in
theorem zl_613 : Cond.static yX9_cutsOf ∈ zi_G := zi_inG (List.mem_append_right _ (List.mem_append_right _ (List.mem_append_right _ (List.mem_append_right _ (List.mem_append_right _ (List.mem_append_right _ (List.mem_of_getElem? (l := tables_1_6) (i := 76) rfl))))))) rfl
set_option maxRecDepth 100000 in
theorem zl_614 : Cond.methodLink "RiverDiggersModel" 328 yX9_lastOf ∈ zi_G := zi_inG (List.mem_append_right _ (List.mem_append_right _ (List.mem_append_right _ (List.mem_append_right _ (List.mem_append_right _ (List.mem_append_right _ (List.mem_of_getElem? (l := tables_1_6) (i := 90) rfl))))))) rfl
set_option maxRecDepth 100000 in
theorem zl_615 : Cond.instanceMethod yX9_lastOf ∈ zi_G := zi_inG (List.mem_append_right _ (List.mem_append_right _ (List.mem_append_right _ (List.mem_append_right _ (List.mem_append_right _ (List.mem_append_right _ (List.mem_of_getElem? (l := tables_1_6) (i := 92) rfl))))))) rfl
set_option maxRecDepth 100000 in
theorem zl_616 : Cond.selects "RiverDiggersModel" yX9_lastOf yX9_lastOf ∈ zi_G := zi_inG (List.mem_append_left _ (List.mem_of_getElem? (i := 66) (by decide +kernel))) rfl
set_option maxRecDepth 100000 in
theorem zl_617 : Cond.methodLink "RiverDiggersModel" 331 yX9_secondOf ∈ zi_G := zi_inG (List.mem_append_right _ (List.mem_append_right _ (List.mem_append_right _ (List.mem_append_right _ (List.mem_append_right _ (List.mem_append_right _ (List.mem_of_getElem? (l := tables_1_6) (i := 86) rfl))))))) rfl
set_option maxRecDepth 100000 in
theorem zl_618 : Cond.instanceMethod yX9_secondOf ∈ zi_G := zi_inG (List.mem_append_right _ (List.mem_append_right _ (List.mem_append_right _ (List.mem_append_right _ (List.mem_append_right _ (List.mem_append_right _ (List.mem_of_getElem? (l := tables_1_6) (i := 88) rfl))))))) rfl
set_option maxRecDepth 100000 in
theorem zl_619 : Cond.selects "RiverDiggersModel" yX9_secondOf yX9_secondOf ∈ zi_G := zi_inG (List.mem_append_left _ (List.mem_of_getElem? (i := 65) (by decide +kernel))) rfl
set_option maxRecDepth 100000 in
theorem zl_620 : Cond.methodLink "RiverDiggersModel" 334 yX9_selfishYear ∈ zi_G := zi_inG (List.mem_append_right _ (List.mem_append_right _ (List.mem_append_right _ (List.mem_append_right _ (List.mem_append_right _ (List.mem_append_right _ (List.mem_of_getElem? (l := tables_1_6) (i := 82) rfl))))))) rfl
set_option maxRecDepth 100000 in
theorem zl_621 : Cond.instanceMethod yX9_selfishYear ∈ zi_G := zi_inG (List.mem_append_right _ (List.mem_append_right _ (List.mem_append_right _ (List.mem_append_right _ (List.mem_append_right _ (List.mem_append_right _ (List.mem_of_getElem? (l := tables_1_6) (i := 84) rfl))))))) rfl
set_option maxRecDepth 100000 in
theorem zl_622 : Cond.selects "RiverDiggersModel" yX9_selfishYear yX9_selfishYear ∈ zi_G := zi_inG (List.mem_append_left _ (List.mem_of_getElem? (i := 64) (by decide +kernel))) rfl
set_option maxRecDepth 100000 in
theorem zl_623 : Cond.methodLink "RiverDiggersModel" 337 yX9_breaksOf ∈ zi_G := zi_inG (List.mem_append_right _ (List.mem_append_right _ (List.mem_append_right _ (List.mem_append_right _ (List.mem_append_right _ (List.mem_append_right _ (List.mem_of_getElem? (l := tables_1_6) (i := 98) rfl))))))) rfl
set_option maxRecDepth 100000 in
theorem zl_624 : Cond.instanceMethod yX9_breaksOf ∈ zi_G := zi_inG (List.mem_append_right _ (List.mem_append_right _ (List.mem_append_right _ (List.mem_append_right _ (List.mem_append_right _ (List.mem_append_right _ (List.mem_of_getElem? (l := tables_1_6) (i := 100) rfl))))))) rfl
set_option maxRecDepth 100000 in
theorem zl_625 : Cond.selects "RiverDiggersModel" yX9_breaksOf yX9_breaksOf ∈ zi_G := zi_inG (List.mem_append_left _ (List.mem_of_getElem? (i := 67) (by decide +kernel))) rfl
set_option maxRecDepth 100000 in
theorem zl_626 : Cond.methodLink "RiverDiggersModel" 340 yX9_areAlike ∈ zi_G := zi_inG (List.mem_append_right _ (List.mem_append_right _ (List.mem_append_right _ (List.mem_append_right _ (List.mem_append_right _ (List.mem_append_right _ (List.mem_of_getElem? (l := tables_1_6) (i := 114) rfl))))))) rfl
set_option maxRecDepth 100000 in
theorem zl_627 : Cond.instanceMethod yX9_areAlike ∈ zi_G := zi_inG (List.mem_append_right _ (List.mem_append_right _ (List.mem_append_right _ (List.mem_append_right _ (List.mem_append_right _ (List.mem_append_right _ (List.mem_of_getElem? (l := tables_1_6) (i := 116) rfl))))))) rfl
set_option maxRecDepth 100000 in
theorem zl_628 : Cond.selects "RiverDiggersModel" yX9_areAlike yX9_areAlike ∈ zi_G := zi_inG (List.mem_append_left _ (List.mem_of_getElem? (i := 68) (by decide +kernel))) rfl
set_option maxRecDepth 100000 in
theorem zl_629 : Cond.constantLong "RiverDiggersModel" 343 (-1) ∈ zi_G := zi_inG (List.mem_append_right _ (List.mem_append_right _ (List.mem_append_right _ (List.mem_append_right _ (List.mem_append_right _ (List.mem_append_right _ (List.mem_of_getElem? (l := tables_1_6) (i := 122) rfl))))))) rfl
set_option maxRecDepth 100000 in
theorem zl_630 : Cond.methodLink "RiverDiggersModel" 345 yX9_common ∈ zi_G := zi_inG (List.mem_append_right _ (List.mem_append_right _ (List.mem_append_right _ (List.mem_append_right _ (List.mem_append_right _ (List.mem_append_right _ (List.mem_of_getElem? (l := tables_1_6) (i := 123) rfl))))))) rfl
set_option maxRecDepth 100000 in
theorem zl_631 : Cond.static yX9_common ∈ zi_G := zi_inG (List.mem_append_right _ (List.mem_append_right _ (List.mem_append_right _ (List.mem_append_right _ (List.mem_append_right _ (List.mem_append_right _ (List.mem_of_getElem? (l := tables_1_6) (i := 124) rfl))))))) rfl
set_option maxRecDepth 100000 in
theorem zl_632 : Cond.methodLink "RiverDiggersModel" 349 yX9_isSo ∈ zi_G := zi_inG (List.mem_append_right _ (List.mem_append_right _ (List.mem_append_right _ (List.mem_append_right _ (List.mem_append_right _ (List.mem_append_right _ (List.mem_of_getElem? (l := tables_1_6) (i := 138) rfl))))))) rfl
set_option maxRecDepth 100000 in
theorem zl_633 : Cond.instanceMethod yX9_isSo ∈ zi_G := zi_inG (List.mem_append_right _ (List.mem_append_right _ (List.mem_append_right _ (List.mem_append_right _ (List.mem_append_right _ (List.mem_append_right _ (List.mem_of_getElem? (l := tables_1_6) (i := 140) rfl))))))) rfl
set_option maxRecDepth 100000 in
theorem zl_634 : Cond.selects "RiverDiggersModel" yX9_isSo yX9_isSo ∈ zi_G := zi_inG (List.mem_append_left _ (List.mem_of_getElem? (i := 69) (by decide +kernel))) rfl
set_option maxRecDepth 100000 in
theorem zl_635 : Cond.methodLink "RiverDiggersModel" 352 yX9_cutters ∈ zi_G := zi_inG (List.mem_append_right _ (List.mem_append_right _ (List.mem_append_right _ (List.mem_append_right _ (List.mem_append_right _ (List.mem_append_right _ (List.mem_of_getElem? (l := tables_1_6) (i := 142) rfl))))))) rfl
set_option maxRecDepth 100000 in
theorem zl_636 : Cond.static yX9_cutters ∈ zi_G := zi_inG (List.mem_append_right _ (List.mem_append_right _ (List.mem_append_right _ (List.mem_append_right _ (List.mem_append_right _ (List.mem_append_right _ (List.mem_of_getElem? (l := tables_1_6) (i := 143) rfl))))))) rfl
set_option maxRecDepth 100000 in
theorem zl_637 : Cond.methodLink "RiverDiggersModel" 355 yX9_copies ∈ zi_G := zi_inG (List.mem_append_right _ (List.mem_append_right _ (List.mem_append_right _ (List.mem_append_right _ (List.mem_append_right _ (List.mem_append_right _ (List.mem_of_getElem? (l := tables_1_6) (i := 149) rfl))))))) rfl
set_option maxRecDepth 100000 in
theorem zl_638 : Cond.instanceMethod yX9_copies ∈ zi_G := zi_inG (List.mem_append_right _ (List.mem_append_right _ (List.mem_append_right _ (List.mem_append_right _ (List.mem_append_right _ (List.mem_append_right _ (List.mem_of_getElem? (l := tables_1_6) (i := 151) rfl))))))) rfl
set_option maxRecDepth 100000 in
theorem zl_639 : Cond.selects "RiverDiggersModel" yX9_copies yX9_copies ∈ zi_G := zi_inG (List.mem_append_left _ (List.mem_of_getElem? (i := 70) (by decide +kernel))) rfl
set_option maxRecDepth 100000 in
theorem zl_640 : Cond.methodLink "RiverDiggersModel" 358 yX9_isSheet ∈ zi_G := zi_inG (List.mem_append_right _ (List.mem_append_right _ (List.mem_append_right _ (List.mem_append_right _ (List.mem_append_right _ (List.mem_append_right _ (List.mem_of_getElem? (l := tables_1_6) (i := 161) rfl))))))) rfl
set_option maxRecDepth 100000 in
theorem zl_641 : Cond.static yX9_isSheet ∈ zi_G := zi_inG (List.mem_append_right _ (List.mem_append_right _ (List.mem_append_right _ (List.mem_append_right _ (List.mem_append_right _ (List.mem_append_right _ (List.mem_of_getElem? (l := tables_1_6) (i := 162) rfl))))))) rfl
set_option maxRecDepth 100000 in
theorem zl_642 : Cond.constantLong "RiverDiggersModel" 361 (20) ∈ zi_G := zi_inG (List.mem_append_right _ (List.mem_append_right _ (List.mem_append_right _ (List.mem_append_right _ (List.mem_append_right _ (List.mem_append_right _ (List.mem_of_getElem? (l := tables_1_6) (i := 172) rfl))))))) rfl
set_option maxRecDepth 100000 in
theorem zl_643 : Cond.methodLink "RiverDiggersModel" 363 yX9_year ∈ zi_G := zi_inG (List.mem_append_right _ (List.mem_append_right _ (List.mem_append_right _ (List.mem_append_right _ (List.mem_append_right _ (List.mem_append_right _ (List.mem_of_getElem? (l := tables_1_6) (i := 173) rfl))))))) rfl
set_option maxRecDepth 100000 in
theorem zl_644 : Cond.instanceMethod yX9_year ∈ zi_G := zi_inG (List.mem_append_right _ (List.mem_append_right _ (List.mem_append_right _ (List.mem_append_right _ (List.mem_append_right _ (List.mem_append_left _ (List.mem_of_getElem? (l := tables_1_5) (i := 216) rfl))))))) rfl
set_option maxRecDepth 100000 in
theorem zl_645 : Cond.selects "RiverDiggersModel" yX9_year yX9_year ∈ zi_G := zi_inG (List.mem_append_right _ (List.mem_append_right _ (List.mem_append_right _ (List.mem_append_right _ (List.mem_append_right _ (List.mem_append_left _ (List.mem_of_getElem? (l := tables_1_5) (i := 217) rfl))))))) rfl
set_option maxRecDepth 100000 in
theorem zl_646 : Cond.fieldLink "RiverDiggersModel" 366 "RiverDiggersModel" "torn" "I" ∈ zi_G := zi_inG (List.mem_append_right _ (List.mem_append_right _ (List.mem_append_right _ (List.mem_append_right _ (List.mem_append_left _ (List.mem_of_getElem? (l := tables_1_4) (i := 194) rfl)))))) rfl
set_option maxRecDepth 100000 in
theorem zl_647 : Cond.constant "java/lang/Integer" 267 (252645135) ∈ zi_G := zi_inG (List.mem_append_right _ (List.mem_append_right _ (List.mem_append_right _ (List.mem_append_left _ (List.mem_of_getElem? (l := tables_1_3) (i := 32) rfl))))) rfl
set_option maxRecDepth 100000 in
theorem zl_648 : Cond.constant "java/lang/Integer" 266 (858993459) ∈ zi_G := zi_inG (List.mem_append_right _ (List.mem_append_right _ (List.mem_append_right _ (List.mem_append_left _ (List.mem_of_getElem? (l := tables_1_3) (i := 31) rfl))))) rfl
set_option maxRecDepth 100000 in
theorem zl_649 : Cond.constant "java/lang/Integer" 265 (1431655765) ∈ zi_G := zi_inG (List.mem_append_right _ (List.mem_append_right _ (List.mem_append_right _ (List.mem_append_left _ (List.mem_of_getElem? (l := tables_1_3) (i := 30) rfl))))) rfl
set_option maxRecDepth 100000 in
theorem zl_650 : Cond.methodLink "RiverDiggersLaw" 12 yX9_init ∈ zi_G := zi_inG (List.mem_append_right _ (List.mem_append_right _ (List.mem_append_right _ (List.mem_append_right _ (List.mem_append_left _ (List.mem_of_getElem? (l := tables_1_4) (i := 137) rfl)))))) rfl
set_option maxRecDepth 100000 in
theorem zl_651 : Cond.instanceMethod yX9_init ∈ zi_G := zi_inG (List.mem_append_right _ (List.mem_append_right _ (List.mem_append_right _ (List.mem_append_right _ (List.mem_append_left _ (List.mem_of_getElem? (l := tables_1_4) (i := 138) rfl)))))) rfl
set_option maxRecDepth 100000 in
theorem zl_652 : Cond.classLink "RiverDiggersLaw" 10 "RiverDiggersModel" ∈ zi_G := zi_inG (List.mem_append_right _ (List.mem_append_right _ (List.mem_append_right _ (List.mem_append_right _ (List.mem_append_left _ (List.mem_of_getElem? (l := tables_1_4) (i := 135) rfl)))))) rfl
set_option maxRecDepth 100000 in
theorem zl_653 : Cond.instantiable "RiverDiggersModel" 47 ∈ zi_G := zi_inG (List.mem_append_right _ (List.mem_append_right _ (List.mem_append_right _ (List.mem_append_right _ (List.mem_append_left _ (List.mem_of_getElem? (l := tables_1_4) (i := 136) rfl)))))) rfl
set_option maxRecDepth 100000 in
theorem zl_654 : Cond.initialized "RiverDiggersModel" ∈ zi_G := zi_inG (List.mem_append_right _ (List.mem_append_left _ (List.mem_of_getElem? (l := tables_1_1) (i := 12) rfl))) rfl
set_option maxRecDepth 100000 in
theorem zl_655 : Cond.methodLink "RiverDiggersLaw" 9 yX8_init ∈ zi_G := zi_inG (List.mem_append_right _ (List.mem_append_left _ (List.mem_of_getElem? (l := tables_1_1) (i := 20) rfl))) rfl
set_option maxRecDepth 100000 in
theorem zl_656 : Cond.instanceMethod yX8_init ∈ zi_G := zi_inG (List.mem_append_right _ (List.mem_append_left _ (List.mem_of_getElem? (l := tables_1_1) (i := 21) rfl))) rfl
set_option maxRecDepth 100000 in
theorem zl_657 : Cond.classLink "RiverDiggersLaw" 7 "RiverDiggers" ∈ zi_G := zi_inG (List.mem_append_right _ (List.mem_append_left _ (List.mem_of_getElem? (l := tables_1_1) (i := 18) rfl))) rfl
set_option maxRecDepth 100000 in
theorem zl_658 : Cond.instantiable "RiverDiggers" 14 ∈ zi_G := zi_inG (List.mem_append_right _ (List.mem_append_left _ (List.mem_of_getElem? (l := tables_1_1) (i := 19) rfl))) rfl
set_option maxRecDepth 100000 in
theorem zl_659 : Cond.initialized "RiverDiggers" ∈ zi_G := zi_inG (List.mem_append_right _ (List.mem_append_left _ (List.mem_of_getElem? (l := tables_1_1) (i := 1) rfl))) rfl
set_option maxRecDepth 100000 in
theorem zl_660 : Cond.methodLink "RiverDiggersLaw" 19 yX9_feed ∈ zi_G := zi_inG (List.mem_append_right _ (List.mem_append_right _ (List.mem_append_right _ (List.mem_append_right _ (List.mem_append_right _ (List.mem_append_left _ (List.mem_of_getElem? (l := tables_1_5) (i := 52) rfl))))))) rfl
set_option maxRecDepth 100000 in
theorem zl_661 : Cond.instanceMethod yX9_feed ∈ zi_G := zi_inG (List.mem_append_right _ (List.mem_append_right _ (List.mem_append_right _ (List.mem_append_right _ (List.mem_append_right _ (List.mem_append_left _ (List.mem_of_getElem? (l := tables_1_5) (i := 53) rfl))))))) rfl
set_option maxRecDepth 100000 in
theorem zl_662 : Cond.selects "RiverDiggersModel" yX9_feed yX9_feed ∈ zi_G := zi_inG (List.mem_append_right _ (List.mem_append_right _ (List.mem_append_right _ (List.mem_append_right _ (List.mem_append_right _ (List.mem_append_left _ (List.mem_of_getElem? (l := tables_1_5) (i := 54) rfl))))))) rfl
set_option maxRecDepth 100000 in
theorem zl_663 : Cond.constantLong "RiverDiggersLaw" 13 (4294967295) ∈ zi_G := zi_inG (List.mem_append_right _ (List.mem_append_right _ (List.mem_append_right _ (List.mem_append_right _ (List.mem_append_right _ (List.mem_append_right _ (List.mem_of_getElem? (l := tables_1_6) (i := 182) rfl))))))) rfl
set_option maxRecDepth 100000 in
theorem zl_664 : Cond.methodLink "RiverDiggersLaw" 15 yX8_feed ∈ zi_G := zi_inG (List.mem_append_right _ (List.mem_append_right _ (List.mem_append_left _ (List.mem_of_getElem? (l := tables_1_2) (i := 127) rfl)))) rfl
set_option maxRecDepth 100000 in
theorem zl_665 : Cond.instanceMethod yX8_feed ∈ zi_G := zi_inG (List.mem_append_right _ (List.mem_append_right _ (List.mem_append_left _ (List.mem_of_getElem? (l := tables_1_2) (i := 128) rfl)))) rfl
set_option maxRecDepth 100000 in
theorem zl_666 : Cond.selects "RiverDiggers" yX8_feed yX8_feed ∈ zi_G := zi_inG (List.mem_append_right _ (List.mem_append_right _ (List.mem_append_left _ (List.mem_of_getElem? (l := tables_1_2) (i := 129) rfl)))) rfl
set_option maxRecDepth 100000 in
theorem zl_667 : Cond.methodLink "RiverDiggersLaw" 24 yX9_end ∈ zi_G := zi_inG (List.mem_append_right _ (List.mem_append_right _ (List.mem_append_right _ (List.mem_append_right _ (List.mem_append_right _ (List.mem_append_left _ (List.mem_of_getElem? (l := tables_1_5) (i := 57) rfl))))))) rfl
set_option maxRecDepth 100000 in
theorem zl_668 : Cond.instanceMethod yX9_end ∈ zi_G := zi_inG (List.mem_append_right _ (List.mem_append_right _ (List.mem_append_right _ (List.mem_append_right _ (List.mem_append_right _ (List.mem_append_left _ (List.mem_of_getElem? (l := tables_1_5) (i := 58) rfl))))))) rfl
set_option maxRecDepth 100000 in
theorem zl_669 : Cond.selects "RiverDiggersModel" yX9_end yX9_end ∈ zi_G := zi_inG (List.mem_append_right _ (List.mem_append_right _ (List.mem_append_right _ (List.mem_append_right _ (List.mem_append_right _ (List.mem_append_left _ (List.mem_of_getElem? (l := tables_1_5) (i := 59) rfl))))))) rfl
set_option maxRecDepth 100000 in
theorem zl_670 : Cond.methodLink "RiverDiggersLaw" 20 yX8_end ∈ zi_G := zi_inG (List.mem_append_right _ (List.mem_append_right _ (List.mem_append_left _ (List.mem_of_getElem? (l := tables_1_2) (i := 135) rfl)))) rfl
set_option maxRecDepth 100000 in
theorem zl_671 : Cond.instanceMethod yX8_end ∈ zi_G := zi_inG (List.mem_append_right _ (List.mem_append_right _ (List.mem_append_left _ (List.mem_of_getElem? (l := tables_1_2) (i := 136) rfl)))) rfl
set_option maxRecDepth 100000 in
theorem zl_672 : Cond.selects "RiverDiggers" yX8_end yX8_end ∈ zi_G := zi_inG (List.mem_append_right _ (List.mem_append_right _ (List.mem_append_left _ (List.mem_of_getElem? (l := tables_1_2) (i := 137) rfl)))) rfl
set_option maxRecDepth 100000 in
theorem zl_673 : Cond.methodLink "RiverDiggersLaw" 29 yX9_text ∈ zi_G := zi_inG (List.mem_append_right _ (List.mem_append_right _ (List.mem_append_right _ (List.mem_append_right _ (List.mem_append_right _ (List.mem_append_left _ (List.mem_of_getElem? (l := tables_1_5) (i := 64) rfl))))))) rfl
set_option maxRecDepth 100000 in
theorem zl_674 : Cond.instanceMethod yX9_text ∈ zi_G := zi_inG (List.mem_append_right _ (List.mem_append_right _ (List.mem_append_right _ (List.mem_append_right _ (List.mem_append_right _ (List.mem_append_left _ (List.mem_of_getElem? (l := tables_1_5) (i := 65) rfl))))))) rfl
set_option maxRecDepth 100000 in
theorem zl_675 : Cond.selects "RiverDiggersModel" yX9_text yX9_text ∈ zi_G := zi_inG (List.mem_append_right _ (List.mem_append_right _ (List.mem_append_right _ (List.mem_append_right _ (List.mem_append_right _ (List.mem_append_left _ (List.mem_of_getElem? (l := tables_1_5) (i := 66) rfl))))))) rfl
set_option maxRecDepth 100000 in
theorem zl_676 : Cond.methodLink "RiverDiggersLaw" 25 yX8_text ∈ zi_G := zi_inG (List.mem_append_right _ (List.mem_append_right _ (List.mem_append_left _ (List.mem_of_getElem? (l := tables_1_2) (i := 139) rfl)))) rfl
set_option maxRecDepth 100000 in
theorem zl_677 : Cond.instanceMethod yX8_text ∈ zi_G := zi_inG (List.mem_append_right _ (List.mem_append_right _ (List.mem_append_left _ (List.mem_of_getElem? (l := tables_1_2) (i := 140) rfl)))) rfl
set_option maxRecDepth 100000 in
theorem zl_678 : Cond.selects "RiverDiggers" yX8_text yX8_text ∈ zi_G := zi_inG (List.mem_append_right _ (List.mem_append_right _ (List.mem_append_left _ (List.mem_of_getElem? (l := tables_1_2) (i := 141) rfl)))) rfl
set_option maxRecDepth 100000 in
theorem zl_679 : Cond.methodLink "RiverDiggersLaw" 33 yX9_fault ∈ zi_G := zi_inG (List.mem_append_right _ (List.mem_append_right _ (List.mem_append_right _ (List.mem_append_right _ (List.mem_append_right _ (List.mem_append_left _ (List.mem_of_getElem? (l := tables_1_5) (i := 128) rfl))))))) rfl
set_option maxRecDepth 100000 in
theorem zl_680 : Cond.instanceMethod yX9_fault ∈ zi_G := zi_inG (List.mem_append_right _ (List.mem_append_right _ (List.mem_append_right _ (List.mem_append_right _ (List.mem_append_right _ (List.mem_append_left _ (List.mem_of_getElem? (l := tables_1_5) (i := 129) rfl))))))) rfl
set_option maxRecDepth 100000 in
theorem zl_681 : Cond.selects "RiverDiggersModel" yX9_fault yX9_fault ∈ zi_G := zi_inG (List.mem_append_right _ (List.mem_append_right _ (List.mem_append_right _ (List.mem_append_right _ (List.mem_append_right _ (List.mem_append_left _ (List.mem_of_getElem? (l := tables_1_5) (i := 130) rfl))))))) rfl
set_option maxRecDepth 100000 in
theorem zl_682 : Cond.methodLink "RiverDiggersLaw" 30 yX8_fault ∈ zi_G := zi_inG (List.mem_append_right _ (List.mem_append_right _ (List.mem_append_right _ (List.mem_append_left _ (List.mem_of_getElem? (l := tables_1_3) (i := 51) rfl))))) rfl
set_option maxRecDepth 100000 in
theorem zl_683 : Cond.instanceMethod yX8_fault ∈ zi_G := zi_inG (List.mem_append_right _ (List.mem_append_right _ (List.mem_append_right _ (List.mem_append_left _ (List.mem_of_getElem? (l := tables_1_3) (i := 52) rfl))))) rfl
set_option maxRecDepth 100000 in
theorem zl_684 : Cond.selects "RiverDiggers" yX8_fault yX8_fault ∈ zi_G := zi_inG (List.mem_append_right _ (List.mem_append_right _ (List.mem_append_right _ (List.mem_append_left _ (List.mem_of_getElem? (l := tables_1_3) (i := 53) rfl))))) rfl
set_option maxRecDepth 100000 in
theorem zl_685 : Cond.methodLink "RiverDiggersLaw" 37 yX9_rule ∈ zi_G := zi_inG (List.mem_append_right _ (List.mem_append_right _ (List.mem_append_right _ (List.mem_append_right _ (List.mem_append_right _ (List.mem_append_left _ (List.mem_of_getElem? (l := tables_1_5) (i := 132) rfl))))))) rfl
set_option maxRecDepth 100000 in
theorem zl_686 : Cond.instanceMethod yX9_rule ∈ zi_G := zi_inG (List.mem_append_right _ (List.mem_append_right _ (List.mem_append_right _ (List.mem_append_right _ (List.mem_append_right _ (List.mem_append_left _ (List.mem_of_getElem? (l := tables_1_5) (i := 133) rfl))))))) rfl
set_option maxRecDepth 100000 in
theorem zl_687 : Cond.selects "RiverDiggersModel" yX9_rule yX9_rule ∈ zi_G := zi_inG (List.mem_append_right _ (List.mem_append_right _ (List.mem_append_right _ (List.mem_append_right _ (List.mem_append_right _ (List.mem_append_left _ (List.mem_of_getElem? (l := tables_1_5) (i := 134) rfl))))))) rfl
set_option maxRecDepth 100000 in
theorem zl_688 : Cond.methodLink "RiverDiggersLaw" 34 yX8_rule ∈ zi_G := zi_inG (List.mem_append_right _ (List.mem_append_right _ (List.mem_append_right _ (List.mem_append_left _ (List.mem_of_getElem? (l := tables_1_3) (i := 55) rfl))))) rfl
set_option maxRecDepth 100000 in
theorem zl_689 : Cond.instanceMethod yX8_rule ∈ zi_G := zi_inG (List.mem_append_right _ (List.mem_append_right _ (List.mem_append_right _ (List.mem_append_left _ (List.mem_of_getElem? (l := tables_1_3) (i := 56) rfl))))) rfl
set_option maxRecDepth 100000 in
theorem zl_690 : Cond.selects "RiverDiggers" yX8_rule yX8_rule ∈ zi_G := zi_inG (List.mem_append_right _ (List.mem_append_right _ (List.mem_append_right _ (List.mem_append_left _ (List.mem_of_getElem? (l := tables_1_3) (i := 57) rfl))))) rfl
set_option maxRecDepth 100000 in
theorem zl_691 : Cond.methodLink "RiverDiggersLaw" 42 yX9_cell ∈ zi_G := zi_inG (List.mem_append_right _ (List.mem_append_right _ (List.mem_append_right _ (List.mem_append_right _ (List.mem_append_right _ (List.mem_append_left _ (List.mem_of_getElem? (l := tables_1_5) (i := 136) rfl))))))) rfl
set_option maxRecDepth 100000 in
theorem zl_692 : Cond.instanceMethod yX9_cell ∈ zi_G := zi_inG (List.mem_append_right _ (List.mem_append_right _ (List.mem_append_right _ (List.mem_append_right _ (List.mem_append_right _ (List.mem_append_left _ (List.mem_of_getElem? (l := tables_1_5) (i := 137) rfl))))))) rfl
set_option maxRecDepth 100000 in
theorem zl_693 : Cond.selects "RiverDiggersModel" yX9_cell yX9_cell ∈ zi_G := zi_inG (List.mem_append_right _ (List.mem_append_right _ (List.mem_append_right _ (List.mem_append_right _ (List.mem_append_right _ (List.mem_append_left _ (List.mem_of_getElem? (l := tables_1_5) (i := 138) rfl))))))) rfl
set_option maxRecDepth 100000 in
theorem zl_694 : Cond.methodLink "RiverDiggersLaw" 38 yX8_cell ∈ zi_G := zi_inG (List.mem_append_right _ (List.mem_append_right _ (List.mem_append_right _ (List.mem_append_left _ (List.mem_of_getElem? (l := tables_1_3) (i := 59) rfl))))) rfl
set_option maxRecDepth 100000 in
theorem zl_695 : Cond.instanceMethod yX8_cell ∈ zi_G := zi_inG (List.mem_append_right _ (List.mem_append_right _ (List.mem_append_right _ (List.mem_append_left _ (List.mem_of_getElem? (l := tables_1_3) (i := 60) rfl))))) rfl
set_option maxRecDepth 100000 in
theorem zl_696 : Cond.selects "RiverDiggers" yX8_cell yX8_cell ∈ zi_G := zi_inG (List.mem_append_right _ (List.mem_append_right _ (List.mem_append_right _ (List.mem_append_left _ (List.mem_of_getElem? (l := tables_1_3) (i := 61) rfl))))) rfl
set_option maxRecDepth 100000 in
theorem zl_697 : Cond.methodLink "RiverDiggersLaw" 46 yX9_farm ∈ zi_G := zi_inG (List.mem_append_right _ (List.mem_append_right _ (List.mem_append_right _ (List.mem_append_right _ (List.mem_append_right _ (List.mem_append_left _ (List.mem_of_getElem? (l := tables_1_5) (i := 144) rfl))))))) rfl
set_option maxRecDepth 100000 in
theorem zl_698 : Cond.instanceMethod yX9_farm ∈ zi_G := zi_inG (List.mem_append_right _ (List.mem_append_right _ (List.mem_append_right _ (List.mem_append_right _ (List.mem_append_right _ (List.mem_append_left _ (List.mem_of_getElem? (l := tables_1_5) (i := 145) rfl))))))) rfl
set_option maxRecDepth 100000 in
theorem zl_699 : Cond.selects "RiverDiggersModel" yX9_farm yX9_farm ∈ zi_G := zi_inG (List.mem_append_right _ (List.mem_append_right _ (List.mem_append_right _ (List.mem_append_right _ (List.mem_append_right _ (List.mem_append_left _ (List.mem_of_getElem? (l := tables_1_5) (i := 146) rfl))))))) rfl
set_option maxRecDepth 100000 in
theorem zl_700 : Cond.methodLink "RiverDiggersLaw" 43 yX8_farm ∈ zi_G := zi_inG (List.mem_append_right _ (List.mem_append_right _ (List.mem_append_right _ (List.mem_append_left _ (List.mem_of_getElem? (l := tables_1_3) (i := 72) rfl))))) rfl
set_option maxRecDepth 100000 in
theorem zl_701 : Cond.instanceMethod yX8_farm ∈ zi_G := zi_inG (List.mem_append_right _ (List.mem_append_right _ (List.mem_append_right _ (List.mem_append_left _ (List.mem_of_getElem? (l := tables_1_3) (i := 73) rfl))))) rfl
set_option maxRecDepth 100000 in
theorem zl_702 : Cond.selects "RiverDiggers" yX8_farm yX8_farm ∈ zi_G := zi_inG (List.mem_append_right _ (List.mem_append_right _ (List.mem_append_right _ (List.mem_append_left _ (List.mem_of_getElem? (l := tables_1_3) (i := 74) rfl))))) rfl
set_option maxRecDepth 100000 in
theorem zl_703 : Cond.methodLink "RiverDiggersLaw" 50 yX9_bed ∈ zi_G := zi_inG (List.mem_append_right _ (List.mem_append_right _ (List.mem_append_right _ (List.mem_append_right _ (List.mem_append_right _ (List.mem_append_left _ (List.mem_of_getElem? (l := tables_1_5) (i := 184) rfl))))))) rfl
set_option maxRecDepth 100000 in
theorem zl_704 : Cond.instanceMethod yX9_bed ∈ zi_G := zi_inG (List.mem_append_right _ (List.mem_append_right _ (List.mem_append_right _ (List.mem_append_right _ (List.mem_append_right _ (List.mem_append_left _ (List.mem_of_getElem? (l := tables_1_5) (i := 185) rfl))))))) rfl
set_option maxRecDepth 100000 in
theorem zl_705 : Cond.selects "RiverDiggersModel" yX9_bed yX9_bed ∈ zi_G := zi_inG (List.mem_append_right _ (List.mem_append_right _ (List.mem_append_right _ (List.mem_append_right _ (List.mem_append_right _ (List.mem_append_left _ (List.mem_of_getElem? (l := tables_1_5) (i := 186) rfl))))))) rfl
set_option maxRecDepth 100000 in
theorem zl_706 : Cond.methodLink "RiverDiggersLaw" 47 yX8_bed ∈ zi_G := zi_inG (List.mem_append_right _ (List.mem_append_right _ (List.mem_append_right _ (List.mem_append_left _ (List.mem_of_getElem? (l := tables_1_3) (i := 95) rfl))))) rfl
set_option maxRecDepth 100000 in
theorem zl_707 : Cond.instanceMethod yX8_bed ∈ zi_G := zi_inG (List.mem_append_right _ (List.mem_append_right _ (List.mem_append_right _ (List.mem_append_left _ (List.mem_of_getElem? (l := tables_1_3) (i := 96) rfl))))) rfl
set_option maxRecDepth 100000 in
theorem zl_708 : Cond.selects "RiverDiggers" yX8_bed yX8_bed ∈ zi_G := zi_inG (List.mem_append_right _ (List.mem_append_right _ (List.mem_append_right _ (List.mem_append_left _ (List.mem_of_getElem? (l := tables_1_3) (i := 97) rfl))))) rfl
set_option maxRecDepth 100000 in
theorem zl_709 : Cond.methodLink "RiverDiggersLaw" 54 yX9_dam ∈ zi_G := zi_inG (List.mem_append_right _ (List.mem_append_right _ (List.mem_append_right _ (List.mem_append_right _ (List.mem_append_right _ (List.mem_append_left _ (List.mem_of_getElem? (l := tables_1_5) (i := 188) rfl))))))) rfl
set_option maxRecDepth 100000 in
theorem zl_710 : Cond.instanceMethod yX9_dam ∈ zi_G := zi_inG (List.mem_append_right _ (List.mem_append_right _ (List.mem_append_right _ (List.mem_append_right _ (List.mem_append_right _ (List.mem_append_left _ (List.mem_of_getElem? (l := tables_1_5) (i := 189) rfl))))))) rfl
set_option maxRecDepth 100000 in
theorem zl_711 : Cond.selects "RiverDiggersModel" yX9_dam yX9_dam ∈ zi_G := zi_inG (List.mem_append_right _ (List.mem_append_right _ (List.mem_append_right _ (List.mem_append_right _ (List.mem_append_right _ (List.mem_append_left _ (List.mem_of_getElem? (l := tables_1_5) (i := 190) rfl))))))) rfl
set_option maxRecDepth 100000 in
theorem zl_712 : Cond.methodLink "RiverDiggersLaw" 51 yX8_dam ∈ zi_G := zi_inG (List.mem_append_right _ (List.mem_append_right _ (List.mem_append_right _ (List.mem_append_left _ (List.mem_of_getElem? (l := tables_1_3) (i := 99) rfl))))) rfl
set_option maxRecDepth 100000 in
theorem zl_713 : Cond.instanceMethod yX8_dam ∈ zi_G := zi_inG (List.mem_append_right _ (List.mem_append_right _ (List.mem_append_right _ (List.mem_append_left _ (List.mem_of_getElem? (l := tables_1_3) (i := 100) rfl))))) rfl
set_option maxRecDepth 100000 in
theorem zl_714 : Cond.selects "RiverDiggers" yX8_dam yX8_dam ∈ zi_G := zi_inG (List.mem_append_right _ (List.mem_append_right _ (List.mem_append_right _ (List.mem_append_left _ (List.mem_of_getElem? (l := tables_1_3) (i := 101) rfl))))) rfl
set_option maxRecDepth 100000 in
theorem zl_715 : Cond.methodLink "RiverDiggersLaw" 58 yX9_move ∈ zi_G := zi_inG (List.mem_append_right _ (List.mem_append_right _ (List.mem_append_right _ (List.mem_append_right _ (List.mem_append_right _ (List.mem_append_left _ (List.mem_of_getElem? (l := tables_1_5) (i := 197) rfl))))))) rfl
set_option maxRecDepth 100000 in
theorem zl_716 : Cond.instanceMethod yX9_move ∈ zi_G := zi_inG (List.mem_append_right _ (List.mem_append_right _ (List.mem_append_right _ (List.mem_append_right _ (List.mem_append_right _ (List.mem_append_left _ (List.mem_of_getElem? (l := tables_1_5) (i := 198) rfl))))))) rfl
set_option maxRecDepth 100000 in
theorem zl_717 : Cond.selects "RiverDiggersModel" yX9_move yX9_move ∈ zi_G := zi_inG (List.mem_append_right _ (List.mem_append_right _ (List.mem_append_right _ (List.mem_append_right _ (List.mem_append_right _ (List.mem_append_left _ (List.mem_of_getElem? (l := tables_1_5) (i := 199) rfl))))))) rfl
set_option maxRecDepth 100000 in
theorem zl_718 : Cond.methodLink "RiverDiggersLaw" 55 yX8_move ∈ zi_G := zi_inG (List.mem_append_right _ (List.mem_append_right _ (List.mem_append_right _ (List.mem_append_left _ (List.mem_of_getElem? (l := tables_1_3) (i := 108) rfl))))) rfl
set_option maxRecDepth 100000 in
theorem zl_719 : Cond.instanceMethod yX8_move ∈ zi_G := zi_inG (List.mem_append_right _ (List.mem_append_right _ (List.mem_append_right _ (List.mem_append_left _ (List.mem_of_getElem? (l := tables_1_3) (i := 109) rfl))))) rfl
set_option maxRecDepth 100000 in
theorem zl_720 : Cond.selects "RiverDiggers" yX8_move yX8_move ∈ zi_G := zi_inG (List.mem_append_right _ (List.mem_append_right _ (List.mem_append_right _ (List.mem_append_left _ (List.mem_of_getElem? (l := tables_1_3) (i := 110) rfl))))) rfl
set_option maxRecDepth 100000 in
theorem zl_721 : Cond.methodLink "RiverDiggersLaw" 62 yX9_law ∈ zi_G := zi_inG (List.mem_append_right _ (List.mem_append_right _ (List.mem_append_right _ (List.mem_append_right _ (List.mem_append_right _ (List.mem_append_left _ (List.mem_of_getElem? (l := tables_1_5) (i := 201) rfl))))))) rfl
set_option maxRecDepth 100000 in
theorem zl_722 : Cond.instanceMethod yX9_law ∈ zi_G := zi_inG (List.mem_append_right _ (List.mem_append_right _ (List.mem_append_right _ (List.mem_append_right _ (List.mem_append_right _ (List.mem_append_left _ (List.mem_of_getElem? (l := tables_1_5) (i := 202) rfl))))))) rfl
set_option maxRecDepth 100000 in
theorem zl_723 : Cond.selects "RiverDiggersModel" yX9_law yX9_law ∈ zi_G := zi_inG (List.mem_append_right _ (List.mem_append_right _ (List.mem_append_right _ (List.mem_append_right _ (List.mem_append_right _ (List.mem_append_left _ (List.mem_of_getElem? (l := tables_1_5) (i := 203) rfl))))))) rfl
set_option maxRecDepth 100000 in
theorem zl_724 : Cond.methodLink "RiverDiggersLaw" 59 yX8_law ∈ zi_G := zi_inG (List.mem_append_right _ (List.mem_append_right _ (List.mem_append_right _ (List.mem_append_left _ (List.mem_of_getElem? (l := tables_1_3) (i := 112) rfl))))) rfl
set_option maxRecDepth 100000 in
theorem zl_725 : Cond.instanceMethod yX8_law ∈ zi_G := zi_inG (List.mem_append_right _ (List.mem_append_right _ (List.mem_append_right _ (List.mem_append_left _ (List.mem_of_getElem? (l := tables_1_3) (i := 113) rfl))))) rfl
set_option maxRecDepth 100000 in
theorem zl_726 : Cond.selects "RiverDiggers" yX8_law yX8_law ∈ zi_G := zi_inG (List.mem_append_right _ (List.mem_append_right _ (List.mem_append_right _ (List.mem_append_left _ (List.mem_of_getElem? (l := tables_1_3) (i := 114) rfl))))) rfl
set_option maxRecDepth 100000 in
theorem zl_727 : Cond.methodLink "RiverDiggersLaw" 63 yX8_silt ∈ zi_G := zi_inG (List.mem_append_right _ (List.mem_append_right _ (List.mem_append_right _ (List.mem_append_left _ (List.mem_of_getElem? (l := tables_1_3) (i := 116) rfl))))) rfl
set_option maxRecDepth 100000 in
theorem zl_728 : Cond.instanceMethod yX8_silt ∈ zi_G := zi_inG (List.mem_append_right _ (List.mem_append_right _ (List.mem_append_right _ (List.mem_append_left _ (List.mem_of_getElem? (l := tables_1_3) (i := 117) rfl))))) rfl
set_option maxRecDepth 100000 in
theorem zl_729 : Cond.selects "RiverDiggers" yX8_silt yX8_silt ∈ zi_G := zi_inG (List.mem_append_right _ (List.mem_append_right _ (List.mem_append_right _ (List.mem_append_left _ (List.mem_of_getElem? (l := tables_1_3) (i := 118) rfl))))) rfl
set_option maxRecDepth 100000 in
theorem zl_730 : Cond.methodLink "RiverDiggersLaw" 67 yX9_silt ∈ zi_G := zi_inG (List.mem_append_right _ (List.mem_append_right _ (List.mem_append_right _ (List.mem_append_right _ (List.mem_append_right _ (List.mem_append_left _ (List.mem_of_getElem? (l := tables_1_5) (i := 206) rfl))))))) rfl
set_option maxRecDepth 100000 in
theorem zl_731 : Cond.instanceMethod yX9_silt ∈ zi_G := zi_inG (List.mem_append_right _ (List.mem_append_right _ (List.mem_append_right _ (List.mem_append_right _ (List.mem_append_right _ (List.mem_append_left _ (List.mem_of_getElem? (l := tables_1_5) (i := 207) rfl))))))) rfl
set_option maxRecDepth 100000 in
theorem zl_732 : Cond.selects "RiverDiggersModel" yX9_silt yX9_silt ∈ zi_G := zi_inG (List.mem_append_right _ (List.mem_append_right _ (List.mem_append_right _ (List.mem_append_right _ (List.mem_append_right _ (List.mem_append_left _ (List.mem_of_getElem? (l := tables_1_5) (i := 208) rfl))))))) rfl
set_option maxRecDepth 100000 in
theorem zl_733 : Cond.methodLink "RiverDiggersLaw" 71 yX9_price ∈ zi_G := zi_inG (List.mem_append_right _ (List.mem_append_right _ (List.mem_append_right _ (List.mem_append_right _ (List.mem_append_right _ (List.mem_append_left _ (List.mem_of_getElem? (l := tables_1_5) (i := 210) rfl))))))) rfl
set_option maxRecDepth 100000 in
theorem zl_734 : Cond.instanceMethod yX9_price ∈ zi_G := zi_inG (List.mem_append_right _ (List.mem_append_right _ (List.mem_append_right _ (List.mem_append_right _ (List.mem_append_right _ (List.mem_append_left _ (List.mem_of_getElem? (l := tables_1_5) (i := 211) rfl))))))) rfl
set_option maxRecDepth 100000 in
theorem zl_735 : Cond.selects "RiverDiggersModel" yX9_price yX9_price ∈ zi_G := zi_inG (List.mem_append_right _ (List.mem_append_right _ (List.mem_append_right _ (List.mem_append_right _ (List.mem_append_right _ (List.mem_append_left _ (List.mem_of_getElem? (l := tables_1_5) (i := 212) rfl))))))) rfl
set_option maxRecDepth 100000 in
theorem zl_736 : Cond.methodLink "RiverDiggersLaw" 68 yX8_price ∈ zi_G := zi_inG (List.mem_append_right _ (List.mem_append_right _ (List.mem_append_right _ (List.mem_append_left _ (List.mem_of_getElem? (l := tables_1_3) (i := 120) rfl))))) rfl
set_option maxRecDepth 100000 in
theorem zl_737 : Cond.instanceMethod yX8_price ∈ zi_G := zi_inG (List.mem_append_right _ (List.mem_append_right _ (List.mem_append_right _ (List.mem_append_left _ (List.mem_of_getElem? (l := tables_1_3) (i := 121) rfl))))) rfl
set_option maxRecDepth 100000 in
theorem zl_738 : Cond.selects "RiverDiggers" yX8_price yX8_price ∈ zi_G := zi_inG (List.mem_append_right _ (List.mem_append_right _ (List.mem_append_right _ (List.mem_append_left _ (List.mem_of_getElem? (l := tables_1_3) (i := 122) rfl))))) rfl
set_option maxRecDepth 100000 in
theorem zl_739 : Cond.methodLink "RiverDiggersLaw" 75 yX9_year ∈ zi_G := zi_inG (List.mem_append_right _ (List.mem_append_right _ (List.mem_append_right _ (List.mem_append_right _ (List.mem_append_right _ (List.mem_append_left _ (List.mem_of_getElem? (l := tables_1_5) (i := 215) rfl))))))) rfl
set_option maxRecDepth 100000 in
theorem zl_740 : Cond.methodLink "RiverDiggersLaw" 72 yX8_year ∈ zi_G := zi_inG (List.mem_append_right _ (List.mem_append_right _ (List.mem_append_right _ (List.mem_append_left _ (List.mem_of_getElem? (l := tables_1_3) (i := 124) rfl))))) rfl
set_option maxRecDepth 100000 in
theorem zl_741 : Cond.instanceMethod yX8_year ∈ zi_G := zi_inG (List.mem_append_right _ (List.mem_append_right _ (List.mem_append_right _ (List.mem_append_left _ (List.mem_of_getElem? (l := tables_1_3) (i := 125) rfl))))) rfl
set_option maxRecDepth 100000 in
theorem zl_742 : Cond.selects "RiverDiggers" yX8_year yX8_year ∈ zi_G := zi_inG (List.mem_append_right _ (List.mem_append_right _ (List.mem_append_right _ (List.mem_append_left _ (List.mem_of_getElem? (l := tables_1_3) (i := 126) rfl))))) rfl
set_option maxRecDepth 100000 in
theorem zl_743 : Cond.methodLink "RiverDiggersLaw" 79 yX9_would ∈ zi_G := zi_inG (List.mem_append_right _ (List.mem_append_right _ (List.mem_append_right _ (List.mem_append_right _ (List.mem_append_right _ (List.mem_append_right _ (List.mem_of_getElem? (l := tables_1_6) (i := 2) rfl))))))) rfl
set_option maxRecDepth 100000 in
theorem zl_744 : Cond.instanceMethod yX9_would ∈ zi_G := zi_inG (List.mem_append_right _ (List.mem_append_right _ (List.mem_append_right _ (List.mem_append_right _ (List.mem_append_right _ (List.mem_append_right _ (List.mem_of_getElem? (l := tables_1_6) (i := 3) rfl))))))) rfl
set_option maxRecDepth 100000 in
theorem zl_745 : Cond.selects "RiverDiggersModel" yX9_would yX9_would ∈ zi_G := zi_inG (List.mem_append_right _ (List.mem_append_right _ (List.mem_append_right _ (List.mem_append_right _ (List.mem_append_right _ (List.mem_append_right _ (List.mem_of_getElem? (l := tables_1_6) (i := 4) rfl))))))) rfl
set_option maxRecDepth 100000 in
theorem zl_746 : Cond.methodLink "RiverDiggersLaw" 76 yX8_would ∈ zi_G := zi_inG (List.mem_append_right _ (List.mem_append_right _ (List.mem_append_right _ (List.mem_append_left _ (List.mem_of_getElem? (l := tables_1_3) (i := 151) rfl))))) rfl
set_option maxRecDepth 100000 in
theorem zl_747 : Cond.instanceMethod yX8_would ∈ zi_G := zi_inG (List.mem_append_right _ (List.mem_append_right _ (List.mem_append_right _ (List.mem_append_left _ (List.mem_of_getElem? (l := tables_1_3) (i := 152) rfl))))) rfl
set_option maxRecDepth 100000 in
theorem zl_748 : Cond.selects "RiverDiggers" yX8_would yX8_would ∈ zi_G := zi_inG (List.mem_append_right _ (List.mem_append_right _ (List.mem_append_right _ (List.mem_append_left _ (List.mem_of_getElem? (l := tables_1_3) (i := 153) rfl))))) rfl
set_option maxRecDepth 100000 in
theorem zl_749 : Cond.methodLink "RiverDiggersLaw" 83 yX9_tell ∈ zi_G := zi_inG (List.mem_append_right _ (List.mem_append_right _ (List.mem_append_right _ (List.mem_append_right _ (List.mem_append_right _ (List.mem_append_right _ (List.mem_of_getElem? (l := tables_1_6) (i := 18) rfl))))))) rfl
set_option maxRecDepth 100000 in
theorem zl_750 : Cond.instanceMethod yX9_tell ∈ zi_G := zi_inG (List.mem_append_right _ (List.mem_append_right _ (List.mem_append_right _ (List.mem_append_right _ (List.mem_append_right _ (List.mem_append_right _ (List.mem_of_getElem? (l := tables_1_6) (i := 19) rfl))))))) rfl
set_option maxRecDepth 100000 in
theorem zl_751 : Cond.selects "RiverDiggersModel" yX9_tell yX9_tell ∈ zi_G := zi_inG (List.mem_append_right _ (List.mem_append_right _ (List.mem_append_right _ (List.mem_append_right _ (List.mem_append_right _ (List.mem_append_right _ (List.mem_of_getElem? (l := tables_1_6) (i := 20) rfl))))))) rfl
set_option maxRecDepth 100000 in
theorem zl_752 : Cond.methodLink "RiverDiggersLaw" 80 yX8_tell ∈ zi_G := zi_inG (List.mem_append_right _ (List.mem_append_right _ (List.mem_append_right _ (List.mem_append_left _ (List.mem_of_getElem? (l := tables_1_3) (i := 160) rfl))))) rfl
set_option maxRecDepth 100000 in
theorem zl_753 : Cond.instanceMethod yX8_tell ∈ zi_G := zi_inG (List.mem_append_right _ (List.mem_append_right _ (List.mem_append_right _ (List.mem_append_left _ (List.mem_of_getElem? (l := tables_1_3) (i := 161) rfl))))) rfl
set_option maxRecDepth 100000 in
theorem zl_754 : Cond.selects "RiverDiggers" yX8_tell yX8_tell ∈ zi_G := zi_inG (List.mem_append_right _ (List.mem_append_right _ (List.mem_append_right _ (List.mem_append_left _ (List.mem_of_getElem? (l := tables_1_3) (i := 162) rfl))))) rfl
set_option maxRecDepth 100000 in
theorem zl_755 : Cond.methodLink "RiverDiggersLaw" 87 yX9_drop ∈ zi_G := zi_inG (List.mem_append_right _ (List.mem_append_right _ (List.mem_append_right _ (List.mem_append_right _ (List.mem_append_right _ (List.mem_append_right _ (List.mem_of_getElem? (l := tables_1_6) (i := 22) rfl))))))) rfl
set_option maxRecDepth 100000 in
theorem zl_756 : Cond.instanceMethod yX9_drop ∈ zi_G := zi_inG (List.mem_append_right _ (List.mem_append_right _ (List.mem_append_right _ (List.mem_append_right _ (List.mem_append_right _ (List.mem_append_right _ (List.mem_of_getElem? (l := tables_1_6) (i := 23) rfl))))))) rfl
set_option maxRecDepth 100000 in
theorem zl_757 : Cond.selects "RiverDiggersModel" yX9_drop yX9_drop ∈ zi_G := zi_inG (List.mem_append_right _ (List.mem_append_right _ (List.mem_append_right _ (List.mem_append_right _ (List.mem_append_right _ (List.mem_append_right _ (List.mem_of_getElem? (l := tables_1_6) (i := 24) rfl))))))) rfl
set_option maxRecDepth 100000 in
theorem zl_758 : Cond.methodLink "RiverDiggersLaw" 84 yX8_drop ∈ zi_G := zi_inG (List.mem_append_right _ (List.mem_append_right _ (List.mem_append_right _ (List.mem_append_left _ (List.mem_of_getElem? (l := tables_1_3) (i := 164) rfl))))) rfl
set_option maxRecDepth 100000 in
theorem zl_759 : Cond.instanceMethod yX8_drop ∈ zi_G := zi_inG (List.mem_append_right _ (List.mem_append_right _ (List.mem_append_right _ (List.mem_append_left _ (List.mem_of_getElem? (l := tables_1_3) (i := 165) rfl))))) rfl
set_option maxRecDepth 100000 in
theorem zl_760 : Cond.selects "RiverDiggers" yX8_drop yX8_drop ∈ zi_G := zi_inG (List.mem_append_right _ (List.mem_append_right _ (List.mem_append_right _ (List.mem_append_left _ (List.mem_of_getElem? (l := tables_1_3) (i := 166) rfl))))) rfl
set_option maxRecDepth 100000 in
theorem zl_761 : Cond.methodLink "RiverDiggersLaw" 91 yX9_judge ∈ zi_G := zi_inG (List.mem_append_right _ (List.mem_append_right _ (List.mem_append_right _ (List.mem_append_right _ (List.mem_append_right _ (List.mem_append_right _ (List.mem_of_getElem? (l := tables_1_6) (i := 26) rfl))))))) rfl
set_option maxRecDepth 100000 in
theorem zl_762 : Cond.instanceMethod yX9_judge ∈ zi_G := zi_inG (List.mem_append_right _ (List.mem_append_right _ (List.mem_append_right _ (List.mem_append_right _ (List.mem_append_right _ (List.mem_append_right _ (List.mem_of_getElem? (l := tables_1_6) (i := 27) rfl))))))) rfl
set_option maxRecDepth 100000 in
theorem zl_763 : Cond.selects "RiverDiggersModel" yX9_judge yX9_judge ∈ zi_G := zi_inG (List.mem_append_right _ (List.mem_append_right _ (List.mem_append_right _ (List.mem_append_right _ (List.mem_append_right _ (List.mem_append_right _ (List.mem_of_getElem? (l := tables_1_6) (i := 28) rfl))))))) rfl
set_option maxRecDepth 100000 in
theorem zl_764 : Cond.methodLink "RiverDiggersLaw" 88 yX8_judge ∈ zi_G := zi_inG (List.mem_append_right _ (List.mem_append_right _ (List.mem_append_right _ (List.mem_append_left _ (List.mem_of_getElem? (l := tables_1_3) (i := 168) rfl))))) rfl
set_option maxRecDepth 100000 in
theorem zl_765 : Cond.instanceMethod yX8_judge ∈ zi_G := zi_inG (List.mem_append_right _ (List.mem_append_right _ (List.mem_append_right _ (List.mem_append_left _ (List.mem_of_getElem? (l := tables_1_3) (i := 169) rfl))))) rfl
set_option maxRecDepth 100000 in
theorem zl_766 : Cond.selects "RiverDiggers" yX8_judge yX8_judge ∈ zi_G := zi_inG (List.mem_append_right _ (List.mem_append_right _ (List.mem_append_right _ (List.mem_append_left _ (List.mem_of_getElem? (l := tables_1_3) (i := 170) rfl))))) rfl
set_option maxRecDepth 100000 in
theorem zl_767 : Cond.methodLink "RiverDiggersLaw" 96 yX9_alone ∈ zi_G := zi_inG (List.mem_append_right _ (List.mem_append_right _ (List.mem_append_right _ (List.mem_append_right _ (List.mem_append_right _ (List.mem_append_right _ (List.mem_of_getElem? (l := tables_1_6) (i := 30) rfl))))))) rfl
set_option maxRecDepth 100000 in
theorem zl_768 : Cond.instanceMethod yX9_alone ∈ zi_G := zi_inG (List.mem_append_right _ (List.mem_append_right _ (List.mem_append_right _ (List.mem_append_right _ (List.mem_append_right _ (List.mem_append_right _ (List.mem_of_getElem? (l := tables_1_6) (i := 31) rfl))))))) rfl
set_option maxRecDepth 100000 in
theorem zl_769 : Cond.selects "RiverDiggersModel" yX9_alone yX9_alone ∈ zi_G := zi_inG (List.mem_append_right _ (List.mem_append_right _ (List.mem_append_right _ (List.mem_append_right _ (List.mem_append_right _ (List.mem_append_right _ (List.mem_of_getElem? (l := tables_1_6) (i := 32) rfl))))))) rfl
set_option maxRecDepth 100000 in
theorem zl_770 : Cond.methodLink "RiverDiggersLaw" 92 yX8_alone ∈ zi_G := zi_inG (List.mem_append_right _ (List.mem_append_right _ (List.mem_append_right _ (List.mem_append_left _ (List.mem_of_getElem? (l := tables_1_3) (i := 172) rfl))))) rfl
set_option maxRecDepth 100000 in
theorem zl_771 : Cond.instanceMethod yX8_alone ∈ zi_G := zi_inG (List.mem_append_right _ (List.mem_append_right _ (List.mem_append_right _ (List.mem_append_left _ (List.mem_of_getElem? (l := tables_1_3) (i := 173) rfl))))) rfl
set_option maxRecDepth 100000 in
theorem zl_772 : Cond.selects "RiverDiggers" yX8_alone yX8_alone ∈ zi_G := zi_inG (List.mem_append_right _ (List.mem_append_right _ (List.mem_append_right _ (List.mem_append_left _ (List.mem_of_getElem? (l := tables_1_3) (i := 174) rfl))))) rfl
set_option maxRecDepth 100000 in
theorem zl_773 : Cond.methodLink "RiverDiggersLaw" 100 yX9_together ∈ zi_G := zi_inG (List.mem_append_right _ (List.mem_append_right _ (List.mem_append_right _ (List.mem_append_right _ (List.mem_append_right _ (List.mem_append_right _ (List.mem_of_getElem? (l := tables_1_6) (i := 51) rfl))))))) rfl
set_option maxRecDepth 100000 in
theorem zl_774 : Cond.instanceMethod yX9_together ∈ zi_G := zi_inG (List.mem_append_right _ (List.mem_append_right _ (List.mem_append_right _ (List.mem_append_right _ (List.mem_append_right _ (List.mem_append_right _ (List.mem_of_getElem? (l := tables_1_6) (i := 52) rfl))))))) rfl
set_option maxRecDepth 100000 in
theorem zl_775 : Cond.selects "RiverDiggersModel" yX9_together yX9_together ∈ zi_G := zi_inG (List.mem_append_right _ (List.mem_append_right _ (List.mem_append_right _ (List.mem_append_right _ (List.mem_append_right _ (List.mem_append_right _ (List.mem_of_getElem? (l := tables_1_6) (i := 53) rfl))))))) rfl
set_option maxRecDepth 100000 in
theorem zl_776 : Cond.methodLink "RiverDiggersLaw" 97 yX8_together ∈ zi_G := zi_inG (List.mem_append_right _ (List.mem_append_right _ (List.mem_append_right _ (List.mem_append_left _ (List.mem_of_getElem? (l := tables_1_3) (i := 195) rfl))))) rfl
set_option maxRecDepth 100000 in
theorem zl_777 : Cond.instanceMethod yX8_together ∈ zi_G := zi_inG (List.mem_append_right _ (List.mem_append_right _ (List.mem_append_right _ (List.mem_append_left _ (List.mem_of_getElem? (l := tables_1_3) (i := 196) rfl))))) rfl
set_option maxRecDepth 100000 in
theorem zl_778 : Cond.selects "RiverDiggers" yX8_together yX8_together ∈ zi_G := zi_inG (List.mem_append_right _ (List.mem_append_right _ (List.mem_append_right _ (List.mem_append_left _ (List.mem_of_getElem? (l := tables_1_3) (i := 197) rfl))))) rfl
set_option maxRecDepth 100000 in
theorem zl_779 : Cond.methodLink "RiverDiggersLaw" 104 yX9_selfish ∈ zi_G := zi_inG (List.mem_append_right _ (List.mem_append_right _ (List.mem_append_right _ (List.mem_append_right _ (List.mem_append_right _ (List.mem_append_right _ (List.mem_of_getElem? (l := tables_1_6) (i := 78) rfl))))))) rfl
set_option maxRecDepth 100000 in
theorem zl_780 : Cond.instanceMethod yX9_selfish ∈ zi_G := zi_inG (List.mem_append_right _ (List.mem_append_right _ (List.mem_append_right _ (List.mem_append_right _ (List.mem_append_right _ (List.mem_append_right _ (List.mem_of_getElem? (l := tables_1_6) (i := 79) rfl))))))) rfl
set_option maxRecDepth 100000 in
theorem zl_781 : Cond.selects "RiverDiggersModel" yX9_selfish yX9_selfish ∈ zi_G := zi_inG (List.mem_append_right _ (List.mem_append_right _ (List.mem_append_right _ (List.mem_append_right _ (List.mem_append_right _ (List.mem_append_right _ (List.mem_of_getElem? (l := tables_1_6) (i := 80) rfl))))))) rfl
set_option maxRecDepth 100000 in
theorem zl_782 : Cond.methodLink "RiverDiggersLaw" 101 yX8_selfish ∈ zi_G := zi_inG (List.mem_append_right _ (List.mem_append_right _ (List.mem_append_right _ (List.mem_append_left _ (List.mem_of_getElem? (l := tables_1_3) (i := 222) rfl))))) rfl
set_option maxRecDepth 100000 in
theorem zl_783 : Cond.instanceMethod yX8_selfish ∈ zi_G := zi_inG (List.mem_append_right _ (List.mem_append_right _ (List.mem_append_right _ (List.mem_append_left _ (List.mem_of_getElem? (l := tables_1_3) (i := 223) rfl))))) rfl
set_option maxRecDepth 100000 in
theorem zl_784 : Cond.selects "RiverDiggers" yX8_selfish yX8_selfish ∈ zi_G := zi_inG (List.mem_append_right _ (List.mem_append_right _ (List.mem_append_right _ (List.mem_append_left _ (List.mem_of_getElem? (l := tables_1_3) (i := 224) rfl))))) rfl
set_option maxRecDepth 100000 in
theorem zl_785 : Cond.methodLink "RiverDiggersLaw" 108 yX9_rests ∈ zi_G := zi_inG (List.mem_append_right _ (List.mem_append_right _ (List.mem_append_right _ (List.mem_append_right _ (List.mem_append_right _ (List.mem_append_right _ (List.mem_of_getElem? (l := tables_1_6) (i := 94) rfl))))))) rfl
set_option maxRecDepth 100000 in
theorem zl_786 : Cond.instanceMethod yX9_rests ∈ zi_G := zi_inG (List.mem_append_right _ (List.mem_append_right _ (List.mem_append_right _ (List.mem_append_right _ (List.mem_append_right _ (List.mem_append_right _ (List.mem_of_getElem? (l := tables_1_6) (i := 95) rfl))))))) rfl
set_option maxRecDepth 100000 in
theorem zl_787 : Cond.selects "RiverDiggersModel" yX9_rests yX9_rests ∈ zi_G := zi_inG (List.mem_append_right _ (List.mem_append_right _ (List.mem_append_right _ (List.mem_append_right _ (List.mem_append_right _ (List.mem_append_right _ (List.mem_of_getElem? (l := tables_1_6) (i := 96) rfl))))))) rfl
set_option maxRecDepth 100000 in
theorem zl_788 : Cond.methodLink "RiverDiggersLaw" 105 yX8_rests ∈ zi_G := zi_inG (List.mem_append_right _ (List.mem_append_right _ (List.mem_append_right _ (List.mem_append_left _ (List.mem_of_getElem? (l := tables_1_3) (i := 232) rfl))))) rfl
set_option maxRecDepth 100000 in
theorem zl_789 : Cond.instanceMethod yX8_rests ∈ zi_G := zi_inG (List.mem_append_right _ (List.mem_append_right _ (List.mem_append_right _ (List.mem_append_left _ (List.mem_of_getElem? (l := tables_1_3) (i := 233) rfl))))) rfl
set_option maxRecDepth 100000 in
theorem zl_790 : Cond.selects "RiverDiggers" yX8_rests yX8_rests ∈ zi_G := zi_inG (List.mem_append_right _ (List.mem_append_right _ (List.mem_append_right _ (List.mem_append_left _ (List.mem_of_getElem? (l := tables_1_3) (i := 234) rfl))))) rfl
set_option maxRecDepth 100000 in
theorem zl_791 : Cond.methodLink "RiverDiggersLaw" 112 yX9_breaks ∈ zi_G := zi_inG (List.mem_append_right _ (List.mem_append_right _ (List.mem_append_right _ (List.mem_append_right _ (List.mem_append_right _ (List.mem_append_right _ (List.mem_of_getElem? (l := tables_1_6) (i := 102) rfl))))))) rfl
set_option maxRecDepth 100000 in
theorem zl_792 : Cond.instanceMethod yX9_breaks ∈ zi_G := zi_inG (List.mem_append_right _ (List.mem_append_right _ (List.mem_append_right _ (List.mem_append_right _ (List.mem_append_right _ (List.mem_append_right _ (List.mem_of_getElem? (l := tables_1_6) (i := 103) rfl))))))) rfl
set_option maxRecDepth 100000 in
theorem zl_793 : Cond.selects "RiverDiggersModel" yX9_breaks yX9_breaks ∈ zi_G := zi_inG (List.mem_append_right _ (List.mem_append_right _ (List.mem_append_right _ (List.mem_append_right _ (List.mem_append_right _ (List.mem_append_right _ (List.mem_of_getElem? (l := tables_1_6) (i := 104) rfl))))))) rfl
set_option maxRecDepth 100000 in
theorem zl_794 : Cond.methodLink "RiverDiggersLaw" 109 yX8_breaks ∈ zi_G := zi_inG (List.mem_append_right _ (List.mem_append_right _ (List.mem_append_right _ (List.mem_append_right _ (List.mem_append_left _ (List.mem_of_getElem? (l := tables_1_4) (i := 5) rfl)))))) rfl
set_option maxRecDepth 100000 in
theorem zl_795 : Cond.instanceMethod yX8_breaks ∈ zi_G := zi_inG (List.mem_append_right _ (List.mem_append_right _ (List.mem_append_right _ (List.mem_append_right _ (List.mem_append_left _ (List.mem_of_getElem? (l := tables_1_4) (i := 6) rfl)))))) rfl
set_option maxRecDepth 100000 in
theorem zl_796 : Cond.selects "RiverDiggers" yX8_breaks yX8_breaks ∈ zi_G := zi_inG (List.mem_append_right _ (List.mem_append_right _ (List.mem_append_right _ (List.mem_append_right _ (List.mem_append_left _ (List.mem_of_getElem? (l := tables_1_4) (i := 7) rfl)))))) rfl
set_option maxRecDepth 100000 in
theorem zl_797 : Cond.methodLink "RiverDiggersLaw" 116 yX9_stands ∈ zi_G := zi_inG (List.mem_append_right _ (List.mem_append_right _ (List.mem_append_right _ (List.mem_append_right _ (List.mem_append_right _ (List.mem_append_right _ (List.mem_of_getElem? (l := tables_1_6) (i := 106) rfl))))))) rfl
set_option maxRecDepth 100000 in
theorem zl_798 : Cond.instanceMethod yX9_stands ∈ zi_G := zi_inG (List.mem_append_right _ (List.mem_append_right _ (List.mem_append_right _ (List.mem_append_right _ (List.mem_append_right _ (List.mem_append_right _ (List.mem_of_getElem? (l := tables_1_6) (i := 107) rfl))))))) rfl
set_option maxRecDepth 100000 in
theorem zl_799 : Cond.selects "RiverDiggersModel" yX9_stands yX9_stands ∈ zi_G := zi_inG (List.mem_append_right _ (List.mem_append_right _ (List.mem_append_right _ (List.mem_append_right _ (List.mem_append_right _ (List.mem_append_right _ (List.mem_of_getElem? (l := tables_1_6) (i := 108) rfl))))))) rfl
set_option maxRecDepth 100000 in
theorem zl_800 : Cond.methodLink "RiverDiggersLaw" 113 yX8_stands ∈ zi_G := zi_inG (List.mem_append_right _ (List.mem_append_right _ (List.mem_append_right _ (List.mem_append_right _ (List.mem_append_left _ (List.mem_of_getElem? (l := tables_1_4) (i := 13) rfl)))))) rfl
set_option maxRecDepth 100000 in
theorem zl_801 : Cond.instanceMethod yX8_stands ∈ zi_G := zi_inG (List.mem_append_right _ (List.mem_append_right _ (List.mem_append_right _ (List.mem_append_right _ (List.mem_append_left _ (List.mem_of_getElem? (l := tables_1_4) (i := 14) rfl)))))) rfl
set_option maxRecDepth 100000 in
theorem zl_802 : Cond.selects "RiverDiggers" yX8_stands yX8_stands ∈ zi_G := zi_inG (List.mem_append_right _ (List.mem_append_right _ (List.mem_append_right _ (List.mem_append_right _ (List.mem_append_left _ (List.mem_of_getElem? (l := tables_1_4) (i := 15) rfl)))))) rfl
set_option maxRecDepth 100000 in
theorem zl_803 : Cond.methodLink "RiverDiggersLaw" 120 yX9_again ∈ zi_G := zi_inG (List.mem_append_right _ (List.mem_append_right _ (List.mem_append_right _ (List.mem_append_right _ (List.mem_append_right _ (List.mem_append_right _ (List.mem_of_getElem? (l := tables_1_6) (i := 110) rfl))))))) rfl
set_option maxRecDepth 100000 in
theorem zl_804 : Cond.instanceMethod yX9_again ∈ zi_G := zi_inG (List.mem_append_right _ (List.mem_append_right _ (List.mem_append_right _ (List.mem_append_right _ (List.mem_append_right _ (List.mem_append_right _ (List.mem_of_getElem? (l := tables_1_6) (i := 111) rfl))))))) rfl
set_option maxRecDepth 100000 in
theorem zl_805 : Cond.selects "RiverDiggersModel" yX9_again yX9_again ∈ zi_G := zi_inG (List.mem_append_right _ (List.mem_append_right _ (List.mem_append_right _ (List.mem_append_right _ (List.mem_append_right _ (List.mem_append_right _ (List.mem_of_getElem? (l := tables_1_6) (i := 112) rfl))))))) rfl
set_option maxRecDepth 100000 in
theorem zl_806 : Cond.methodLink "RiverDiggersLaw" 117 yX8_again ∈ zi_G := zi_inG (List.mem_append_right _ (List.mem_append_right _ (List.mem_append_right _ (List.mem_append_right _ (List.mem_append_left _ (List.mem_of_getElem? (l := tables_1_4) (i := 17) rfl)))))) rfl
set_option maxRecDepth 100000 in
theorem zl_807 : Cond.instanceMethod yX8_again ∈ zi_G := zi_inG (List.mem_append_right _ (List.mem_append_right _ (List.mem_append_right _ (List.mem_append_right _ (List.mem_append_left _ (List.mem_of_getElem? (l := tables_1_4) (i := 18) rfl)))))) rfl
set_option maxRecDepth 100000 in
theorem zl_808 : Cond.selects "RiverDiggers" yX8_again yX8_again ∈ zi_G := zi_inG (List.mem_append_right _ (List.mem_append_right _ (List.mem_append_right _ (List.mem_append_right _ (List.mem_append_left _ (List.mem_of_getElem? (l := tables_1_4) (i := 19) rfl)))))) rfl
set_option maxRecDepth 100000 in
theorem zl_809 : Cond.methodLink "RiverDiggersLaw" 121 yX8_odds ∈ zi_G := zi_inG (List.mem_append_right _ (List.mem_append_right _ (List.mem_append_right _ (List.mem_append_right _ (List.mem_append_left _ (List.mem_of_getElem? (l := tables_1_4) (i := 34) rfl)))))) rfl
set_option maxRecDepth 100000 in
theorem zl_810 : Cond.instanceMethod yX8_odds ∈ zi_G := zi_inG (List.mem_append_right _ (List.mem_append_right _ (List.mem_append_right _ (List.mem_append_right _ (List.mem_append_left _ (List.mem_of_getElem? (l := tables_1_4) (i := 35) rfl)))))) rfl
set_option maxRecDepth 100000 in
theorem zl_811 : Cond.selects "RiverDiggers" yX8_odds yX8_odds ∈ zi_G := zi_inG (List.mem_append_right _ (List.mem_append_right _ (List.mem_append_right _ (List.mem_append_right _ (List.mem_append_left _ (List.mem_of_getElem? (l := tables_1_4) (i := 36) rfl)))))) rfl
set_option maxRecDepth 100000 in
theorem zl_812 : Cond.methodLink "RiverDiggersLaw" 125 yX9_odds ∈ zi_G := zi_inG (List.mem_append_right _ (List.mem_append_right _ (List.mem_append_right _ (List.mem_append_right _ (List.mem_append_right _ (List.mem_append_right _ (List.mem_of_getElem? (l := tables_1_6) (i := 118) rfl))))))) rfl
set_option maxRecDepth 100000 in
theorem zl_813 : Cond.instanceMethod yX9_odds ∈ zi_G := zi_inG (List.mem_append_right _ (List.mem_append_right _ (List.mem_append_right _ (List.mem_append_right _ (List.mem_append_right _ (List.mem_append_right _ (List.mem_of_getElem? (l := tables_1_6) (i := 119) rfl))))))) rfl
set_option maxRecDepth 100000 in
theorem zl_814 : Cond.selects "RiverDiggersModel" yX9_odds yX9_odds ∈ zi_G := zi_inG (List.mem_append_right _ (List.mem_append_right _ (List.mem_append_right _ (List.mem_append_right _ (List.mem_append_right _ (List.mem_append_right _ (List.mem_of_getElem? (l := tables_1_6) (i := 120) rfl))))))) rfl
set_option maxRecDepth 100000 in
theorem zl_815 : Cond.methodLink "RiverDiggersLaw" 126 yX8_see ∈ zi_G := zi_inG (List.mem_append_right _ (List.mem_append_right _ (List.mem_append_right _ (List.mem_append_right _ (List.mem_append_left _ (List.mem_of_getElem? (l := tables_1_4) (i := 42) rfl)))))) rfl
set_option maxRecDepth 100000 in
theorem zl_816 : Cond.instanceMethod yX8_see ∈ zi_G := zi_inG (List.mem_append_right _ (List.mem_append_right _ (List.mem_append_right _ (List.mem_append_right _ (List.mem_append_left _ (List.mem_of_getElem? (l := tables_1_4) (i := 43) rfl)))))) rfl
set_option maxRecDepth 100000 in
theorem zl_817 : Cond.selects "RiverDiggers" yX8_see yX8_see ∈ zi_G := zi_inG (List.mem_append_right _ (List.mem_append_right _ (List.mem_append_right _ (List.mem_append_right _ (List.mem_append_left _ (List.mem_of_getElem? (l := tables_1_4) (i := 44) rfl)))))) rfl
set_option maxRecDepth 100000 in
theorem zl_818 : Cond.methodLink "RiverDiggersLaw" 130 yX9_see ∈ zi_G := zi_inG (List.mem_append_right _ (List.mem_append_right _ (List.mem_append_right _ (List.mem_append_right _ (List.mem_append_right _ (List.mem_append_right _ (List.mem_of_getElem? (l := tables_1_6) (i := 126) rfl))))))) rfl
set_option maxRecDepth 100000 in
theorem zl_819 : Cond.instanceMethod yX9_see ∈ zi_G := zi_inG (List.mem_append_right _ (List.mem_append_right _ (List.mem_append_right _ (List.mem_append_right _ (List.mem_append_right _ (List.mem_append_right _ (List.mem_of_getElem? (l := tables_1_6) (i := 127) rfl))))))) rfl
set_option maxRecDepth 100000 in
theorem zl_820 : Cond.selects "RiverDiggersModel" yX9_see yX9_see ∈ zi_G := zi_inG (List.mem_append_right _ (List.mem_append_right _ (List.mem_append_right _ (List.mem_append_right _ (List.mem_append_right _ (List.mem_append_right _ (List.mem_of_getElem? (l := tables_1_6) (i := 128) rfl))))))) rfl
set_option maxRecDepth 100000 in
theorem zl_821 : Cond.methodLink "RiverDiggersLaw" 134 yX9_forget ∈ zi_G := zi_inG (List.mem_append_right _ (List.mem_append_right _ (List.mem_append_right _ (List.mem_append_right _ (List.mem_append_right _ (List.mem_append_right _ (List.mem_of_getElem? (l := tables_1_6) (i := 130) rfl))))))) rfl
set_option maxRecDepth 100000 in
theorem zl_822 : Cond.instanceMethod yX9_forget ∈ zi_G := zi_inG (List.mem_append_right _ (List.mem_append_right _ (List.mem_append_right _ (List.mem_append_right _ (List.mem_append_right _ (List.mem_append_right _ (List.mem_of_getElem? (l := tables_1_6) (i := 131) rfl))))))) rfl
set_option maxRecDepth 100000 in
theorem zl_823 : Cond.selects "RiverDiggersModel" yX9_forget yX9_forget ∈ zi_G := zi_inG (List.mem_append_right _ (List.mem_append_right _ (List.mem_append_right _ (List.mem_append_right _ (List.mem_append_right _ (List.mem_append_right _ (List.mem_of_getElem? (l := tables_1_6) (i := 132) rfl))))))) rfl
set_option maxRecDepth 100000 in
theorem zl_824 : Cond.methodLink "RiverDiggersLaw" 131 yX8_forget ∈ zi_G := zi_inG (List.mem_append_right _ (List.mem_append_right _ (List.mem_append_right _ (List.mem_append_right _ (List.mem_append_left _ (List.mem_of_getElem? (l := tables_1_4) (i := 46) rfl)))))) rfl
set_option maxRecDepth 100000 in
theorem zl_825 : Cond.instanceMethod yX8_forget ∈ zi_G := zi_inG (List.mem_append_right _ (List.mem_append_right _ (List.mem_append_right _ (List.mem_append_right _ (List.mem_append_left _ (List.mem_of_getElem? (l := tables_1_4) (i := 47) rfl)))))) rfl
set_option maxRecDepth 100000 in
theorem zl_826 : Cond.selects "RiverDiggers" yX8_forget yX8_forget ∈ zi_G := zi_inG (List.mem_append_right _ (List.mem_append_right _ (List.mem_append_right _ (List.mem_append_right _ (List.mem_append_left _ (List.mem_of_getElem? (l := tables_1_4) (i := 48) rfl)))))) rfl
set_option maxRecDepth 100000 in
theorem zl_827 : Cond.methodLink "RiverDiggersLaw" 138 yX9_fits ∈ zi_G := zi_inG (List.mem_append_right _ (List.mem_append_right _ (List.mem_append_right _ (List.mem_append_right _ (List.mem_append_right _ (List.mem_append_right _ (List.mem_of_getElem? (l := tables_1_6) (i := 134) rfl))))))) rfl
set_option maxRecDepth 100000 in
theorem zl_828 : Cond.instanceMethod yX9_fits ∈ zi_G := zi_inG (List.mem_append_right _ (List.mem_append_right _ (List.mem_append_right _ (List.mem_append_right _ (List.mem_append_right _ (List.mem_append_right _ (List.mem_of_getElem? (l := tables_1_6) (i := 135) rfl))))))) rfl
set_option maxRecDepth 100000 in
theorem zl_829 : Cond.selects "RiverDiggersModel" yX9_fits yX9_fits ∈ zi_G := zi_inG (List.mem_append_right _ (List.mem_append_right _ (List.mem_append_right _ (List.mem_append_right _ (List.mem_append_right _ (List.mem_append_right _ (List.mem_of_getElem? (l := tables_1_6) (i := 136) rfl))))))) rfl
set_option maxRecDepth 100000 in
theorem zl_830 : Cond.methodLink "RiverDiggersLaw" 135 yX8_fits ∈ zi_G := zi_inG (List.mem_append_right _ (List.mem_append_right _ (List.mem_append_right _ (List.mem_append_right _ (List.mem_append_left _ (List.mem_of_getElem? (l := tables_1_4) (i := 50) rfl)))))) rfl
set_option maxRecDepth 100000 in
theorem zl_831 : Cond.instanceMethod yX8_fits ∈ zi_G := zi_inG (List.mem_append_right _ (List.mem_append_right _ (List.mem_append_right _ (List.mem_append_right _ (List.mem_append_left _ (List.mem_of_getElem? (l := tables_1_4) (i := 51) rfl)))))) rfl
set_option maxRecDepth 100000 in
theorem zl_832 : Cond.selects "RiverDiggers" yX8_fits yX8_fits ∈ zi_G := zi_inG (List.mem_append_right _ (List.mem_append_right _ (List.mem_append_right _ (List.mem_append_right _ (List.mem_append_left _ (List.mem_of_getElem? (l := tables_1_4) (i := 52) rfl)))))) rfl
set_option maxRecDepth 100000 in
theorem zl_833 : Cond.methodLink "RiverDiggersLaw" 142 yX9_keep ∈ zi_G := zi_inG (List.mem_append_right _ (List.mem_append_right _ (List.mem_append_right _ (List.mem_append_right _ (List.mem_append_right _ (List.mem_append_right _ (List.mem_of_getElem? (l := tables_1_6) (i := 145) rfl))))))) rfl
set_option maxRecDepth 100000 in
theorem zl_834 : Cond.instanceMethod yX9_keep ∈ zi_G := zi_inG (List.mem_append_right _ (List.mem_append_right _ (List.mem_append_right _ (List.mem_append_right _ (List.mem_append_right _ (List.mem_append_right _ (List.mem_of_getElem? (l := tables_1_6) (i := 146) rfl))))))) rfl
set_option maxRecDepth 100000 in
theorem zl_835 : Cond.selects "RiverDiggersModel" yX9_keep yX9_keep ∈ zi_G := zi_inG (List.mem_append_right _ (List.mem_append_right _ (List.mem_append_right _ (List.mem_append_right _ (List.mem_append_right _ (List.mem_append_right _ (List.mem_of_getElem? (l := tables_1_6) (i := 147) rfl))))))) rfl
set_option maxRecDepth 100000 in
theorem zl_836 : Cond.methodLink "RiverDiggersLaw" 139 yX8_keep ∈ zi_G := zi_inG (List.mem_append_right _ (List.mem_append_right _ (List.mem_append_right _ (List.mem_append_right _ (List.mem_append_left _ (List.mem_of_getElem? (l := tables_1_4) (i := 59) rfl)))))) rfl
set_option maxRecDepth 100000 in
theorem zl_837 : Cond.instanceMethod yX8_keep ∈ zi_G := zi_inG (List.mem_append_right _ (List.mem_append_right _ (List.mem_append_right _ (List.mem_append_right _ (List.mem_append_left _ (List.mem_of_getElem? (l := tables_1_4) (i := 60) rfl)))))) rfl
set_option maxRecDepth 100000 in
theorem zl_838 : Cond.selects "RiverDiggers" yX8_keep yX8_keep ∈ zi_G := zi_inG (List.mem_append_right _ (List.mem_append_right _ (List.mem_append_right _ (List.mem_append_right _ (List.mem_append_left _ (List.mem_of_getElem? (l := tables_1_4) (i := 61) rfl)))))) rfl
set_option maxRecDepth 100000 in
theorem zl_839 : Cond.methodLink "RiverDiggersLaw" 146 yX9_back ∈ zi_G := zi_inG (List.mem_append_right _ (List.mem_append_right _ (List.mem_append_right _ (List.mem_append_right _ (List.mem_append_right _ (List.mem_append_right _ (List.mem_of_getElem? (l := tables_1_6) (i := 153) rfl))))))) rfl
set_option maxRecDepth 100000 in
theorem zl_840 : Cond.instanceMethod yX9_back ∈ zi_G := zi_inG (List.mem_append_right _ (List.mem_append_right _ (List.mem_append_right _ (List.mem_append_right _ (List.mem_append_right _ (List.mem_append_right _ (List.mem_of_getElem? (l := tables_1_6) (i := 154) rfl))))))) rfl
set_option maxRecDepth 100000 in
theorem zl_841 : Cond.selects "RiverDiggersModel" yX9_back yX9_back ∈ zi_G := zi_inG (List.mem_append_right _ (List.mem_append_right _ (List.mem_append_right _ (List.mem_append_right _ (List.mem_append_right _ (List.mem_append_right _ (List.mem_of_getElem? (l := tables_1_6) (i := 155) rfl))))))) rfl
set_option maxRecDepth 100000 in
theorem zl_842 : Cond.methodLink "RiverDiggersLaw" 143 yX8_back ∈ zi_G := zi_inG (List.mem_append_right _ (List.mem_append_right _ (List.mem_append_right _ (List.mem_append_right _ (List.mem_append_left _ (List.mem_of_getElem? (l := tables_1_4) (i := 73) rfl)))))) rfl
set_option maxRecDepth 100000 in
theorem zl_843 : Cond.instanceMethod yX8_back ∈ zi_G := zi_inG (List.mem_append_right _ (List.mem_append_right _ (List.mem_append_right _ (List.mem_append_right _ (List.mem_append_left _ (List.mem_of_getElem? (l := tables_1_4) (i := 74) rfl)))))) rfl
set_option maxRecDepth 100000 in
theorem zl_844 : Cond.selects "RiverDiggers" yX8_back yX8_back ∈ zi_G := zi_inG (List.mem_append_right _ (List.mem_append_right _ (List.mem_append_right _ (List.mem_append_right _ (List.mem_append_left _ (List.mem_of_getElem? (l := tables_1_4) (i := 75) rfl)))))) rfl
set_option maxRecDepth 100000 in
theorem zl_845 : Cond.methodLink "RiverDiggersLaw" 150 yX9_sheet ∈ zi_G := zi_inG (List.mem_append_right _ (List.mem_append_right _ (List.mem_append_right _ (List.mem_append_right _ (List.mem_append_right _ (List.mem_append_right _ (List.mem_of_getElem? (l := tables_1_6) (i := 157) rfl))))))) rfl
set_option maxRecDepth 100000 in
theorem zl_846 : Cond.instanceMethod yX9_sheet ∈ zi_G := zi_inG (List.mem_append_right _ (List.mem_append_right _ (List.mem_append_right _ (List.mem_append_right _ (List.mem_append_right _ (List.mem_append_right _ (List.mem_of_getElem? (l := tables_1_6) (i := 158) rfl))))))) rfl
set_option maxRecDepth 100000 in
theorem zl_847 : Cond.selects "RiverDiggersModel" yX9_sheet yX9_sheet ∈ zi_G := zi_inG (List.mem_append_right _ (List.mem_append_right _ (List.mem_append_right _ (List.mem_append_right _ (List.mem_append_right _ (List.mem_append_right _ (List.mem_of_getElem? (l := tables_1_6) (i := 159) rfl))))))) rfl
set_option maxRecDepth 100000 in
theorem zl_848 : Cond.methodLink "RiverDiggersLaw" 147 yX8_sheet ∈ zi_G := zi_inG (List.mem_append_right _ (List.mem_append_right _ (List.mem_append_right _ (List.mem_append_right _ (List.mem_append_left _ (List.mem_of_getElem? (l := tables_1_4) (i := 77) rfl)))))) rfl
set_option maxRecDepth 100000 in
theorem zl_849 : Cond.instanceMethod yX8_sheet ∈ zi_G := zi_inG (List.mem_append_right _ (List.mem_append_right _ (List.mem_append_right _ (List.mem_append_right _ (List.mem_append_left _ (List.mem_of_getElem? (l := tables_1_4) (i := 78) rfl)))))) rfl
set_option maxRecDepth 100000 in
theorem zl_850 : Cond.selects "RiverDiggers" yX8_sheet yX8_sheet ∈ zi_G := zi_inG (List.mem_append_right _ (List.mem_append_right _ (List.mem_append_right _ (List.mem_append_right _ (List.mem_append_left _ (List.mem_of_getElem? (l := tables_1_4) (i := 79) rfl)))))) rfl
set_option maxRecDepth 100000 in
theorem zl_851 : Cond.methodLink "RiverDiggersLaw" 154 yX9_lay ∈ zi_G := zi_inG (List.mem_append_right _ (List.mem_append_right _ (List.mem_append_right _ (List.mem_append_right _ (List.mem_append_right _ (List.mem_append_right _ (List.mem_of_getElem? (l := tables_1_6) (i := 164) rfl))))))) rfl
set_option maxRecDepth 100000 in
theorem zl_852 : Cond.instanceMethod yX9_lay ∈ zi_G := zi_inG (List.mem_append_right _ (List.mem_append_right _ (List.mem_append_right _ (List.mem_append_right _ (List.mem_append_right _ (List.mem_append_right _ (List.mem_of_getElem? (l := tables_1_6) (i := 165) rfl))))))) rfl
set_option maxRecDepth 100000 in
theorem zl_853 : Cond.selects "RiverDiggersModel" yX9_lay yX9_lay ∈ zi_G := zi_inG (List.mem_append_right _ (List.mem_append_right _ (List.mem_append_right _ (List.mem_append_right _ (List.mem_append_right _ (List.mem_append_right _ (List.mem_of_getElem? (l := tables_1_6) (i := 166) rfl))))))) rfl
set_option maxRecDepth 100000 in
theorem zl_854 : Cond.methodLink "RiverDiggersLaw" 151 yX8_lay ∈ zi_G := zi_inG (List.mem_append_right _ (List.mem_append_right _ (List.mem_append_right _ (List.mem_append_right _ (List.mem_append_left _ (List.mem_of_getElem? (l := tables_1_4) (i := 93) rfl)))))) rfl
set_option maxRecDepth 100000 in
theorem zl_855 : Cond.instanceMethod yX8_lay ∈ zi_G := zi_inG (List.mem_append_right _ (List.mem_append_right _ (List.mem_append_right _ (List.mem_append_right _ (List.mem_append_left _ (List.mem_of_getElem? (l := tables_1_4) (i := 94) rfl)))))) rfl
set_option maxRecDepth 100000 in
theorem zl_856 : Cond.selects "RiverDiggers" yX8_lay yX8_lay ∈ zi_G := zi_inG (List.mem_append_right _ (List.mem_append_right _ (List.mem_append_right _ (List.mem_append_right _ (List.mem_append_left _ (List.mem_of_getElem? (l := tables_1_4) (i := 95) rfl)))))) rfl
set_option maxRecDepth 100000 in
theorem zl_857 : Cond.methodLink "RiverDiggersLaw" 159 yX9_read ∈ zi_G := zi_inG (List.mem_append_right _ (List.mem_append_right _ (List.mem_append_right _ (List.mem_append_right _ (List.mem_append_right _ (List.mem_append_right _ (List.mem_of_getElem? (l := tables_1_6) (i := 168) rfl))))))) rfl
set_option maxRecDepth 100000 in
theorem zl_858 : Cond.instanceMethod yX9_read ∈ zi_G := zi_inG (List.mem_append_right _ (List.mem_append_right _ (List.mem_append_right _ (List.mem_append_right _ (List.mem_append_right _ (List.mem_append_right _ (List.mem_of_getElem? (l := tables_1_6) (i := 169) rfl))))))) rfl
set_option maxRecDepth 100000 in
theorem zl_859 : Cond.selects "RiverDiggersModel" yX9_read yX9_read ∈ zi_G := zi_inG (List.mem_append_right _ (List.mem_append_right _ (List.mem_append_right _ (List.mem_append_right _ (List.mem_append_right _ (List.mem_append_right _ (List.mem_of_getElem? (l := tables_1_6) (i := 170) rfl))))))) rfl
set_option maxRecDepth 100000 in
theorem zl_860 : Cond.methodLink "RiverDiggersLaw" 155 yX8_read ∈ zi_G := zi_inG (List.mem_append_right _ (List.mem_append_right _ (List.mem_append_right _ (List.mem_append_right _ (List.mem_append_left _ (List.mem_of_getElem? (l := tables_1_4) (i := 105) rfl)))))) rfl
set_option maxRecDepth 100000 in
theorem zl_861 : Cond.instanceMethod yX8_read ∈ zi_G := zi_inG (List.mem_append_right _ (List.mem_append_right _ (List.mem_append_right _ (List.mem_append_right _ (List.mem_append_left _ (List.mem_of_getElem? (l := tables_1_4) (i := 106) rfl)))))) rfl
set_option maxRecDepth 100000 in
theorem zl_862 : Cond.selects "RiverDiggers" yX8_read yX8_read ∈ zi_G := zi_inG (List.mem_append_right _ (List.mem_append_right _ (List.mem_append_right _ (List.mem_append_right _ (List.mem_append_left _ (List.mem_of_getElem? (l := tables_1_4) (i := 107) rfl)))))) rfl
set_option maxRecDepth 100000 in
theorem zl_863 : Cond.methodLink "RiverDiggersLaw" 163 yX9_torn ∈ zi_G := zi_inG (List.mem_append_right _ (List.mem_append_right _ (List.mem_append_right _ (List.mem_append_right _ (List.mem_append_right _ (List.mem_append_right _ (List.mem_of_getElem? (l := tables_1_6) (i := 174) rfl))))))) rfl
set_option maxRecDepth 100000 in
theorem zl_864 : Cond.instanceMethod yX9_torn ∈ zi_G := zi_inG (List.mem_append_right _ (List.mem_append_right _ (List.mem_append_right _ (List.mem_append_right _ (List.mem_append_right _ (List.mem_append_right _ (List.mem_of_getElem? (l := tables_1_6) (i := 175) rfl))))))) rfl
set_option maxRecDepth 100000 in
theorem zl_865 : Cond.selects "RiverDiggersModel" yX9_torn yX9_torn ∈ zi_G := zi_inG (List.mem_append_right _ (List.mem_append_right _ (List.mem_append_right _ (List.mem_append_right _ (List.mem_append_right _ (List.mem_append_right _ (List.mem_of_getElem? (l := tables_1_6) (i := 176) rfl))))))) rfl
set_option maxRecDepth 100000 in
theorem zl_866 : Cond.methodLink "RiverDiggersLaw" 160 yX8_torn ∈ zi_G := zi_inG (List.mem_append_right _ (List.mem_append_right _ (List.mem_append_right _ (List.mem_append_right _ (List.mem_append_left _ (List.mem_of_getElem? (l := tables_1_4) (i := 118) rfl)))))) rfl
set_option maxRecDepth 100000 in
theorem zl_867 : Cond.instanceMethod yX8_torn ∈ zi_G := zi_inG (List.mem_append_right _ (List.mem_append_right _ (List.mem_append_right _ (List.mem_append_right _ (List.mem_append_left _ (List.mem_of_getElem? (l := tables_1_4) (i := 119) rfl)))))) rfl
set_option maxRecDepth 100000 in
theorem zl_868 : Cond.selects "RiverDiggers" yX8_torn yX8_torn ∈ zi_G := zi_inG (List.mem_append_right _ (List.mem_append_right _ (List.mem_append_right _ (List.mem_append_right _ (List.mem_append_left _ (List.mem_of_getElem? (l := tables_1_4) (i := 120) rfl)))))) rfl
set_option maxRecDepth 100000 in
theorem zl_869 : Cond.methodLink "RiverDiggersLaw" 167 yX9_count ∈ zi_G := zi_inG (List.mem_append_right _ (List.mem_append_right _ (List.mem_append_right _ (List.mem_append_right _ (List.mem_append_right _ (List.mem_append_right _ (List.mem_of_getElem? (l := tables_1_6) (i := 178) rfl))))))) rfl
set_option maxRecDepth 100000 in
theorem zl_870 : Cond.instanceMethod yX9_count ∈ zi_G := zi_inG (List.mem_append_right _ (List.mem_append_right _ (List.mem_append_right _ (List.mem_append_right _ (List.mem_append_right _ (List.mem_append_right _ (List.mem_of_getElem? (l := tables_1_6) (i := 179) rfl))))))) rfl
set_option maxRecDepth 100000 in
theorem zl_871 : Cond.selects "RiverDiggersModel" yX9_count yX9_count ∈ zi_G := zi_inG (List.mem_append_right _ (List.mem_append_right _ (List.mem_append_right _ (List.mem_append_right _ (List.mem_append_right _ (List.mem_append_right _ (List.mem_of_getElem? (l := tables_1_6) (i := 180) rfl))))))) rfl
set_option maxRecDepth 100000 in
theorem zl_872 : Cond.methodLink "RiverDiggersLaw" 164 yX8_count ∈ zi_G := zi_inG (List.mem_append_right _ (List.mem_append_right _ (List.mem_append_right _ (List.mem_append_right _ (List.mem_append_left _ (List.mem_of_getElem? (l := tables_1_4) (i := 122) rfl)))))) rfl
set_option maxRecDepth 100000 in
theorem zl_873 : Cond.instanceMethod yX8_count ∈ zi_G := zi_inG (List.mem_append_right _ (List.mem_append_right _ (List.mem_append_right _ (List.mem_append_right _ (List.mem_append_left _ (List.mem_of_getElem? (l := tables_1_4) (i := 123) rfl)))))) rfl
set_option maxRecDepth 100000 in
theorem zl_874 : Cond.selects "RiverDiggers" yX8_count yX8_count ∈ zi_G := zi_inG (List.mem_append_right _ (List.mem_append_right _ (List.mem_append_right _ (List.mem_append_right _ (List.mem_append_left _ (List.mem_of_getElem? (l := tables_1_4) (i := 124) rfl)))))) rfl
set_option maxRecDepth 100000 in
theorem zl_875 : Cond.code yX0_init cX0_init 3 none ∈ zi_G := zi_inG (List.mem_append_right _ (List.mem_append_left _ (List.mem_of_getElem? (l := tables_1_1) (i := 184) (rfl)))) rfl
set_option maxRecDepth 100000 in
theorem zl_876 : Cond.code yX0_fewest cX0_fewest 5 (some .int) ∈ zi_G := zi_inG (List.mem_append_right _ (List.mem_append_right _ (List.mem_append_right _ (List.mem_append_left _ (List.mem_of_getElem? (l := tables_1_3) (i := 179) (rfl)))))) rfl
set_option maxRecDepth 100000 in
theorem zl_877 : Cond.code yX0_brings cX0_brings 6 (some .boolean) ∈ zi_G := zi_inG (List.mem_append_right _ (List.mem_append_right _ (List.mem_append_right _ (List.mem_append_left _ (List.mem_of_getElem? (l := tables_1_3) (i := 184) (rfl)))))) rfl
set_option maxRecDepth 100000 in
theorem zl_878 : Cond.code yX0_cutOf cX0_cutOf 4 (some .int) ∈ zi_G := zi_inG (List.mem_append_right _ (List.mem_append_right _ (List.mem_append_right _ (List.mem_append_left _ (List.mem_of_getElem? (l := tables_1_3) (i := 194) (rfl)))))) rfl
set_option maxRecDepth 100000 in
theorem zl_879 : Cond.code yX1_init cX1_init 1 none ∈ zi_G := zi_inG (List.mem_append_right _ (List.mem_append_right _ (List.mem_append_left _ (List.mem_of_getElem? (l := tables_1_2) (i := 0) (rfl))))) rfl
set_option maxRecDepth 100000 in
theorem zl_880 : Cond.code yX1_clear cX1_clear 1 none ∈ zi_G := zi_inG (List.mem_append_right _ (List.mem_append_right _ (List.mem_append_left _ (List.mem_of_getElem? (l := tables_1_2) (i := 56) (rfl))))) rfl
set_option maxRecDepth 100000 in
theorem zl_881 : Cond.code yX1_take cX1_take 4 (some .int) ∈ zi_G := zi_inG (List.mem_append_right _ (List.mem_append_right _ (List.mem_append_left _ (List.mem_of_getElem? (l := tables_1_2) (i := 146) (rfl))))) rfl
set_option maxRecDepth 100000 in
theorem zl_882 : Cond.code yX1_takeLine cX1_takeLine 2 none ∈ zi_G := zi_inG (List.mem_append_right _ (List.mem_append_right _ (List.mem_append_left _ (List.mem_of_getElem? (l := tables_1_2) (i := 169) (rfl))))) rfl
set_option maxRecDepth 100000 in
theorem zl_883 : Cond.code yX1_comesOnce cX1_comesOnce 3 (some .boolean) ∈ zi_G := zi_inG (List.mem_append_right _ (List.mem_append_right _ (List.mem_append_left _ (List.mem_of_getElem? (l := tables_1_2) (i := 230) (rfl))))) rfl
set_option maxRecDepth 100000 in
theorem zl_884 : Cond.code yX1_takePlain cX1_takePlain 2 none ∈ zi_G := zi_inG (List.mem_append_right _ (List.mem_append_right _ (List.mem_append_left _ (List.mem_of_getElem? (l := tables_1_2) (i := 226) (rfl))))) rfl
set_option maxRecDepth 100000 in
theorem zl_885 : Cond.code yX1_takeRow cX1_takeRow 4 none ∈ zi_G := zi_inG (List.mem_append_right _ (List.mem_append_right _ (List.mem_append_right _ (List.mem_append_left _ (List.mem_of_getElem? (l := tables_1_3) (i := 9) (rfl)))))) rfl
set_option maxRecDepth 100000 in
theorem zl_886 : Cond.code yX1_takeSpring cX1_takeSpring 2 none ∈ zi_G := zi_inG (List.mem_append_right _ (List.mem_append_right _ (List.mem_append_right _ (List.mem_append_left _ (List.mem_of_getElem? (l := tables_1_3) (i := 15) (rfl)))))) rfl
set_option maxRecDepth 100000 in
theorem zl_887 : Cond.code yX1_takeFarm cX1_takeFarm 2 none ∈ zi_G := zi_inG (List.mem_append_right _ (List.mem_append_right _ (List.mem_append_right _ (List.mem_append_left _ (List.mem_of_getElem? (l := tables_1_3) (i := 20) (rfl)))))) rfl
set_option maxRecDepth 100000 in
theorem zl_888 : Cond.code yX1_takeGround cX1_takeGround 4 none ∈ zi_G := zi_inG (List.mem_append_right _ (List.mem_append_right _ (List.mem_append_right _ (List.mem_append_left _ (List.mem_of_getElem? (l := tables_1_3) (i := 25) (rfl)))))) rfl
set_option maxRecDepth 100000 in
theorem zl_889 : Cond.code yX1_takeLaw cX1_takeLaw 2 none ∈ zi_G := zi_inG (List.mem_append_right _ (List.mem_append_right _ (List.mem_append_right _ (List.mem_append_left _ (List.mem_of_getElem? (l := tables_1_3) (i := 37) (rfl)))))) rfl
set_option maxRecDepth 100000 in
theorem zl_890 : Cond.code yX1_takeSilt cX1_takeSilt 2 none ∈ zi_G := zi_inG (List.mem_append_right _ (List.mem_append_right _ (List.mem_append_right _ (List.mem_append_left _ (List.mem_of_getElem? (l := tables_1_3) (i := 42) (rfl)))))) rfl
set_option maxRecDepth 100000 in
theorem zl_891 : Cond.code yX1_isWhole cX1_isWhole 2 (some .boolean) ∈ zi_G := zi_inG (List.mem_append_right _ (List.mem_append_right _ (List.mem_append_right _ (List.mem_append_left _ (List.mem_of_getElem? (l := tables_1_3) (i := 46) (rfl)))))) rfl
set_option maxRecDepth 100000 in
theorem zl_892 : Cond.code yX1_settle cX1_settle 3 none ∈ zi_G := zi_inG (List.mem_append_right _ (List.mem_append_right _ (List.mem_append_left _ (List.mem_of_getElem? (l := tables_1_2) (i := 61) (rfl))))) rfl
set_option maxRecDepth 100000 in
theorem zl_893 : Cond.code yX1_raise cX1_raise 4 none ∈ zi_G := zi_inG (List.mem_append_right _ (List.mem_append_right _ (List.mem_append_left _ (List.mem_of_getElem? (l := tables_1_2) (i := 72) (rfl))))) rfl
set_option maxRecDepth 100000 in
theorem zl_894 : Cond.code yX2_init cX2_init 2 none ∈ zi_G := zi_inG (List.mem_append_right _ (List.mem_append_left _ (List.mem_of_getElem? (l := tables_1_1) (i := 71) (rfl)))) rfl
set_option maxRecDepth 100000 in
theorem zl_895 : Cond.code yX2_copy cX2_copy 2 none ∈ zi_G := zi_inG (List.mem_append_right _ (List.mem_append_right _ (List.mem_append_right _ (List.mem_append_left _ (List.mem_of_getElem? (l := tables_1_3) (i := 158) (rfl)))))) rfl
set_option maxRecDepth 100000 in
theorem zl_896 : Cond.code yX2_trace cX2_trace 2 none ∈ zi_G := zi_inG (List.mem_append_right _ (List.mem_append_right _ (List.mem_append_left _ (List.mem_of_getElem? (l := tables_1_2) (i := 76) (rfl))))) rfl
set_option maxRecDepth 100000 in
theorem zl_897 : Cond.code yX2_lowestNextTo cX2_lowestNextTo 6 (some .int) ∈ zi_G := zi_inG (List.mem_append_right _ (List.mem_append_right _ (List.mem_append_left _ (List.mem_of_getElem? (l := tables_1_2) (i := 80) (rfl))))) rfl
set_option maxRecDepth 100000 in
theorem zl_898 : Cond.code yX2_cuttable cX2_cuttable 4 (some .int) ∈ zi_G := zi_inG (List.mem_append_right _ (List.mem_append_right _ (List.mem_append_right _ (List.mem_append_left _ (List.mem_of_getElem? (l := tables_1_3) (i := 89) (rfl)))))) rfl
set_option maxRecDepth 100000 in
theorem zl_899 : Cond.code yX2_refused cX2_refused 4 (some .int) ∈ zi_G := zi_inG (List.mem_append_right _ (List.mem_append_right _ (List.mem_append_right _ (List.mem_append_left _ (List.mem_of_getElem? (l := tables_1_3) (i := 137) (rfl)))))) rfl
set_option maxRecDepth 100000 in
theorem zl_900 : Cond.code yX2_possibleYears cX2_possibleYears 3 (some .int) ∈ zi_G := zi_inG (List.mem_append_right _ (List.mem_append_right _ (List.mem_append_right _ (List.mem_append_right _ (List.mem_append_left _ (List.mem_of_getElem? (l := tables_1_4) (i := 133) (rfl))))))) rfl
set_option maxRecDepth 100000 in
theorem zl_901 : Cond.code yX2_allParts cX2_allParts 3 (some .int) ∈ zi_G := zi_inG (List.mem_append_right _ (List.mem_append_right _ (List.mem_append_right _ (List.mem_append_right _ (List.mem_append_left _ (List.mem_of_getElem? (l := tables_1_4) (i := 129) (rfl))))))) rfl
set_option maxRecDepth 100000 in
theorem zl_902 : Cond.code yX2_pass cX2_pass 4 none ∈ zi_G := zi_inG (List.mem_append_right _ (List.mem_append_right _ (List.mem_append_right _ (List.mem_append_left _ (List.mem_of_getElem? (l := tables_1_3) (i := 145) (rfl)))))) rfl
set_option maxRecDepth 100000 in
theorem zl_903 : Cond.code yX2_carrySilt cX2_carrySilt 3 none ∈ zi_G := zi_inG (List.mem_append_right _ (List.mem_append_right _ (List.mem_append_right _ (List.mem_append_left _ (List.mem_of_getElem? (l := tables_1_3) (i := 150) (rfl)))))) rfl
set_option maxRecDepth 100000 in
theorem zl_904 : Cond.code yX3_init cX3_init 1 none ∈ zi_G := zi_inG (List.mem_append_right _ (List.mem_append_left _ (List.mem_of_getElem? (l := tables_1_1) (i := 30) (rfl)))) rfl
set_option maxRecDepth 100000 in
theorem zl_905 : Cond.code yX3_hasCell cX3_hasCell 2 (some .boolean) ∈ zi_G := zi_inG (List.mem_append_right _ (List.mem_append_right _ (List.mem_append_right _ (List.mem_append_left _ (List.mem_of_getElem? (l := tables_1_3) (i := 66) (rfl)))))) rfl
set_option maxRecDepth 100000 in
theorem zl_906 : Cond.code yX3_hasFarm cX3_hasFarm 2 (some .boolean) ∈ zi_G := zi_inG (List.mem_append_right _ (List.mem_append_right _ (List.mem_append_right _ (List.mem_append_left _ (List.mem_of_getElem? (l := tables_1_3) (i := 79) (rfl)))))) rfl
set_option maxRecDepth 100000 in
theorem zl_907 : Cond.code yX3_ownerOf cX3_ownerOf 3 (some .int) ∈ zi_G := zi_inG (List.mem_append_right _ (List.mem_append_right _ (List.mem_append_right _ (List.mem_append_left _ (List.mem_of_getElem? (l := tables_1_3) (i := 70) (rfl)))))) rfl
set_option maxRecDepth 100000 in
theorem zl_908 : Cond.code yX3_join cX3_join 4 none ∈ zi_G := zi_inG (List.mem_append_right _ (List.mem_append_right _ (List.mem_append_left _ (List.mem_of_getElem? (l := tables_1_2) (i := 68) (rfl))))) rfl
set_option maxRecDepth 100000 in
theorem zl_909 : Cond.code yX3_beside cX3_beside 4 (some .int) ∈ zi_G := zi_inG (List.mem_append_right _ (List.mem_append_right _ (List.mem_append_right _ (List.mem_append_left _ (List.mem_of_getElem? (l := tables_1_3) (i := 94) (rfl)))))) rfl
set_option maxRecDepth 100000 in
theorem zl_910 : Cond.code yX4_init cX4_init 1 none ∈ zi_G := zi_inG (List.mem_append_right _ (List.mem_append_left _ (List.mem_of_getElem? (l := tables_1_1) (i := 152) (rfl)))) rfl
set_option maxRecDepth 100000 in
theorem zl_911 : Cond.code yX4_build cX4_build 8 none ∈ zi_G := zi_inG (List.mem_append_right _ (List.mem_append_right _ (List.mem_append_right _ (List.mem_append_left _ (List.mem_of_getElem? (l := tables_1_3) (i := 206) (rfl)))))) rfl
set_option maxRecDepth 100000 in
theorem zl_912 : Cond.code yX4_list cX4_list 5 none ∈ zi_G := zi_inG (List.mem_append_right _ (List.mem_append_right _ (List.mem_append_right _ (List.mem_append_left _ (List.mem_of_getElem? (l := tables_1_3) (i := 211) (rfl)))))) rfl
set_option maxRecDepth 100000 in
theorem zl_913 : Cond.code yX4_indexOf cX4_indexOf 3 (some .int) ∈ zi_G := zi_inG (List.mem_append_right _ (List.mem_append_right _ (List.mem_append_right _ (List.mem_append_right _ (List.mem_append_left _ (List.mem_of_getElem? (l := tables_1_4) (i := 12) (rfl))))))) rfl
set_option maxRecDepth 100000 in
theorem zl_914 : Cond.code yX4_breakers cX4_breakers 8 (some .int) ∈ zi_G := zi_inG (List.mem_append_right _ (List.mem_append_right _ (List.mem_append_right _ (List.mem_append_left _ (List.mem_of_getElem? (l := tables_1_3) (i := 239) (rfl)))))) rfl
set_option maxRecDepth 100000 in
theorem zl_915 : Cond.code yX4_placeOf cX4_placeOf 4 (some .int) ∈ zi_G := zi_inG (List.mem_append_right _ (List.mem_append_right _ (List.mem_append_right _ (List.mem_append_right _ (List.mem_append_left _ (List.mem_of_getElem? (l := tables_1_4) (i := 4) (rfl))))))) rfl
set_option maxRecDepth 100000 in
theorem zl_916 : Cond.code yX4_chosen cX4_chosen 7 (some .int) ∈ zi_G := zi_inG (List.mem_append_right _ (List.mem_append_right _ (List.mem_append_right _ (List.mem_append_left _ (List.mem_of_getElem? (l := tables_1_3) (i := 229) (rfl)))))) rfl
set_option maxRecDepth 100000 in
theorem zl_917 : Cond.code yX5_init cX5_init 1 none ∈ zi_G := zi_inG (List.mem_append_right _ (List.mem_append_right _ (List.mem_append_left _ (List.mem_of_getElem? (l := tables_1_2) (i := 37) (rfl))))) rfl
set_option maxRecDepth 100000 in
theorem zl_918 : Cond.code yX5_hasSheet cX5_hasSheet 2 (some .boolean) ∈ zi_G := zi_inG (List.mem_append_right _ (List.mem_append_right _ (List.mem_append_right _ (List.mem_append_right _ (List.mem_append_left _ (List.mem_of_getElem? (l := tables_1_4) (i := 84) (rfl))))))) rfl
set_option maxRecDepth 100000 in
theorem zl_919 : Cond.code yX5_hasLane cX5_hasLane 2 (some .boolean) ∈ zi_G := zi_inG (List.mem_append_right _ (List.mem_append_right _ (List.mem_append_right _ (List.mem_append_right _ (List.mem_append_left _ (List.mem_of_getElem? (l := tables_1_4) (i := 88) (rfl))))))) rfl
set_option maxRecDepth 100000 in
theorem zl_920 : Cond.code yX5_renew cX5_renew 5 none ∈ zi_G := zi_inG (List.mem_append_right _ (List.mem_append_right _ (List.mem_append_right _ (List.mem_append_right _ (List.mem_append_left _ (List.mem_of_getElem? (l := tables_1_4) (i := 92) (rfl))))))) rfl
set_option maxRecDepth 100000 in
theorem zl_921 : Cond.code yX5_takeFault cX5_takeFault 4 (some .int) ∈ zi_G := zi_inG (List.mem_append_right _ (List.mem_append_right _ (List.mem_append_right _ (List.mem_append_right _ (List.mem_append_left _ (List.mem_of_getElem? (l := tables_1_4) (i := 112) (rfl))))))) rfl
set_option maxRecDepth 100000 in
theorem zl_922 : Cond.code yX5_reachFault cX5_reachFault 3 (some .int) ∈ zi_G := zi_inG (List.mem_append_right _ (List.mem_append_right _ (List.mem_append_right _ (List.mem_append_right _ (List.mem_append_left _ (List.mem_of_getElem? (l := tables_1_4) (i := 100) (rfl))))))) rfl
set_option maxRecDepth 100000 in
theorem zl_923 : Cond.code yX5_valueAt cX5_valueAt 3 (some .int) ∈ zi_G := zi_inG (List.mem_append_right _ (List.mem_append_right _ (List.mem_append_right _ (List.mem_append_right _ (List.mem_append_left _ (List.mem_of_getElem? (l := tables_1_4) (i := 117) (rfl))))))) rfl
set_option maxRecDepth 100000 in
theorem zl_924 : Cond.code yX5_put cX5_put 5 none ∈ zi_G := zi_inG (List.mem_append_right _ (List.mem_append_right _ (List.mem_append_right _ (List.mem_append_right _ (List.mem_append_left _ (List.mem_of_getElem? (l := tables_1_4) (i := 104) (rfl))))))) rfl
set_option maxRecDepth 100000 in
theorem zl_925 : Cond.code yX6_init cX6_init 1 none ∈ zi_G := zi_inG (List.mem_append_right _ (List.mem_append_left _ (List.mem_of_getElem? (l := tables_1_1) (i := 202) (rfl)))) rfl
set_option maxRecDepth 100000 in
theorem zl_926 : Cond.code yX6_append cX6_append 4 (some .boolean) ∈ zi_G := zi_inG (List.mem_append_right _ (List.mem_append_right _ (List.mem_append_left _ (List.mem_of_getElem? (l := tables_1_2) (i := 134) (rfl))))) rfl
set_option maxRecDepth 100000 in
theorem zl_927 : Cond.code yX6_rewind cX6_rewind 1 none ∈ zi_G := zi_inG (List.mem_append_right _ (List.mem_append_right _ (List.mem_append_left _ (List.mem_of_getElem? (l := tables_1_2) (i := 151) (rfl))))) rfl
set_option maxRecDepth 100000 in
theorem zl_928 : Cond.code yX6_fail cX6_fail 2 none ∈ zi_G := zi_inG (List.mem_append_right _ (List.mem_append_right _ (List.mem_append_left _ (List.mem_of_getElem? (l := tables_1_2) (i := 165) (rfl))))) rfl
set_option maxRecDepth 100000 in
theorem zl_929 : Cond.code yX6_failBehindAll cX6_failBehindAll 2 none ∈ zi_G := zi_inG (List.mem_append_right _ (List.mem_append_right _ (List.mem_append_right _ (List.mem_append_left _ (List.mem_of_getElem? (l := tables_1_3) (i := 50) (rfl)))))) rfl
set_option maxRecDepth 100000 in
theorem zl_930 : Cond.code yX6_next cX6_next 1 none ∈ zi_G := zi_inG (List.mem_append_right _ (List.mem_append_right _ (List.mem_append_left _ (List.mem_of_getElem? (l := tables_1_2) (i := 155) (rfl))))) rfl
set_option maxRecDepth 100000 in
theorem zl_931 : Cond.code yX6_isLetter cX6_isLetter 1 (some .boolean) ∈ zi_G := zi_inG (List.mem_append_right _ (List.mem_append_right _ (List.mem_append_left _ (List.mem_of_getElem? (l := tables_1_2) (i := 158) (rfl))))) rfl
set_option maxRecDepth 100000 in
theorem zl_932 : Cond.code yX6_isFigure cX6_isFigure 1 (some .boolean) ∈ zi_G := zi_inG (List.mem_append_right _ (List.mem_append_right _ (List.mem_append_left _ (List.mem_of_getElem? (l := tables_1_2) (i := 161) (rfl))))) rfl
set_option maxRecDepth 100000 in
theorem zl_933 : Cond.code yX6_says cX6_says 3 (some .boolean) ∈ zi_G := zi_inG (List.mem_append_right _ (List.mem_append_right _ (List.mem_append_left _ (List.mem_of_getElem? (l := tables_1_2) (i := 174) (rfl))))) rfl
set_option maxRecDepth 100000 in
theorem zl_934 : Cond.code yX6_isNumber cX6_isNumber 3 (some .boolean) ∈ zi_G := zi_inG (List.mem_append_right _ (List.mem_append_right _ (List.mem_append_right _ (List.mem_append_left _ (List.mem_of_getElem? (l := tables_1_3) (i := 0) (rfl)))))) rfl
set_option maxRecDepth 100000 in
theorem zl_935 : Cond.code yX6_nextNumber cX6_nextNumber 3 (some .boolean) ∈ zi_G := zi_inG (List.mem_append_right _ (List.mem_append_right _ (List.mem_append_left _ (List.mem_of_getElem? (l := tables_1_2) (i := 235) (rfl))))) rfl
set_option maxRecDepth 100000 in
theorem zl_936 : Cond.code yX6_nextStop cX6_nextStop 1 none ∈ zi_G := zi_inG (List.mem_append_right _ (List.mem_append_right _ (List.mem_append_right _ (List.mem_append_left _ (List.mem_of_getElem? (l := tables_1_3) (i := 4) (rfl)))))) rfl
set_option maxRecDepth 100000 in
theorem zl_937 : Cond.code yX7_init cX7_init 2 none ∈ zi_G := zi_inG (List.mem_append_right _ (List.mem_append_left _ (List.mem_of_getElem? (l := tables_1_1) (i := 65) (rfl)))) rfl
set_option maxRecDepth 100000 in
theorem zl_938 : Cond.code yX7_copy cX7_copy 2 none ∈ zi_G := zi_inG (List.mem_append_right _ (List.mem_append_right _ (List.mem_append_right _ (List.mem_append_right _ (List.mem_append_left _ (List.mem_of_getElem? (l := tables_1_4) (i := 70) (rfl))))))) rfl
set_option maxRecDepth 100000 in
theorem zl_939 : Cond.code yX7_gain cX7_gain 3 (some .int) ∈ zi_G := zi_inG (List.mem_append_right _ (List.mem_append_right _ (List.mem_append_right _ (List.mem_append_left _ (List.mem_of_getElem? (l := tables_1_3) (i := 83) (rfl)))))) rfl
set_option maxRecDepth 100000 in
theorem zl_940 : Cond.code yX7_agrees cX7_agrees 4 (some .boolean) ∈ zi_G := zi_inG (List.mem_append_right _ (List.mem_append_right _ (List.mem_append_right _ (List.mem_append_right _ (List.mem_append_left _ (List.mem_of_getElem? (l := tables_1_4) (i := 57) (rfl))))))) rfl
set_option maxRecDepth 100000 in
theorem zl_941 : Cond.code yX8_init cX8_init 1 none ∈ zi_G := zi_inG (List.mem_append_right _ (List.mem_append_left _ (List.mem_of_getElem? (l := tables_1_1) (i := 22) (rfl)))) rfl
set_option maxRecDepth 100000 in
theorem zl_942 : Cond.code yX8_feed cX8_feed 3 (some .int) ∈ zi_G := zi_inG (List.mem_append_right _ (List.mem_append_right _ (List.mem_append_left _ (List.mem_of_getElem? (l := tables_1_2) (i := 130) (rfl))))) rfl
set_option maxRecDepth 100000 in
theorem zl_943 : Cond.code yX8_end cX8_end 3 (some .int) ∈ zi_G := zi_inG (List.mem_append_right _ (List.mem_append_right _ (List.mem_append_left _ (List.mem_of_getElem? (l := tables_1_2) (i := 138) (rfl))))) rfl
set_option maxRecDepth 100000 in
theorem zl_944 : Cond.code yX8_text cX8_text 2 (some .int) ∈ zi_G := zi_inG (List.mem_append_right _ (List.mem_append_right _ (List.mem_append_left _ (List.mem_of_getElem? (l := tables_1_2) (i := 142) (rfl))))) rfl
set_option maxRecDepth 100000 in
theorem zl_945 : Cond.code yX8_fault cX8_fault 1 (some .int) ∈ zi_G := zi_inG (List.mem_append_right _ (List.mem_append_right _ (List.mem_append_right _ (List.mem_append_left _ (List.mem_of_getElem? (l := tables_1_3) (i := 54) (rfl)))))) rfl
set_option maxRecDepth 100000 in
theorem zl_946 : Cond.code yX8_rule cX8_rule 2 (some .int) ∈ zi_G := zi_inG (List.mem_append_right _ (List.mem_append_right _ (List.mem_append_right _ (List.mem_append_left _ (List.mem_of_getElem? (l := tables_1_3) (i := 58) (rfl)))))) rfl
set_option maxRecDepth 100000 in
theorem zl_947 : Cond.code yX8_cell cX8_cell 3 (some .int) ∈ zi_G := zi_inG (List.mem_append_right _ (List.mem_append_right _ (List.mem_append_right _ (List.mem_append_left _ (List.mem_of_getElem? (l := tables_1_3) (i := 62) (rfl)))))) rfl
set_option maxRecDepth 100000 in
theorem zl_948 : Cond.code yX8_farm cX8_farm 3 (some .int) ∈ zi_G := zi_inG (List.mem_append_right _ (List.mem_append_right _ (List.mem_append_right _ (List.mem_append_left _ (List.mem_of_getElem? (l := tables_1_3) (i := 75) (rfl)))))) rfl
set_option maxRecDepth 100000 in
theorem zl_949 : Cond.code yX8_bed cX8_bed 2 (some .int) ∈ zi_G := zi_inG (List.mem_append_right _ (List.mem_append_right _ (List.mem_append_right _ (List.mem_append_left _ (List.mem_of_getElem? (l := tables_1_3) (i := 98) (rfl)))))) rfl
set_option maxRecDepth 100000 in
theorem zl_950 : Cond.code yX8_dam cX8_dam 4 (some .int) ∈ zi_G := zi_inG (List.mem_append_right _ (List.mem_append_right _ (List.mem_append_right _ (List.mem_append_left _ (List.mem_of_getElem? (l := tables_1_3) (i := 102) (rfl)))))) rfl
set_option maxRecDepth 100000 in
theorem zl_951 : Cond.code yX8_move cX8_move 3 (some .int) ∈ zi_G := zi_inG (List.mem_append_right _ (List.mem_append_right _ (List.mem_append_right _ (List.mem_append_left _ (List.mem_of_getElem? (l := tables_1_3) (i := 111) (rfl)))))) rfl
set_option maxRecDepth 100000 in
theorem zl_952 : Cond.code yX8_law cX8_law 3 (some .int) ∈ zi_G := zi_inG (List.mem_append_right _ (List.mem_append_right _ (List.mem_append_right _ (List.mem_append_left _ (List.mem_of_getElem? (l := tables_1_3) (i := 115) (rfl)))))) rfl
set_option maxRecDepth 100000 in
theorem zl_953 : Cond.code yX8_silt cX8_silt 3 (some .int) ∈ zi_G := zi_inG (List.mem_append_right _ (List.mem_append_right _ (List.mem_append_right _ (List.mem_append_left _ (List.mem_of_getElem? (l := tables_1_3) (i := 119) (rfl)))))) rfl
set_option maxRecDepth 100000 in
theorem zl_954 : Cond.code yX8_price cX8_price 4 (some .int) ∈ zi_G := zi_inG (List.mem_append_right _ (List.mem_append_right _ (List.mem_append_right _ (List.mem_append_left _ (List.mem_of_getElem? (l := tables_1_3) (i := 123) (rfl)))))) rfl
set_option maxRecDepth 100000 in
theorem zl_955 : Cond.code yX8_retrace cX8_retrace 1 none ∈ zi_G := zi_inG (List.mem_append_right _ (List.mem_append_right _ (List.mem_append_right _ (List.mem_append_left _ (List.mem_of_getElem? (l := tables_1_3) (i := 106) (rfl)))))) rfl
set_option maxRecDepth 100000 in
theorem zl_956 : Cond.code yX8_year cX8_year 3 (some .int) ∈ zi_G := zi_inG (List.mem_append_right _ (List.mem_append_right _ (List.mem_append_right _ (List.mem_append_left _ (List.mem_of_getElem? (l := tables_1_3) (i := 127) (rfl)))))) rfl
set_option maxRecDepth 100000 in
theorem zl_957 : Cond.code yX8_would cX8_would 3 (some .int) ∈ zi_G := zi_inG (List.mem_append_right _ (List.mem_append_right _ (List.mem_append_right _ (List.mem_append_left _ (List.mem_of_getElem? (l := tables_1_3) (i := 154) (rfl)))))) rfl
set_option maxRecDepth 100000 in
theorem zl_958 : Cond.code yX8_tell cX8_tell 2 (some .int) ∈ zi_G := zi_inG (List.mem_append_right _ (List.mem_append_right _ (List.mem_append_right _ (List.mem_append_left _ (List.mem_of_getElem? (l := tables_1_3) (i := 163) (rfl)))))) rfl
set_option maxRecDepth 100000 in
theorem zl_959 : Cond.code yX8_drop cX8_drop 3 (some .int) ∈ zi_G := zi_inG (List.mem_append_right _ (List.mem_append_right _ (List.mem_append_right _ (List.mem_append_left _ (List.mem_of_getElem? (l := tables_1_3) (i := 167) (rfl)))))) rfl
set_option maxRecDepth 100000 in
theorem zl_960 : Cond.code yX8_judge cX8_judge 4 (some .int) ∈ zi_G := zi_inG (List.mem_append_right _ (List.mem_append_right _ (List.mem_append_right _ (List.mem_append_left _ (List.mem_of_getElem? (l := tables_1_3) (i := 171) (rfl)))))) rfl
set_option maxRecDepth 100000 in
theorem zl_961 : Cond.code yX8_refusal cX8_refusal 3 (some .int) ∈ zi_G := zi_inG (List.mem_append_right _ (List.mem_append_right _ (List.mem_append_right _ (List.mem_append_left _ (List.mem_of_getElem? (l := tables_1_3) (i := 130) (rfl)))))) rfl
set_option maxRecDepth 100000 in
theorem zl_962 : Cond.code yX8_isNumber cX8_isNumber 1 (some .boolean) ∈ zi_G := zi_inG (List.mem_append_right _ (List.mem_append_right _ (List.mem_append_right _ (List.mem_append_left _ (List.mem_of_getElem? (l := tables_1_3) (i := 133) (rfl)))))) rfl
set_option maxRecDepth 100000 in
theorem zl_963 : Cond.code yX8_option cX8_option 2 (some .int) ∈ zi_G := zi_inG (List.mem_append_right _ (List.mem_append_right _ (List.mem_append_right _ (List.mem_append_left _ (List.mem_of_getElem? (l := tables_1_3) (i := 140) (rfl)))))) rfl
set_option maxRecDepth 100000 in
theorem zl_964 : Cond.code yX8_numberOf cX8_numberOf 2 (some .int) ∈ zi_G := zi_inG (List.mem_append_right _ (List.mem_append_right _ (List.mem_append_right _ (List.mem_append_left _ (List.mem_of_getElem? (l := tables_1_3) (i := 189) (rfl)))))) rfl
set_option maxRecDepth 100000 in
theorem zl_965 : Cond.code yX8_has cX8_has 2 (some .boolean) ∈ zi_G := zi_inG (List.mem_append_right _ (List.mem_append_right _ (List.mem_append_left _ (List.mem_of_getElem? (l := tables_1_2) (i := 83) (rfl))))) rfl
set_option maxRecDepth 100000 in
theorem zl_966 : Cond.code yX8_alone cX8_alone 6 (some .int) ∈ zi_G := zi_inG (List.mem_append_right _ (List.mem_append_right _ (List.mem_append_right _ (List.mem_append_left _ (List.mem_of_getElem? (l := tables_1_3) (i := 175) (rfl)))))) rfl
set_option maxRecDepth 100000 in
theorem zl_967 : Cond.code yX8_together cX8_together 7 (some .int) ∈ zi_G := zi_inG (List.mem_append_right _ (List.mem_append_right _ (List.mem_append_right _ (List.mem_append_left _ (List.mem_of_getElem? (l := tables_1_3) (i := 198) (rfl)))))) rfl
set_option maxRecDepth 100000 in
theorem zl_968 : Cond.code yX8_lookAhead cX8_lookAhead 1 none ∈ zi_G := zi_inG (List.mem_append_right _ (List.mem_append_right _ (List.mem_append_right _ (List.mem_append_left _ (List.mem_of_getElem? (l := tables_1_3) (i := 202) (rfl)))))) rfl
set_option maxRecDepth 100000 in
theorem zl_969 : Cond.code yX8_cutters cX8_cutters 3 (some .int) ∈ zi_G := zi_inG (List.mem_append_right _ (List.mem_append_right _ (List.mem_append_right _ (List.mem_append_left _ (List.mem_of_getElem? (l := tables_1_3) (i := 218) (rfl)))))) rfl
set_option maxRecDepth 100000 in
theorem zl_970 : Cond.code yX8_selfish cX8_selfish 3 (some .int) ∈ zi_G := zi_inG (List.mem_append_right _ (List.mem_append_right _ (List.mem_append_right _ (List.mem_append_left _ (List.mem_of_getElem? (l := tables_1_3) (i := 225) (rfl)))))) rfl
set_option maxRecDepth 100000 in
theorem zl_971 : Cond.code yX8_rests cX8_rests 4 (some .int) ∈ zi_G := zi_inG (List.mem_append_right _ (List.mem_append_right _ (List.mem_append_right _ (List.mem_append_left _ (List.mem_of_getElem? (l := tables_1_3) (i := 235) (rfl)))))) rfl
set_option maxRecDepth 100000 in
theorem zl_972 : Cond.code yX8_breaks cX8_breaks 3 (some .int) ∈ zi_G := zi_inG (List.mem_append_right _ (List.mem_append_right _ (List.mem_append_right _ (List.mem_append_right _ (List.mem_append_left _ (List.mem_of_getElem? (l := tables_1_4) (i := 8) (rfl))))))) rfl
set_option maxRecDepth 100000 in
theorem zl_973 : Cond.code yX8_stands cX8_stands 3 (some .int) ∈ zi_G := zi_inG (List.mem_append_right _ (List.mem_append_right _ (List.mem_append_right _ (List.mem_append_right _ (List.mem_append_left _ (List.mem_of_getElem? (l := tables_1_4) (i := 16) (rfl))))))) rfl
set_option maxRecDepth 100000 in
theorem zl_974 : Cond.code yX8_again cX8_again 4 (some .int) ∈ zi_G := zi_inG (List.mem_append_right _ (List.mem_append_right _ (List.mem_append_right _ (List.mem_append_right _ (List.mem_append_left _ (List.mem_of_getElem? (l := tables_1_4) (i := 20) (rfl))))))) rfl
set_option maxRecDepth 100000 in
theorem zl_975 : Cond.code yX8_note cX8_note 2 none ∈ zi_G := zi_inG (List.mem_append_right _ (List.mem_append_right _ (List.mem_append_right _ (List.mem_append_right _ (List.mem_append_left _ (List.mem_of_getElem? (l := tables_1_4) (i := 24) (rfl))))))) rfl
set_option maxRecDepth 100000 in
theorem zl_976 : Cond.code yX8_firstAlike cX8_firstAlike 3 (some .int) ∈ zi_G := zi_inG (List.mem_append_right _ (List.mem_append_right _ (List.mem_append_right _ (List.mem_append_right _ (List.mem_append_left _ (List.mem_of_getElem? (l := tables_1_4) (i := 29) (rfl))))))) rfl
set_option maxRecDepth 100000 in
theorem zl_977 : Cond.code yX8_isAlike cX8_isAlike 3 (some .boolean) ∈ zi_G := zi_inG (List.mem_append_right _ (List.mem_append_right _ (List.mem_append_right _ (List.mem_append_right _ (List.mem_append_left _ (List.mem_of_getElem? (l := tables_1_4) (i := 33) (rfl))))))) rfl
set_option maxRecDepth 100000 in
theorem zl_978 : Cond.code yX8_odds cX8_odds 5 (some .long) ∈ zi_G := zi_inG (List.mem_append_right _ (List.mem_append_right _ (List.mem_append_right _ (List.mem_append_right _ (List.mem_append_left _ (List.mem_of_getElem? (l := tables_1_4) (i := 37) (rfl))))))) rfl
set_option maxRecDepth 100000 in
theorem zl_979 : Cond.code yX8_commonDivisor cX8_commonDivisor 6 (some .int) ∈ zi_G := zi_inG (List.mem_append_right _ (List.mem_append_right _ (List.mem_append_right _ (List.mem_append_right _ (List.mem_append_left _ (List.mem_of_getElem? (l := tables_1_4) (i := 41) (rfl))))))) rfl
set_option maxRecDepth 100000 in
theorem zl_980 : Cond.code yX8_see cX8_see 3 (some .int) ∈ zi_G := zi_inG (List.mem_append_right _ (List.mem_append_right _ (List.mem_append_right _ (List.mem_append_right _ (List.mem_append_left _ (List.mem_of_getElem? (l := tables_1_4) (i := 45) (rfl))))))) rfl
set_option maxRecDepth 100000 in
theorem zl_981 : Cond.code yX8_forget cX8_forget 3 (some .int) ∈ zi_G := zi_inG (List.mem_append_right _ (List.mem_append_right _ (List.mem_append_right _ (List.mem_append_right _ (List.mem_append_left _ (List.mem_of_getElem? (l := tables_1_4) (i := 49) (rfl))))))) rfl
set_option maxRecDepth 100000 in
theorem zl_982 : Cond.code yX8_fits cX8_fits 8 (some .int) ∈ zi_G := zi_inG (List.mem_append_right _ (List.mem_append_right _ (List.mem_append_right _ (List.mem_append_right _ (List.mem_append_left _ (List.mem_of_getElem? (l := tables_1_4) (i := 53) (rfl))))))) rfl
set_option maxRecDepth 100000 in
theorem zl_983 : Cond.code yX8_keep cX8_keep 3 (some .int) ∈ zi_G := zi_inG (List.mem_append_right _ (List.mem_append_right _ (List.mem_append_right _ (List.mem_append_right _ (List.mem_append_left _ (List.mem_of_getElem? (l := tables_1_4) (i := 62) (rfl))))))) rfl
set_option maxRecDepth 100000 in
theorem zl_984 : Cond.code yX8_back cX8_back 2 (some .int) ∈ zi_G := zi_inG (List.mem_append_right _ (List.mem_append_right _ (List.mem_append_right _ (List.mem_append_right _ (List.mem_append_left _ (List.mem_of_getElem? (l := tables_1_4) (i := 76) (rfl))))))) rfl
set_option maxRecDepth 100000 in
theorem zl_985 : Cond.code yX8_imageOf cX8_imageOf 2 (some (.object "RiverDiggers$Times")) ∈ zi_G := zi_inG (List.mem_append_right _ (List.mem_append_right _ (List.mem_append_right _ (List.mem_append_right _ (List.mem_append_left _ (List.mem_of_getElem? (l := tables_1_4) (i := 66) (rfl))))))) rfl
set_option maxRecDepth 100000 in
theorem zl_986 : Cond.code yX8_sheet cX8_sheet 4 (some .int) ∈ zi_G := zi_inG (List.mem_append_right _ (List.mem_append_right _ (List.mem_append_right _ (List.mem_append_right _ (List.mem_append_left _ (List.mem_of_getElem? (l := tables_1_4) (i := 80) (rfl))))))) rfl
set_option maxRecDepth 100000 in
theorem zl_987 : Cond.code yX8_lay cX8_lay 5 (some .int) ∈ zi_G := zi_inG (List.mem_append_right _ (List.mem_append_right _ (List.mem_append_right _ (List.mem_append_right _ (List.mem_append_left _ (List.mem_of_getElem? (l := tables_1_4) (i := 96) (rfl))))))) rfl
set_option maxRecDepth 100000 in
theorem zl_988 : Cond.code yX8_read cX8_read 9 (some .int) ∈ zi_G := zi_inG (List.mem_append_right _ (List.mem_append_right _ (List.mem_append_right _ (List.mem_append_right _ (List.mem_append_left _ (List.mem_of_getElem? (l := tables_1_4) (i := 108) (rfl))))))) rfl
set_option maxRecDepth 100000 in
theorem zl_989 : Cond.code yX8_torn cX8_torn 1 (some .int) ∈ zi_G := zi_inG (List.mem_append_right _ (List.mem_append_right _ (List.mem_append_right _ (List.mem_append_right _ (List.mem_append_left _ (List.mem_of_getElem? (l := tables_1_4) (i := 121) (rfl))))))) rfl
set_option maxRecDepth 100000 in
theorem zl_990 : Cond.code yX8_count cX8_count 2 (some .int) ∈ zi_G := zi_inG (List.mem_append_right _ (List.mem_append_right _ (List.mem_append_right _ (List.mem_append_right _ (List.mem_append_left _ (List.mem_of_getElem? (l := tables_1_4) (i := 125) (rfl))))))) rfl
set_option maxRecDepth 100000 in
theorem zl_991 : Cond.code yX9_init cX9_init 2 none ∈ zi_G := zi_inG (List.mem_append_right _ (List.mem_append_right _ (List.mem_append_right _ (List.mem_append_right _ (List.mem_append_left _ (List.mem_of_getElem? (l := tables_1_4) (i := 139) (rfl))))))) rfl
set_option maxRecDepth 100000 in
theorem zl_992 : Cond.code yX9_in cX9_in 6 (some .boolean) ∈ zi_G := zi_inG (List.mem_append_right _ (List.mem_append_right _ (List.mem_append_right _ (List.mem_append_right _ (List.mem_append_right _ (List.mem_append_left _ (List.mem_of_getElem? (l := tables_1_5) (i := 63) (rfl)))))))) rfl
set_option maxRecDepth 100000 in
theorem zl_993 : Cond.code yX9_flag cX9_flag 1 (some .int) ∈ zi_G := zi_inG (List.mem_append_right _ (List.mem_append_right _ (List.mem_append_right _ (List.mem_append_right _ (List.mem_append_right _ (List.mem_append_left _ (List.mem_of_getElem? (l := tables_1_5) (i := 155) (rfl)))))))) rfl
set_option maxRecDepth 100000 in
theorem zl_994 : Cond.code yX9_firstDraft cX9_firstDraft 2 none ∈ zi_G := zi_inG (List.mem_append_right _ (List.mem_append_right _ (List.mem_append_right _ (List.mem_append_right _ (List.mem_append_left _ (List.mem_of_getElem? (l := tables_1_4) (i := 144) (rfl))))))) rfl
set_option maxRecDepth 100000 in
theorem zl_995 : Cond.code yX9_keepDraft cX9_keepDraft 2 none ∈ zi_G := zi_inG (List.mem_append_right _ (List.mem_append_right _ (List.mem_append_right _ (List.mem_append_right _ (List.mem_append_left _ (List.mem_of_getElem? (l := tables_1_4) (i := 148) (rfl))))))) rfl
set_option maxRecDepth 100000 in
theorem zl_996 : Cond.code yX9_feed cX9_feed 4 (some .int) ∈ zi_G := zi_inG (List.mem_append_right _ (List.mem_append_right _ (List.mem_append_right _ (List.mem_append_right _ (List.mem_append_right _ (List.mem_append_left _ (List.mem_of_getElem? (l := tables_1_5) (i := 55) (rfl)))))))) rfl
set_option maxRecDepth 100000 in
theorem zl_997 : Cond.code yX9_end cX9_end 3 (some .int) ∈ zi_G := zi_inG (List.mem_append_right _ (List.mem_append_right _ (List.mem_append_right _ (List.mem_append_right _ (List.mem_append_right _ (List.mem_append_left _ (List.mem_of_getElem? (l := tables_1_5) (i := 60) (rfl)))))))) rfl
set_option maxRecDepth 100000 in
theorem zl_998 : Cond.code yX9_needs cX9_needs 3 none ∈ zi_G := zi_inG (List.mem_append_right _ (List.mem_append_right _ (List.mem_append_right _ (List.mem_append_right _ (List.mem_append_right _ (List.mem_append_left _ (List.mem_of_getElem? (l := tables_1_5) (i := 83) (rfl)))))))) rfl
set_option maxRecDepth 100000 in
theorem zl_999 : Cond.code yX9_look cX9_look 2 (some .int) ∈ zi_G := zi_inG (List.mem_append_right _ (List.mem_append_right _ (List.mem_append_right _ (List.mem_append_right _ (List.mem_append_right _ (List.mem_append_left _ (List.mem_of_getElem? (l := tables_1_5) (i := 75) (rfl)))))))) rfl
set_option maxRecDepth 100000 in
theorem zl_1000 : Cond.code yX9_is cX9_is 5 (some .boolean) ∈ zi_G := zi_inG (List.mem_append_right _ (List.mem_append_right _ (List.mem_append_right _ (List.mem_append_right _ (List.mem_append_right _ (List.mem_append_left _ (List.mem_of_getElem? (l := tables_1_5) (i := 95) (rfl)))))))) rfl
set_option maxRecDepth 100000 in
theorem zl_1001 : Cond.code yX9_ends cX9_ends 4 (some .boolean) ∈ zi_G := zi_inG (List.mem_append_right _ (List.mem_append_right _ (List.mem_append_right _ (List.mem_append_right _ (List.mem_append_right _ (List.mem_append_left _ (List.mem_of_getElem? (l := tables_1_5) (i := 99) (rfl)))))))) rfl
set_option maxRecDepth 100000 in
theorem zl_1002 : Cond.code yX9_ruleLine cX9_ruleLine 1 (some .int) ∈ zi_G := zi_inG (List.mem_append_right _ (List.mem_append_right _ (List.mem_append_right _ (List.mem_append_right _ (List.mem_append_right _ (List.mem_append_left _ (List.mem_of_getElem? (l := tables_1_5) (i := 103) (rfl)))))))) rfl
set_option maxRecDepth 100000 in
theorem zl_1003 : Cond.code yX9_lineNow cX9_lineNow 1 (some .int) ∈ zi_G := zi_inG (List.mem_append_right _ (List.mem_append_right _ (List.mem_append_right _ (List.mem_append_right _ (List.mem_append_right _ (List.mem_append_left _ (List.mem_of_getElem? (l := tables_1_5) (i := 91) (rfl)))))))) rfl
set_option maxRecDepth 100000 in
theorem zl_1004 : Cond.code yX9_next cX9_next 2 none ∈ zi_G := zi_inG (List.mem_append_right _ (List.mem_append_right _ (List.mem_append_right _ (List.mem_append_right _ (List.mem_append_right _ (List.mem_append_left _ (List.mem_of_getElem? (l := tables_1_5) (i := 71) (rfl)))))))) rfl
set_option maxRecDepth 100000 in
theorem zl_1005 : Cond.code yX9_looked cX9_looked 3 (some .int) ∈ zi_G := zi_inG (List.mem_append_right _ (List.mem_append_right _ (List.mem_append_right _ (List.mem_append_right _ (List.mem_append_right _ (List.mem_append_left _ (List.mem_of_getElem? (l := tables_1_5) (i := 115) (rfl)))))))) rfl
set_option maxRecDepth 100000 in
theorem zl_1006 : Cond.code yX9_readNumber cX9_readNumber 4 (some .int) ∈ zi_G := zi_inG (List.mem_append_right _ (List.mem_append_right _ (List.mem_append_right _ (List.mem_append_right _ (List.mem_append_right _ (List.mem_append_left _ (List.mem_of_getElem? (l := tables_1_5) (i := 111) (rfl)))))))) rfl
set_option maxRecDepth 100000 in
theorem zl_1007 : Cond.code yX9_readRow cX9_readRow 5 none ∈ zi_G := zi_inG (List.mem_append_right _ (List.mem_append_right _ (List.mem_append_right _ (List.mem_append_right _ (List.mem_append_right _ (List.mem_append_left _ (List.mem_of_getElem? (l := tables_1_5) (i := 123) (rfl)))))))) rfl
set_option maxRecDepth 100000 in
theorem zl_1008 : Cond.code yX9_sawCell cX9_sawCell 2 none ∈ zi_G := zi_inG (List.mem_append_right _ (List.mem_append_right _ (List.mem_append_right _ (List.mem_append_right _ (List.mem_append_right _ (List.mem_append_left _ (List.mem_of_getElem? (l := tables_1_5) (i := 119) (rfl)))))))) rfl
set_option maxRecDepth 100000 in
theorem zl_1009 : Cond.code yX9_readGround cX9_readGround 4 none ∈ zi_G := zi_inG (List.mem_append_right _ (List.mem_append_right _ (List.mem_append_right _ (List.mem_append_right _ (List.mem_append_right _ (List.mem_append_left _ (List.mem_of_getElem? (l := tables_1_5) (i := 127) (rfl)))))))) rfl
set_option maxRecDepth 100000 in
theorem zl_1010 : Cond.code yX9_readLineOf cX9_readLineOf 2 none ∈ zi_G := zi_inG (List.mem_append_right _ (List.mem_append_right _ (List.mem_append_right _ (List.mem_append_right _ (List.mem_append_right _ (List.mem_append_left _ (List.mem_of_getElem? (l := tables_1_5) (i := 107) (rfl)))))))) rfl
set_option maxRecDepth 100000 in
theorem zl_1011 : Cond.code yX9_readLine cX9_readLine 2 none ∈ zi_G := zi_inG (List.mem_append_right _ (List.mem_append_right _ (List.mem_append_right _ (List.mem_append_right _ (List.mem_append_right _ (List.mem_append_left _ (List.mem_of_getElem? (l := tables_1_5) (i := 87) (rfl)))))))) rfl
set_option maxRecDepth 100000 in
theorem zl_1012 : Cond.code yX9_text cX9_text 2 (some .int) ∈ zi_G := zi_inG (List.mem_append_right _ (List.mem_append_right _ (List.mem_append_right _ (List.mem_append_right _ (List.mem_append_right _ (List.mem_append_left _ (List.mem_of_getElem? (l := tables_1_5) (i := 67) (rfl)))))))) rfl
set_option maxRecDepth 100000 in
theorem zl_1013 : Cond.code yX9_fault cX9_fault 1 (some .int) ∈ zi_G := zi_inG (List.mem_append_right _ (List.mem_append_right _ (List.mem_append_right _ (List.mem_append_right _ (List.mem_append_right _ (List.mem_append_left _ (List.mem_of_getElem? (l := tables_1_5) (i := 131) (rfl)))))))) rfl
set_option maxRecDepth 100000 in
theorem zl_1014 : Cond.code yX9_isCell cX9_isCell 2 (some .boolean) ∈ zi_G := zi_inG (List.mem_append_right _ (List.mem_append_right _ (List.mem_append_right _ (List.mem_append_right _ (List.mem_append_right _ (List.mem_append_left _ (List.mem_of_getElem? (l := tables_1_5) (i := 143) (rfl)))))))) rfl
set_option maxRecDepth 100000 in
theorem zl_1015 : Cond.code yX9_isFarm cX9_isFarm 2 (some .boolean) ∈ zi_G := zi_inG (List.mem_append_right _ (List.mem_append_right _ (List.mem_append_right _ (List.mem_append_right _ (List.mem_append_right _ (List.mem_append_left _ (List.mem_of_getElem? (l := tables_1_5) (i := 151) (rfl)))))))) rfl
set_option maxRecDepth 100000 in
theorem zl_1016 : Cond.code yX9_isYear cX9_isYear 1 (some .boolean) ∈ zi_G := zi_inG (List.mem_append_right _ (List.mem_append_right _ (List.mem_append_right _ (List.mem_append_right _ (List.mem_append_right _ (List.mem_append_left _ (List.mem_of_getElem? (l := tables_1_5) (i := 221) (rfl)))))))) rfl
set_option maxRecDepth 100000 in
theorem zl_1017 : Cond.code yX9_beside cX9_beside 5 (some .int) ∈ zi_G := zi_inG (List.mem_append_right _ (List.mem_append_right _ (List.mem_append_right _ (List.mem_append_right _ (List.mem_append_right _ (List.mem_append_left _ (List.mem_of_getElem? (l := tables_1_5) (i := 175) (rfl)))))))) rfl
set_option maxRecDepth 100000 in
theorem zl_1018 : Cond.code yX9_lowestBeside cX9_lowestBeside 6 (some .int) ∈ zi_G := zi_inG (List.mem_append_right _ (List.mem_append_right _ (List.mem_append_right _ (List.mem_append_right _ (List.mem_append_right _ (List.mem_append_left _ (List.mem_of_getElem? (l := tables_1_5) (i := 171) (rfl)))))))) rfl
set_option maxRecDepth 100000 in
theorem zl_1019 : Cond.code yX9_findBed cX9_findBed 2 none ∈ zi_G := zi_inG (List.mem_append_right _ (List.mem_append_right _ (List.mem_append_right _ (List.mem_append_right _ (List.mem_append_right _ (List.mem_append_left _ (List.mem_of_getElem? (l := tables_1_5) (i := 167) (rfl)))))))) rfl
set_option maxRecDepth 100000 in
theorem zl_1020 : Cond.code yX9_bedNow cX9_bedNow 1 (some .int) ∈ zi_G := zi_inG (List.mem_append_right _ (List.mem_append_right _ (List.mem_append_right _ (List.mem_append_right _ (List.mem_append_right _ (List.mem_append_left _ (List.mem_of_getElem? (l := tables_1_5) (i := 163) (rfl)))))))) rfl
set_option maxRecDepth 100000 in
theorem zl_1021 : Cond.code yX9_hasNow cX9_hasNow 5 (some .int) ∈ zi_G := zi_inG (List.mem_append_right _ (List.mem_append_right _ (List.mem_append_right _ (List.mem_append_right _ (List.mem_append_right _ (List.mem_append_left _ (List.mem_of_getElem? (l := tables_1_5) (i := 159) (rfl)))))))) rfl
set_option maxRecDepth 100000 in
theorem zl_1022 : Cond.code yX9_isBeside cX9_isBeside 6 (some .boolean) ∈ zi_G := zi_inG (List.mem_append_right _ (List.mem_append_right _ (List.mem_append_right _ (List.mem_append_right _ (List.mem_append_right _ (List.mem_append_left _ (List.mem_of_getElem? (l := tables_1_5) (i := 183) (rfl)))))))) rfl
set_option maxRecDepth 100000 in
theorem zl_1023 : Cond.code yX9_mayCut cX9_mayCut 8 (some .int) ∈ zi_G := zi_inG (List.mem_append_right _ (List.mem_append_right _ (List.mem_append_right _ (List.mem_append_right _ (List.mem_append_right _ (List.mem_append_left _ (List.mem_of_getElem? (l := tables_1_5) (i := 179) (rfl)))))))) rfl
set_option maxRecDepth 100000 in
theorem zl_1024 : Cond.code yX9_rule cX9_rule 2 (some .int) ∈ zi_G := zi_inG (List.mem_append_right _ (List.mem_append_right _ (List.mem_append_right _ (List.mem_append_right _ (List.mem_append_right _ (List.mem_append_left _ (List.mem_of_getElem? (l := tables_1_5) (i := 135) (rfl)))))))) rfl
set_option maxRecDepth 100000 in
theorem zl_1025 : Cond.code yX9_cell cX9_cell 3 (some .int) ∈ zi_G := zi_inG (List.mem_append_right _ (List.mem_append_right _ (List.mem_append_right _ (List.mem_append_right _ (List.mem_append_right _ (List.mem_append_left _ (List.mem_of_getElem? (l := tables_1_5) (i := 139) (rfl)))))))) rfl
set_option maxRecDepth 100000 in
theorem zl_1026 : Cond.code yX9_farm cX9_farm 5 (some .int) ∈ zi_G := zi_inG (List.mem_append_right _ (List.mem_append_right _ (List.mem_append_right _ (List.mem_append_right _ (List.mem_append_right _ (List.mem_append_left _ (List.mem_of_getElem? (l := tables_1_5) (i := 147) (rfl)))))))) rfl
set_option maxRecDepth 100000 in
theorem zl_1027 : Cond.code yX9_bed cX9_bed 2 (some .int) ∈ zi_G := zi_inG (List.mem_append_right _ (List.mem_append_right _ (List.mem_append_right _ (List.mem_append_right _ (List.mem_append_right _ (List.mem_append_left _ (List.mem_of_getElem? (l := tables_1_5) (i := 187) (rfl)))))))) rfl
set_option maxRecDepth 100000 in
theorem zl_1028 : Cond.code yX9_becomes cX9_becomes 4 (some .int) ∈ zi_G := zi_inG (List.mem_append_right _ (List.mem_append_right _ (List.mem_append_right _ (List.mem_append_right _ (List.mem_append_right _ (List.mem_append_left _ (List.mem_of_getElem? (l := tables_1_5) (i := 196) (rfl)))))))) rfl
set_option maxRecDepth 100000 in
theorem zl_1029 : Cond.code yX9_dam cX9_dam 3 (some .int) ∈ zi_G := zi_inG (List.mem_append_right _ (List.mem_append_right _ (List.mem_append_right _ (List.mem_append_right _ (List.mem_append_right _ (List.mem_append_left _ (List.mem_of_getElem? (l := tables_1_5) (i := 191) (rfl)))))))) rfl
set_option maxRecDepth 100000 in
theorem zl_1030 : Cond.code yX9_move cX9_move 2 (some .int) ∈ zi_G := zi_inG (List.mem_append_right _ (List.mem_append_right _ (List.mem_append_right _ (List.mem_append_right _ (List.mem_append_right _ (List.mem_append_left _ (List.mem_of_getElem? (l := tables_1_5) (i := 200) (rfl)))))))) rfl
set_option maxRecDepth 100000 in
theorem zl_1031 : Cond.code yX9_law cX9_law 2 (some .int) ∈ zi_G := zi_inG (List.mem_append_right _ (List.mem_append_right _ (List.mem_append_right _ (List.mem_append_right _ (List.mem_append_right _ (List.mem_append_left _ (List.mem_of_getElem? (l := tables_1_5) (i := 204) (rfl)))))))) rfl
set_option maxRecDepth 100000 in
theorem zl_1032 : Cond.code yX9_silt cX9_silt 2 (some .int) ∈ zi_G := zi_inG (List.mem_append_right _ (List.mem_append_right _ (List.mem_append_right _ (List.mem_append_right _ (List.mem_append_right _ (List.mem_append_left _ (List.mem_of_getElem? (l := tables_1_5) (i := 209) (rfl)))))))) rfl
set_option maxRecDepth 100000 in
theorem zl_1033 : Cond.code yX9_price cX9_price 3 (some .int) ∈ zi_G := zi_inG (List.mem_append_right _ (List.mem_append_right _ (List.mem_append_right _ (List.mem_append_right _ (List.mem_append_right _ (List.mem_append_left _ (List.mem_of_getElem? (l := tables_1_5) (i := 213) (rfl)))))))) rfl
set_option maxRecDepth 100000 in
theorem zl_1034 : Cond.code yX9_marks cX9_marks 2 none ∈ zi_G := zi_inG (List.mem_append_right _ (List.mem_append_right _ (List.mem_append_right _ (List.mem_append_right _ (List.mem_append_right _ (List.mem_append_right _ (List.mem_of_getElem? (l := tables_1_6) (i := 13) (rfl)))))))) rfl
set_option maxRecDepth 100000 in
theorem zl_1035 : Cond.code yX9_returns cX9_returns 2 none ∈ zi_G := zi_inG (List.mem_append_right _ (List.mem_append_right _ (List.mem_append_right _ (List.mem_append_right _ (List.mem_append_right _ (List.mem_append_right _ (List.mem_of_getElem? (l := tables_1_6) (i := 17) (rfl)))))))) rfl
set_option maxRecDepth 100000 in
theorem zl_1036 : Cond.code yX9_cutOf cX9_cutOf 3 (some .int) ∈ zi_G := zi_inG (List.mem_append_right _ (List.mem_append_right _ (List.mem_append_right _ (List.mem_append_right _ (List.mem_append_right _ (List.mem_append_left _ (List.mem_of_getElem? (l := tables_1_5) (i := 233) (rfl)))))))) rfl
set_option maxRecDepth 100000 in
theorem zl_1037 : Cond.code yX9_timesOf cX9_timesOf 1 (some .int) ∈ zi_G := zi_inG (List.mem_append_right _ (List.mem_append_right _ (List.mem_append_right _ (List.mem_append_right _ (List.mem_append_right _ (List.mem_append_right _ (List.mem_of_getElem? (l := tables_1_6) (i := 50) (rfl)))))))) rfl
set_option maxRecDepth 100000 in
theorem zl_1038 : Cond.code yX9_firstWrong cX9_firstWrong 6 (some .int) ∈ zi_G := zi_inG (List.mem_append_right _ (List.mem_append_right _ (List.mem_append_right _ (List.mem_append_right _ (List.mem_append_right _ (List.mem_append_left _ (List.mem_of_getElem? (l := tables_1_5) (i := 230) (rfl)))))))) rfl
set_option maxRecDepth 100000 in
theorem zl_1039 : Cond.code yX9_canBe cX9_canBe 2 (some .boolean) ∈ zi_G := zi_inG (List.mem_append_right _ (List.mem_append_right _ (List.mem_append_right _ (List.mem_append_right _ (List.mem_append_right _ (List.mem_append_left _ (List.mem_of_getElem? (l := tables_1_5) (i := 226) (rfl)))))))) rfl
set_option maxRecDepth 100000 in
theorem zl_1040 : Cond.code yX9_silts cX9_silts 4 none ∈ zi_G := zi_inG (List.mem_append_right _ (List.mem_append_right _ (List.mem_append_right _ (List.mem_append_right _ (List.mem_append_right _ (List.mem_append_right _ (List.mem_of_getElem? (l := tables_1_6) (i := 1) (rfl)))))))) rfl
set_option maxRecDepth 100000 in
theorem zl_1041 : Cond.code yX9_goes cX9_goes 4 none ∈ zi_G := zi_inG (List.mem_append_right _ (List.mem_append_right _ (List.mem_append_right _ (List.mem_append_right _ (List.mem_append_right _ (List.mem_append_left _ (List.mem_of_getElem? (l := tables_1_5) (i := 237) (rfl)))))))) rfl
set_option maxRecDepth 100000 in
theorem zl_1042 : Cond.code yX9_year cX9_year 2 (some .int) ∈ zi_G := zi_inG (List.mem_append_right _ (List.mem_append_right _ (List.mem_append_right _ (List.mem_append_right _ (List.mem_append_right _ (List.mem_append_left _ (List.mem_of_getElem? (l := tables_1_5) (i := 218) (rfl)))))))) rfl
set_option maxRecDepth 100000 in
theorem zl_1043 : Cond.code yX9_hasBy cX9_hasBy 4 (some .int) ∈ zi_G := zi_inG (List.mem_append_right _ (List.mem_append_right _ (List.mem_append_right _ (List.mem_append_right _ (List.mem_append_right _ (List.mem_append_right _ (List.mem_of_getElem? (l := tables_1_6) (i := 9) (rfl)))))))) rfl
set_option maxRecDepth 100000 in
theorem zl_1044 : Cond.code yX9_bedBy cX9_bedBy 3 (some .int) ∈ zi_G := zi_inG (List.mem_append_right _ (List.mem_append_right _ (List.mem_append_right _ (List.mem_append_right _ (List.mem_append_right _ (List.mem_append_right _ (List.mem_of_getElem? (l := tables_1_6) (i := 74) (rfl)))))))) rfl
set_option maxRecDepth 100000 in
theorem zl_1045 : Cond.code yX9_would cX9_would 3 (some .int) ∈ zi_G := zi_inG (List.mem_append_right _ (List.mem_append_right _ (List.mem_append_right _ (List.mem_append_right _ (List.mem_append_right _ (List.mem_append_right _ (List.mem_of_getElem? (l := tables_1_6) (i := 5) (rfl)))))))) rfl
set_option maxRecDepth 100000 in
theorem zl_1046 : Cond.code yX9_tell cX9_tell 2 (some .int) ∈ zi_G := zi_inG (List.mem_append_right _ (List.mem_append_right _ (List.mem_append_right _ (List.mem_append_right _ (List.mem_append_right _ (List.mem_append_right _ (List.mem_of_getElem? (l := tables_1_6) (i := 21) (rfl)))))))) rfl
set_option maxRecDepth 100000 in
theorem zl_1047 : Cond.code yX9_drop cX9_drop 3 (some .int) ∈ zi_G := zi_inG (List.mem_append_right _ (List.mem_append_right _ (List.mem_append_right _ (List.mem_append_right _ (List.mem_append_right _ (List.mem_append_right _ (List.mem_of_getElem? (l := tables_1_6) (i := 25) (rfl)))))))) rfl
set_option maxRecDepth 100000 in
theorem zl_1048 : Cond.code yX9_judge cX9_judge 6 (some .int) ∈ zi_G := zi_inG (List.mem_append_right _ (List.mem_append_right _ (List.mem_append_right _ (List.mem_append_right _ (List.mem_append_right _ (List.mem_append_right _ (List.mem_of_getElem? (l := tables_1_6) (i := 29) (rfl)))))))) rfl
set_option maxRecDepth 100000 in
theorem zl_1049 : Cond.code yX9_findOptions cX9_findOptions 4 none ∈ zi_G := zi_inG (List.mem_append_right _ (List.mem_append_right _ (List.mem_append_right _ (List.mem_append_right _ (List.mem_append_right _ (List.mem_append_right _ (List.mem_of_getElem? (l := tables_1_6) (i := 58) (rfl)))))))) rfl
set_option maxRecDepth 100000 in
theorem zl_1050 : Cond.code yX9_allOptions cX9_allOptions 1 (some .int) ∈ zi_G := zi_inG (List.mem_append_right _ (List.mem_append_right _ (List.mem_append_right _ (List.mem_append_right _ (List.mem_append_right _ (List.mem_append_right _ (List.mem_of_getElem? (l := tables_1_6) (i := 62) (rfl)))))))) rfl
set_option maxRecDepth 100000 in
theorem zl_1051 : Cond.code yX9_yearOf cX9_yearOf 4 (some .int) ∈ zi_G := zi_inG (List.mem_append_right _ (List.mem_append_right _ (List.mem_append_right _ (List.mem_append_right _ (List.mem_append_right _ (List.mem_append_right _ (List.mem_of_getElem? (l := tables_1_6) (i := 70) (rfl)))))))) rfl
set_option maxRecDepth 100000 in
theorem zl_1052 : Cond.code yX9_yearAt cX9_yearAt 2 (some .int) ∈ zi_G := zi_inG (List.mem_append_right _ (List.mem_append_right _ (List.mem_append_right _ (List.mem_append_right _ (List.mem_append_right _ (List.mem_append_right _ (List.mem_of_getElem? (l := tables_1_6) (i := 66) (rfl)))))))) rfl
set_option maxRecDepth 100000 in
theorem zl_1053 : Cond.code yX9_enters cX9_enters 5 none ∈ zi_G := zi_inG (List.mem_append_right _ (List.mem_append_right _ (List.mem_append_right _ (List.mem_append_right _ (List.mem_append_right _ (List.mem_append_right _ (List.mem_of_getElem? (l := tables_1_6) (i := 43) (rfl)))))))) rfl
set_option maxRecDepth 100000 in
theorem zl_1054 : Cond.code yX9_leaves cX9_leaves 3 none ∈ zi_G := zi_inG (List.mem_append_right _ (List.mem_append_right _ (List.mem_append_right _ (List.mem_append_right _ (List.mem_append_right _ (List.mem_append_right _ (List.mem_of_getElem? (l := tables_1_6) (i := 47) (rfl)))))))) rfl
set_option maxRecDepth 100000 in
theorem zl_1055 : Cond.code yX9_isBrought cX9_isBrought 7 (some .boolean) ∈ zi_G := zi_inG (List.mem_append_right _ (List.mem_append_right _ (List.mem_append_right _ (List.mem_append_right _ (List.mem_append_right _ (List.mem_append_right _ (List.mem_of_getElem? (l := tables_1_6) (i := 39) (rfl)))))))) rfl
set_option maxRecDepth 100000 in
theorem zl_1056 : Cond.code yX9_alone cX9_alone 5 (some .int) ∈ zi_G := zi_inG (List.mem_append_right _ (List.mem_append_right _ (List.mem_append_right _ (List.mem_append_right _ (List.mem_append_right _ (List.mem_append_right _ (List.mem_of_getElem? (l := tables_1_6) (i := 33) (rfl)))))))) rfl
set_option maxRecDepth 100000 in
theorem zl_1057 : Cond.code yX9_cutsOf cX9_cutsOf 3 (some .int) ∈ zi_G := zi_inG (List.mem_append_right _ (List.mem_append_right _ (List.mem_append_right _ (List.mem_append_right _ (List.mem_append_right _ (List.mem_append_right _ (List.mem_of_getElem? (l := tables_1_6) (i := 77) (rfl)))))))) rfl
set_option maxRecDepth 100000 in
theorem zl_1058 : Cond.code yX9_together cX9_together 9 (some .int) ∈ zi_G := zi_inG (List.mem_append_right _ (List.mem_append_right _ (List.mem_append_right _ (List.mem_append_right _ (List.mem_append_right _ (List.mem_append_right _ (List.mem_of_getElem? (l := tables_1_6) (i := 54) (rfl)))))))) rfl
set_option maxRecDepth 100000 in
theorem zl_1059 : Cond.code yX9_lastOf cX9_lastOf 7 (some .int) ∈ zi_G := zi_inG (List.mem_append_right _ (List.mem_append_right _ (List.mem_append_right _ (List.mem_append_right _ (List.mem_append_right _ (List.mem_append_right _ (List.mem_of_getElem? (l := tables_1_6) (i := 93) (rfl)))))))) rfl
set_option maxRecDepth 100000 in
theorem zl_1060 : Cond.code yX9_secondOf cX9_secondOf 6 (some .int) ∈ zi_G := zi_inG (List.mem_append_right _ (List.mem_append_right _ (List.mem_append_right _ (List.mem_append_right _ (List.mem_append_right _ (List.mem_append_right _ (List.mem_of_getElem? (l := tables_1_6) (i := 89) (rfl)))))))) rfl
set_option maxRecDepth 100000 in
theorem zl_1061 : Cond.code yX9_selfishYear cX9_selfishYear 6 (some .int) ∈ zi_G := zi_inG (List.mem_append_right _ (List.mem_append_right _ (List.mem_append_right _ (List.mem_append_right _ (List.mem_append_right _ (List.mem_append_right _ (List.mem_of_getElem? (l := tables_1_6) (i := 85) (rfl)))))))) rfl
set_option maxRecDepth 100000 in
theorem zl_1062 : Cond.code yX9_selfish cX9_selfish 3 (some .int) ∈ zi_G := zi_inG (List.mem_append_right _ (List.mem_append_right _ (List.mem_append_right _ (List.mem_append_right _ (List.mem_append_right _ (List.mem_append_right _ (List.mem_of_getElem? (l := tables_1_6) (i := 81) (rfl)))))))) rfl
set_option maxRecDepth 100000 in
theorem zl_1063 : Cond.code yX9_breaksOf cX9_breaksOf 7 (some .int) ∈ zi_G := zi_inG (List.mem_append_right _ (List.mem_append_right _ (List.mem_append_right _ (List.mem_append_right _ (List.mem_append_right _ (List.mem_append_right _ (List.mem_of_getElem? (l := tables_1_6) (i := 101) (rfl)))))))) rfl
set_option maxRecDepth 100000 in
theorem zl_1064 : Cond.code yX9_rests cX9_rests 6 (some .int) ∈ zi_G := zi_inG (List.mem_append_right _ (List.mem_append_right _ (List.mem_append_right _ (List.mem_append_right _ (List.mem_append_right _ (List.mem_append_right _ (List.mem_of_getElem? (l := tables_1_6) (i := 97) (rfl)))))))) rfl
set_option maxRecDepth 100000 in
theorem zl_1065 : Cond.code yX9_breaks cX9_breaks 2 (some .int) ∈ zi_G := zi_inG (List.mem_append_right _ (List.mem_append_right _ (List.mem_append_right _ (List.mem_append_right _ (List.mem_append_right _ (List.mem_append_right _ (List.mem_of_getElem? (l := tables_1_6) (i := 105) (rfl)))))))) rfl
set_option maxRecDepth 100000 in
theorem zl_1066 : Cond.code yX9_stands cX9_stands 4 (some .int) ∈ zi_G := zi_inG (List.mem_append_right _ (List.mem_append_right _ (List.mem_append_right _ (List.mem_append_right _ (List.mem_append_right _ (List.mem_append_right _ (List.mem_of_getElem? (l := tables_1_6) (i := 109) (rfl)))))))) rfl
set_option maxRecDepth 100000 in
theorem zl_1067 : Cond.code yX9_areAlike cX9_areAlike 5 (some .boolean) ∈ zi_G := zi_inG (List.mem_append_right _ (List.mem_append_right _ (List.mem_append_right _ (List.mem_append_right _ (List.mem_append_right _ (List.mem_append_right _ (List.mem_of_getElem? (l := tables_1_6) (i := 117) (rfl)))))))) rfl
set_option maxRecDepth 100000 in
theorem zl_1068 : Cond.code yX9_again cX9_again 6 (some .int) ∈ zi_G := zi_inG (List.mem_append_right _ (List.mem_append_right _ (List.mem_append_right _ (List.mem_append_right _ (List.mem_append_right _ (List.mem_append_right _ (List.mem_of_getElem? (l := tables_1_6) (i := 113) (rfl)))))))) rfl
set_option maxRecDepth 100000 in
theorem zl_1069 : Cond.code yX9_common cX9_common 10 (some .long) ∈ zi_G := zi_inG (List.mem_append_right _ (List.mem_append_right _ (List.mem_append_right _ (List.mem_append_right _ (List.mem_append_right _ (List.mem_append_right _ (List.mem_of_getElem? (l := tables_1_6) (i := 125) (rfl)))))))) rfl
set_option maxRecDepth 100000 in
theorem zl_1070 : Cond.code yX9_odds cX9_odds 8 (some .long) ∈ zi_G := zi_inG (List.mem_append_right _ (List.mem_append_right _ (List.mem_append_right _ (List.mem_append_right _ (List.mem_append_right _ (List.mem_append_right _ (List.mem_of_getElem? (l := tables_1_6) (i := 121) (rfl)))))))) rfl
set_option maxRecDepth 100000 in
theorem zl_1071 : Cond.code yX9_see cX9_see 3 (some .int) ∈ zi_G := zi_inG (List.mem_append_right _ (List.mem_append_right _ (List.mem_append_right _ (List.mem_append_right _ (List.mem_append_right _ (List.mem_append_right _ (List.mem_of_getElem? (l := tables_1_6) (i := 129) (rfl)))))))) rfl
set_option maxRecDepth 100000 in
theorem zl_1072 : Cond.code yX9_forget cX9_forget 3 (some .int) ∈ zi_G := zi_inG (List.mem_append_right _ (List.mem_append_right _ (List.mem_append_right _ (List.mem_append_right _ (List.mem_append_right _ (List.mem_append_right _ (List.mem_of_getElem? (l := tables_1_6) (i := 133) (rfl)))))))) rfl
set_option maxRecDepth 100000 in
theorem zl_1073 : Cond.code yX9_isSo cX9_isSo 4 (some .boolean) ∈ zi_G := zi_inG (List.mem_append_right _ (List.mem_append_right _ (List.mem_append_right _ (List.mem_append_right _ (List.mem_append_right _ (List.mem_append_right _ (List.mem_of_getElem? (l := tables_1_6) (i := 141) (rfl)))))))) rfl
set_option maxRecDepth 100000 in
theorem zl_1074 : Cond.code yX9_cutters cX9_cutters 3 (some .int) ∈ zi_G := zi_inG (List.mem_append_right _ (List.mem_append_right _ (List.mem_append_right _ (List.mem_append_right _ (List.mem_append_right _ (List.mem_append_right _ (List.mem_of_getElem? (l := tables_1_6) (i := 144) (rfl)))))))) rfl
set_option maxRecDepth 100000 in
theorem zl_1075 : Cond.code yX9_fits cX9_fits 8 (some .int) ∈ zi_G := zi_inG (List.mem_append_right _ (List.mem_append_right _ (List.mem_append_right _ (List.mem_append_right _ (List.mem_append_right _ (List.mem_append_right _ (List.mem_of_getElem? (l := tables_1_6) (i := 137) (rfl)))))))) rfl
set_option maxRecDepth 100000 in
theorem zl_1076 : Cond.code yX9_copies cX9_copies 4 none ∈ zi_G := zi_inG (List.mem_append_right _ (List.mem_append_right _ (List.mem_append_right _ (List.mem_append_right _ (List.mem_append_right _ (List.mem_append_right _ (List.mem_of_getElem? (l := tables_1_6) (i := 152) (rfl)))))))) rfl
set_option maxRecDepth 100000 in
theorem zl_1077 : Cond.code yX9_keep cX9_keep 3 (some .int) ∈ zi_G := zi_inG (List.mem_append_right _ (List.mem_append_right _ (List.mem_append_right _ (List.mem_append_right _ (List.mem_append_right _ (List.mem_append_right _ (List.mem_of_getElem? (l := tables_1_6) (i := 148) (rfl)))))))) rfl
set_option maxRecDepth 100000 in
theorem zl_1078 : Cond.code yX9_back cX9_back 2 (some .int) ∈ zi_G := zi_inG (List.mem_append_right _ (List.mem_append_right _ (List.mem_append_right _ (List.mem_append_right _ (List.mem_append_right _ (List.mem_append_right _ (List.mem_of_getElem? (l := tables_1_6) (i := 156) (rfl)))))))) rfl
set_option maxRecDepth 100000 in
theorem zl_1079 : Cond.code yX9_isSheet cX9_isSheet 2 (some .boolean) ∈ zi_G := zi_inG (List.mem_append_right _ (List.mem_append_right _ (List.mem_append_right _ (List.mem_append_right _ (List.mem_append_right _ (List.mem_append_right _ (List.mem_of_getElem? (l := tables_1_6) (i := 163) (rfl)))))))) rfl
set_option maxRecDepth 100000 in
theorem zl_1080 : Cond.code yX9_sheet cX9_sheet 5 (some .int) ∈ zi_G := zi_inG (List.mem_append_right _ (List.mem_append_right _ (List.mem_append_right _ (List.mem_append_right _ (List.mem_append_right _ (List.mem_append_right _ (List.mem_of_getElem? (l := tables_1_6) (i := 160) (rfl)))))))) rfl
set_option maxRecDepth 100000 in
theorem zl_1081 : Cond.code yX9_lay cX9_lay 4 (some .int) ∈ zi_G := zi_inG (List.mem_append_right _ (List.mem_append_right _ (List.mem_append_right _ (List.mem_append_right _ (List.mem_append_right _ (List.mem_append_right _ (List.mem_of_getElem? (l := tables_1_6) (i := 167) (rfl)))))))) rfl
set_option maxRecDepth 100000 in
theorem zl_1082 : Cond.code yX9_read cX9_read 12 (some .int) ∈ zi_G := zi_inG (List.mem_append_right _ (List.mem_append_right _ (List.mem_append_right _ (List.mem_append_right _ (List.mem_append_right _ (List.mem_append_right _ (List.mem_of_getElem? (l := tables_1_6) (i := 171) (rfl)))))))) rfl
set_option maxRecDepth 100000 in
theorem zl_1083 : Cond.code yX9_torn cX9_torn 1 (some .int) ∈ zi_G := zi_inG (List.mem_append_right _ (List.mem_append_right _ (List.mem_append_right _ (List.mem_append_right _ (List.mem_append_right _ (List.mem_append_right _ (List.mem_of_getElem? (l := tables_1_6) (i := 177) (rfl)))))))) rfl
set_option maxRecDepth 100000 in
theorem zl_1084 : Cond.code yX9_count cX9_count 4 (some .int) ∈ zi_G := zi_inG (List.mem_append_right _ (List.mem_append_right _ (List.mem_append_right _ (List.mem_append_right _ (List.mem_append_right _ (List.mem_append_right _ (List.mem_of_getElem? (l := tables_1_6) (i := 181) (rfl)))))))) rfl
set_option maxRecDepth 100000 in
theorem zl_1085 : Cond.code yJ6_bitCount_0f7a4 cJ6_bitCount_0f7a4 1 (some .int) ∈ zi_G := zi_inG (List.mem_append_right _ (List.mem_append_right _ (List.mem_append_right _ (List.mem_append_left _ (List.mem_of_getElem? (l := tables_1_3) (i := 29) (rfl)))))) rfl
set_option maxRecDepth 100000 in
theorem zl_1086 : Cond.initialized "java/lang/Integer" ∈ zi_G := zi_inG (List.mem_append_right _ (List.mem_append_left _ (List.mem_of_getElem? (l := tables_1_1) (i := 17) rfl))) rfl
set_option maxRecDepth 100000 in
theorem zl_1087 : Cond.code yJ7_fill_53178 cJ7_fill_53178 4 none ∈ zi_G := zi_inG (List.mem_append_right _ (List.mem_append_right _ (List.mem_append_left _ (List.mem_of_getElem? (l := tables_1_2) (i := 41) (rfl))))) rfl
set_option maxRecDepth 100000 in
theorem zl_1088 : Cond.initialized "java/util/Arrays" ∈ zi_G := zi_inG (List.mem_append_right _ (List.mem_append_left _ (List.mem_of_getElem? (l := tables_1_1) (i := 10) rfl))) rfl
