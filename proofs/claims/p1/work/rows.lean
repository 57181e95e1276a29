section
-- ===== PART A: goes FIRST, ahead of the names: the tables' words, and 'selects' of the private methods out of them =====
/-- a private method of a class that the tables say can be made, by its rows of tables_1 -/
def lw_okq (q : MethodName × Nat) : Prop := (q.1.cls ≠ "java/lang/invoke/MethodHandle" ∧ q.1.cls ≠ "java/lang/invoke/VarHandle") ∧ Cond.instantiable q.1.cls q.2 ∈ tables_1 ∧ Cond.privateMethod q.1 ∈ tables_1 ∧ Cond.instanceMethod q.1 ∈ tables_1
theorem lw_p0 : lw_okq (⟨"RiverDiggers$Draft", "raise", "([I)V"⟩, 10) := ⟨⟨by decide +kernel, by decide +kernel⟩, List.mem_of_getElem? (i := 237) (by decide +kernel), List.mem_of_getElem? (i := 310) (by decide +kernel), List.mem_of_getElem? (i := 311) (by decide +kernel)⟩
theorem lw_p1 : lw_okq (⟨"RiverDiggers$Flow", "lowestNextTo", "(I)I"⟩, 8) := ⟨⟨by decide +kernel, by decide +kernel⟩, List.mem_of_getElem? (i := 68) (by decide +kernel), List.mem_of_getElem? (i := 318) (by decide +kernel), List.mem_of_getElem? (i := 319) (by decide +kernel)⟩
theorem lw_p2 : lw_okq (⟨"RiverDiggers$Draft", "takeLine", "(LRiverDiggers$Tape;)V"⟩, 10) := ⟨⟨by decide +kernel, by decide +kernel⟩, List.mem_of_getElem? (i := 237) (by decide +kernel), List.mem_of_getElem? (i := 407) (by decide +kernel), List.mem_of_getElem? (i := 408) (by decide +kernel)⟩
theorem lw_p3 : lw_okq (⟨"RiverDiggers$Draft", "takePlain", "(LRiverDiggers$Tape;)V"⟩, 10) := ⟨⟨by decide +kernel, by decide +kernel⟩, List.mem_of_getElem? (i := 237) (by decide +kernel), List.mem_of_getElem? (i := 464) (by decide +kernel), List.mem_of_getElem? (i := 465) (by decide +kernel)⟩
theorem lw_p4 : lw_okq (⟨"RiverDiggers$Draft", "comesOnce", "(LRiverDiggers$Tape;I)Z"⟩, 10) := ⟨⟨by decide +kernel, by decide +kernel⟩, List.mem_of_getElem? (i := 237) (by decide +kernel), List.mem_of_getElem? (i := 468) (by decide +kernel), List.mem_of_getElem? (i := 469) (by decide +kernel)⟩
theorem lw_p5 : lw_okq (⟨"RiverDiggers$Draft", "takeRow", "(LRiverDiggers$Tape;)V"⟩, 10) := ⟨⟨by decide +kernel, by decide +kernel⟩, List.mem_of_getElem? (i := 237) (by decide +kernel), List.mem_of_getElem? (i := 487) (by decide +kernel), List.mem_of_getElem? (i := 488) (by decide +kernel)⟩
theorem lw_p6 : lw_okq (⟨"RiverDiggers$Draft", "takeSpring", "(LRiverDiggers$Tape;)V"⟩, 10) := ⟨⟨by decide +kernel, by decide +kernel⟩, List.mem_of_getElem? (i := 237) (by decide +kernel), List.mem_of_getElem? (i := 493) (by decide +kernel), List.mem_of_getElem? (i := 494) (by decide +kernel)⟩
theorem lw_p7 : lw_okq (⟨"RiverDiggers$Draft", "takeFarm", "(LRiverDiggers$Tape;)V"⟩, 10) := ⟨⟨by decide +kernel, by decide +kernel⟩, List.mem_of_getElem? (i := 237) (by decide +kernel), List.mem_of_getElem? (i := 498) (by decide +kernel), List.mem_of_getElem? (i := 499) (by decide +kernel)⟩
theorem lw_p8 : lw_okq (⟨"RiverDiggers$Draft", "takeGround", "(LRiverDiggers$Tape;)V"⟩, 10) := ⟨⟨by decide +kernel, by decide +kernel⟩, List.mem_of_getElem? (i := 237) (by decide +kernel), List.mem_of_getElem? (i := 503) (by decide +kernel), List.mem_of_getElem? (i := 504) (by decide +kernel)⟩
theorem lw_p9 : lw_okq (⟨"RiverDiggers$Draft", "takeLaw", "(LRiverDiggers$Tape;)V"⟩, 10) := ⟨⟨by decide +kernel, by decide +kernel⟩, List.mem_of_getElem? (i := 237) (by decide +kernel), List.mem_of_getElem? (i := 515) (by decide +kernel), List.mem_of_getElem? (i := 516) (by decide +kernel)⟩
theorem lw_p10 : lw_okq (⟨"RiverDiggers$Draft", "takeSilt", "(LRiverDiggers$Tape;)V"⟩, 10) := ⟨⟨by decide +kernel, by decide +kernel⟩, List.mem_of_getElem? (i := 237) (by decide +kernel), List.mem_of_getElem? (i := 520) (by decide +kernel), List.mem_of_getElem? (i := 521) (by decide +kernel)⟩
theorem lw_p11 : lw_okq (⟨"RiverDiggers$Draft", "isWhole", "()Z"⟩, 10) := ⟨⟨by decide +kernel, by decide +kernel⟩, List.mem_of_getElem? (i := 237) (by decide +kernel), List.mem_of_getElem? (i := 524) (by decide +kernel), List.mem_of_getElem? (i := 525) (by decide +kernel)⟩
theorem lw_p12 : lw_okq (⟨"RiverDiggers", "retrace", "()V"⟩, 14) := ⟨⟨by decide +kernel, by decide +kernel⟩, List.mem_of_getElem? (i := 19) (by decide +kernel), List.mem_of_getElem? (i := 584) (by decide +kernel), List.mem_of_getElem? (i := 585) (by decide +kernel)⟩
theorem lw_p13 : lw_okq (⟨"RiverDiggers$Flow", "carrySilt", "()V"⟩, 8) := ⟨⟨by decide +kernel, by decide +kernel⟩, List.mem_of_getElem? (i := 68) (by decide +kernel), List.mem_of_getElem? (i := 628) (by decide +kernel), List.mem_of_getElem? (i := 629) (by decide +kernel)⟩
theorem lw_p14 : lw_okq (⟨"RiverDiggers$Digger", "brings", "(III)Z"⟩, 3) := ⟨⟨by decide +kernel, by decide +kernel⟩, List.mem_of_getElem? (i := 181) (by decide +kernel), List.mem_of_getElem? (i := 662) (by decide +kernel), List.mem_of_getElem? (i := 663) (by decide +kernel)⟩
theorem lw_p15 : lw_okq (⟨"RiverDiggers", "lookAhead", "()V"⟩, 14) := ⟨⟨by decide +kernel, by decide +kernel⟩, List.mem_of_getElem? (i := 19) (by decide +kernel), List.mem_of_getElem? (i := 680) (by decide +kernel), List.mem_of_getElem? (i := 681) (by decide +kernel)⟩
def lw_privs_1 : List (MethodName × Nat) := [(⟨"RiverDiggers$Draft", "raise", "([I)V"⟩, 10), (⟨"RiverDiggers$Flow", "lowestNextTo", "(I)I"⟩, 8), (⟨"RiverDiggers$Draft", "takeLine", "(LRiverDiggers$Tape;)V"⟩, 10), (⟨"RiverDiggers$Draft", "takePlain", "(LRiverDiggers$Tape;)V"⟩, 10), (⟨"RiverDiggers$Draft", "comesOnce", "(LRiverDiggers$Tape;I)Z"⟩, 10), (⟨"RiverDiggers$Draft", "takeRow", "(LRiverDiggers$Tape;)V"⟩, 10), (⟨"RiverDiggers$Draft", "takeSpring", "(LRiverDiggers$Tape;)V"⟩, 10), (⟨"RiverDiggers$Draft", "takeFarm", "(LRiverDiggers$Tape;)V"⟩, 10), (⟨"RiverDiggers$Draft", "takeGround", "(LRiverDiggers$Tape;)V"⟩, 10), (⟨"RiverDiggers$Draft", "takeLaw", "(LRiverDiggers$Tape;)V"⟩, 10), (⟨"RiverDiggers$Draft", "takeSilt", "(LRiverDiggers$Tape;)V"⟩, 10), (⟨"RiverDiggers$Draft", "isWhole", "()Z"⟩, 10), (⟨"RiverDiggers", "retrace", "()V"⟩, 14), (⟨"RiverDiggers$Flow", "carrySilt", "()V"⟩, 8), (⟨"RiverDiggers$Digger", "brings", "(III)Z"⟩, 3), (⟨"RiverDiggers", "lookAhead", "()V"⟩, 14)]
theorem lw_r1 : ∀ q ∈ lw_privs_1, lw_okq q := List.forall_mem_cons.mpr ⟨lw_p0, List.forall_mem_cons.mpr ⟨lw_p1, List.forall_mem_cons.mpr ⟨lw_p2, List.forall_mem_cons.mpr ⟨lw_p3, List.forall_mem_cons.mpr ⟨lw_p4, List.forall_mem_cons.mpr ⟨lw_p5, List.forall_mem_cons.mpr ⟨lw_p6, List.forall_mem_cons.mpr ⟨lw_p7, List.forall_mem_cons.mpr ⟨lw_p8, List.forall_mem_cons.mpr ⟨lw_p9, List.forall_mem_cons.mpr ⟨lw_p10, List.forall_mem_cons.mpr ⟨lw_p11, List.forall_mem_cons.mpr ⟨lw_p12, List.forall_mem_cons.mpr ⟨lw_p13, List.forall_mem_cons.mpr ⟨lw_p14, List.forall_mem_cons.mpr ⟨lw_p15, fun _ h => absurd h List.not_mem_nil⟩⟩⟩⟩⟩⟩⟩⟩⟩⟩⟩⟩⟩⟩⟩⟩
theorem lw_p16 : lw_okq (⟨"RiverDiggers$Outlook", "list", "(II)V"⟩, 7) := ⟨⟨by decide +kernel, by decide +kernel⟩, List.mem_of_getElem? (i := 149) (by decide +kernel), List.mem_of_getElem? (i := 689) (by decide +kernel), List.mem_of_getElem? (i := 690) (by decide +kernel)⟩
theorem lw_p17 : lw_okq (⟨"RiverDiggers$Outlook", "chosen", "(LRiverDiggers$Times;II)I"⟩, 7) := ⟨⟨by decide +kernel, by decide +kernel⟩, List.mem_of_getElem? (i := 149) (by decide +kernel), List.mem_of_getElem? (i := 707) (by decide +kernel), List.mem_of_getElem? (i := 708) (by decide +kernel)⟩
theorem lw_p18 : lw_okq (⟨"RiverDiggers$Outlook", "placeOf", "(II)I"⟩, 7) := ⟨⟨by decide +kernel, by decide +kernel⟩, List.mem_of_getElem? (i := 149) (by decide +kernel), List.mem_of_getElem? (i := 722) (by decide +kernel), List.mem_of_getElem? (i := 723) (by decide +kernel)⟩
theorem lw_p19 : lw_okq (⟨"RiverDiggers", "note", "(I)V"⟩, 14) := ⟨⟨by decide +kernel, by decide +kernel⟩, List.mem_of_getElem? (i := 19) (by decide +kernel), List.mem_of_getElem? (i := 742) (by decide +kernel), List.mem_of_getElem? (i := 743) (by decide +kernel)⟩
theorem lw_p20 : lw_okq (⟨"RiverDiggers", "firstAlike", "(I)I"⟩, 14) := ⟨⟨by decide +kernel, by decide +kernel⟩, List.mem_of_getElem? (i := 19) (by decide +kernel), List.mem_of_getElem? (i := 747) (by decide +kernel), List.mem_of_getElem? (i := 748) (by decide +kernel)⟩
theorem lw_p21 : lw_okq (⟨"RiverDiggers", "isAlike", "(I)Z"⟩, 14) := ⟨⟨by decide +kernel, by decide +kernel⟩, List.mem_of_getElem? (i := 19) (by decide +kernel), List.mem_of_getElem? (i := 751) (by decide +kernel), List.mem_of_getElem? (i := 752) (by decide +kernel)⟩
theorem lw_p22 : lw_okq (⟨"RiverDiggers", "imageOf", "(I)LRiverDiggers$Times;"⟩, 14) := ⟨⟨by decide +kernel, by decide +kernel⟩, List.mem_of_getElem? (i := 19) (by decide +kernel), List.mem_of_getElem? (i := 784) (by decide +kernel), List.mem_of_getElem? (i := 785) (by decide +kernel)⟩
theorem lw_p23 : lw_okq (⟨"RiverDiggersModel", "firstDraft", "()V"⟩, 47) := ⟨⟨by decide +kernel, by decide +kernel⟩, List.mem_of_getElem? (i := 856) (by decide +kernel), List.mem_of_getElem? (i := 862) (by decide +kernel), List.mem_of_getElem? (i := 863) (by decide +kernel)⟩
theorem lw_p24 : lw_okq (⟨"RiverDiggersModel", "keepDraft", "()V"⟩, 47) := ⟨⟨by decide +kernel, by decide +kernel⟩, List.mem_of_getElem? (i := 856) (by decide +kernel), List.mem_of_getElem? (i := 866) (by decide +kernel), List.mem_of_getElem? (i := 867) (by decide +kernel)⟩
theorem lw_p25 : lw_okq (⟨"RiverDiggersModel", "next", "()V"⟩, 47) := ⟨⟨by decide +kernel, by decide +kernel⟩, List.mem_of_getElem? (i := 856) (by decide +kernel), List.mem_of_getElem? (i := 1029) (by decide +kernel), List.mem_of_getElem? (i := 1030) (by decide +kernel)⟩
theorem lw_p26 : lw_okq (⟨"RiverDiggersModel", "look", "(I)I"⟩, 47) := ⟨⟨by decide +kernel, by decide +kernel⟩, List.mem_of_getElem? (i := 856) (by decide +kernel), List.mem_of_getElem? (i := 1033) (by decide +kernel), List.mem_of_getElem? (i := 1034) (by decide +kernel)⟩
theorem lw_p27 : lw_okq (⟨"RiverDiggersModel", "needs", "(ZI)V"⟩, 47) := ⟨⟨by decide +kernel, by decide +kernel⟩, List.mem_of_getElem? (i := 856) (by decide +kernel), List.mem_of_getElem? (i := 1041) (by decide +kernel), List.mem_of_getElem? (i := 1042) (by decide +kernel)⟩
theorem lw_p28 : lw_okq (⟨"RiverDiggersModel", "readLine", "()V"⟩, 47) := ⟨⟨by decide +kernel, by decide +kernel⟩, List.mem_of_getElem? (i := 856) (by decide +kernel), List.mem_of_getElem? (i := 1045) (by decide +kernel), List.mem_of_getElem? (i := 1046) (by decide +kernel)⟩
theorem lw_p29 : lw_okq (⟨"RiverDiggersModel", "lineNow", "()I"⟩, 47) := ⟨⟨by decide +kernel, by decide +kernel⟩, List.mem_of_getElem? (i := 856) (by decide +kernel), List.mem_of_getElem? (i := 1049) (by decide +kernel), List.mem_of_getElem? (i := 1050) (by decide +kernel)⟩
theorem lw_p30 : lw_okq (⟨"RiverDiggersModel", "is", "(IIII)Z"⟩, 47) := ⟨⟨by decide +kernel, by decide +kernel⟩, List.mem_of_getElem? (i := 856) (by decide +kernel), List.mem_of_getElem? (i := 1053) (by decide +kernel), List.mem_of_getElem? (i := 1054) (by decide +kernel)⟩
theorem lw_p31 : lw_okq (⟨"RiverDiggersModel", "ends", "(III)Z"⟩, 47) := ⟨⟨by decide +kernel, by decide +kernel⟩, List.mem_of_getElem? (i := 856) (by decide +kernel), List.mem_of_getElem? (i := 1057) (by decide +kernel), List.mem_of_getElem? (i := 1058) (by decide +kernel)⟩
def lw_privs_2 : List (MethodName × Nat) := [(⟨"RiverDiggers$Outlook", "list", "(II)V"⟩, 7), (⟨"RiverDiggers$Outlook", "chosen", "(LRiverDiggers$Times;II)I"⟩, 7), (⟨"RiverDiggers$Outlook", "placeOf", "(II)I"⟩, 7), (⟨"RiverDiggers", "note", "(I)V"⟩, 14), (⟨"RiverDiggers", "firstAlike", "(I)I"⟩, 14), (⟨"RiverDiggers", "isAlike", "(I)Z"⟩, 14), (⟨"RiverDiggers", "imageOf", "(I)LRiverDiggers$Times;"⟩, 14), (⟨"RiverDiggersModel", "firstDraft", "()V"⟩, 47), (⟨"RiverDiggersModel", "keepDraft", "()V"⟩, 47), (⟨"RiverDiggersModel", "next", "()V"⟩, 47), (⟨"RiverDiggersModel", "look", "(I)I"⟩, 47), (⟨"RiverDiggersModel", "needs", "(ZI)V"⟩, 47), (⟨"RiverDiggersModel", "readLine", "()V"⟩, 47), (⟨"RiverDiggersModel", "lineNow", "()I"⟩, 47), (⟨"RiverDiggersModel", "is", "(IIII)Z"⟩, 47), (⟨"RiverDiggersModel", "ends", "(III)Z"⟩, 47)]
theorem lw_r2 : ∀ q ∈ lw_privs_2, lw_okq q := List.forall_mem_cons.mpr ⟨lw_p16, List.forall_mem_cons.mpr ⟨lw_p17, List.forall_mem_cons.mpr ⟨lw_p18, List.forall_mem_cons.mpr ⟨lw_p19, List.forall_mem_cons.mpr ⟨lw_p20, List.forall_mem_cons.mpr ⟨lw_p21, List.forall_mem_cons.mpr ⟨lw_p22, List.forall_mem_cons.mpr ⟨lw_p23, List.forall_mem_cons.mpr ⟨lw_p24, List.forall_mem_cons.mpr ⟨lw_p25, List.forall_mem_cons.mpr ⟨lw_p26, List.forall_mem_cons.mpr ⟨lw_p27, List.forall_mem_cons.mpr ⟨lw_p28, List.forall_mem_cons.mpr ⟨lw_p29, List.forall_mem_cons.mpr ⟨lw_p30, List.forall_mem_cons.mpr ⟨lw_p31, fun _ h => absurd h List.not_mem_nil⟩⟩⟩⟩⟩⟩⟩⟩⟩⟩⟩⟩⟩⟩⟩⟩
theorem lw_p32 : lw_okq (⟨"RiverDiggersModel", "ruleLine", "()I"⟩, 47) := ⟨⟨by decide +kernel, by decide +kernel⟩, List.mem_of_getElem? (i := 856) (by decide +kernel), List.mem_of_getElem? (i := 1061) (by decide +kernel), List.mem_of_getElem? (i := 1062) (by decide +kernel)⟩
theorem lw_p33 : lw_okq (⟨"RiverDiggersModel", "readLineOf", "(I)V"⟩, 47) := ⟨⟨by decide +kernel, by decide +kernel⟩, List.mem_of_getElem? (i := 856) (by decide +kernel), List.mem_of_getElem? (i := 1065) (by decide +kernel), List.mem_of_getElem? (i := 1066) (by decide +kernel)⟩
theorem lw_p34 : lw_okq (⟨"RiverDiggersModel", "readNumber", "(II)I"⟩, 47) := ⟨⟨by decide +kernel, by decide +kernel⟩, List.mem_of_getElem? (i := 856) (by decide +kernel), List.mem_of_getElem? (i := 1069) (by decide +kernel), List.mem_of_getElem? (i := 1070) (by decide +kernel)⟩
theorem lw_p35 : lw_okq (⟨"RiverDiggersModel", "looked", "(II)I"⟩, 47) := ⟨⟨by decide +kernel, by decide +kernel⟩, List.mem_of_getElem? (i := 856) (by decide +kernel), List.mem_of_getElem? (i := 1073) (by decide +kernel), List.mem_of_getElem? (i := 1074) (by decide +kernel)⟩
theorem lw_p36 : lw_okq (⟨"RiverDiggersModel", "sawCell", "(I)V"⟩, 47) := ⟨⟨by decide +kernel, by decide +kernel⟩, List.mem_of_getElem? (i := 856) (by decide +kernel), List.mem_of_getElem? (i := 1077) (by decide +kernel), List.mem_of_getElem? (i := 1078) (by decide +kernel)⟩
theorem lw_p37 : lw_okq (⟨"RiverDiggersModel", "readRow", "()V"⟩, 47) := ⟨⟨by decide +kernel, by decide +kernel⟩, List.mem_of_getElem? (i := 856) (by decide +kernel), List.mem_of_getElem? (i := 1081) (by decide +kernel), List.mem_of_getElem? (i := 1082) (by decide +kernel)⟩
theorem lw_p38 : lw_okq (⟨"RiverDiggersModel", "readGround", "()V"⟩, 47) := ⟨⟨by decide +kernel, by decide +kernel⟩, List.mem_of_getElem? (i := 856) (by decide +kernel), List.mem_of_getElem? (i := 1085) (by decide +kernel), List.mem_of_getElem? (i := 1086) (by decide +kernel)⟩
theorem lw_p39 : lw_okq (⟨"RiverDiggersModel", "isCell", "(I)Z"⟩, 47) := ⟨⟨by decide +kernel, by decide +kernel⟩, List.mem_of_getElem? (i := 856) (by decide +kernel), List.mem_of_getElem? (i := 1101) (by decide +kernel), List.mem_of_getElem? (i := 1102) (by decide +kernel)⟩
theorem lw_p40 : lw_okq (⟨"RiverDiggersModel", "isFarm", "(I)Z"⟩, 47) := ⟨⟨by decide +kernel, by decide +kernel⟩, List.mem_of_getElem? (i := 856) (by decide +kernel), List.mem_of_getElem? (i := 1109) (by decide +kernel), List.mem_of_getElem? (i := 1110) (by decide +kernel)⟩
theorem lw_p41 : lw_okq (⟨"RiverDiggersModel", "hasNow", "(I)I"⟩, 47) := ⟨⟨by decide +kernel, by decide +kernel⟩, List.mem_of_getElem? (i := 856) (by decide +kernel), List.mem_of_getElem? (i := 1117) (by decide +kernel), List.mem_of_getElem? (i := 1118) (by decide +kernel)⟩
theorem lw_p42 : lw_okq (⟨"RiverDiggersModel", "bedNow", "()I"⟩, 47) := ⟨⟨by decide +kernel, by decide +kernel⟩, List.mem_of_getElem? (i := 856) (by decide +kernel), List.mem_of_getElem? (i := 1121) (by decide +kernel), List.mem_of_getElem? (i := 1122) (by decide +kernel)⟩
theorem lw_p43 : lw_okq (⟨"RiverDiggersModel", "findBed", "()V"⟩, 47) := ⟨⟨by decide +kernel, by decide +kernel⟩, List.mem_of_getElem? (i := 856) (by decide +kernel), List.mem_of_getElem? (i := 1125) (by decide +kernel), List.mem_of_getElem? (i := 1126) (by decide +kernel)⟩
theorem lw_p44 : lw_okq (⟨"RiverDiggersModel", "lowestBeside", "(I)I"⟩, 47) := ⟨⟨by decide +kernel, by decide +kernel⟩, List.mem_of_getElem? (i := 856) (by decide +kernel), List.mem_of_getElem? (i := 1129) (by decide +kernel), List.mem_of_getElem? (i := 1130) (by decide +kernel)⟩
theorem lw_p45 : lw_okq (⟨"RiverDiggersModel", "beside", "(II)I"⟩, 47) := ⟨⟨by decide +kernel, by decide +kernel⟩, List.mem_of_getElem? (i := 856) (by decide +kernel), List.mem_of_getElem? (i := 1133) (by decide +kernel), List.mem_of_getElem? (i := 1134) (by decide +kernel)⟩
theorem lw_p46 : lw_okq (⟨"RiverDiggersModel", "mayCut", "(I)I"⟩, 47) := ⟨⟨by decide +kernel, by decide +kernel⟩, List.mem_of_getElem? (i := 856) (by decide +kernel), List.mem_of_getElem? (i := 1137) (by decide +kernel), List.mem_of_getElem? (i := 1138) (by decide +kernel)⟩
theorem lw_p47 : lw_okq (⟨"RiverDiggersModel", "isBeside", "(II)Z"⟩, 47) := ⟨⟨by decide +kernel, by decide +kernel⟩, List.mem_of_getElem? (i := 856) (by decide +kernel), List.mem_of_getElem? (i := 1141) (by decide +kernel), List.mem_of_getElem? (i := 1142) (by decide +kernel)⟩
def lw_privs_3 : List (MethodName × Nat) := [(⟨"RiverDiggersModel", "ruleLine", "()I"⟩, 47), (⟨"RiverDiggersModel", "readLineOf", "(I)V"⟩, 47), (⟨"RiverDiggersModel", "readNumber", "(II)I"⟩, 47), (⟨"RiverDiggersModel", "looked", "(II)I"⟩, 47), (⟨"RiverDiggersModel", "sawCell", "(I)V"⟩, 47), (⟨"RiverDiggersModel", "readRow", "()V"⟩, 47), (⟨"RiverDiggersModel", "readGround", "()V"⟩, 47), (⟨"RiverDiggersModel", "isCell", "(I)Z"⟩, 47), (⟨"RiverDiggersModel", "isFarm", "(I)Z"⟩, 47), (⟨"RiverDiggersModel", "hasNow", "(I)I"⟩, 47), (⟨"RiverDiggersModel", "bedNow", "()I"⟩, 47), (⟨"RiverDiggersModel", "findBed", "()V"⟩, 47), (⟨"RiverDiggersModel", "lowestBeside", "(I)I"⟩, 47), (⟨"RiverDiggersModel", "beside", "(II)I"⟩, 47), (⟨"RiverDiggersModel", "mayCut", "(I)I"⟩, 47), (⟨"RiverDiggersModel", "isBeside", "(II)Z"⟩, 47)]
theorem lw_r3 : ∀ q ∈ lw_privs_3, lw_okq q := List.forall_mem_cons.mpr ⟨lw_p32, List.forall_mem_cons.mpr ⟨lw_p33, List.forall_mem_cons.mpr ⟨lw_p34, List.forall_mem_cons.mpr ⟨lw_p35, List.forall_mem_cons.mpr ⟨lw_p36, List.forall_mem_cons.mpr ⟨lw_p37, List.forall_mem_cons.mpr ⟨lw_p38, List.forall_mem_cons.mpr ⟨lw_p39, List.forall_mem_cons.mpr ⟨lw_p40, List.forall_mem_cons.mpr ⟨lw_p41, List.forall_mem_cons.mpr ⟨lw_p42, List.forall_mem_cons.mpr ⟨lw_p43, List.forall_mem_cons.mpr ⟨lw_p44, List.forall_mem_cons.mpr ⟨lw_p45, List.forall_mem_cons.mpr ⟨lw_p46, List.forall_mem_cons.mpr ⟨lw_p47, fun _ h => absurd h List.not_mem_nil⟩⟩⟩⟩⟩⟩⟩⟩⟩⟩⟩⟩⟩⟩⟩⟩
theorem lw_p48 : lw_okq (⟨"RiverDiggersModel", "becomes", "(II)I"⟩, 47) := ⟨⟨by decide +kernel, by decide +kernel⟩, List.mem_of_getElem? (i := 856) (by decide +kernel), List.mem_of_getElem? (i := 1154) (by decide +kernel), List.mem_of_getElem? (i := 1155) (by decide +kernel)⟩
theorem lw_p49 : lw_okq (⟨"RiverDiggersModel", "canBe", "(I)Z"⟩, 47) := ⟨⟨by decide +kernel, by decide +kernel⟩, List.mem_of_getElem? (i := 856) (by decide +kernel), List.mem_of_getElem? (i := 1184) (by decide +kernel), List.mem_of_getElem? (i := 1185) (by decide +kernel)⟩
theorem lw_p50 : lw_okq (⟨"RiverDiggersModel", "firstWrong", "(I)I"⟩, 47) := ⟨⟨by decide +kernel, by decide +kernel⟩, List.mem_of_getElem? (i := 856) (by decide +kernel), List.mem_of_getElem? (i := 1188) (by decide +kernel), List.mem_of_getElem? (i := 1189) (by decide +kernel)⟩
theorem lw_p51 : lw_okq (⟨"RiverDiggersModel", "goes", "(I)V"⟩, 47) := ⟨⟨by decide +kernel, by decide +kernel⟩, List.mem_of_getElem? (i := 856) (by decide +kernel), List.mem_of_getElem? (i := 1195) (by decide +kernel), List.mem_of_getElem? (i := 1196) (by decide +kernel)⟩
theorem lw_p52 : lw_okq (⟨"RiverDiggersModel", "silts", "()V"⟩, 47) := ⟨⟨by decide +kernel, by decide +kernel⟩, List.mem_of_getElem? (i := 856) (by decide +kernel), List.mem_of_getElem? (i := 1199) (by decide +kernel), List.mem_of_getElem? (i := 1200) (by decide +kernel)⟩
theorem lw_p53 : lw_okq (⟨"RiverDiggersModel", "hasBy", "(II)I"⟩, 47) := ⟨⟨by decide +kernel, by decide +kernel⟩, List.mem_of_getElem? (i := 856) (by decide +kernel), List.mem_of_getElem? (i := 1207) (by decide +kernel), List.mem_of_getElem? (i := 1208) (by decide +kernel)⟩
theorem lw_p54 : lw_okq (⟨"RiverDiggersModel", "marks", "()V"⟩, 47) := ⟨⟨by decide +kernel, by decide +kernel⟩, List.mem_of_getElem? (i := 856) (by decide +kernel), List.mem_of_getElem? (i := 1211) (by decide +kernel), List.mem_of_getElem? (i := 1212) (by decide +kernel)⟩
theorem lw_p55 : lw_okq (⟨"RiverDiggersModel", "returns", "()V"⟩, 47) := ⟨⟨by decide +kernel, by decide +kernel⟩, List.mem_of_getElem? (i := 856) (by decide +kernel), List.mem_of_getElem? (i := 1215) (by decide +kernel), List.mem_of_getElem? (i := 1216) (by decide +kernel)⟩
theorem lw_p56 : lw_okq (⟨"RiverDiggersModel", "isBrought", "(III)Z"⟩, 47) := ⟨⟨by decide +kernel, by decide +kernel⟩, List.mem_of_getElem? (i := 856) (by decide +kernel), List.mem_of_getElem? (i := 1237) (by decide +kernel), List.mem_of_getElem? (i := 1238) (by decide +kernel)⟩
theorem lw_p57 : lw_okq (⟨"RiverDiggersModel", "enters", "(II)V"⟩, 47) := ⟨⟨by decide +kernel, by decide +kernel⟩, List.mem_of_getElem? (i := 856) (by decide +kernel), List.mem_of_getElem? (i := 1241) (by decide +kernel), List.mem_of_getElem? (i := 1242) (by decide +kernel)⟩
theorem lw_p58 : lw_okq (⟨"RiverDiggersModel", "leaves", "(I)V"⟩, 47) := ⟨⟨by decide +kernel, by decide +kernel⟩, List.mem_of_getElem? (i := 856) (by decide +kernel), List.mem_of_getElem? (i := 1245) (by decide +kernel), List.mem_of_getElem? (i := 1246) (by decide +kernel)⟩
theorem lw_p59 : lw_okq (⟨"RiverDiggersModel", "findOptions", "()V"⟩, 47) := ⟨⟨by decide +kernel, by decide +kernel⟩, List.mem_of_getElem? (i := 856) (by decide +kernel), List.mem_of_getElem? (i := 1256) (by decide +kernel), List.mem_of_getElem? (i := 1257) (by decide +kernel)⟩
theorem lw_p60 : lw_okq (⟨"RiverDiggersModel", "allOptions", "()I"⟩, 47) := ⟨⟨by decide +kernel, by decide +kernel⟩, List.mem_of_getElem? (i := 856) (by decide +kernel), List.mem_of_getElem? (i := 1260) (by decide +kernel), List.mem_of_getElem? (i := 1261) (by decide +kernel)⟩
theorem lw_p61 : lw_okq (⟨"RiverDiggersModel", "yearAt", "(I)I"⟩, 47) := ⟨⟨by decide +kernel, by decide +kernel⟩, List.mem_of_getElem? (i := 856) (by decide +kernel), List.mem_of_getElem? (i := 1264) (by decide +kernel), List.mem_of_getElem? (i := 1265) (by decide +kernel)⟩
theorem lw_p62 : lw_okq (⟨"RiverDiggersModel", "yearOf", "(III)I"⟩, 47) := ⟨⟨by decide +kernel, by decide +kernel⟩, List.mem_of_getElem? (i := 856) (by decide +kernel), List.mem_of_getElem? (i := 1268) (by decide +kernel), List.mem_of_getElem? (i := 1269) (by decide +kernel)⟩
theorem lw_p63 : lw_okq (⟨"RiverDiggersModel", "bedBy", "(I)I"⟩, 47) := ⟨⟨by decide +kernel, by decide +kernel⟩, List.mem_of_getElem? (i := 856) (by decide +kernel), List.mem_of_getElem? (i := 1272) (by decide +kernel), List.mem_of_getElem? (i := 1273) (by decide +kernel)⟩
def lw_privs_4 : List (MethodName × Nat) := [(⟨"RiverDiggersModel", "becomes", "(II)I"⟩, 47), (⟨"RiverDiggersModel", "canBe", "(I)Z"⟩, 47), (⟨"RiverDiggersModel", "firstWrong", "(I)I"⟩, 47), (⟨"RiverDiggersModel", "goes", "(I)V"⟩, 47), (⟨"RiverDiggersModel", "silts", "()V"⟩, 47), (⟨"RiverDiggersModel", "hasBy", "(II)I"⟩, 47), (⟨"RiverDiggersModel", "marks", "()V"⟩, 47), (⟨"RiverDiggersModel", "returns", "()V"⟩, 47), (⟨"RiverDiggersModel", "isBrought", "(III)Z"⟩, 47), (⟨"RiverDiggersModel", "enters", "(II)V"⟩, 47), (⟨"RiverDiggersModel", "leaves", "(I)V"⟩, 47), (⟨"RiverDiggersModel", "findOptions", "()V"⟩, 47), (⟨"RiverDiggersModel", "allOptions", "()I"⟩, 47), (⟨"RiverDiggersModel", "yearAt", "(I)I"⟩, 47), (⟨"RiverDiggersModel", "yearOf", "(III)I"⟩, 47), (⟨"RiverDiggersModel", "bedBy", "(I)I"⟩, 47)]
theorem lw_r4 : ∀ q ∈ lw_privs_4, lw_okq q := List.forall_mem_cons.mpr ⟨lw_p48, List.forall_mem_cons.mpr ⟨lw_p49, List.forall_mem_cons.mpr ⟨lw_p50, List.forall_mem_cons.mpr ⟨lw_p51, List.forall_mem_cons.mpr ⟨lw_p52, List.forall_mem_cons.mpr ⟨lw_p53, List.forall_mem_cons.mpr ⟨lw_p54, List.forall_mem_cons.mpr ⟨lw_p55, List.forall_mem_cons.mpr ⟨lw_p56, List.forall_mem_cons.mpr ⟨lw_p57, List.forall_mem_cons.mpr ⟨lw_p58, List.forall_mem_cons.mpr ⟨lw_p59, List.forall_mem_cons.mpr ⟨lw_p60, List.forall_mem_cons.mpr ⟨lw_p61, List.forall_mem_cons.mpr ⟨lw_p62, List.forall_mem_cons.mpr ⟨lw_p63, fun _ h => absurd h List.not_mem_nil⟩⟩⟩⟩⟩⟩⟩⟩⟩⟩⟩⟩⟩⟩⟩⟩
theorem lw_p64 : lw_okq (⟨"RiverDiggersModel", "selfishYear", "()I"⟩, 47) := ⟨⟨by decide +kernel, by decide +kernel⟩, List.mem_of_getElem? (i := 856) (by decide +kernel), List.mem_of_getElem? (i := 1283) (by decide +kernel), List.mem_of_getElem? (i := 1284) (by decide +kernel)⟩
theorem lw_p65 : lw_okq (⟨"RiverDiggersModel", "secondOf", "(I)I"⟩, 47) := ⟨⟨by decide +kernel, by decide +kernel⟩, List.mem_of_getElem? (i := 856) (by decide +kernel), List.mem_of_getElem? (i := 1287) (by decide +kernel), List.mem_of_getElem? (i := 1288) (by decide +kernel)⟩
theorem lw_p66 : lw_okq (⟨"RiverDiggersModel", "lastOf", "(II)I"⟩, 47) := ⟨⟨by decide +kernel, by decide +kernel⟩, List.mem_of_getElem? (i := 856) (by decide +kernel), List.mem_of_getElem? (i := 1291) (by decide +kernel), List.mem_of_getElem? (i := 1292) (by decide +kernel)⟩
theorem lw_p67 : lw_okq (⟨"RiverDiggersModel", "breaksOf", "(I)I"⟩, 47) := ⟨⟨by decide +kernel, by decide +kernel⟩, List.mem_of_getElem? (i := 856) (by decide +kernel), List.mem_of_getElem? (i := 1299) (by decide +kernel), List.mem_of_getElem? (i := 1300) (by decide +kernel)⟩
theorem lw_p68 : lw_okq (⟨"RiverDiggersModel", "areAlike", "(II)Z"⟩, 47) := ⟨⟨by decide +kernel, by decide +kernel⟩, List.mem_of_getElem? (i := 856) (by decide +kernel), List.mem_of_getElem? (i := 1315) (by decide +kernel), List.mem_of_getElem? (i := 1316) (by decide +kernel)⟩
theorem lw_p69 : lw_okq (⟨"RiverDiggersModel", "isSo", "(I)Z"⟩, 47) := ⟨⟨by decide +kernel, by decide +kernel⟩, List.mem_of_getElem? (i := 856) (by decide +kernel), List.mem_of_getElem? (i := 1339) (by decide +kernel), List.mem_of_getElem? (i := 1340) (by decide +kernel)⟩
theorem lw_p70 : lw_okq (⟨"RiverDiggersModel", "copies", "(II)V"⟩, 47) := ⟨⟨by decide +kernel, by decide +kernel⟩, List.mem_of_getElem? (i := 856) (by decide +kernel), List.mem_of_getElem? (i := 1350) (by decide +kernel), List.mem_of_getElem? (i := 1351) (by decide +kernel)⟩
def lw_privs_5 : List (MethodName × Nat) := [(⟨"RiverDiggersModel", "selfishYear", "()I"⟩, 47), (⟨"RiverDiggersModel", "secondOf", "(I)I"⟩, 47), (⟨"RiverDiggersModel", "lastOf", "(II)I"⟩, 47), (⟨"RiverDiggersModel", "breaksOf", "(I)I"⟩, 47), (⟨"RiverDiggersModel", "areAlike", "(II)Z"⟩, 47), (⟨"RiverDiggersModel", "isSo", "(I)Z"⟩, 47), (⟨"RiverDiggersModel", "copies", "(II)V"⟩, 47)]
theorem lw_r5 : ∀ q ∈ lw_privs_5, lw_okq q := List.forall_mem_cons.mpr ⟨lw_p64, List.forall_mem_cons.mpr ⟨lw_p65, List.forall_mem_cons.mpr ⟨lw_p66, List.forall_mem_cons.mpr ⟨lw_p67, List.forall_mem_cons.mpr ⟨lw_p68, List.forall_mem_cons.mpr ⟨lw_p69, List.forall_mem_cons.mpr ⟨lw_p70, fun _ h => absurd h List.not_mem_nil⟩⟩⟩⟩⟩⟩⟩
def lw_privs : List (MethodName × Nat) := lw_privs_1 ++ (lw_privs_2 ++ (lw_privs_3 ++ (lw_privs_4 ++ (lw_privs_5))))
def lw_tbl : List Cond := k2_sels lw_privs ++ tables_1
theorem lw_privs_ok : ∀ q ∈ lw_privs, lw_okq q := by
  show ∀ q ∈ lw_privs_1 ++ (lw_privs_2 ++ (lw_privs_3 ++ (lw_privs_4 ++ (lw_privs_5)))), lw_okq q
  exact List.forall_mem_append.mpr ⟨lw_r1, List.forall_mem_append.mpr ⟨lw_r2, List.forall_mem_append.mpr ⟨lw_r3, List.forall_mem_append.mpr ⟨lw_r4, lw_r5⟩⟩⟩⟩
end
section
/-! THE WALK BY PROGRAM: an interpreter over intervals, run in the kernel; part 03 and on show that what it says holds of the machine -/
/-- an interval of ints, each by its number and 2^31 (of longs: and 2^63) -/
abbrev zi_I : Type := Nat × Nat
/-- a value: int | long | reference to a cell of the world, or null | the script | int by digits (base 26, lowest first) -/
abbrev zi_V : Type := zi_I ⊕ (zi_I ⊕ (Option Nat ⊕ (Unit ⊕ List zi_I)))
/-- a cell: row of a type | object of a class -/
abbrev zi_C : Type := (FieldType × List zi_I) ⊕ (Nat × List zi_V)
abbrev zi_L : Type := List (Nat × zi_V)
/-- locals, stack, world, cells and slots that may still be made -/
abbrev zi_S : Type := zi_L × List zi_V × List zi_C × Nat × Nat
/-- calls, and the script -/
abbrev zi_E : Type := (Nat → List zi_V → List zi_C → Option (Option zi_V × List zi_C)) × Option (List zi_V)
abbrev zi_F : Type := zi_E → zi_S → Option (Nat × zi_S)
/-- a method's table, sixteen places a row: nothing | the walk stops here | a step -/
abbrev zi_T : Type := List (List (Option (Option zi_F)))
abbrev zi_M : Type := MethodName × ByteArray × Nat × Option FieldType × zi_T × Nat × Nat
def zi_Z : Nat := 2147483648
def zi_ZL : Nat := 9223372036854775808
def zi_o (x : Int32) : Nat := (x.toInt + 2147483648).toNat
def zi_ol (x : Int64) : Nat := (x.toInt + 9223372036854775808).toNat
def zi_u (n : Nat) : Int32 := Int32.ofInt ((n : Int) - 2147483648)
def zi_ul (n : Nat) : Int64 := Int64.ofInt ((n : Int) - 9223372036854775808)
def zi_top : zi_I := (0, 4294967295)
def zi_topl : zi_I := (0, 18446744073709551615)
def zi_cat : zi_V → Nat
  | .inr (.inl _) => 2
  | _ => 1
def zi_dlo : List zi_I → Nat
  | [] => 0
  | r :: t => r.1 + 26 * zi_dlo t
def zi_dhi : List zi_I → Nat
  | [] => 0
  | r :: t => r.2 + 26 * zi_dhi t
/-- the interval of an int -/
def zi_iv : zi_V → Option zi_I
  | .inl r => some r
  | .inr (.inr (.inr (.inr ds))) => some (2147483648 + zi_dlo ds, 2147483648 + zi_dhi ds)
  | _ => none
def zi_lv : zi_V → Option zi_I
  | .inr (.inl r) => some r
  | _ => none
def zi_lk (t : zi_T) (pc : Nat) : Option (Option zi_F) := match t[pc / 16]? with
  | none => none
  | some r => match r[pc % 16]? with
    | none => none
    | some q => q
def zi_get : zi_L → Nat → Option zi_V
  | [], _ => none
  | q :: t, i => bif Nat.beq q.1 i then some q.2 else zi_get t i
def zi_st1 (l : zi_L) (i : Nat) (v : zi_V) : zi_L := (i, v) :: l.filter (fun q => !(q.1 == i) && !(q.1 + 1 == i && zi_cat q.2 == 2))
def zi_st2 (l : zi_L) (i : Nat) (v : zi_V) : zi_L := (i, v) :: l.filter (fun q => !(q.1 == i) && (!(q.1 == i + 1) && !(q.1 + 1 == i && zi_cat q.2 == 2)))
def zi_args : Nat → List zi_V → zi_L
  | _, [] => []
  | i, v :: t => (i, v) :: zi_args (i + zi_cat v) t
def zi_wt : List zi_V → Nat
  | [] => 0
  | v :: t => zi_cat v + zi_wt t
/-- n values off the stack, the topmost last -/
def zi_pop : Nat → List zi_V → List zi_V → Option (List zi_V × List zi_V)
  | 0, st, acc => some (acc, st)
  | n + 1, v :: st, acc => zi_pop n st (v :: acc)
  | _ + 1, [], _ => none
-- numbers
def zi_one (x : zi_I) : Bool := Nat.beq x.1 x.2
def zi_sg (g : Int32 → Int32 → Int32) (x y : zi_I) : zi_I := bif zi_one x && zi_one y then (zi_o (g (zi_u x.1) (zi_u y.1)), zi_o (g (zi_u x.1) (zi_u y.1))) else zi_top
def zi_sgl (g : Int64 → Int64 → Int64) (x y : zi_I) : zi_I := bif zi_one x && zi_one y then (zi_ol (g (zi_ul x.1) (zi_ul y.1)), zi_ol (g (zi_ul x.1) (zi_ul y.1))) else zi_topl
def zi_add (x y : zi_I) : zi_I := bif Nat.ble 2147483648 (x.1 + y.1) && Nat.ble (x.2 + y.2) 6442450943 then (x.1 + y.1 - 2147483648, x.2 + y.2 - 2147483648) else zi_sg (· + ·) x y
def zi_sub (x y : zi_I) : zi_I := bif Nat.ble y.2 (x.1 + 2147483648) && Nat.ble (x.2 + 2147483648) (y.1 + 4294967295) then (x.1 + 2147483648 - y.2, x.2 + 2147483648 - y.1) else zi_sg (· - ·) x y
def zi_mul (x y : zi_I) : zi_I := bif Nat.ble 2147483648 x.1 && (Nat.ble 2147483648 y.1 && Nat.ble ((x.2 - 2147483648) * (y.2 - 2147483648)) 2147483647) then ((x.1 - 2147483648) * (y.1 - 2147483648) + 2147483648, (x.2 - 2147483648) * (y.2 - 2147483648) + 2147483648) else zi_sg (· * ·) x y
def zi_and (x y : zi_I) : zi_I := zi_sg (· &&& ·) x y
def zi_or (x y : zi_I) : zi_I := zi_sg (· ||| ·) x y
def zi_xor (x y : zi_I) : zi_I := zi_sg (· ^^^ ·) x y
def zi_shl (x y : zi_I) : zi_I := zi_sg (fun a b => a <<< (b &&& 31)) x y
/-- to the right: of 0 it is 0 -/
def zi_shr (x y : zi_I) : zi_I := bif Nat.beq x.1 2147483648 && Nat.beq x.2 2147483648 then x else zi_sg (fun a b => a >>> (b &&& 31)) x y
def zi_ushr (x y : zi_I) : zi_I := zi_sg (fun a b => (a.toUInt32 >>> (b.toUInt32 &&& Int32.toUInt32 31)).toInt32) x y
def zi_dig : zi_V → Option (List zi_I)
  | .inr (.inr (.inr (.inr ds))) => some ds
  | _ => none
def zi_divi (x y : zi_I) : zi_I := bif zi_one y && Nat.ble 2147483649 y.1 && Nat.ble 2147483648 x.1 then ((x.1 - 2147483648) / (y.1 - 2147483648) + 2147483648, (x.2 - 2147483648) / (y.1 - 2147483648) + 2147483648) else zi_sg (· / ·) x y
def zi_remi (x y : zi_I) : zi_I := bif zi_one y && Nat.ble 2147483649 y.1 && Nat.ble 2147483648 x.1 && Nat.beq ((x.1 - 2147483648) / (y.1 - 2147483648)) ((x.2 - 2147483648) / (y.1 - 2147483648)) then ((x.1 - 2147483648) % (y.1 - 2147483648) + 2147483648, (x.2 - 2147483648) % (y.1 - 2147483648) + 2147483648) else zi_sg (fun a b => a - a / b * b) x y
def zi_n0 (y : zi_I) : Bool := Nat.ble 2147483649 y.1 || Nat.ble y.2 2147483647
def zi_div (a : zi_V) (x y : zi_I) : zi_V := match zi_dig a with
  | some ds => bif zi_one y && Nat.beq y.1 2147483674 then .inr (.inr (.inr (.inr ds.tail))) else bif zi_one y && Nat.beq y.1 2147484324 then .inr (.inr (.inr (.inr ds.tail.tail))) else .inl (zi_divi x y)
  | none => .inl (zi_divi x y)
def zi_rem (a : zi_V) (x y : zi_I) : zi_V := match zi_dig a with
  | some (r :: _) => bif zi_one y && Nat.beq y.1 2147483674 then .inl (2147483648 + r.1, 2147483648 + r.2) else .inl (zi_remi x y)
  | _ => .inl (zi_remi x y)
-- tests: nothing where the intervals don't tell
def zi_lt (x y : zi_I) : Option Bool := bif Nat.blt x.2 y.1 then some true else bif Nat.ble y.2 x.1 then some false else none
def zi_le (x y : zi_I) : Option Bool := bif Nat.ble x.2 y.1 then some true else bif Nat.blt y.2 x.1 then some false else none
def zi_eq (x y : zi_I) : Option Bool := bif zi_one x && (zi_one y && Nat.beq x.1 y.1) then some true else bif Nat.blt x.2 y.1 || Nat.blt y.2 x.1 then some false else none
def zi_not : Option Bool → Option Bool
  | some b => some (!b)
  | none => none
def zi_cmpl (x y : zi_I) : zi_I := bif Nat.blt x.2 y.1 then (2147483647, 2147483647) else bif Nat.blt y.2 x.1 then (2147483649, 2147483649) else bif zi_one x && (zi_one y && Nat.beq x.1 y.1) then (2147483648, 2147483648) else bif Nat.ble y.2 x.1 then (2147483648, 2147483649) else bif Nat.ble x.2 y.1 then (2147483647, 2147483648) else (2147483647, 2147483649)
-- the steps
def zi_push (v : zi_V) (nx : Nat) : zi_F := fun _ s => match s with
  | (lc, sk, r) => some (nx, (lc, v :: sk, r))
def zi_load (i nx : Nat) : zi_F := fun _ s => match s with
  | (lc, sk, r) => match zi_get lc i with
    | some v => some (nx, (lc, v :: sk, r))
    | none => none
def zi_store (i nx : Nat) : zi_F := fun _ s => match s with
  | (lc, v :: sk, r) => bif Nat.beq (zi_cat v) 1 then some (nx, (zi_st1 lc i v, sk, r)) else some (nx, (zi_st2 lc i v, sk, r))
  | _ => none
def zi_inc (i : Nat) (k : zi_I) (nx : Nat) : zi_F := fun _ s => match s with
  | (lc, sk, r) => match zi_get lc i with
    | some v => match zi_iv v with
      | some x => some (nx, (zi_st1 lc i (.inl (zi_add x k)), sk, r))
      | none => none
    | none => none
def zi_bin (f : zi_I → zi_I → zi_I) (nx : Nat) : zi_F := fun _ s => match s with
  | (lc, b :: a :: sk, r) => match zi_iv a with
    | some x => match zi_iv b with
      | some y => some (nx, (lc, .inl (f x y) :: sk, r))
      | none => none
    | none => none
  | _ => none
/-- division and rest: not by 0 -/
def zi_dv (f : zi_V → zi_I → zi_I → zi_V) (nx : Nat) : zi_F := fun _ s => match s with
  | (lc, b :: a :: sk, r) => match zi_iv a with
    | some x => match zi_iv b with
      | some y => bif zi_n0 y then some (nx, (lc, f a x y :: sk, r)) else none
      | none => none
    | none => none
  | _ => none
def zi_binl (f : zi_I → zi_I → zi_I) (nx : Nat) : zi_F := fun _ s => match s with
  | (lc, b :: a :: sk, r) => match zi_lv a with
    | some x => match zi_lv b with
      | some y => some (nx, (lc, .inr (.inl (f x y)) :: sk, r))
      | none => none
    | none => none
  | _ => none
/-- a long's shift -/
def zi_shfl (f : zi_I → zi_I → zi_I) (nx : Nat) : zi_F := fun _ s => match s with
  | (lc, b :: a :: sk, r) => match zi_lv a with
    | some x => match zi_iv b with
      | some y => some (nx, (lc, .inr (.inl (f x y)) :: sk, r))
      | none => none
    | none => none
  | _ => none
def zi_lcmp (nx : Nat) : zi_F := fun _ s => match s with
  | (lc, b :: a :: sk, r) => match zi_lv a with
    | some x => match zi_lv b with
      | some y => some (nx, (lc, .inl (zi_cmpl x y) :: sk, r))
      | none => none
    | none => none
  | _ => none
def zi_i2l (nx : Nat) : zi_F := fun _ s => match s with
  | (lc, a :: sk, r) => match zi_iv a with
    | some x => some (nx, (lc, .inr (.inl (x.1 + 9223372034707292160, x.2 + 9223372034707292160)) :: sk, r))
    | none => none
  | _ => none
def zi_l2if (x : zi_I) : zi_I := bif zi_one x then (zi_o (zi_ul x.1).toInt32, zi_o (zi_ul x.1).toInt32) else zi_top
def zi_l2i (nx : Nat) : zi_F := fun _ s => match s with
  | (lc, a :: sk, r) => match zi_lv a with
    | some x => some (nx, (lc, .inl (zi_l2if x) :: sk, r))
    | none => none
  | _ => none
def zi_i2bf (x : zi_I) : zi_I := bif zi_one x then (zi_o (zi_u x.1).toInt8.toInt32, zi_o (zi_u x.1).toInt8.toInt32) else (2147483520, 2147483775)
def zi_i2sf (x : zi_I) : zi_I := bif zi_one x then (zi_o (zi_u x.1).toInt16.toInt32, zi_o (zi_u x.1).toInt16.toInt32) else (2147450880, 2147516415)
def zi_un (f : zi_I → zi_I) (nx : Nat) : zi_F := fun _ s => match s with
  | (lc, a :: sk, r) => match zi_iv a with
    | some x => some (nx, (lc, .inl (f x) :: sk, r))
    | none => none
  | _ => none
def zi_if (t : zi_I → zi_I → Option Bool) (tg nx : Nat) : zi_F := fun _ s => match s with
  | (lc, a :: sk, r) => match zi_iv a with
    | some x => match t x (2147483648, 2147483648) with
      | some b => some (bif b then tg else nx, (lc, sk, r))
      | none => none
    | none => none
  | _ => none
def zi_ic (t : zi_I → zi_I → Option Bool) (tg nx : Nat) : zi_F := fun _ s => match s with
  | (lc, b :: a :: sk, r) => match zi_iv a with
    | some x => match zi_iv b with
      | some y => match t x y with
        | some b => some (bif b then tg else nx, (lc, sk, r))
        | none => none
      | none => none
    | none => none
  | _ => none
def zi_go (tg : Nat) : zi_F := fun _ s => some (tg, s)
def zi_null (tn tr : Nat) : zi_F := fun _ s => match s with
  | (lc, .inr (.inr (.inl none)) :: sk, r) => some (tn, (lc, sk, r))
  | (lc, .inr (.inr (.inl (some _))) :: sk, r) => some (tr, (lc, sk, r))
  | _ => none
/-- lo: the lowest case and 2^31 -/
def zi_tsw (lo hi : Nat) (ts : List Nat) (df : Nat) : zi_F := fun _ s => match s with
  | (lc, a :: sk, r) => match zi_iv a with
    | some x => bif Nat.blt x.2 lo || Nat.blt hi x.1 then some (df, (lc, sk, r)) else bif zi_one x && (Nat.ble lo x.1 && Nat.ble x.1 hi) then (match ts[x.1 - lo]? with
        | some t => some (t, (lc, sk, r))
        | none => none) else none
    | none => none
  | _ => none
def zi_dup (nx : Nat) : zi_F := fun _ s => match s with
  | (lc, a :: sk, r) => bif Nat.beq (zi_cat a) 1 then some (nx, (lc, a :: a :: sk, r)) else none
  | _ => none
def zi_dup2 (nx : Nat) : zi_F := fun _ s => match s with
  | (lc, a :: b :: sk, r) => bif Nat.beq (zi_cat a) 1 && Nat.beq (zi_cat b) 1 then some (nx, (lc, a :: b :: a :: b :: sk, r)) else none
  | _ => none
def zi_popp (nx : Nat) : zi_F := fun _ s => match s with
  | (lc, a :: sk, r) => bif Nat.beq (zi_cat a) 1 then some (nx, (lc, sk, r)) else none
  | _ => none
def zi_getf (ci k nx : Nat) : zi_F := fun _ s => match s with
  | (lc, .inr (.inr (.inl (some q))) :: sk, w, r) => match w[q]? with
    | some (.inr (c, vs)) => bif Nat.beq c ci then (match vs[k]? with
        | some v => some (nx, (lc, v :: sk, w, r))
        | none => none) else none
    | _ => none
  | _ => none
/-- may the value lie in a field of that type -/
def zi_fit (ty : FieldType) (v : zi_V) : Bool := match ty, v with
  | .int, .inl _ => true
  | .boolean, .inl r => Nat.ble 2147483648 r.1 && Nat.ble r.2 2147483649
  | .object _, .inr (.inr (.inl _)) => true
  | .array _, .inr (.inr (.inl _)) => true
  | _, _ => false
def zi_putf (ci k : Nat) (ty : FieldType) (nx : Nat) : zi_F := fun _ s => match s with
  | (lc, v :: .inr (.inr (.inl (some q))) :: sk, w, r) => match w[q]? with
    | some (.inr (c, vs)) => bif Nat.beq c ci && (zi_fit ty v && Nat.blt k vs.length) then some (nx, (lc, sk, w.set q (.inr (c, vs.set k v)), r)) else none
    | _ => none
  | _ => none
def zi_ald (ty : FieldType) (nx : Nat) : zi_F := fun _ s => match s with
  | (lc, i :: .inr (.inr (.inl (some q))) :: sk, w, r) => match zi_iv i with
    | some x => match w[q]? with
      | some (.inl (t, l)) => bif zi_one x && (Nat.ble 2147483648 x.1 && decide (t = ty)) then (match l[x.1 - 2147483648]? with
          | some v => some (nx, (lc, .inl v :: sk, w, r))
          | none => none) else none
      | _ => none
    | none => none
  | _ => none
def zi_afit (ty : FieldType) (r : zi_I) : Bool := match ty with
  | .int => true
  | .boolean => Nat.ble 2147483648 r.1 && Nat.ble r.2 2147483649
  | .byte => Nat.ble 2147483520 r.1 && Nat.ble r.2 2147483775
  | _ => false
def zi_ast (ty : FieldType) (nx : Nat) : zi_F := fun _ s => match s with
  | (lc, v :: i :: .inr (.inr (.inl (some q))) :: sk, w, r) => match zi_iv v with
    | some y => match zi_iv i with
      | some x => match w[q]? with
        | some (.inl (t, l)) => bif zi_one x && (Nat.ble 2147483648 x.1 && (decide (t = ty) && (zi_afit ty y && Nat.blt (x.1 - 2147483648) l.length))) then some (nx, (lc, sk, w.set q (.inl (t, l.set (x.1 - 2147483648) y)), r)) else none
        | _ => none
      | none => none
    | none => none
  | _ => none
/-- a cell of the script -/
def zi_sld (nx : Nat) : zi_F := fun E s => match s with
  | (lc, i :: .inr (.inr (.inr (.inl _))) :: sk, r) => match zi_iv i with
    | some x => match E.2 with
      | some l => bif zi_one x && Nat.ble 2147483648 x.1 then (match l[x.1 - 2147483648]? with
          | some v => some (nx, (lc, v :: sk, r))
          | none => none) else none
      | none => none
    | none => none
  | _ => none
def zi_slen (nx : Nat) : zi_F := fun E s => match s with
  | (lc, .inr (.inr (.inr (.inl _))) :: sk, r) => match E.2 with
    | some l => some (nx, (lc, .inl (l.length + 2147483648, l.length + 2147483648) :: sk, r))
    | none => none
  | _ => none
def zi_alen (nx : Nat) : zi_F := fun _ s => match s with
  | (lc, .inr (.inr (.inl (some q))) :: sk, w, r) => match w[q]? with
    | some (.inl (_, l)) => bif Nat.ble l.length 2147483647 then some (nx, (lc, .inl (l.length + 2147483648, l.length + 2147483648) :: sk, w, r)) else none
    | _ => none
  | _ => none
def zi_newa (ty : FieldType) (nx : Nat) : zi_F := fun _ s => match s with
  | (lc, n :: sk, w, rc, rs) => match zi_iv n with
    | some x => bif zi_one x && (Nat.ble 2147483648 x.1 && (Nat.ble x.1 2147493648 && (Nat.ble 1 rc && Nat.ble (x.1 - 2147483648) rs))) then some (nx, (lc, .inr (.inr (.inl (some w.length))) :: sk, w ++ [.inl (ty, List.replicate (x.1 - 2147483648) (2147483648, 2147483648))], rc - 1, rs - (x.1 - 2147483648))) else none
    | none => none
  | _ => none
def zi_new (ci N : Nat) (vs : List zi_V) (nx : Nat) : zi_F := fun _ s => match s with
  | (lc, sk, w, rc, rs) => bif Nat.ble 1 rc && Nat.ble N rs then some (nx, (lc, .inr (.inr (.inl (some w.length))) :: sk, w ++ [.inr (ci, vs)], rc - 1, rs - N)) else none
/-- Object's own constructor -/
def zi_obj (nx : Nat) : zi_F := fun _ s => match s with
  | (lc, .inr (.inr (.inl (some _))) :: sk, r) => bif Nat.ble (zi_wt sk) 20 then some (nx, (lc, sk, r)) else none
  | _ => none
/-- a call: which method, how many values it takes, its class's number (of a static one: none), its cells and slots -/
def zi_inv (j n : Nat) (ci : Option Nat) (mc ms nx : Nat) : zi_F := fun E s => match s with
  | (lc, sk, w, rc, rs) => match zi_pop n sk [] with
    | some (as, rest) => bif Nat.ble (zi_wt rest) 20 && (Nat.ble mc rc && Nat.ble ms rs) then
        (bif (match ci with
            | none => true
            | some c => match as with
              | .inr (.inr (.inl (some q))) :: _ => (match w[q]? with
                | some (.inr (c', _)) => Nat.beq c' c
                | _ => false)
              | _ => false) then
          (match E.1 j as w with
            | some (v, w') => some (nx, (lc, v.toList ++ rest, w', rc - mc, rs - ms))
            | none => none) else none) else none
    | none => none
def zi_cpyl : List zi_I → List zi_I → Nat → Nat → Nat → List zi_I
  | a, b, sp, dp, n => b.take dp ++ (a.drop sp).take n ++ b.drop (dp + n)
def zi_copy (nx : Nat) : zi_F := fun _ s => match s with
  | (lc, n :: dp :: .inr (.inr (.inl (some q1))) :: sp :: .inr (.inr (.inl (some q0))) :: sk, w, r) => match zi_iv n with
    | some xn => match zi_iv dp with
      | some xd => match zi_iv sp with
        | some xs => match w[q0]? with
          | some (.inl (.int, a)) => match w[q1]? with
            | some (.inl (.int, b)) => bif zi_one xn && (zi_one xd && (zi_one xs && (Nat.ble 2147483648 xn.1 && (Nat.ble 2147483648 xd.1 && (Nat.ble 2147483648 xs.1 && (Nat.ble (xs.1 - 2147483648 + (xn.1 - 2147483648)) a.length && (Nat.ble (xd.1 - 2147483648 + (xn.1 - 2147483648)) b.length && Nat.ble (zi_wt sk) 20))))))) then some (nx, (lc, sk, w.set q1 (.inl (.int, zi_cpyl a b (xs.1 - 2147483648) (xd.1 - 2147483648) (xn.1 - 2147483648))), r)) else none
            | _ => none
          | _ => none
        | none => none
      | none => none
    | none => none
  | _ => none
/-- what a method answers, by its type -/
def zi_fin (ret : Option FieldType) (sk : List zi_V) : Option (Option zi_V) := match ret, sk with
  | none, [] => some none
  | some .int, [v] => (match zi_iv v with
    | some r => some (some (.inl r))
    | none => none)
  | some .boolean, [.inl r] => bif Nat.ble 2147483648 r.1 && Nat.ble r.2 2147483649 then some (some (.inl r)) else none
  | some .long, [.inr (.inl r)] => some (some (.inr (.inl r)))
  | some (.object _), [.inr (.inr (.inl q))] => some (some (.inr (.inr (.inl q))))
  | _, _ => none
/-- n steps at most, d calls one in another -/
def zi_run (mt : Nat → Option zi_M) : Nat → zi_T → Option (List zi_V) → Nat → Nat → zi_S → Option (Nat × zi_S)
  | 0, _, _, _, _, _ => none
  | n + 1, t, sc, d, pc, s => match zi_lk t pc with
    | none => none
    | some none => some (pc, s)
    | some (some f) => match f ((fun j as w => match d with
          | 0 => none
          | d' + 1 => match mt j with
            | none => none
            | some (_, _, _, ret, t', mc, ms) => match zi_run mt n t' none d' 0 (zi_args 0 as, [], w, mc, ms) with
              | none => none
              | some (_, _, sk, w', _) => match zi_fin ret sk with
                | none => none
                | some v => some (v, w')), sc) s with
      | none => none
      | some (pc', s') => zi_run mt n t sc d pc' s'
end
