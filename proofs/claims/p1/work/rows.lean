section
-- ===== PART A: goes FIRST, ahead of the names: the tables' words, and 'selects' of the private methods out of them =====
/-- a private method of a class that the tables say can be made, by its rows of tables_1 -/
def lw_okq (q : MethodName × Nat) : Prop := (q.1.cls ≠ "java/lang/invoke/MethodHandle" ∧ q.1.cls ≠ "java/lang/invoke/VarHandle") ∧ Cond.instantiable q.1.cls q.2 ∈ tables_1 ∧ Cond.privateMethod q.1 ∈ tables_1 ∧ Cond.instanceMethod q.1 ∈ tables_1
theorem lw_p0 : lw_okq (⟨"RiverDiggers$Draft", "raise", "([I)V"⟩, 10) := ⟨⟨by decide +kernel, by decide +kernel⟩, List.mem_of_getElem? (i := 237) (by decide +kernel), List.mem_of_getElem? (i := 310) (by decide +kernel), List.mem_of_getElem? (i := 311) (by decide +kernel)⟩
theorem lw_p1 : lw_okq (⟨"RiverDiggers$Flow", "lowestNextTo", "(I)I"⟩, 8) := ⟨⟨by decide +kernel, by decide +kernel⟩, List.mem_of_getElem? (i := 68) (by decide +kernel), List.mem_of_getElem? (i := 318) (by decide +kernel), List.mem_of_getElem? (i := 319) (by decide +kernel)⟩
theorem lw_p2 : lw_okq (⟨"RiverDiggers$Draft", "takeLine", "(LRiverDiggers$Tape;)V"⟩, 10) := ⟨⟨by decide +kernel, by decide +kernel⟩, List.mem_of_getElem? (i := 237) (by decide +kernel), List.mem_of_getElem? (i := 407) (by decide +kernel), List.mem_of_getElem? (i := 408) (by decide +kernel)⟩
theorem lw_p3 : lw_okq (⟨"RiverDiggers$Draft", "takePlain", "(LRiverDiggers$Tape;)V"⟩, 10) := ⟨⟨by decide +kernel, by decide +kernel⟩, List.mem_of_getElem? (i := 237) (by decide +kernel), List.mem_of_getElem? (i := 464) (by decide +kernel), List.mem_of_getElem? (i := 465) (by decide +kernel)⟩
theorem lw_p4 : lw_okq (⟨"RiverDiggers$Draft", "comesOnce", "(LRiverDiggers$Tape;I)Z"⟩, 10) := ⟨⟨by decide +kernel, by decide +kernel⟩, List.mem_of_getElem? (i := 237) (by decide +kernel), List.mem_of_getElem? (i := 468) (by decide +kernel), List.mem_of_getElem? (i := 469) (by decide +kernel)⟩
theorem lw_p5 : lw_okq (⟨"RiverDiggers$Draft", "takeRow", "(LRiverDiggers$Tape;)V"⟩, 10) := ⟨⟨by decide +kernel, by decide +kernel⟩, List.mem_of_getElem? (i := 237) (by decide +kernel), List.mem_of_getElem? (i := 487) (by decide +kernel), List.mem_of_getElem? (i := 488) (by decide +kernel)⟩
theorem lw_p6 : lw_okq (⟨"RiverDiggers$Draft", "takeSpring", "(LRiverDiggers$Tape;)V"⟩, 10) := ⟨⟨by decide +kernel, by decide +kernel⟩, List.mem_of_getElem? (i := 237) (by decide +kernel), List.mem_of_getElem? (i := 493) (by decide +kernel), List.mem_of_getElem? (i := 494) (by decide +kernel)⟩
theorem lw_p7 : lw_okq (⟨"RiverDiggers$Draft", "takeFarm", "(LRiverDiggers$Tape;)V"⟩, 10) := ⟨⟨by decide +kernel, by decide +kernel⟩, List.mem_of_getElem? (i := 237) (by decide +kernel), List.mem_of_getElem? (i := 498) (by decide +kernel), List.mem_of_getElem? (i := 499) (by decide +kernel)⟩
theorem lw_p8 : lw_okq (⟨"RiverDiggers$Draft", "takeGround", "(LRiverDiggers$Tape;)V"⟩, 10) := ⟨⟨by decide +kernel, by decide +kernel⟩, List.mem_of_getElem? (i := 237) (by decide +kernel), List.mem_of_getElem? (i := 503) (by decide +kernel), List.mem_of_getElem? (i := 504) (by decide +kernel)⟩
theorem lw_p9 : lw_okq (⟨"RiverDiggers$Draft", "takeLaw", "(LRiverDiggers$Tape;)V"⟩, 10) := ⟨⟨by decide +kernel, by decide +kernel⟩, List.mem_of_getElem? (i := 237) (by decide +kernel), List.mem_of_getElem? (i := 515) (by decide +kernel), List.mem_of_getElem? (i := 516) (by decide +kernel)⟩
theorem lw_p10 : lw_okq (⟨"RiverDiggers$Draft", "takeSilt", "(LRiverDiggers$Tape;)V"⟩, 10) := ⟨⟨by decide +kernel, by decide +kernel⟩, List.mem_of_getElem? (i := 237) (by decide +kernel), List.mem_of_getElem? (i := 520) (by decide +kernel), List.mem_of_getElem? (i := 521) (by decide +kernel)⟩
theorem lw_p11 : lw_okq (⟨"RiverDiggers$Draft", "isWhole", "()Z"⟩, 10) := ⟨⟨by decide +kernel, by decide +kernel⟩, List.mem_of_getElem? (i := 237) (by decide +kernel), List.mem_of_getElem? (i := 524) (by decide +kernel), List.mem_of_getElem? (i := 525) (by decide +kernel)⟩
theorem lw_p12 : lw_okq (⟨"RiverDiggers", "retrace", "()V"⟩, 14) := ⟨⟨by decide +kernel, by decide +kernel⟩, List.mem_of_getElem? (i := 19) (by decide +kernel), List.mem_of_getElem? (i := 584) (by decide +kernel), List.mem_of_getElem? (i := 585) (by decide +kernel)⟩
theorem lw_p13 : lw_okq (⟨"RiverDiggers$Flow", "carrySilt", "()V"⟩, 8) := ⟨⟨by decide +kernel, by decide +kernel⟩, List.mem_of_getElem? (i := 68) (by decide +kernel), List.mem_of_getElem? (i := 628) (by decide +kernel), List.mem_of_getElem? (i := 629) (by decide +kernel)⟩
theorem lw_p14 : lw_okq (⟨"RiverDiggers$Digger", "brings", "(III)Z"⟩, 3) := ⟨⟨by decide +kernel, by decide +kernel⟩, List.mem_of_getElem? (i := 181) (by decide +kernel), List.mem_of_getElem? (i := 662) (by decide +kernel), List.mem_of_getElem? (i := 663) (by decide +kernel)⟩
theorem lw_p15 : lw_okq (⟨"RiverDiggers", "lookAhead", "()V"⟩, 14) := ⟨⟨by decide +kernel, by decide +kernel⟩, List.mem_of_getElem? (i := 19) (by decide +kernel), List.mem_of_getElem? (i := 680) (by decide +kernel), List.mem_of_getElem? (i := 681) (by decide +kernel)⟩
def lw_privs_1 : List (MethodName × Nat) := [(⟨"RiverDiggers$Draft", "raise", "([I)V"⟩, 10), (⟨"RiverDiggers$Flow", "lowestNextTo", "(I)I"⟩, 8), (⟨"RiverDiggers$Draft", "takeLine", "(LRiverDiggers$Tape;)V"⟩, 10), (⟨"RiverDiggers$Draft", "takePlain", "(LRiverDiggers$Tape;)V"⟩, 10), (⟨"RiverDiggers$Draft", "comesOnce", "(LRiverDiggers$Tape;I)Z"⟩, 10), (⟨"RiverDiggers$Draft", "takeRow", "(LRiverDiggers$Tape;)V"⟩, 10), (⟨"RiverDiggers$Draft", "takeSpring", "(LRiverDiggers$Tape;)V"⟩, 10), (⟨"RiverDiggers$Draft", "takeFarm", "(LRiverDiggers$Tape;)V"⟩, 10), (⟨"RiverDiggers$Draft", "takeGround", "(LRiverDiggers$Tape;)V"⟩, 10), (⟨"RiverDiggers$Draft", "takeLaw", "(LRiverDiggers$Tape;)V"⟩, 10), (⟨"RiverDiggers$Draft", "takeSilt", "(LRiverDiggers$Tape;)V"⟩, 10), (⟨"RiverDiggers$Draft", "isWhole", "()Z"⟩, 10), (⟨"RiverDiggers", "retrace", "()V"⟩, 14), (⟨"RiverDiggers$Flow", "carrySilt", "()V"⟩, 8), (⟨"RiverDiggers$Digger", "brings", "(III)Z"⟩, 3), (⟨"RiverDiggers", "lookAhead", "()V"⟩, 14)]
theorem lw_r1 : ∀ q ∈ lw_privs_1, lw_okq q := List.forall_mem_cons.mpr ⟨lw_p0, List.forall_mem_cons.mpr ⟨lw_p1, List.forall_mem_cons.mpr ⟨lw_p2, List.forall_mem_cons.mpr ⟨lw_p3, List.forall_mem_cons.mpr ⟨lw_p4, List.forall_mem_cons.mpr ⟨lw_p5, List.forall_mem_cons.mpr ⟨lw_p6, List.forall_mem_cons.mpr ⟨lw_p7, List.forall_mem_cons.mpr ⟨lw_p8, List.forall_mem_cons.mpr ⟨lw_p9, List.forall_mem_cons.mpr ⟨lw_p10, List.forall_mem_cons.mpr ⟨lw_p11, List.forall_mem_cons.mpr ⟨lw_p12, List.forall_mem_cons.mpr ⟨lw_p13, List.forall_mem_cons.mpr ⟨lw_p14, List.forall_mem_cons.mpr ⟨lw_p15, fun _ h => absurd h List.not_mem_nil⟩⟩⟩⟩⟩⟩⟩⟩⟩⟩⟩⟩⟩⟩⟩⟩
theorem lw_p16 : lw_okq (⟨"RiverDiggers$Outlook", "list", "(II)V"⟩, 7) := ⟨⟨by decide +kernel, by decide +kernel⟩, List.mem_of_getElem? (i := 149) (by decide +kernel), List.mem_of_getElem? (i := 689) (by decide +kernel), List.mem_of_getElem? (i := 690) (by decide +kernel)⟩
theorem lw_p17 : lw_okq (⟨"RiverDiggers$Outlook", "chosen", "(LRiverDiggers$Times;II)I"⟩, 7) := ⟨⟨by decide +kernel, by decide +kernel⟩, List.mem_of_getElem? (i := 149) (by decide +kernel), List.mem_of_getElem? (i := 707) (by decide +kernel), List.mem_of_getElem? (i := 708) (by decide +kernel)⟩
theorem lw_p18 : lw_okq (⟨"RiverDiggers$Outlook", "placeOf", "(II)I"⟩, 7) := ⟨⟨by decide +kernel, by decide +kernel⟩, List.mem_of_getElem? (i := 149) (by decide +kernel), List.mem_of_getElem? (i := 722) (by decide +kernel), List.mem_of_getElem? (i := 723) (by decide +kernel)⟩
theorem lw_p19 : lw_okq (⟨"RiverDiggers", "note", "(I)V"⟩, 14) := ⟨⟨by decide +kernel, by decide +kernel⟩, List.mem_of_getElem? (i := 19) (by decide +kernel), List.mem_of_getElem? (i := 742) (by decide +kernel), List.mem_of_getElem? (i := 743) (by decide +kernel)⟩
theorem lw_p20 : lw_okq (⟨"RiverDiggers", "firstAlike", "(I)I"⟩, 14) := ⟨⟨by decide +kernel, by decide +kernel⟩, List.mem_of_getElem? (i := 19) (by decide +kernel), List.mem_of_getElem? (i := 747) (by decide +kernel), List.mem_of_getElem? (i := 748) (by decide +kernel)⟩
theorem lw_p21 : lw_okq (⟨"RiverDiggers", "isAlike", "(I)Z"⟩, 14) := ⟨⟨by decide +kernel, by decide +kernel⟩, List.mem_of_getElem? (i := 19) (by decide +kernel), List.mem_of_getElem? (i := 751) (by decide +kernel), List.mem_of_getElem? (i := 752) (by decide +kernel)⟩
theorem lw_p22 : lw_okq (⟨"RiverDiggers", "imageOf", "(I)LRiverDiggers$Times;"⟩, 14) := ⟨⟨by decide +kernel, by decide +kernel⟩, List.mem_of_getElem? (i := 19) (by decide +kernel), List.mem_of_getElem? (i := 784) (by decide +kernel), List.mem_of_getElem? (i := 785) (by decide +kernel)⟩
theorem lw_p23 : lw_okq (⟨"RiverDiggersModel", "firstDraft", "()V"⟩, 47) := ⟨⟨by decide +kernel, by decide +kernel⟩, List.mem_of_getElem? (i := 856) (by decide +kernel), List.mem_of_getElem? (i := 862) (by decide +kernel), List.mem_of_getElem? (i := 863) (by decide +kernel)⟩
theorem lw_p24 : lw_okq (⟨"RiverDiggersModel", "keepDraft", "()V"⟩, 47) := ⟨⟨by decide +kernel, by decide +kernel⟩, List.mem_of_getElem? (i := 856) (by decide +kernel), List.mem_of_getElem? (i := 866) (by decide +kernel), List.mem_of_getElem? (i := 867) (by decide +kernel)⟩
theorem lw_p25 : lw_okq (⟨"RiverDiggersModel", "next", "()V"⟩, 47) := ⟨⟨by decide +kernel, by decide +kernel⟩, List.mem_of_getElem? (i := 856) (by decide +kernel), List.mem_of_getElem? (i := 1029) (by decide +kernel), List.mem_of_getElem? (i := 1030) (by decide +kernel)⟩
theorem lw_p26 : lw_okq (⟨"RiverDiggersModel", "look", "(I)I"⟩, 47) := ⟨⟨by decide +kernel, by decide +kernel⟩, List.mem_of_getElem? (i := 856) (by decide +kernel), List.mem_of_getElem? (i := 1033) (by decide +kernel), List.mem_of_getElem? (i := 1034) (by decide +kernel)⟩
theorem lw_p27 : lw_okq (⟨"RiverDiggersModel", "needs", "(ZI)V"⟩, 47) := ⟨⟨by decide +kernel, by decide +kernel⟩, List.mem_of_getElem? (i := 856) (by decide +kernel), List.mem_of_getElem? (i := 1041) (by decide +kernel), List.mem_of_getElem? (i := 1042) (by decide +kernel)⟩
theorem lw_p28 : lw_okq (⟨"RiverDiggersModel", "readLine", "()V"⟩, 47) := ⟨⟨by decide +kernel, by decide +kernel⟩, List.mem_of_getElem? (i := 856) (by decide +kernel), List.mem_of_getElem? (i := 1045) (by decide +kernel), List.mem_of_getElem? (i := 1046) (by decide +kernel)⟩
theorem lw_p29 : lw_okq (⟨"RiverDiggersModel", "lineNow", "()I"⟩, 47) := ⟨⟨by decide +kernel, by decide +kernel⟩, List.mem_of_getElem? (i := 856) (by decide +kernel), List.mem_of_getElem? (i := 1049) (by decide +kernel), List.mem_of_getElem? (i := 1050) (by decide +kernel)⟩
theorem lw_p30 : lw_okq (⟨"RiverDiggersModel", "is", "(IIII)Z"⟩, 47) := ⟨⟨by decide +kernel, by decide +kernel⟩, List.mem_of_getElem? (i := 856) (by decide +kernel), List.mem_of_getElem? (i := 1053) (by decide +kernel), List.mem_of_getElem? (i := 1054) (by decide +kernel)⟩
theorem lw_p31 : lw_okq (⟨"RiverDiggersModel", "ends", "(III)Z"⟩, 47) := ⟨⟨by decide +kernel, by decide +kernel⟩, List.mem_of_getElem? (i := 856) (by decide +kernel), List.mem_of_getElem? (i := 1057) (by decide +kernel), List.mem_of_getElem? (i := 1058) (by decide +kernel)⟩
def lw_privs_2 : List (MethodName × Nat) := [(⟨"RiverDiggers$Outlook", "list", "(II)V"⟩, 7), (⟨"RiverDiggers$Outlook", "chosen", "(LRiverDiggers$Times;II)I"⟩, 7), (⟨"RiverDiggers$Outlook", "placeOf", "(II)I"⟩, 7), (⟨"RiverDiggers", "note", "(I)V"⟩, 14), (⟨"RiverDiggers", "firstAlike", "(I)I"⟩, 14), (⟨"RiverDiggers", "isAlike", "(I)Z"⟩, 14), (⟨"RiverDiggers", "imageOf", "(I)LRiverDiggers$Times;"⟩, 14), (⟨"RiverDiggersModel", "firstDraft", "()V"⟩, 47), (⟨"RiverDiggersModel", "keepDraft", "()V"⟩, 47), (⟨"RiverDiggersModel", "next", "()V"⟩, 47), (⟨"RiverDiggersModel", "look", "(I)I"⟩, 47), (⟨"RiverDiggersModel", "needs", "(ZI)V"⟩, 47), (⟨"RiverDiggersModel", "readLine", "()V"⟩, 47), (⟨"RiverDiggersModel", "lineNow", "()I"⟩, 47), (⟨"RiverDiggersModel", "is", "(IIII)Z"⟩, 47), (⟨"RiverDiggersModel", "ends", "(III)Z"⟩, 47)]
theorem lw_r2 : ∀ q ∈ lw_privs_2, lw_okq q := List.forall_mem_cons.mpr ⟨lw_p16, List.forall_mem_cons.mpr ⟨lw_p17, List.forall_mem_cons.mpr ⟨lw_p18, List.forall_mem_cons.mpr ⟨lw_p19, List.forall_mem_cons.mpr ⟨lw_p20, List.forall_mem_cons.mpr ⟨lw_p21, List.forall_mem_cons.mpr ⟨lw_p22, List.forall_mem_cons.mpr ⟨lw_p23, List.forall_mem_cons.mpr ⟨lw_p24, List.forall_mem_cons.mpr ⟨lw_p25, List.forall_mem_cons.mpr ⟨lw_p26, List.forall_mem_cons.mpr ⟨lw_p27, List.forall_mem_cons.mpr ⟨lw_p28, List.forall_mem_cons.mpr ⟨lw_p29, List.forall_mem_cons.mpr ⟨lw_p30, List.forall_mem_cons.mpr ⟨lw_p31, fun _ h => absurd h List.not_mem_nil⟩⟩⟩⟩⟩⟩⟩⟩⟩⟩⟩⟩⟩⟩⟩⟩
theorem lw_p32 : lw_okq (⟨"RiverDiggersModel", "ruleLine", "()I"⟩, 47) := ⟨⟨by decide +kernel, by decide +kernel⟩, List.mem_of_getElem? (i := 856) (by decide +kernel), List.mem_of_getElem? (i := 1061) (by decide +kernel), List.mem_of_getElem? (i := 1062) (by decide +kernel)⟩
theorem lw_p33 : lw_okq (⟨"RiverDiggersModel", "readLineOf", "(I)V"⟩, 47) := ⟨⟨by decide +kernel, by decide +kernel⟩, List.mem_of_getElem? (i := 856) (by decide +kernel), List.mem_of_getElem? (i := 1065) (by decide +kernel), List.mem_of_getElem? (i := 1066) (by decide +kernel)⟩
theorem lw_p34 : lw_okq (⟨"RiverDiggersModel", "readNumber", "(II)I"⟩, 47) := ⟨⟨by decide +kernel, by decide +kernel⟩, List.mem_of_getElem? (i := 856) (by decide +kernel), List.mem_of_getElem? (i := 1069) (by decide +kernel), List.mem_of_getElem? (i := 1070) (by decide +kernel)⟩
theorem lw_p35 : lw_okq (⟨"RiverDiggersModel", "looked", "(II)I"⟩, 47) := ⟨⟨by decide +kernel, by decide +kernel⟩, List.mem_of_getElem? (i := 856) (by decide +kernel), List.mem_of_getElem? (i := 1073) (by decide +kernel), List.mem_of_getElem? (i := 1074) (by decide +kernel)⟩
theorem lw_p36 : lw_okq (⟨"RiverDiggersModel", "sawCell", "(I)V"⟩, 47) := ⟨⟨by decide +kernel, by decide +kernel⟩, List.mem_of_getElem? (i := 856) (by decide +kernel), List.mem_of_getElem? (i := 1077) (by decide +kernel), List.mem_of_getElem? (i := 1078) (by decide +kernel)⟩
theorem lw_p37 : lw_okq (⟨"RiverDiggersModel", "readRow", "()V"⟩, 47) := ⟨⟨by decide +kernel, by decide +kernel⟩, List.mem_of_getElem? (i := 856) (by decide +kernel), List.mem_of_getElem? (i := 1081) (by decide +kernel), List.mem_of_getElem? (i := 1082) (by decide +kernel)⟩
theorem lw_p38 : lw_okq (⟨"RiverDiggersModel", "readGround", "()V"⟩, 47) := ⟨⟨by decide +kernel, by decide +kernel⟩, List.mem_of_getElem? (i := 856) (by decide +kernel), List.mem_of_getElem? (i := 1085) (by decide +kernel), List.mem_of_getElem? (i := 1086) (by decide +kernel)⟩
theorem lw_p39 : lw_okq (⟨"RiverDiggersModel", "isCell", "(I)Z"⟩, 47) := ⟨⟨by decide +kernel, by decide +kernel⟩, List.mem_of_getElem? (i := 856) (by decide +kernel), List.mem_of_getElem? (i := 1101) (by decide +kernel), List.mem_of_getElem? (i := 1102) (by decide +kernel)⟩
theorem lw_p40 : lw_okq (⟨"RiverDiggersModel", "isFarm", "(I)Z"⟩, 47) := ⟨⟨by decide +kernel, by decide +kernel⟩, List.mem_of_getElem? (i := 856) (by decide +kernel), List.mem_of_getElem? (i := 1109) (by decide +kernel), List.mem_of_getElem? (i := 1110) (by decide +kernel)⟩
theorem lw_p41 : lw_okq (⟨"RiverDiggersModel", "hasNow", "(I)I"⟩, 47) := ⟨⟨by decide +kernel, by decide +kernel⟩, List.mem_of_getElem? (i := 856) (by decide +kernel), List.mem_of_getElem? (i := 1117) (by decide +kernel), List.mem_of_getElem? (i := 1118) (by decide +kernel)⟩
theorem lw_p42 : lw_okq (⟨"RiverDiggersModel", "bedNow", "()I"⟩, 47) := ⟨⟨by decide +kernel, by decide +kernel⟩, List.mem_of_getElem? (i := 856) (by decide +kernel), List.mem_of_getElem? (i := 1121) (by decide +kernel), List.mem_of_getElem? (i := 1122) (by decide +kernel)⟩
theorem lw_p43 : lw_okq (⟨"RiverDiggersModel", "findBed", "()V"⟩, 47) := ⟨⟨by decide +kernel, by decide +kernel⟩, List.mem_of_getElem? (i := 856) (by decide +kernel), List.mem_of_getElem? (i := 1125) (by decide +kernel), List.mem_of_getElem? (i := 1126) (by decide +kernel)⟩
theorem lw_p44 : lw_okq (⟨"RiverDiggersModel", "lowestBeside", "(I)I"⟩, 47) := ⟨⟨by decide +kernel, by decide +kernel⟩, List.mem_of_getElem? (i := 856) (by decide +kernel), List.mem_of_getElem? (i := 1129) (by decide +kernel), List.mem_of_getElem? (i := 1130) (by decide +kernel)⟩
theorem lw_p45 : lw_okq (⟨"RiverDiggersModel", "beside", "(II)I"⟩, 47) := ⟨⟨by decide +kernel, by decide +kernel⟩, List.mem_of_getElem? (i := 856) (by decide +kernel), List.mem_of_getElem? (i := 1133) (by decide +kernel), List.mem_of_getElem? (i := 1134) (by decide +kernel)⟩
theorem lw_p46 : lw_okq (⟨"RiverDiggersModel", "mayCut", "(I)I"⟩, 47) := ⟨⟨by decide +kernel, by decide +kernel⟩, List.mem_of_getElem? (i := 856) (by decide +kernel), List.mem_of_getElem? (i := 1137) (by decide +kernel), List.mem_of_getElem? (i := 1138) (by decide +kernel)⟩
theorem lw_p47 : lw_okq (⟨"RiverDiggersModel", "isBeside", "(II)Z"⟩, 47) := ⟨⟨by decide +kernel, by decide +kernel⟩, List.mem_of_getElem? (i := 856) (by decide +kernel), List.mem_of_getElem? (i := 1141) (by decide +kernel), List.mem_of_getElem? (i := 1142) (by decide +kernel)⟩
def lw_privs_3 : List (MethodName × Nat) := [(⟨"RiverDiggersModel", "ruleLine", "()I"⟩, 47), (⟨"RiverDiggersModel", "readLineOf", "(I)V"⟩, 47), (⟨"RiverDiggersModel", "readNumber", "(II)I"⟩, 47), (⟨"RiverDiggersModel", "looked", "(II)I"⟩, 47), (⟨"RiverDiggersModel", "sawCell", "(I)V"⟩, 47), (⟨"RiverDiggersModel", "readRow", "()V"⟩, 47), (⟨"RiverDiggersModel", "readGround", "()V"⟩, 47), (⟨"RiverDiggersModel", "isCell", "(I)Z"⟩, 47), (⟨"RiverDiggersModel", "isFarm", "(I)Z"⟩, 47), (⟨"RiverDiggersModel", "hasNow", "(I)I"⟩, 47), (⟨"RiverDiggersModel", "bedNow", "()I"⟩, 47), (⟨"RiverDiggersModel", "findBed", "()V"⟩, 47), (⟨"RiverDiggersModel", "lowestBeside", "(I)I"⟩, 47), (⟨"RiverDiggersModel", "beside", "(II)I"⟩, 47), (⟨"RiverDiggersModel", "mayCut", "(I)I"⟩, 47), (⟨"RiverDiggersModel", "isBeside", "(II)Z"⟩, 47)]
theorem lw_r3 : ∀ q ∈ lw_privs_3, lw_okq q := List.forall_mem_cons.mpr ⟨lw_p32, List.forall_mem_cons.mpr ⟨lw_p33, List.forall_mem_cons.mpr ⟨lw_p34, List.forall_mem_cons.mpr ⟨lw_p35, List.forall_mem_cons.mpr ⟨lw_p36, List.forall_mem_cons.mpr ⟨lw_p37, List.forall_mem_cons.mpr ⟨lw_p38, List.forall_mem_cons.mpr ⟨lw_p39, List.forall_mem_cons.mpr ⟨lw_p40, List.forall_mem_cons.mpr ⟨lw_p41, List.forall_mem_cons.mpr ⟨lw_p42, List.forall_mem_cons.mpr ⟨lw_p43, List.forall_mem_cons.mpr ⟨lw_p44, List.forall_mem_cons.mpr ⟨lw_p45, List.forall_mem_cons.mpr ⟨lw_p46, List.forall_mem_cons.mpr ⟨lw_p47, fun _ h => absurd h List.not_mem_nil⟩⟩⟩⟩⟩⟩⟩⟩⟩⟩⟩⟩⟩⟩⟩⟩
theorem lw_p48 : lw_okq (⟨"RiverDiggersModel", "becomes", "(II)I"⟩, 47) := ⟨⟨by decide +kernel, by decide +kernel⟩, List.mem_of_getElem? (i := 856) (by decide +kernel), List.mem_of_getElem? (i := 1154) (by decide +kernel), List.mem_of_getElem? (i := 1155) (by decide +kernel)⟩
theorem lw_p49 : lw_okq (⟨"RiverDiggersModel", "canBe", "(I)Z"⟩, 47) := ⟨⟨by decide +kernel, by decide +kernel⟩, List.mem_of_getElem? (i := 856) (by decide +kernel), List.mem_of_getElem? (i := 1184) (by decide +kernel), List.mem_of_getElem? (i := 1185) (by decide +kernel)⟩
theorem lw_p50 : lw_okq (⟨"RiverDiggersModel", "firstWrong", "(I)I"⟩, 47) := ⟨⟨by decide +kernel, by decide +kernel⟩, List.mem_of_getElem? (i := 856) (by decide +kernel), List.mem_of_getElem? (i := 1188) (by decide +kernel), List.mem_of_getElem? (i := 1189) (by decide +kernel)⟩
theorem lw_p51 : lw_okq (⟨"RiverDiggersModel", "goes", "(I)V"⟩, 47) := ⟨⟨by decide +kernel, by decide +kernel⟩, List.mem_of_getElem? (i := 856) (by decide +kernel), List.mem_of_getElem? (i := 1195) (by decide +kernel), List.mem_of_getElem? (i := 1196) (by decide +kernel)⟩
theorem lw_p52 : lw_okq (⟨"RiverDiggersModel", "silts", "()V"⟩, 47) := ⟨⟨by decide +kernel, by decide +kernel⟩, List.mem_of_getElem? (i := 856) (by decide +kernel), List.mem_of_getElem? (i := 1199) (by decide +kernel), List.mem_of_getElem? (i := 1200) (by decide +kernel)⟩
theorem lw_p53 : lw_okq (⟨"RiverDiggersModel", "hasBy", "(II)I"⟩, 47) := ⟨⟨by decide +kernel, by decide +kernel⟩, List.mem_of_getElem? (i := 856) (by decide +kernel), List.mem_of_getElem? (i := 1207) (by decide +kernel), List.mem_of_getElem? (i := 1208) (by decide +kernel)⟩
theorem lw_p54 : lw_okq (⟨"RiverDiggersModel", "marks", "()V"⟩, 47) := ⟨⟨by decide +kernel, by decide +kernel⟩, List.mem_of_getElem? (i := 856) (by decide +kernel), List.mem_of_getElem? (i := 1211) (by decide +kernel), List.mem_of_getElem? (i := 1212) (by decide +kernel)⟩
theorem lw_p55 : lw_okq (⟨"RiverDiggersModel", "returns", "()V"⟩, 47) := ⟨⟨by decide +kernel, by decide +kernel⟩, List.mem_of_getElem? (i := 856) (by decide +kernel), List.mem_of_getElem? (i := 1215) (by decide +kernel), List.mem_of_getElem? (i := 1216) (by decide +kernel)⟩
theorem lw_p56 : lw_okq (⟨"RiverDiggersModel", "isBrought", "(III)Z"⟩, 47) := ⟨⟨by decide +kernel, by decide +kernel⟩, List.mem_of_getElem? (i := 856) (by decide +kernel), List.mem_of_getElem? (i := 1237) (by decide +kernel), List.mem_of_getElem? (i := 1238) (by decide +kernel)⟩
theorem lw_p57 : lw_okq (⟨"RiverDiggersModel", "enters", "(II)V"⟩, 47) := ⟨⟨by decide +kernel, by decide +kernel⟩, List.mem_of_getElem? (i := 856) (by decide +kernel), List.mem_of_getElem? (i := 1241) (by decide +kernel), List.mem_of_getElem? (i := 1242) (by decide +kernel)⟩
theorem lw_p58 : lw_okq (⟨"RiverDiggersModel", "leaves", "(I)V"⟩, 47) := ⟨⟨by decide +kernel, by decide +kernel⟩, List.mem_of_getElem? (i := 856) (by decide +kernel), List.mem_of_getElem? (i := 1245) (by decide +kernel), List.mem_of_getElem? (i := 1246) (by decide +kernel)⟩
theorem lw_p59 : lw_okq (⟨"RiverDiggersModel", "findOptions", "()V"⟩, 47) := ⟨⟨by decide +kernel, by decide +kernel⟩, List.mem_of_getElem? (i := 856) (by decide +kernel), List.mem_of_getElem? (i := 1256) (by decide +kernel), List.mem_of_getElem? (i := 1257) (by decide +kernel)⟩
theorem lw_p60 : lw_okq (⟨"RiverDiggersModel", "allOptions", "()I"⟩, 47) := ⟨⟨by decide +kernel, by decide +kernel⟩, List.mem_of_getElem? (i := 856) (by decide +kernel), List.mem_of_getElem? (i := 1260) (by decide +kernel), List.mem_of_getElem? (i := 1261) (by decide +kernel)⟩
theorem lw_p61 : lw_okq (⟨"RiverDiggersModel", "yearAt", "(I)I"⟩, 47) := ⟨⟨by decide +kernel, by decide +kernel⟩, List.mem_of_getElem? (i := 856) (by decide +kernel), List.mem_of_getElem? (i := 1264) (by decide +kernel), List.mem_of_getElem? (i := 1265) (by decide +kernel)⟩
theorem lw_p62 : lw_okq (⟨"RiverDiggersModel", "yearOf", "(III)I"⟩, 47) := ⟨⟨by decide +kernel, by decide +kernel⟩, List.mem_of_getElem? (i := 856) (by decide +kernel), List.mem_of_getElem? (i := 1268) (by decide +kernel), List.mem_of_getElem? (i := 1269) (by decide +kernel)⟩
theorem lw_p63 : lw_okq (⟨"RiverDiggersModel", "bedBy", "(I)I"⟩, 47) := ⟨⟨by decide +kernel, by decide +kernel⟩, List.mem_of_getElem? (i := 856) (by decide +kernel), List.mem_of_getElem? (i := 1272) (by decide +kernel), List.mem_of_getElem? (i := 1273) (by decide +kernel)⟩
def lw_privs_4 : List (MethodName × Nat) := [(⟨"RiverDiggersModel", "becomes", "(II)I"⟩, 47), (⟨"RiverDiggersModel", "canBe", "(I)Z"⟩, 47), (⟨"RiverDiggersModel", "firstWrong", "(I)I"⟩, 47), (⟨"RiverDiggersModel", "goes", "(I)V"⟩, 47), (⟨"RiverDiggersModel", "silts", "()V"⟩, 47), (⟨"RiverDiggersModel", "hasBy", "(II)I"⟩, 47), (⟨"RiverDiggersModel", "marks", "()V"⟩, 47), (⟨"RiverDiggersModel", "returns", "()V"⟩, 47), (⟨"RiverDiggersModel", "isBrought", "(III)Z"⟩, 47), (⟨"RiverDiggersModel", "enters", "(II)V"⟩, 47), (⟨"RiverDiggersModel", "leaves", "(I)V"⟩, 47), (⟨"RiverDiggersModel", "findOptions", "()V"⟩, 47), (⟨"RiverDiggersModel", "allOptions", "()I"⟩, 47), (⟨"RiverDiggersModel", "yearAt", "(I)I"⟩, 47), (⟨"RiverDiggersModel", "yearOf", "(III)I"⟩, 47), (⟨"RiverDiggersModel", "bedBy", "(I)I"⟩, 47)]
theorem lw_r4 : ∀ q ∈ lw_privs_4, lw_okq q := List.forall_mem_cons.mpr ⟨lw_p48, List.forall_mem_cons.mpr ⟨lw_p49, List.forall_mem_cons.mpr ⟨lw_p50, List.forall_mem_cons.mpr ⟨lw_p51, List.forall_mem_cons.mpr ⟨lw_p52, List.forall_mem_cons.mpr ⟨lw_p53, List.forall_mem_cons.mpr ⟨lw_p54, List.forall_mem_cons.mpr ⟨lw_p55, List.forall_mem_cons.mpr ⟨lw_p56, List.forall_mem_cons.mpr ⟨lw_p57, List.forall_mem_cons.mpr ⟨lw_p58, List.forall_mem_cons.mpr ⟨lw_p59, List.forall_mem_cons.mpr ⟨lw_p60, List.forall_mem_cons.mpr ⟨lw_p61, List.forall_mem_cons.mpr ⟨lw_p62, List.forall_mem_cons.mpr ⟨lw_p63, fun _ h => absurd h List.not_mem_nil⟩⟩⟩⟩⟩⟩⟩⟩⟩⟩⟩⟩⟩⟩⟩⟩
theorem lw_p64 : lw_okq (⟨"RiverDiggersModel", "selfishYear", "()I"⟩, 47) := ⟨⟨by decide +kernel, by decide +kernel⟩, List.mem_of_getElem? (i := 856) (by decide +kernel), List.mem_of_getElem? (i := 1283) (by decide +kernel), List.mem_of_getElem? (i := 1284) (by decide +kernel)⟩
theorem lw_p65 : lw_okq (⟨"RiverDiggersModel", "secondOf", "(I)I"⟩, 47) := ⟨⟨by decide +kernel, by decide +kernel⟩, List.mem_of_getElem? (i := 856) (by decide +kernel), List.mem_of_getElem? (i := 1287) (by decide +kernel), List.mem_of_getElem? (i := 1288) (by decide +kernel)⟩
theorem lw_p66 : lw_okq (⟨"RiverDiggersModel", "lastOf", "(II)I"⟩, 47) := ⟨⟨by decide +kernel, by decide +kernel⟩, List.mem_of_getElem? (i := 856) (by decide +kernel), List.mem_of_getElem? (i := 1291) (by decide +kernel), List.mem_of_getElem? (i := 1292) (by decide +kernel)⟩
theorem lw_p67 : lw_okq (⟨"RiverDiggersModel", "breaksOf", "(I)I"⟩, 47) := ⟨⟨by decide +kernel, by decide +kernel⟩, List.mem_of_getElem? (i := 856) (by decide +kernel), List.mem_of_getElem? (i := 1299) (by decide +kernel), List.mem_of_getElem? (i := 1300) (by decide +kernel)⟩
theorem lw_p68 : lw_okq (⟨"RiverDiggersModel", "areAlike", "(II)Z"⟩, 47) := ⟨⟨by decide +kernel, by decide +kernel⟩, List.mem_of_getElem? (i := 856) (by decide +kernel), List.mem_of_getElem? (i := 1315) (by decide +kernel), List.mem_of_getElem? (i := 1316) (by decide +kernel)⟩
theorem lw_p69 : lw_okq (⟨"RiverDiggersModel", "isSo", "(I)Z"⟩, 47) := ⟨⟨by decide +kernel, by decide +kernel⟩, List.mem_of_getElem? (i := 856) (by decide +kernel), List.mem_of_getElem? (i := 1339) (by decide +kernel), List.mem_of_getElem? (i := 1340) (by decide +kernel)⟩
theorem lw_p70 : lw_okq (⟨"RiverDiggersModel", "copies", "(II)V"⟩, 47) := ⟨⟨by decide +kernel, by decide +kernel⟩, List.mem_of_getElem? (i := 856) (by decide +kernel), List.mem_of_getElem? (i := 1350) (by decide +kernel), List.mem_of_getElem? (i := 1351) (by decide +kernel)⟩
def lw_privs_5 : List (MethodName × Nat) := [(⟨"RiverDiggersModel", "selfishYear", "()I"⟩, 47), (⟨"RiverDiggersModel", "secondOf", "(I)I"⟩, 47), (⟨"RiverDiggersModel", "lastOf", "(II)I"⟩, 47), (⟨"RiverDiggersModel", "breaksOf", "(I)I"⟩, 47), (⟨"RiverDiggersModel", "areAlike", "(II)Z"⟩, 47), (⟨"RiverDiggersModel", "isSo", "(I)Z"⟩, 47), (⟨"RiverDiggersModel", "copies", "(II)V"⟩, 47)]
theorem lw_r5 : ∀ q ∈ lw_privs_5, lw_okq q := List.forall_mem_cons.mpr ⟨lw_p64, List.forall_mem_cons.mpr ⟨lw_p65, List.forall_mem_cons.mpr ⟨lw_p66, List.forall_mem_cons.mpr ⟨lw_p67, List.forall_mem_cons.mpr ⟨lw_p68, List.forall_mem_cons.mpr ⟨lw_p69, List.forall_mem_cons.mpr ⟨lw_p70, fun _ h => absurd h List.not_mem_nil⟩⟩⟩⟩⟩⟩⟩
def lw_privs : List (MethodName × Nat) := lw_privs_1 ++ (lw_privs_2 ++ (lw_privs_3 ++ (lw_privs_4 ++ (lw_privs_5))))
def lw_tbl : List Cond := k2_sels lw_privs ++ tables_1
theorem lw_privs_ok : ∀ q ∈ lw_privs, lw_okq q := by
  show ∀ q ∈ lw_privs_1 ++ (lw_privs_2 ++ (lw_privs_3 ++ (lw_privs_4 ++ (lw_privs_5)))), lw_okq q
  exact List.forall_mem_append.mpr ⟨lw_r1, List.forall_mem_append.mpr ⟨lw_r2, List.forall_mem_append.mpr ⟨lw_r3, List.forall_mem_append.mpr ⟨lw_r4, lw_r5⟩⟩⟩⟩
end
section
def RX0 : String := "RiverDiggers$Digger"
def TX0 : u_T := fun k => match k with
  | 0 => ("RiverDiggers$Digger", "flow", "LRiverDiggers$Flow;", true)
  | 1 => ("RiverDiggers$Digger", "next", "LRiverDiggers$Digger;", true)
  | _ => ("RiverDiggers$Digger", "cut", "I", false)
def tyX0 : Nat → FieldType := fun k => match k with
  | 0 => .object "RiverDiggers$Flow"
  | 1 => .object "RiverDiggers$Digger"
  | _ => .int
abbrev wsX00 : List Cond := u_ws RX0 TX0 3
theorem nmX0 : ∀ a, a < 3 → ∀ b, b < 3 → a ≠ b → (TX0 a).2.1 ≠ (TX0 b).2.1 := by decide +kernel
theorem tyX0_ok : ∀ k, k < 3 → parseFieldDescriptor (TX0 k).2.2.1 = some (tyX0 k) := by decide +kernel
abbrev cX0_init : ByteArray := prog_2_method_1_code
def yX0_init : MethodName := ⟨RX0, "<init>", "(LRiverDiggers$Land;LRiverDiggers$Digger;)V"⟩
abbrev cX0_fewest : ByteArray := prog_2_method_2_code
def yX0_fewest : MethodName := ⟨RX0, "fewest", "(LRiverDiggers$Flow;II)I"⟩
abbrev cX0_brings : ByteArray := prog_2_method_3_code
def yX0_brings : MethodName := ⟨RX0, "brings", "(III)Z"⟩
abbrev cX0_cutOf : ByteArray := prog_2_method_4_code
def yX0_cutOf : MethodName := ⟨RX0, "cutOf", "(I)I"⟩
def RX1 : String := "RiverDiggers$Draft"
def TX1 : u_T := fun k => match k with
  | 0 => ("RiverDiggers$Draft", "yards", "[I", true)
  | 1 => ("RiverDiggers$Draft", "lengths", "[I", true)
  | 2 => ("RiverDiggers$Draft", "ground", "[I", true)
  | 3 => ("RiverDiggers$Draft", "worths", "[I", true)
  | 4 => ("RiverDiggers$Draft", "wide", "I", false)
  | 5 => ("RiverDiggers$Draft", "high", "I", false)
  | 6 => ("RiverDiggers$Draft", "spring", "I", false)
  | 7 => ("RiverDiggers$Draft", "law", "I", false)
  | 8 => ("RiverDiggers$Draft", "farms", "I", false)
  | _ => ("RiverDiggers$Draft", "came", "I", false)
def tyX1 : Nat → FieldType := fun k => match k with
  | 0 => .array .int
  | 1 => .array .int
  | 2 => .array .int
  | 3 => .array .int
  | 4 => .int
  | 5 => .int
  | 6 => .int
  | 7 => .int
  | 8 => .int
  | _ => .int
abbrev wsX10 : List Cond := u_ws RX1 TX1 10
theorem nmX1 : ∀ a, a < 10 → ∀ b, b < 10 → a ≠ b → (TX1 a).2.1 ≠ (TX1 b).2.1 := by decide +kernel
theorem tyX1_ok : ∀ k, k < 10 → parseFieldDescriptor (TX1 k).2.2.1 = some (tyX1 k) := by decide +kernel
abbrev cX1_init : ByteArray := prog_3_method_1_code
def yX1_init : MethodName := ⟨RX1, "<init>", "()V"⟩
abbrev cX1_clear : ByteArray := prog_3_method_2_code
def yX1_clear : MethodName := ⟨RX1, "clear", "()V"⟩
abbrev cX1_take : ByteArray := prog_3_method_3_code
def yX1_take : MethodName := ⟨RX1, "take", "(LRiverDiggers$Tape;)I"⟩
abbrev cX1_takeLine : ByteArray := prog_3_method_4_code
def yX1_takeLine : MethodName := ⟨RX1, "takeLine", "(LRiverDiggers$Tape;)V"⟩
abbrev cX1_comesOnce : ByteArray := prog_3_method_5_code
def yX1_comesOnce : MethodName := ⟨RX1, "comesOnce", "(LRiverDiggers$Tape;I)Z"⟩
abbrev cX1_takePlain : ByteArray := prog_3_method_6_code
def yX1_takePlain : MethodName := ⟨RX1, "takePlain", "(LRiverDiggers$Tape;)V"⟩
abbrev cX1_takeRow : ByteArray := prog_3_method_7_code
def yX1_takeRow : MethodName := ⟨RX1, "takeRow", "(LRiverDiggers$Tape;)V"⟩
abbrev cX1_takeSpring : ByteArray := prog_3_method_8_code
def yX1_takeSpring : MethodName := ⟨RX1, "takeSpring", "(LRiverDiggers$Tape;)V"⟩
abbrev cX1_takeFarm : ByteArray := prog_3_method_9_code
def yX1_takeFarm : MethodName := ⟨RX1, "takeFarm", "(LRiverDiggers$Tape;)V"⟩
abbrev cX1_takeGround : ByteArray := prog_3_method_10_code
def yX1_takeGround : MethodName := ⟨RX1, "takeGround", "(LRiverDiggers$Tape;)V"⟩
abbrev cX1_takeLaw : ByteArray := prog_3_method_11_code
def yX1_takeLaw : MethodName := ⟨RX1, "takeLaw", "(LRiverDiggers$Tape;)V"⟩
abbrev cX1_takeSilt : ByteArray := prog_3_method_12_code
def yX1_takeSilt : MethodName := ⟨RX1, "takeSilt", "(LRiverDiggers$Tape;)V"⟩
abbrev cX1_isWhole : ByteArray := prog_3_method_13_code
def yX1_isWhole : MethodName := ⟨RX1, "isWhole", "()Z"⟩
abbrev cX1_settle : ByteArray := prog_3_method_14_code
def yX1_settle : MethodName := ⟨RX1, "settle", "(LRiverDiggers$Land;LRiverDiggers$Times;)V"⟩
abbrev cX1_raise : ByteArray := prog_3_method_15_code
def yX1_raise : MethodName := ⟨RX1, "raise", "([I)V"⟩
def RX2 : String := "RiverDiggers$Flow"
def TX2 : u_T := fun k => match k with
  | 0 => ("RiverDiggers$Flow", "land", "LRiverDiggers$Land;", true)
  | 1 => ("RiverDiggers$Flow", "heights", "[I", true)
  | 2 => ("RiverDiggers$Flow", "way", "[I", true)
  | 3 => ("RiverDiggers$Flow", "length", "I", false)
  | 4 => ("RiverDiggers$Flow", "bits", "I", false)
  | 5 => ("RiverDiggers$Flow", "spring", "I", false)
  | 6 => ("RiverDiggers$Flow", "law", "I", false)
  | _ => ("RiverDiggers$Flow", "silted", "Z", false)
def tyX2 : Nat → FieldType := fun k => match k with
  | 0 => .object "RiverDiggers$Land"
  | 1 => .array .int
  | 2 => .array .int
  | 3 => .int
  | 4 => .int
  | 5 => .int
  | 6 => .int
  | _ => .boolean
abbrev wsX20 : List Cond := u_ws RX2 TX2 8
theorem nmX2 : ∀ a, a < 8 → ∀ b, b < 8 → a ≠ b → (TX2 a).2.1 ≠ (TX2 b).2.1 := by decide +kernel
theorem tyX2_ok : ∀ k, k < 8 → parseFieldDescriptor (TX2 k).2.2.1 = some (tyX2 k) := by decide +kernel
abbrev cX2_init : ByteArray := prog_4_method_1_code
def yX2_init : MethodName := ⟨RX2, "<init>", "(LRiverDiggers$Land;)V"⟩
abbrev cX2_copy : ByteArray := prog_4_method_2_code
def yX2_copy : MethodName := ⟨RX2, "copy", "(LRiverDiggers$Flow;)V"⟩
abbrev cX2_trace : ByteArray := prog_4_method_3_code
def yX2_trace : MethodName := ⟨RX2, "trace", "()V"⟩
abbrev cX2_lowestNextTo : ByteArray := prog_4_method_4_code
def yX2_lowestNextTo : MethodName := ⟨RX2, "lowestNextTo", "(I)I"⟩
abbrev cX2_cuttable : ByteArray := prog_4_method_5_code
def yX2_cuttable : MethodName := ⟨RX2, "cuttable", "(I)I"⟩
abbrev cX2_refused : ByteArray := prog_4_method_6_code
def yX2_refused : MethodName := ⟨RX2, "refused", "(I)I"⟩
abbrev cX2_possibleYears : ByteArray := prog_4_method_7_code
def yX2_possibleYears : MethodName := ⟨RX2, "possibleYears", "()I"⟩
abbrev cX2_allParts : ByteArray := prog_4_method_8_code
def yX2_allParts : MethodName := ⟨RX2, "allParts", "()I"⟩
abbrev cX2_pass : ByteArray := prog_4_method_9_code
def yX2_pass : MethodName := ⟨RX2, "pass", "(I)V"⟩
abbrev cX2_carrySilt : ByteArray := prog_4_method_10_code
def yX2_carrySilt : MethodName := ⟨RX2, "carrySilt", "()V"⟩
def RX3 : String := "RiverDiggers$Land"
def TX3 : u_T := fun k => match k with
  | 0 => ("RiverDiggers$Land", "ground", "[I", true)
  | 1 => ("RiverDiggers$Land", "near", "[I", true)
  | 2 => ("RiverDiggers$Land", "wide", "I", false)
  | 3 => ("RiverDiggers$Land", "high", "I", false)
  | _ => ("RiverDiggers$Land", "farms", "I", false)
def tyX3 : Nat → FieldType := fun k => match k with
  | 0 => .array .int
  | 1 => .array .int
  | 2 => .int
  | 3 => .int
  | _ => .int
abbrev wsX30 : List Cond := u_ws RX3 TX3 5
theorem nmX3 : ∀ a, a < 5 → ∀ b, b < 5 → a ≠ b → (TX3 a).2.1 ≠ (TX3 b).2.1 := by decide +kernel
theorem tyX3_ok : ∀ k, k < 5 → parseFieldDescriptor (TX3 k).2.2.1 = some (tyX3 k) := by decide +kernel
abbrev cX3_init : ByteArray := prog_5_method_1_code
def yX3_init : MethodName := ⟨RX3, "<init>", "()V"⟩
abbrev cX3_hasCell : ByteArray := prog_5_method_2_code
def yX3_hasCell : MethodName := ⟨RX3, "hasCell", "(I)Z"⟩
abbrev cX3_hasFarm : ByteArray := prog_5_method_3_code
def yX3_hasFarm : MethodName := ⟨RX3, "hasFarm", "(I)Z"⟩
abbrev cX3_ownerOf : ByteArray := prog_5_method_4_code
def yX3_ownerOf : MethodName := ⟨RX3, "ownerOf", "(I)I"⟩
abbrev cX3_join : ByteArray := prog_5_method_5_code
def yX3_join : MethodName := ⟨RX3, "join", "()V"⟩
abbrev cX3_beside : ByteArray := prog_5_method_6_code
def yX3_beside : MethodName := ⟨RX3, "beside", "(I)I"⟩
def RX4 : String := "RiverDiggers$Outlook"
def TX4 : u_T := fun k => match k with
  | 0 => ("RiverDiggers$Outlook", "options", "[I", true)
  | 1 => ("RiverDiggers$Outlook", "counts", "[I", true)
  | 2 => ("RiverDiggers$Outlook", "steps", "[I", true)
  | 3 => ("RiverDiggers$Outlook", "years", "[I", true)
  | 4 => ("RiverDiggers$Outlook", "beds", "[I", true)
  | 5 => ("RiverDiggers$Outlook", "size", "I", false)
  | _ => ("RiverDiggers$Outlook", "ready", "Z", false)
def tyX4 : Nat → FieldType := fun k => match k with
  | 0 => .array .int
  | 1 => .array .int
  | 2 => .array .int
  | 3 => .array .int
  | 4 => .array .int
  | 5 => .int
  | _ => .boolean
abbrev wsX40 : List Cond := u_ws RX4 TX4 7
theorem nmX4 : ∀ a, a < 7 → ∀ b, b < 7 → a ≠ b → (TX4 a).2.1 ≠ (TX4 b).2.1 := by decide +kernel
theorem tyX4_ok : ∀ k, k < 7 → parseFieldDescriptor (TX4 k).2.2.1 = some (tyX4 k) := by decide +kernel
abbrev cX4_init : ByteArray := prog_6_method_1_code
def yX4_init : MethodName := ⟨RX4, "<init>", "()V"⟩
abbrev cX4_build : ByteArray := prog_6_method_2_code
def yX4_build : MethodName := ⟨RX4, "build", "(LRiverDiggers$Flow;LRiverDiggers$Flow;)V"⟩
abbrev cX4_list : ByteArray := prog_6_method_3_code
def yX4_list : MethodName := ⟨RX4, "list", "(II)V"⟩
abbrev cX4_indexOf : ByteArray := prog_6_method_4_code
def yX4_indexOf : MethodName := ⟨RX4, "indexOf", "(I)I"⟩
abbrev cX4_breakers : ByteArray := prog_6_method_5_code
def yX4_breakers : MethodName := ⟨RX4, "breakers", "(LRiverDiggers$Times;I)I"⟩
abbrev cX4_placeOf : ByteArray := prog_6_method_6_code
def yX4_placeOf : MethodName := ⟨RX4, "placeOf", "(II)I"⟩
abbrev cX4_chosen : ByteArray := prog_6_method_7_code
def yX4_chosen : MethodName := ⟨RX4, "chosen", "(LRiverDiggers$Times;II)I"⟩
def RX5 : String := "RiverDiggers$Sheets"
def TX5 : u_T := fun k => match k with
  | 0 => ("RiverDiggers$Sheets", "lanes", "[I", true)
  | 1 => ("RiverDiggers$Sheets", "sizes", "[I", true)
  | _ => ("RiverDiggers$Sheets", "values", "[I", true)
def tyX5 : Nat → FieldType := fun k => match k with
  | 0 => .array .int
  | 1 => .array .int
  | _ => .array .int
abbrev wsX50 : List Cond := u_ws RX5 TX5 3
theorem nmX5 : ∀ a, a < 3 → ∀ b, b < 3 → a ≠ b → (TX5 a).2.1 ≠ (TX5 b).2.1 := by decide +kernel
theorem tyX5_ok : ∀ k, k < 3 → parseFieldDescriptor (TX5 k).2.2.1 = some (tyX5 k) := by decide +kernel
abbrev cX5_init : ByteArray := prog_7_method_1_code
def yX5_init : MethodName := ⟨RX5, "<init>", "()V"⟩
abbrev cX5_hasSheet : ByteArray := prog_7_method_2_code
def yX5_hasSheet : MethodName := ⟨RX5, "hasSheet", "(I)Z"⟩
abbrev cX5_hasLane : ByteArray := prog_7_method_3_code
def yX5_hasLane : MethodName := ⟨RX5, "hasLane", "(I)Z"⟩
abbrev cX5_renew : ByteArray := prog_7_method_4_code
def yX5_renew : MethodName := ⟨RX5, "renew", "(III)V"⟩
abbrev cX5_takeFault : ByteArray := prog_7_method_5_code
def yX5_takeFault : MethodName := ⟨RX5, "takeFault", "(III)I"⟩
abbrev cX5_reachFault : ByteArray := prog_7_method_6_code
def yX5_reachFault : MethodName := ⟨RX5, "reachFault", "(II)I"⟩
abbrev cX5_valueAt : ByteArray := prog_7_method_7_code
def yX5_valueAt : MethodName := ⟨RX5, "valueAt", "(II)I"⟩
abbrev cX5_put : ByteArray := prog_7_method_8_code
def yX5_put : MethodName := ⟨RX5, "put", "(III)V"⟩
def RX6 : String := "RiverDiggers$Tape"
def TX6 : u_T := fun k => match k with
  | 0 => ("RiverDiggers$Tape", "bytes", "[B", true)
  | 1 => ("RiverDiggers$Tape", "length", "I", false)
  | 2 => ("RiverDiggers$Tape", "at", "I", false)
  | 3 => ("RiverDiggers$Tape", "kind", "I", false)
  | 4 => ("RiverDiggers$Tape", "start", "I", false)
  | 5 => ("RiverDiggers$Tape", "value", "I", false)
  | 6 => ("RiverDiggers$Tape", "flaw", "I", false)
  | _ => ("RiverDiggers$Tape", "place", "I", false)
def tyX6 : Nat → FieldType := fun k => match k with
  | 0 => .array .byte
  | 1 => .int
  | 2 => .int
  | 3 => .int
  | 4 => .int
  | 5 => .int
  | 6 => .int
  | _ => .int
abbrev wsX60 : List Cond := u_ws RX6 TX6 8
theorem nmX6 : ∀ a, a < 8 → ∀ b, b < 8 → a ≠ b → (TX6 a).2.1 ≠ (TX6 b).2.1 := by decide +kernel
theorem tyX6_ok : ∀ k, k < 8 → parseFieldDescriptor (TX6 k).2.2.1 = some (tyX6 k) := by decide +kernel
abbrev cX6_init : ByteArray := prog_8_method_1_code
def yX6_init : MethodName := ⟨RX6, "<init>", "()V"⟩
abbrev cX6_append : ByteArray := prog_8_method_2_code
def yX6_append : MethodName := ⟨RX6, "append", "(J)Z"⟩
abbrev cX6_rewind : ByteArray := prog_8_method_3_code
def yX6_rewind : MethodName := ⟨RX6, "rewind", "()V"⟩
abbrev cX6_fail : ByteArray := prog_8_method_4_code
def yX6_fail : MethodName := ⟨RX6, "fail", "(I)V"⟩
abbrev cX6_failBehindAll : ByteArray := prog_8_method_5_code
def yX6_failBehindAll : MethodName := ⟨RX6, "failBehindAll", "(I)V"⟩
abbrev cX6_next : ByteArray := prog_8_method_6_code
def yX6_next : MethodName := ⟨RX6, "next", "()V"⟩
abbrev cX6_isLetter : ByteArray := prog_8_method_7_code
def yX6_isLetter : MethodName := ⟨RX6, "isLetter", "(B)Z"⟩
abbrev cX6_isFigure : ByteArray := prog_8_method_8_code
def yX6_isFigure : MethodName := ⟨RX6, "isFigure", "(B)Z"⟩
abbrev cX6_says : ByteArray := prog_8_method_9_code
def yX6_says : MethodName := ⟨RX6, "says", "(Ljava/lang/String;)Z"⟩
abbrev cX6_isNumber : ByteArray := prog_8_method_10_code
def yX6_isNumber : MethodName := ⟨RX6, "isNumber", "(II)Z"⟩
abbrev cX6_nextNumber : ByteArray := prog_8_method_11_code
def yX6_nextNumber : MethodName := ⟨RX6, "nextNumber", "(II)Z"⟩
abbrev cX6_nextStop : ByteArray := prog_8_method_12_code
def yX6_nextStop : MethodName := ⟨RX6, "nextStop", "()V"⟩
def RX7 : String := "RiverDiggers$Times"
def TX7 : u_T := fun k => match k with
  | 0 => ("RiverDiggers$Times", "flow", "LRiverDiggers$Flow;", true)
  | 1 => ("RiverDiggers$Times", "worths", "[I", true)
  | 2 => ("RiverDiggers$Times", "told", "[I", true)
  | 3 => ("RiverDiggers$Times", "seen", "[I", true)
  | 4 => ("RiverDiggers$Times", "years", "I", false)
  | 5 => ("RiverDiggers$Times", "tolds", "I", false)
  | _ => ("RiverDiggers$Times", "seens", "I", false)
def tyX7 : Nat → FieldType := fun k => match k with
  | 0 => .object "RiverDiggers$Flow"
  | 1 => .array .int
  | 2 => .array .int
  | 3 => .array .int
  | 4 => .int
  | 5 => .int
  | _ => .int
abbrev wsX70 : List Cond := u_ws RX7 TX7 7
theorem nmX7 : ∀ a, a < 7 → ∀ b, b < 7 → a ≠ b → (TX7 a).2.1 ≠ (TX7 b).2.1 := by decide +kernel
theorem tyX7_ok : ∀ k, k < 7 → parseFieldDescriptor (TX7 k).2.2.1 = some (tyX7 k) := by decide +kernel
abbrev cX7_init : ByteArray := prog_9_method_1_code
def yX7_init : MethodName := ⟨RX7, "<init>", "(LRiverDiggers$Land;)V"⟩
abbrev cX7_copy : ByteArray := prog_9_method_2_code
def yX7_copy : MethodName := ⟨RX7, "copy", "(LRiverDiggers$Times;)V"⟩
abbrev cX7_gain : ByteArray := prog_9_method_3_code
def yX7_gain : MethodName := ⟨RX7, "gain", "(II)I"⟩
abbrev cX7_agrees : ByteArray := prog_9_method_4_code
def yX7_agrees : MethodName := ⟨RX7, "agrees", "(I)Z"⟩
def RX8 : String := "RiverDiggers"
def TX8 : u_T := fun k => match k with
  | 0 => ("RiverDiggers", "land", "LRiverDiggers$Land;", true)
  | 1 => ("RiverDiggers", "now", "LRiverDiggers$Times;", true)
  | 2 => ("RiverDiggers", "image0", "LRiverDiggers$Times;", true)
  | 3 => ("RiverDiggers", "image1", "LRiverDiggers$Times;", true)
  | 4 => ("RiverDiggers", "trial", "LRiverDiggers$Flow;", true)
  | 5 => ("RiverDiggers", "outlook", "LRiverDiggers$Outlook;", true)
  | 6 => ("RiverDiggers", "digger", "LRiverDiggers$Digger;", true)
  | 7 => ("RiverDiggers", "tape", "LRiverDiggers$Tape;", true)
  | 8 => ("RiverDiggers", "draft", "LRiverDiggers$Draft;", true)
  | 9 => ("RiverDiggers", "sheets", "LRiverDiggers$Sheets;", true)
  | 10 => ("RiverDiggers", "history", "[I", true)
  | 11 => ("RiverDiggers", "kept", "I", false)
  | 12 => ("RiverDiggers", "textFault", "I", false)
  | _ => ("RiverDiggers", "readFault", "I", false)
def tyX8 : Nat → FieldType := fun k => match k with
  | 0 => .object "RiverDiggers$Land"
  | 1 => .object "RiverDiggers$Times"
  | 2 => .object "RiverDiggers$Times"
  | 3 => .object "RiverDiggers$Times"
  | 4 => .object "RiverDiggers$Flow"
  | 5 => .object "RiverDiggers$Outlook"
  | 6 => .object "RiverDiggers$Digger"
  | 7 => .object "RiverDiggers$Tape"
  | 8 => .object "RiverDiggers$Draft"
  | 9 => .object "RiverDiggers$Sheets"
  | 10 => .array .int
  | 11 => .int
  | 12 => .int
  | _ => .int
abbrev wsX80 : List Cond := u_ws RX8 TX8 14
theorem nmX8 : ∀ a, a < 14 → ∀ b, b < 14 → a ≠ b → (TX8 a).2.1 ≠ (TX8 b).2.1 := by decide +kernel
theorem tyX8_ok : ∀ k, k < 14 → parseFieldDescriptor (TX8 k).2.2.1 = some (tyX8 k) := by decide +kernel
abbrev cX8_init : ByteArray := prog_1_method_1_code
def yX8_init : MethodName := ⟨RX8, "<init>", "()V"⟩
abbrev cX8_feed : ByteArray := prog_1_method_2_code
def yX8_feed : MethodName := ⟨RX8, "feed", "(J)I"⟩
abbrev cX8_end : ByteArray := prog_1_method_3_code
def yX8_end : MethodName := ⟨RX8, "end", "(I)I"⟩
abbrev cX8_text : ByteArray := prog_1_method_4_code
def yX8_text : MethodName := ⟨RX8, "text", "()I"⟩
abbrev cX8_fault : ByteArray := prog_1_method_5_code
def yX8_fault : MethodName := ⟨RX8, "fault", "()I"⟩
abbrev cX8_rule : ByteArray := prog_1_method_6_code
def yX8_rule : MethodName := ⟨RX8, "rule", "(I)I"⟩
abbrev cX8_cell : ByteArray := prog_1_method_7_code
def yX8_cell : MethodName := ⟨RX8, "cell", "(II)I"⟩
abbrev cX8_farm : ByteArray := prog_1_method_8_code
def yX8_farm : MethodName := ⟨RX8, "farm", "(II)I"⟩
abbrev cX8_bed : ByteArray := prog_1_method_9_code
def yX8_bed : MethodName := ⟨RX8, "bed", "(I)I"⟩
abbrev cX8_dam : ByteArray := prog_1_method_10_code
def yX8_dam : MethodName := ⟨RX8, "dam", "(II)I"⟩
abbrev cX8_move : ByteArray := prog_1_method_11_code
def yX8_move : MethodName := ⟨RX8, "move", "(I)I"⟩
abbrev cX8_law : ByteArray := prog_1_method_12_code
def yX8_law : MethodName := ⟨RX8, "law", "(I)I"⟩
abbrev cX8_silt : ByteArray := prog_1_method_13_code
def yX8_silt : MethodName := ⟨RX8, "silt", "(Z)I"⟩
abbrev cX8_price : ByteArray := prog_1_method_14_code
def yX8_price : MethodName := ⟨RX8, "price", "(II)I"⟩
abbrev cX8_retrace : ByteArray := prog_1_method_15_code
def yX8_retrace : MethodName := ⟨RX8, "retrace", "()V"⟩
abbrev cX8_year : ByteArray := prog_1_method_16_code
def yX8_year : MethodName := ⟨RX8, "year", "(I)I"⟩
abbrev cX8_would : ByteArray := prog_1_method_17_code
def yX8_would : MethodName := ⟨RX8, "would", "(II)I"⟩
abbrev cX8_tell : ByteArray := prog_1_method_18_code
def yX8_tell : MethodName := ⟨RX8, "tell", "(I)I"⟩
abbrev cX8_drop : ByteArray := prog_1_method_19_code
def yX8_drop : MethodName := ⟨RX8, "drop", "(I)I"⟩
abbrev cX8_judge : ByteArray := prog_1_method_20_code
def yX8_judge : MethodName := ⟨RX8, "judge", "(I)I"⟩
abbrev cX8_refusal : ByteArray := prog_1_method_21_code
def yX8_refusal : MethodName := ⟨RX8, "refusal", "(LRiverDiggers$Flow;II)I"⟩
abbrev cX8_isNumber : ByteArray := prog_1_method_22_code
def yX8_isNumber : MethodName := ⟨RX8, "isNumber", "(I)Z"⟩
abbrev cX8_option : ByteArray := prog_1_method_23_code
def yX8_option : MethodName := ⟨RX8, "option", "(II)I"⟩
abbrev cX8_numberOf : ByteArray := prog_1_method_24_code
def yX8_numberOf : MethodName := ⟨RX8, "numberOf", "(II)I"⟩
abbrev cX8_has : ByteArray := prog_1_method_25_code
def yX8_has : MethodName := ⟨RX8, "has", "(II)Z"⟩
abbrev cX8_alone : ByteArray := prog_1_method_26_code
def yX8_alone : MethodName := ⟨RX8, "alone", "(III)I"⟩
abbrev cX8_together : ByteArray := prog_1_method_27_code
def yX8_together : MethodName := ⟨RX8, "together", "(II)I"⟩
abbrev cX8_lookAhead : ByteArray := prog_1_method_28_code
def yX8_lookAhead : MethodName := ⟨RX8, "lookAhead", "()V"⟩
abbrev cX8_cutters : ByteArray := prog_1_method_29_code
def yX8_cutters : MethodName := ⟨RX8, "cutters", "(I)I"⟩
abbrev cX8_selfish : ByteArray := prog_1_method_30_code
def yX8_selfish : MethodName := ⟨RX8, "selfish", "(I)I"⟩
abbrev cX8_rests : ByteArray := prog_1_method_31_code
def yX8_rests : MethodName := ⟨RX8, "rests", "(I)I"⟩
abbrev cX8_breaks : ByteArray := prog_1_method_32_code
def yX8_breaks : MethodName := ⟨RX8, "breaks", "(I)I"⟩
abbrev cX8_stands : ByteArray := prog_1_method_33_code
def yX8_stands : MethodName := ⟨RX8, "stands", "(I)I"⟩
abbrev cX8_again : ByteArray := prog_1_method_34_code
def yX8_again : MethodName := ⟨RX8, "again", "(I)I"⟩
abbrev cX8_note : ByteArray := prog_1_method_35_code
def yX8_note : MethodName := ⟨RX8, "note", "(I)V"⟩
abbrev cX8_firstAlike : ByteArray := prog_1_method_36_code
def yX8_firstAlike : MethodName := ⟨RX8, "firstAlike", "(I)I"⟩
abbrev cX8_isAlike : ByteArray := prog_1_method_37_code
def yX8_isAlike : MethodName := ⟨RX8, "isAlike", "(I)Z"⟩
abbrev cX8_odds : ByteArray := prog_1_method_38_code
def yX8_odds : MethodName := ⟨RX8, "odds", "(II)J"⟩
abbrev cX8_commonDivisor : ByteArray := prog_1_method_39_code
def yX8_commonDivisor : MethodName := ⟨RX8, "commonDivisor", "(II)I"⟩
abbrev cX8_see : ByteArray := prog_1_method_40_code
def yX8_see : MethodName := ⟨RX8, "see", "(IZ)I"⟩
abbrev cX8_forget : ByteArray := prog_1_method_41_code
def yX8_forget : MethodName := ⟨RX8, "forget", "(I)I"⟩
abbrev cX8_fits : ByteArray := prog_1_method_42_code
def yX8_fits : MethodName := ⟨RX8, "fits", "(I)I"⟩
abbrev cX8_keep : ByteArray := prog_1_method_43_code
def yX8_keep : MethodName := ⟨RX8, "keep", "(I)I"⟩
abbrev cX8_back : ByteArray := prog_1_method_44_code
def yX8_back : MethodName := ⟨RX8, "back", "(I)I"⟩
abbrev cX8_imageOf : ByteArray := prog_1_method_45_code
def yX8_imageOf : MethodName := ⟨RX8, "imageOf", "(I)LRiverDiggers$Times;"⟩
abbrev cX8_sheet : ByteArray := prog_1_method_46_code
def yX8_sheet : MethodName := ⟨RX8, "sheet", "(III)I"⟩
abbrev cX8_lay : ByteArray := prog_1_method_47_code
def yX8_lay : MethodName := ⟨RX8, "lay", "(III)I"⟩
abbrev cX8_read : ByteArray := prog_1_method_48_code
def yX8_read : MethodName := ⟨RX8, "read", "(IIII)I"⟩
abbrev cX8_torn : ByteArray := prog_1_method_49_code
def yX8_torn : MethodName := ⟨RX8, "torn", "()I"⟩
abbrev cX8_count : ByteArray := prog_1_method_50_code
def yX8_count : MethodName := ⟨RX8, "count", "(I)I"⟩
def RX9 : String := "RiverDiggersModel"
def TX9 : u_T := fun k => match k with
  | 0 => ("RiverDiggersModel", "st", "[I", true)
  | 1 => ("RiverDiggersModel", "isKept", "[Z", true)
  | 2 => ("RiverDiggersModel", "wide", "I", false)
  | 3 => ("RiverDiggersModel", "high", "I", false)
  | 4 => ("RiverDiggersModel", "farms", "I", false)
  | 5 => ("RiverDiggersModel", "owner", "[I", true)
  | 6 => ("RiverDiggersModel", "dWide", "I", false)
  | 7 => ("RiverDiggersModel", "dHigh", "I", false)
  | 8 => ("RiverDiggersModel", "dSpring", "I", false)
  | 9 => ("RiverDiggersModel", "dFarms", "I", false)
  | 10 => ("RiverDiggersModel", "dLaw", "I", false)
  | 11 => ("RiverDiggersModel", "dSilt", "I", false)
  | 12 => ("RiverDiggersModel", "dYards", "[I", true)
  | 13 => ("RiverDiggersModel", "dWorth", "[I", true)
  | 14 => ("RiverDiggersModel", "dOwner", "[I", true)
  | 15 => ("RiverDiggersModel", "dGrounds", "[I", true)
  | 16 => ("RiverDiggersModel", "toldLines", "I", false)
  | 17 => ("RiverDiggersModel", "toldRows", "I", false)
  | 18 => ("RiverDiggersModel", "highestRow", "I", false)
  | 19 => ("RiverDiggersModel", "highestColumn", "I", false)
  | 20 => ("RiverDiggersModel", "highestCell", "I", false)
  | 21 => ("RiverDiggersModel", "highestFarm", "I", false)
  | 22 => ("RiverDiggersModel", "tape", "[I", true)
  | 23 => ("RiverDiggersModel", "taped", "I", false)
  | 24 => ("RiverDiggersModel", "pos", "I", false)
  | 25 => ("RiverDiggersModel", "from", "I", false)
  | 26 => ("RiverDiggersModel", "sort", "I", false)
  | 27 => ("RiverDiggersModel", "value", "I", false)
  | 28 => ("RiverDiggersModel", "fault", "I", false)
  | 29 => ("RiverDiggersModel", "wrongAt", "I", false)
  | 30 => ("RiverDiggersModel", "bed", "[I", true)
  | 31 => ("RiverDiggersModel", "bedMany", "I", false)
  | 32 => ("RiverDiggersModel", "bedBits", "I", false)
  | 33 => ("RiverDiggersModel", "wasHigh", "[I", true)
  | 34 => ("RiverDiggersModel", "firstHigh", "[I", true)
  | 35 => ("RiverDiggersModel", "options", "[I", true)
  | 36 => ("RiverDiggersModel", "optionMany", "[I", true)
  | 37 => ("RiverDiggersModel", "highs", "[I", true)
  | 38 => ("RiverDiggersModel", "picks", "[I", true)
  | 39 => ("RiverDiggersModel", "ownOptions", "[I", true)
  | 40 => ("RiverDiggersModel", "ownMany", "[I", true)
  | 41 => ("RiverDiggersModel", "rows", "[I", true)
  | 42 => ("RiverDiggersModel", "lanes", "[I", true)
  | 43 => ("RiverDiggersModel", "sizes", "[I", true)
  | 44 => ("RiverDiggersModel", "cells", "[I", true)
  | 45 => ("RiverDiggersModel", "torn", "I", false)
  | _ => ("RiverDiggersModel", "readHigh", "[I", true)
def tyX9 : Nat → FieldType := fun k => match k with
  | 0 => .array .int
  | 1 => .array .boolean
  | 2 => .int
  | 3 => .int
  | 4 => .int
  | 5 => .array .int
  | 6 => .int
  | 7 => .int
  | 8 => .int
  | 9 => .int
  | 10 => .int
  | 11 => .int
  | 12 => .array .int
  | 13 => .array .int
  | 14 => .array .int
  | 15 => .array .int
  | 16 => .int
  | 17 => .int
  | 18 => .int
  | 19 => .int
  | 20 => .int
  | 21 => .int
  | 22 => .array .int
  | 23 => .int
  | 24 => .int
  | 25 => .int
  | 26 => .int
  | 27 => .int
  | 28 => .int
  | 29 => .int
  | 30 => .array .int
  | 31 => .int
  | 32 => .int
  | 33 => .array .int
  | 34 => .array .int
  | 35 => .array .int
  | 36 => .array .int
  | 37 => .array .int
  | 38 => .array .int
  | 39 => .array .int
  | 40 => .array .int
  | 41 => .array .int
  | 42 => .array .int
  | 43 => .array .int
  | 44 => .array .int
  | 45 => .int
  | _ => .array .int
abbrev wsX90 : List Cond := u_ws RX9 TX9 47
theorem nmX9 : ∀ a, a < 47 → ∀ b, b < 47 → a ≠ b → (TX9 a).2.1 ≠ (TX9 b).2.1 := by decide +kernel
theorem tyX9_ok : ∀ k, k < 47 → parseFieldDescriptor (TX9 k).2.2.1 = some (tyX9 k) := by decide +kernel
abbrev cX9_init : ByteArray := prog_11_method_1_code
def yX9_init : MethodName := ⟨RX9, "<init>", "()V"⟩
abbrev cX9_in : ByteArray := prog_11_method_3_code
def yX9_in : MethodName := ⟨RX9, "in", "(JJJ)Z"⟩
abbrev cX9_flag : ByteArray := prog_11_method_4_code
def yX9_flag : MethodName := ⟨RX9, "flag", "(Z)I"⟩
abbrev cX9_firstDraft : ByteArray := prog_11_method_5_code
def yX9_firstDraft : MethodName := ⟨RX9, "firstDraft", "()V"⟩
abbrev cX9_keepDraft : ByteArray := prog_11_method_6_code
def yX9_keepDraft : MethodName := ⟨RX9, "keepDraft", "()V"⟩
abbrev cX9_feed : ByteArray := prog_11_method_7_code
def yX9_feed : MethodName := ⟨RX9, "feed", "(J)I"⟩
abbrev cX9_end : ByteArray := prog_11_method_8_code
def yX9_end : MethodName := ⟨RX9, "end", "(I)I"⟩
abbrev cX9_needs : ByteArray := prog_11_method_9_code
def yX9_needs : MethodName := ⟨RX9, "needs", "(ZI)V"⟩
abbrev cX9_look : ByteArray := prog_11_method_10_code
def yX9_look : MethodName := ⟨RX9, "look", "(I)I"⟩
abbrev cX9_is : ByteArray := prog_11_method_11_code
def yX9_is : MethodName := ⟨RX9, "is", "(IIII)Z"⟩
abbrev cX9_ends : ByteArray := prog_11_method_12_code
def yX9_ends : MethodName := ⟨RX9, "ends", "(III)Z"⟩
abbrev cX9_ruleLine : ByteArray := prog_11_method_13_code
def yX9_ruleLine : MethodName := ⟨RX9, "ruleLine", "()I"⟩
abbrev cX9_lineNow : ByteArray := prog_11_method_14_code
def yX9_lineNow : MethodName := ⟨RX9, "lineNow", "()I"⟩
abbrev cX9_next : ByteArray := prog_11_method_15_code
def yX9_next : MethodName := ⟨RX9, "next", "()V"⟩
abbrev cX9_looked : ByteArray := prog_11_method_16_code
def yX9_looked : MethodName := ⟨RX9, "looked", "(II)I"⟩
abbrev cX9_readNumber : ByteArray := prog_11_method_17_code
def yX9_readNumber : MethodName := ⟨RX9, "readNumber", "(II)I"⟩
abbrev cX9_readRow : ByteArray := prog_11_method_18_code
def yX9_readRow : MethodName := ⟨RX9, "readRow", "()V"⟩
abbrev cX9_sawCell : ByteArray := prog_11_method_19_code
def yX9_sawCell : MethodName := ⟨RX9, "sawCell", "(I)V"⟩
abbrev cX9_readGround : ByteArray := prog_11_method_20_code
def yX9_readGround : MethodName := ⟨RX9, "readGround", "()V"⟩
abbrev cX9_readLineOf : ByteArray := prog_11_method_21_code
def yX9_readLineOf : MethodName := ⟨RX9, "readLineOf", "(I)V"⟩
abbrev cX9_readLine : ByteArray := prog_11_method_22_code
def yX9_readLine : MethodName := ⟨RX9, "readLine", "()V"⟩
abbrev cX9_text : ByteArray := prog_11_method_23_code
def yX9_text : MethodName := ⟨RX9, "text", "()I"⟩
abbrev cX9_fault : ByteArray := prog_11_method_24_code
def yX9_fault : MethodName := ⟨RX9, "fault", "()I"⟩
abbrev cX9_isCell : ByteArray := prog_11_method_25_code
def yX9_isCell : MethodName := ⟨RX9, "isCell", "(I)Z"⟩
abbrev cX9_isFarm : ByteArray := prog_11_method_26_code
def yX9_isFarm : MethodName := ⟨RX9, "isFarm", "(I)Z"⟩
abbrev cX9_isYear : ByteArray := prog_11_method_27_code
def yX9_isYear : MethodName := ⟨RX9, "isYear", "(I)Z"⟩
abbrev cX9_beside : ByteArray := prog_11_method_28_code
def yX9_beside : MethodName := ⟨RX9, "beside", "(II)I"⟩
abbrev cX9_lowestBeside : ByteArray := prog_11_method_29_code
def yX9_lowestBeside : MethodName := ⟨RX9, "lowestBeside", "(I)I"⟩
abbrev cX9_findBed : ByteArray := prog_11_method_30_code
def yX9_findBed : MethodName := ⟨RX9, "findBed", "()V"⟩
abbrev cX9_bedNow : ByteArray := prog_11_method_31_code
def yX9_bedNow : MethodName := ⟨RX9, "bedNow", "()I"⟩
abbrev cX9_hasNow : ByteArray := prog_11_method_32_code
def yX9_hasNow : MethodName := ⟨RX9, "hasNow", "(I)I"⟩
abbrev cX9_isBeside : ByteArray := prog_11_method_33_code
def yX9_isBeside : MethodName := ⟨RX9, "isBeside", "(II)Z"⟩
abbrev cX9_mayCut : ByteArray := prog_11_method_34_code
def yX9_mayCut : MethodName := ⟨RX9, "mayCut", "(I)I"⟩
abbrev cX9_rule : ByteArray := prog_11_method_35_code
def yX9_rule : MethodName := ⟨RX9, "rule", "(I)I"⟩
abbrev cX9_cell : ByteArray := prog_11_method_36_code
def yX9_cell : MethodName := ⟨RX9, "cell", "(II)I"⟩
abbrev cX9_farm : ByteArray := prog_11_method_37_code
def yX9_farm : MethodName := ⟨RX9, "farm", "(II)I"⟩
abbrev cX9_bed : ByteArray := prog_11_method_38_code
def yX9_bed : MethodName := ⟨RX9, "bed", "(I)I"⟩
abbrev cX9_becomes : ByteArray := prog_11_method_39_code
def yX9_becomes : MethodName := ⟨RX9, "becomes", "(II)I"⟩
abbrev cX9_dam : ByteArray := prog_11_method_40_code
def yX9_dam : MethodName := ⟨RX9, "dam", "(II)I"⟩
abbrev cX9_move : ByteArray := prog_11_method_41_code
def yX9_move : MethodName := ⟨RX9, "move", "(I)I"⟩
abbrev cX9_law : ByteArray := prog_11_method_42_code
def yX9_law : MethodName := ⟨RX9, "law", "(I)I"⟩
abbrev cX9_silt : ByteArray := prog_11_method_43_code
def yX9_silt : MethodName := ⟨RX9, "silt", "(Z)I"⟩
abbrev cX9_price : ByteArray := prog_11_method_44_code
def yX9_price : MethodName := ⟨RX9, "price", "(II)I"⟩
abbrev cX9_marks : ByteArray := prog_11_method_45_code
def yX9_marks : MethodName := ⟨RX9, "marks", "()V"⟩
abbrev cX9_returns : ByteArray := prog_11_method_46_code
def yX9_returns : MethodName := ⟨RX9, "returns", "()V"⟩
abbrev cX9_cutOf : ByteArray := prog_11_method_47_code
def yX9_cutOf : MethodName := ⟨RX9, "cutOf", "(II)I"⟩
abbrev cX9_timesOf : ByteArray := prog_11_method_48_code
def yX9_timesOf : MethodName := ⟨RX9, "timesOf", "(I)I"⟩
abbrev cX9_firstWrong : ByteArray := prog_11_method_49_code
def yX9_firstWrong : MethodName := ⟨RX9, "firstWrong", "(I)I"⟩
abbrev cX9_canBe : ByteArray := prog_11_method_50_code
def yX9_canBe : MethodName := ⟨RX9, "canBe", "(I)Z"⟩
abbrev cX9_silts : ByteArray := prog_11_method_51_code
def yX9_silts : MethodName := ⟨RX9, "silts", "()V"⟩
abbrev cX9_goes : ByteArray := prog_11_method_52_code
def yX9_goes : MethodName := ⟨RX9, "goes", "(I)V"⟩
abbrev cX9_year : ByteArray := prog_11_method_53_code
def yX9_year : MethodName := ⟨RX9, "year", "(I)I"⟩
abbrev cX9_hasBy : ByteArray := prog_11_method_54_code
def yX9_hasBy : MethodName := ⟨RX9, "hasBy", "(II)I"⟩
abbrev cX9_bedBy : ByteArray := prog_11_method_55_code
def yX9_bedBy : MethodName := ⟨RX9, "bedBy", "(I)I"⟩
abbrev cX9_would : ByteArray := prog_11_method_56_code
def yX9_would : MethodName := ⟨RX9, "would", "(II)I"⟩
abbrev cX9_tell : ByteArray := prog_11_method_57_code
def yX9_tell : MethodName := ⟨RX9, "tell", "(I)I"⟩
abbrev cX9_drop : ByteArray := prog_11_method_58_code
def yX9_drop : MethodName := ⟨RX9, "drop", "(I)I"⟩
abbrev cX9_judge : ByteArray := prog_11_method_59_code
def yX9_judge : MethodName := ⟨RX9, "judge", "(I)I"⟩
abbrev cX9_findOptions : ByteArray := prog_11_method_60_code
def yX9_findOptions : MethodName := ⟨RX9, "findOptions", "()V"⟩
abbrev cX9_allOptions : ByteArray := prog_11_method_61_code
def yX9_allOptions : MethodName := ⟨RX9, "allOptions", "()I"⟩
abbrev cX9_yearOf : ByteArray := prog_11_method_62_code
def yX9_yearOf : MethodName := ⟨RX9, "yearOf", "(III)I"⟩
abbrev cX9_yearAt : ByteArray := prog_11_method_63_code
def yX9_yearAt : MethodName := ⟨RX9, "yearAt", "(I)I"⟩
abbrev cX9_enters : ByteArray := prog_11_method_64_code
def yX9_enters : MethodName := ⟨RX9, "enters", "(II)V"⟩
abbrev cX9_leaves : ByteArray := prog_11_method_65_code
def yX9_leaves : MethodName := ⟨RX9, "leaves", "(I)V"⟩
abbrev cX9_isBrought : ByteArray := prog_11_method_66_code
def yX9_isBrought : MethodName := ⟨RX9, "isBrought", "(III)Z"⟩
abbrev cX9_alone : ByteArray := prog_11_method_67_code
def yX9_alone : MethodName := ⟨RX9, "alone", "(III)I"⟩
abbrev cX9_cutsOf : ByteArray := prog_11_method_68_code
def yX9_cutsOf : MethodName := ⟨RX9, "cutsOf", "(I)I"⟩
abbrev cX9_together : ByteArray := prog_11_method_69_code
def yX9_together : MethodName := ⟨RX9, "together", "(II)I"⟩
abbrev cX9_lastOf : ByteArray := prog_11_method_70_code
def yX9_lastOf : MethodName := ⟨RX9, "lastOf", "(II)I"⟩
abbrev cX9_secondOf : ByteArray := prog_11_method_71_code
def yX9_secondOf : MethodName := ⟨RX9, "secondOf", "(I)I"⟩
abbrev cX9_selfishYear : ByteArray := prog_11_method_72_code
def yX9_selfishYear : MethodName := ⟨RX9, "selfishYear", "()I"⟩
abbrev cX9_selfish : ByteArray := prog_11_method_73_code
def yX9_selfish : MethodName := ⟨RX9, "selfish", "(I)I"⟩
abbrev cX9_breaksOf : ByteArray := prog_11_method_74_code
def yX9_breaksOf : MethodName := ⟨RX9, "breaksOf", "(I)I"⟩
abbrev cX9_rests : ByteArray := prog_11_method_75_code
def yX9_rests : MethodName := ⟨RX9, "rests", "(I)I"⟩
abbrev cX9_breaks : ByteArray := prog_11_method_76_code
def yX9_breaks : MethodName := ⟨RX9, "breaks", "(I)I"⟩
abbrev cX9_stands : ByteArray := prog_11_method_77_code
def yX9_stands : MethodName := ⟨RX9, "stands", "(I)I"⟩
abbrev cX9_areAlike : ByteArray := prog_11_method_78_code
def yX9_areAlike : MethodName := ⟨RX9, "areAlike", "(II)Z"⟩
abbrev cX9_again : ByteArray := prog_11_method_79_code
def yX9_again : MethodName := ⟨RX9, "again", "(I)I"⟩
abbrev cX9_common : ByteArray := prog_11_method_80_code
def yX9_common : MethodName := ⟨RX9, "common", "(JJ)J"⟩
abbrev cX9_odds : ByteArray := prog_11_method_81_code
def yX9_odds : MethodName := ⟨RX9, "odds", "(II)J"⟩
abbrev cX9_see : ByteArray := prog_11_method_82_code
def yX9_see : MethodName := ⟨RX9, "see", "(IZ)I"⟩
abbrev cX9_forget : ByteArray := prog_11_method_83_code
def yX9_forget : MethodName := ⟨RX9, "forget", "(I)I"⟩
abbrev cX9_isSo : ByteArray := prog_11_method_84_code
def yX9_isSo : MethodName := ⟨RX9, "isSo", "(I)Z"⟩
abbrev cX9_cutters : ByteArray := prog_11_method_85_code
def yX9_cutters : MethodName := ⟨RX9, "cutters", "(I)I"⟩
abbrev cX9_fits : ByteArray := prog_11_method_86_code
def yX9_fits : MethodName := ⟨RX9, "fits", "(I)I"⟩
abbrev cX9_copies : ByteArray := prog_11_method_87_code
def yX9_copies : MethodName := ⟨RX9, "copies", "(II)V"⟩
abbrev cX9_keep : ByteArray := prog_11_method_88_code
def yX9_keep : MethodName := ⟨RX9, "keep", "(I)I"⟩
abbrev cX9_back : ByteArray := prog_11_method_89_code
def yX9_back : MethodName := ⟨RX9, "back", "(I)I"⟩
abbrev cX9_isSheet : ByteArray := prog_11_method_90_code
def yX9_isSheet : MethodName := ⟨RX9, "isSheet", "(II)Z"⟩
abbrev cX9_sheet : ByteArray := prog_11_method_91_code
def yX9_sheet : MethodName := ⟨RX9, "sheet", "(III)I"⟩
abbrev cX9_lay : ByteArray := prog_11_method_92_code
def yX9_lay : MethodName := ⟨RX9, "lay", "(III)I"⟩
abbrev cX9_read : ByteArray := prog_11_method_93_code
def yX9_read : MethodName := ⟨RX9, "read", "(IIII)I"⟩
abbrev cX9_torn : ByteArray := prog_11_method_94_code
def yX9_torn : MethodName := ⟨RX9, "torn", "()I"⟩
abbrev cX9_count : ByteArray := prog_11_method_95_code
def yX9_count : MethodName := ⟨RX9, "count", "(I)I"⟩
def RJx145de : String := "java/io/Serializable"
def RJx9f9b0 : String := "java/lang/CharSequence"
def RJxb160c : String := "java/lang/Comparable"
def RJ6 : String := "java/lang/Integer"
abbrev cJ6_bitCount_0f7a4 : ByteArray := prog_12_method_49_code
def yJ6_bitCount_0f7a4 : MethodName := ⟨RJ6, "bitCount", "(I)I"⟩
def RJ0 : String := "java/lang/String"
abbrev cJ0_length_8abf5 : ByteArray := prog_13_method_54_code
def yJ0_length_8abf5 : MethodName := ⟨RJ0, "length", "()I"⟩
abbrev cJ0_charAt_5068e : ByteArray := prog_13_method_56_code
def yJ0_charAt_5068e : MethodName := ⟨RJ0, "charAt", "(I)C"⟩
abbrev cJ0_coder_7d493 : ByteArray := prog_13_method_152_code
def yJ0_coder_7d493 : MethodName := ⟨RJ0, "coder", "()B"⟩
abbrev cJ0_isLatin1_aae02 : ByteArray := prog_13_method_154_code
def yJ0_isLatin1_aae02 : MethodName := ⟨RJ0, "isLatin1", "()Z"⟩
abbrev cJ0_checkIndex_df160 : ByteArray := prog_13_method_155_code
def yJ0_checkIndex_df160 : MethodName := ⟨RJ0, "checkIndex", "(II)V"⟩
def RJ1 : String := "java/lang/StringLatin1"
abbrev cJ1_charAt_3b067 : ByteArray := prog_14_method_2_code
def yJ1_charAt_3b067 : MethodName := ⟨RJ1, "charAt", "([BI)C"⟩
def RJ2 : String := "java/lang/StringUTF16"
abbrev cJ2_getChar_3b067 : ByteArray := prog_15_method_5_code
def yJ2_getChar_3b067 : MethodName := ⟨RJ2, "getChar", "([BI)C"⟩
abbrev cJ2_length_9d52b : ByteArray := prog_15_method_6_code
def yJ2_length_9d52b : MethodName := ⟨RJ2, "length", "([B)I"⟩
abbrev cJ2_charAt_3b067 : ByteArray := prog_15_method_83_code
def yJ2_charAt_3b067 : MethodName := ⟨RJ2, "charAt", "([BI)C"⟩
abbrev cJ2_checkIndex_2214a : ByteArray := prog_15_method_91_code
def yJ2_checkIndex_2214a : MethodName := ⟨RJ2, "checkIndex", "(I[B)V"⟩
def RJ10 : String := "java/lang/System"
def RJxfd54e : String := "java/lang/constant/Constable"
def RJx3cf43 : String := "java/lang/constant/ConstantDesc"
def RJ7 : String := "java/util/Arrays"
abbrev cJ7_fill_53178 : ByteArray := prog_17_method_103_code
def yJ7_fill_53178 : MethodName := ⟨RJ7, "fill", "([II)V"⟩
def RJ3 : String := "jdk/internal/util/Preconditions"
abbrev cJ3_checkIndex_8e157 : ByteArray := prog_18_method_11_code
def yJ3_checkIndex_8e157 : MethodName := ⟨RJ3, "checkIndex", "(IILjava/util/function/BiFunction;)I"⟩
def RL : String := "RiverDiggersLaw"
abbrev cL_law : ByteArray := code
def yL_law : MethodName := ⟨RL, "law", "([I)Z"⟩
abbrev vwCl : List vw_C := [(RX0, TX0, 3), (RX1, TX1, 10), (RX2, TX2, 8), (RX3, TX3, 5), (RX4, TX4, 7), (RX5, TX5, 3), (RX6, TX6, 8), (RX7, TX7, 7), (RX8, TX8, 14), (RX9, TX9, 47)]
end
section
/-! THE WALK BY PROGRAM: an interpreter over intervals, run in the kernel; part 03 and on show that what it says holds of the machine -/
/-- an interval of ints, each by its number and 2^31 (of longs: and 2^63) -/
abbrev zi_I : Type := Nat × Nat
/-- a value: int | long | reference to a cell of the world, or null | the script | int by digits (base 26, lowest first) -/
abbrev zi_V : Type := zi_I ⊕ (zi_I ⊕ (Option Nat ⊕ (Unit ⊕ List zi_I)))
/-- a cell: row of a type | object of a class -/
abbrev zi_C : Type := (FieldType × List zi_I) ⊕ (Nat × List zi_V)
abbrev zi_L : Type := List (Nat × zi_V)
/-- locals, stack, world, cells and slots that may still be made -/
abbrev zi_S : Type := zi_L × List zi_V × List zi_C × Nat × Nat
/-- calls, and the script -/
abbrev zi_E : Type := (Nat → List zi_V → List zi_C → Option (Option zi_V × List zi_C)) × Option (List zi_V)
abbrev zi_F : Type := zi_E → zi_S → Option (Nat × zi_S)
/-- a method's table, sixteen places a row: nothing | the walk stops here | a step -/
abbrev zi_T : Type := List (List (Option (Option zi_F)))
abbrev zi_M : Type := MethodName × ByteArray × Nat × Option FieldType × zi_T × Nat × Nat
def zi_Z : Nat := 2147483648
def zi_ZL : Nat := 9223372036854775808
def zi_o (x : Int32) : Nat := (x.toInt + 2147483648).toNat
def zi_ol (x : Int64) : Nat := (x.toInt + 9223372036854775808).toNat
def zi_u (n : Nat) : Int32 := Int32.ofInt ((n : Int) - 2147483648)
def zi_ul (n : Nat) : Int64 := Int64.ofInt ((n : Int) - 9223372036854775808)
def zi_top : zi_I := (0, 4294967295)
def zi_topl : zi_I := (0, 18446744073709551615)
def zi_cat : zi_V → Nat
  | .inr (.inl _) => 2
  | _ => 1
def zi_dlo : List zi_I → Nat
  | [] => 0
  | r :: t => r.1 + 26 * zi_dlo t
def zi_dhi : List zi_I → Nat
  | [] => 0
  | r :: t => r.2 + 26 * zi_dhi t
/-- the interval of an int -/
def zi_iv : zi_V → Option zi_I
  | .inl r => some r
  | .inr (.inr (.inr (.inr ds))) => some (2147483648 + zi_dlo ds, 2147483648 + zi_dhi ds)
  | _ => none
def zi_lv : zi_V → Option zi_I
  | .inr (.inl r) => some r
  | _ => none
def zi_lk (t : zi_T) (pc : Nat) : Option (Option zi_F) := match t[pc / 16]? with
  | none => none
  | some r => match r[pc % 16]? with
    | none => none
    | some q => q
def zi_get : zi_L → Nat → Option zi_V
  | [], _ => none
  | q :: t, i => bif Nat.beq q.1 i then some q.2 else zi_get t i
def zi_st1 (l : zi_L) (i : Nat) (v : zi_V) : zi_L := (i, v) :: l.filter (fun q => !(q.1 == i) && !(q.1 + 1 == i && zi_cat q.2 == 2))
def zi_st2 (l : zi_L) (i : Nat) (v : zi_V) : zi_L := (i, v) :: l.filter (fun q => !(q.1 == i) && (!(q.1 == i + 1) && !(q.1 + 1 == i && zi_cat q.2 == 2)))
def zi_args : Nat → List zi_V → zi_L
  | _, [] => []
  | i, v :: t => (i, v) :: zi_args (i + zi_cat v) t
def zi_wt : List zi_V → Nat
  | [] => 0
  | v :: t => zi_cat v + zi_wt t
/-- n values off the stack, the topmost last -/
def zi_pop : Nat → List zi_V → List zi_V → Option (List zi_V × List zi_V)
  | 0, st, acc => some (acc, st)
  | n + 1, v :: st, acc => zi_pop n st (v :: acc)
  | _ + 1, [], _ => none
-- numbers
def zi_one (x : zi_I) : Bool := Nat.beq x.1 x.2
def zi_sg (g : Int32 → Int32 → Int32) (x y : zi_I) : zi_I := bif zi_one x && zi_one y then (zi_o (g (zi_u x.1) (zi_u y.1)), zi_o (g (zi_u x.1) (zi_u y.1))) else zi_top
def zi_sgl (g : Int64 → Int64 → Int64) (x y : zi_I) : zi_I := bif zi_one x && zi_one y then (zi_ol (g (zi_ul x.1) (zi_ul y.1)), zi_ol (g (zi_ul x.1) (zi_ul y.1))) else zi_topl
def zi_add (x y : zi_I) : zi_I := bif Nat.ble 2147483648 (x.1 + y.1) && Nat.ble (x.2 + y.2) 6442450943 then (x.1 + y.1 - 2147483648, x.2 + y.2 - 2147483648) else zi_sg (· + ·) x y
def zi_sub (x y : zi_I) : zi_I := bif Nat.ble y.2 (x.1 + 2147483648) && Nat.ble (x.2 + 2147483648) (y.1 + 4294967295) then (x.1 + 2147483648 - y.2, x.2 + 2147483648 - y.1) else zi_sg (· - ·) x y
def zi_mul (x y : zi_I) : zi_I := bif Nat.ble 2147483648 x.1 && (Nat.ble 2147483648 y.1 && Nat.ble ((x.2 - 2147483648) * (y.2 - 2147483648)) 2147483647) then ((x.1 - 2147483648) * (y.1 - 2147483648) + 2147483648, (x.2 - 2147483648) * (y.2 - 2147483648) + 2147483648) else zi_sg (· * ·) x y
def zi_and (x y : zi_I) : zi_I := zi_sg (· &&& ·) x y
def zi_or (x y : zi_I) : zi_I := zi_sg (· ||| ·) x y
def zi_xor (x y : zi_I) : zi_I := zi_sg (· ^^^ ·) x y
def zi_shl (x y : zi_I) : zi_I := zi_sg (fun a b => a <<< (b &&& 31)) x y
/-- to the right: of 0 it is 0 -/
def zi_shr (x y : zi_I) : zi_I := bif Nat.beq x.1 2147483648 && Nat.beq x.2 2147483648 then x else zi_sg (fun a b => a >>> (b &&& 31)) x y
def zi_ushr (x y : zi_I) : zi_I := zi_sg (fun a b => (a.toUInt32 >>> (b.toUInt32 &&& Int32.toUInt32 31)).toInt32) x y
def zi_dig : zi_V → Option (List zi_I)
  | .inr (.inr (.inr (.inr ds))) => some ds
  | _ => none
def zi_divi (x y : zi_I) : zi_I := bif zi_one y && Nat.ble 2147483649 y.1 && Nat.ble 2147483648 x.1 then ((x.1 - 2147483648) / (y.1 - 2147483648) + 2147483648, (x.2 - 2147483648) / (y.1 - 2147483648) + 2147483648) else zi_sg (· / ·) x y
def zi_remi (x y : zi_I) : zi_I := bif zi_one y && Nat.ble 2147483649 y.1 && Nat.ble 2147483648 x.1 && Nat.beq ((x.1 - 2147483648) / (y.1 - 2147483648)) ((x.2 - 2147483648) / (y.1 - 2147483648)) then ((x.1 - 2147483648) % (y.1 - 2147483648) + 2147483648, (x.2 - 2147483648) % (y.1 - 2147483648) + 2147483648) else zi_sg (fun a b => a - a / b * b) x y
def zi_n0 (y : zi_I) : Bool := Nat.ble 2147483649 y.1 || Nat.ble y.2 2147483647
def zi_div (a : zi_V) (x y : zi_I) : zi_V := match zi_dig a with
  | some ds => bif zi_one y && Nat.beq y.1 2147483674 then .inr (.inr (.inr (.inr ds.tail))) else bif zi_one y && Nat.beq y.1 2147484324 then .inr (.inr (.inr (.inr ds.tail.tail))) else .inl (zi_divi x y)
  | none => .inl (zi_divi x y)
def zi_rem (a : zi_V) (x y : zi_I) : zi_V := match zi_dig a with
  | some (r :: _) => bif zi_one y && Nat.beq y.1 2147483674 then .inl (2147483648 + r.1, 2147483648 + r.2) else .inl (zi_remi x y)
  | _ => .inl (zi_remi x y)
-- tests: nothing where the intervals don't tell
def zi_lt (x y : zi_I) : Option Bool := bif Nat.blt x.2 y.1 then some true else bif Nat.ble y.2 x.1 then some false else none
def zi_le (x y : zi_I) : Option Bool := bif Nat.ble x.2 y.1 then some true else bif Nat.blt y.2 x.1 then some false else none
def zi_eq (x y : zi_I) : Option Bool := bif zi_one x && (zi_one y && Nat.beq x.1 y.1) then some true else bif Nat.blt x.2 y.1 || Nat.blt y.2 x.1 then some false else none
def zi_not : Option Bool → Option Bool
  | some b => some (!b)
  | none => none
def zi_cmpl (x y : zi_I) : zi_I := bif Nat.blt x.2 y.1 then (2147483647, 2147483647) else bif Nat.blt y.2 x.1 then (2147483649, 2147483649) else bif zi_one x && (zi_one y && Nat.beq x.1 y.1) then (2147483648, 2147483648) else bif Nat.ble y.2 x.1 then (2147483648, 2147483649) else bif Nat.ble x.2 y.1 then (2147483647, 2147483648) else (2147483647, 2147483649)
-- the steps
def zi_push (v : zi_V) (nx : Nat) : zi_F := fun _ s => match s with
  | (lc, sk, r) => some (nx, (lc, v :: sk, r))
def zi_load (i nx : Nat) : zi_F := fun _ s => match s with
  | (lc, sk, r) => match zi_get lc i with
    | some v => some (nx, (lc, v :: sk, r))
    | none => none
def zi_store (i nx : Nat) : zi_F := fun _ s => match s with
  | (lc, v :: sk, r) => bif Nat.beq (zi_cat v) 1 then some (nx, (zi_st1 lc i v, sk, r)) else some (nx, (zi_st2 lc i v, sk, r))
  | _ => none
def zi_inc (i : Nat) (k : zi_I) (nx : Nat) : zi_F := fun _ s => match s with
  | (lc, sk, r) => match zi_get lc i with
    | some v => match zi_iv v with
      | some x => some (nx, (zi_st1 lc i (.inl (zi_add x k)), sk, r))
      | none => none
    | none => none
def zi_bin (f : zi_I → zi_I → zi_I) (nx : Nat) : zi_F := fun _ s => match s with
  | (lc, b :: a :: sk, r) => match zi_iv a with
    | some x => match zi_iv b with
      | some y => some (nx, (lc, .inl (f x y) :: sk, r))
      | none => none
    | none => none
  | _ => none
/-- division and rest: not by 0 -/
def zi_dv (f : zi_V → zi_I → zi_I → zi_V) (nx : Nat) : zi_F := fun _ s => match s with
  | (lc, b :: a :: sk, r) => match zi_iv a with
    | some x => match zi_iv b with
      | some y => bif zi_n0 y then some (nx, (lc, f a x y :: sk, r)) else none
      | none => none
    | none => none
  | _ => none
def zi_binl (f : zi_I → zi_I → zi_I) (nx : Nat) : zi_F := fun _ s => match s with
  | (lc, b :: a :: sk, r) => match zi_lv a with
    | some x => match zi_lv b with
      | some y => some (nx, (lc, .inr (.inl (f x y)) :: sk, r))
      | none => none
    | none => none
  | _ => none
/-- a long's shift -/
def zi_shfl (f : zi_I → zi_I → zi_I) (nx : Nat) : zi_F := fun _ s => match s with
  | (lc, b :: a :: sk, r) => match zi_lv a with
    | some x => match zi_iv b with
      | some y => some (nx, (lc, .inr (.inl (f x y)) :: sk, r))
      | none => none
    | none => none
  | _ => none
def zi_lcmp (nx : Nat) : zi_F := fun _ s => match s with
  | (lc, b :: a :: sk, r) => match zi_lv a with
    | some x => match zi_lv b with
      | some y => some (nx, (lc, .inl (zi_cmpl x y) :: sk, r))
      | none => none
    | none => none
  | _ => none
def zi_i2l (nx : Nat) : zi_F := fun _ s => match s with
  | (lc, a :: sk, r) => match zi_iv a with
    | some x => some (nx, (lc, .inr (.inl (x.1 + 9223372034707292160, x.2 + 9223372034707292160)) :: sk, r))
    | none => none
  | _ => none
def zi_l2if (x : zi_I) : zi_I := bif zi_one x then (zi_o (zi_ul x.1).toInt32, zi_o (zi_ul x.1).toInt32) else zi_top
def zi_l2i (nx : Nat) : zi_F := fun _ s => match s with
  | (lc, a :: sk, r) => match zi_lv a with
    | some x => some (nx, (lc, .inl (zi_l2if x) :: sk, r))
    | none => none
  | _ => none
def zi_i2bf (x : zi_I) : zi_I := bif zi_one x then (zi_o (zi_u x.1).toInt8.toInt32, zi_o (zi_u x.1).toInt8.toInt32) else (2147483520, 2147483775)
def zi_i2sf (x : zi_I) : zi_I := bif zi_one x then (zi_o (zi_u x.1).toInt16.toInt32, zi_o (zi_u x.1).toInt16.toInt32) else (2147450880, 2147516415)
def zi_un (f : zi_I → zi_I) (nx : Nat) : zi_F := fun _ s => match s with
  | (lc, a :: sk, r) => match zi_iv a with
    | some x => some (nx, (lc, .inl (f x) :: sk, r))
    | none => none
  | _ => none
def zi_if (t : zi_I → zi_I → Option Bool) (tg nx : Nat) : zi_F := fun _ s => match s with
  | (lc, a :: sk, r) => match zi_iv a with
    | some x => match t x (2147483648, 2147483648) with
      | some b => some (bif b then tg else nx, (lc, sk, r))
      | none => none
    | none => none
  | _ => none
def zi_ic (t : zi_I → zi_I → Option Bool) (tg nx : Nat) : zi_F := fun _ s => match s with
  | (lc, b :: a :: sk, r) => match zi_iv a with
    | some x => match zi_iv b with
      | some y => match t x y with
        | some b => some (bif b then tg else nx, (lc, sk, r))
        | none => none
      | none => none
    | none => none
  | _ => none
def zi_go (tg : Nat) : zi_F := fun _ s => some (tg, s)
def zi_null (tn tr : Nat) : zi_F := fun _ s => match s with
  | (lc, .inr (.inr (.inl none)) :: sk, r) => some (tn, (lc, sk, r))
  | (lc, .inr (.inr (.inl (some _))) :: sk, r) => some (tr, (lc, sk, r))
  | _ => none
/-- lo: the lowest case and 2^31 -/
def zi_tsw (lo hi : Nat) (ts : List Nat) (df : Nat) : zi_F := fun _ s => match s with
  | (lc, a :: sk, r) => match zi_iv a with
    | some x => bif Nat.blt x.2 lo || Nat.blt hi x.1 then some (df, (lc, sk, r)) else bif zi_one x && (Nat.ble lo x.1 && Nat.ble x.1 hi) then (match ts[x.1 - lo]? with
        | some t => some (t, (lc, sk, r))
        | none => none) else none
    | none => none
  | _ => none
def zi_dup (nx : Nat) : zi_F := fun _ s => match s with
  | (lc, a :: sk, r) => bif Nat.beq (zi_cat a) 1 then some (nx, (lc, a :: a :: sk, r)) else none
  | _ => none
def zi_dup2 (nx : Nat) : zi_F := fun _ s => match s with
  | (lc, a :: b :: sk, r) => bif Nat.beq (zi_cat a) 1 && Nat.beq (zi_cat b) 1 then some (nx, (lc, a :: b :: a :: b :: sk, r)) else none
  | _ => none
def zi_popp (nx : Nat) : zi_F := fun _ s => match s with
  | (lc, a :: sk, r) => bif Nat.beq (zi_cat a) 1 then some (nx, (lc, sk, r)) else none
  | _ => none
def zi_getf (ci k nx : Nat) : zi_F := fun _ s => match s with
  | (lc, .inr (.inr (.inl (some q))) :: sk, w, r) => match w[q]? with
    | some (.inr (c, vs)) => bif Nat.beq c ci then (match vs[k]? with
        | some v => some (nx, (lc, v :: sk, w, r))
        | none => none) else none
    | _ => none
  | _ => none
/-- may the value lie in a field of that type -/
def zi_fit (ty : FieldType) (v : zi_V) : Bool := match ty, v with
  | .int, .inl _ => true
  | .boolean, .inl r => Nat.ble 2147483648 r.1 && Nat.ble r.2 2147483649
  | .object _, .inr (.inr (.inl _)) => true
  | .array _, .inr (.inr (.inl _)) => true
  | _, _ => false
def zi_putf (ci k : Nat) (ty : FieldType) (nx : Nat) : zi_F := fun _ s => match s with
  | (lc, v :: .inr (.inr (.inl (some q))) :: sk, w, r) => match w[q]? with
    | some (.inr (c, vs)) => bif Nat.beq c ci && (zi_fit ty v && Nat.blt k vs.length) then some (nx, (lc, sk, w.set q (.inr (c, vs.set k v)), r)) else none
    | _ => none
  | _ => none
def zi_ald (ty : FieldType) (nx : Nat) : zi_F := fun _ s => match s with
  | (lc, i :: .inr (.inr (.inl (some q))) :: sk, w, r) => match zi_iv i with
    | some x => match w[q]? with
      | some (.inl (t, l)) => bif zi_one x && (Nat.ble 2147483648 x.1 && decide (t = ty)) then (match l[x.1 - 2147483648]? with
          | some v => some (nx, (lc, .inl v :: sk, w, r))
          | none => none) else none
      | _ => none
    | none => none
  | _ => none
def zi_afit (ty : FieldType) (r : zi_I) : Bool := match ty with
  | .int => true
  | .boolean => Nat.ble 2147483648 r.1 && Nat.ble r.2 2147483649
  | .byte => Nat.ble 2147483520 r.1 && Nat.ble r.2 2147483775
  | _ => false
def zi_ast (ty : FieldType) (nx : Nat) : zi_F := fun _ s => match s with
  | (lc, v :: i :: .inr (.inr (.inl (some q))) :: sk, w, r) => match zi_iv v with
    | some y => match zi_iv i with
      | some x => match w[q]? with
        | some (.inl (t, l)) => bif zi_one x && (Nat.ble 2147483648 x.1 && (decide (t = ty) && (zi_afit ty y && Nat.blt (x.1 - 2147483648) l.length))) then some (nx, (lc, sk, w.set q (.inl (t, l.set (x.1 - 2147483648) y)), r)) else none
        | _ => none
      | none => none
    | none => none
  | _ => none
/-- a cell of the script -/
def zi_sld (nx : Nat) : zi_F := fun E s => match s with
  | (lc, i :: .inr (.inr (.inr (.inl _))) :: sk, r) => match zi_iv i with
    | some x => match E.2 with
      | some l => bif zi_one x && Nat.ble 2147483648 x.1 then (match l[x.1 - 2147483648]? with
          | some v => some (nx, (lc, v :: sk, r))
          | none => none) else none
      | none => none
    | none => none
  | _ => none
def zi_slen (nx : Nat) : zi_F := fun E s => match s with
  | (lc, .inr (.inr (.inr (.inl _))) :: sk, r) => match E.2 with
    | some l => some (nx, (lc, .inl (l.length + 2147483648, l.length + 2147483648) :: sk, r))
    | none => none
  | _ => none
def zi_alen (nx : Nat) : zi_F := fun _ s => match s with
  | (lc, .inr (.inr (.inl (some q))) :: sk, w, r) => match w[q]? with
    | some (.inl (_, l)) => bif Nat.ble l.length 2147483647 then some (nx, (lc, .inl (l.length + 2147483648, l.length + 2147483648) :: sk, w, r)) else none
    | _ => none
  | _ => none
def zi_newa (ty : FieldType) (nx : Nat) : zi_F := fun _ s => match s with
  | (lc, n :: sk, w, rc, rs) => match zi_iv n with
    | some x => bif zi_one x && (Nat.ble 2147483648 x.1 && (Nat.ble x.1 2147493648 && (Nat.ble 1 rc && Nat.ble (x.1 - 2147483648) rs))) then some (nx, (lc, .inr (.inr (.inl (some w.length))) :: sk, w ++ [.inl (ty, List.replicate (x.1 - 2147483648) (2147483648, 2147483648))], rc - 1, rs - (x.1 - 2147483648))) else none
    | none => none
  | _ => none
def zi_new (ci N : Nat) (vs : List zi_V) (nx : Nat) : zi_F := fun _ s => match s with
  | (lc, sk, w, rc, rs) => bif Nat.ble 1 rc && Nat.ble N rs then some (nx, (lc, .inr (.inr (.inl (some w.length))) :: sk, w ++ [.inr (ci, vs)], rc - 1, rs - N)) else none
/-- Object's own constructor -/
def zi_obj (nx : Nat) : zi_F := fun _ s => match s with
  | (lc, .inr (.inr (.inl (some _))) :: sk, r) => bif Nat.ble (zi_wt sk) 20 then some (nx, (lc, sk, r)) else none
  | _ => none
/-- a call: which method, how many values it takes, its class's number (of a static one: none), its cells and slots -/
def zi_inv (j n : Nat) (ci : Option Nat) (mc ms nx : Nat) : zi_F := fun E s => match s with
  | (lc, sk, w, rc, rs) => match zi_pop n sk [] with
    | some (as, rest) => bif Nat.ble (zi_wt rest) 20 && (Nat.ble mc rc && Nat.ble ms rs) then
        (bif (match ci with
            | none => true
            | some c => match as with
              | .inr (.inr (.inl (some q))) :: _ => (match w[q]? with
                | some (.inr (c', _)) => Nat.beq c' c
                | _ => false)
              | _ => false) then
          (match E.1 j as w with
            | some (v, w') => some (nx, (lc, v.toList ++ rest, w', rc - mc, rs - ms))
            | none => none) else none) else none
    | none => none
def zi_cpyl : List zi_I → List zi_I → Nat → Nat → Nat → List zi_I
  | a, b, sp, dp, n => b.take dp ++ (a.drop sp).take n ++ b.drop (dp + n)
def zi_copy (nx : Nat) : zi_F := fun _ s => match s with
  | (lc, n :: dp :: .inr (.inr (.inl (some q1))) :: sp :: .inr (.inr (.inl (some q0))) :: sk, w, r) => match zi_iv n with
    | some xn => match zi_iv dp with
      | some xd => match zi_iv sp with
        | some xs => match w[q0]? with
          | some (.inl (.int, a)) => match w[q1]? with
            | some (.inl (.int, b)) => bif zi_one xn && (zi_one xd && (zi_one xs && (Nat.ble 2147483648 xn.1 && (Nat.ble 2147483648 xd.1 && (Nat.ble 2147483648 xs.1 && (Nat.ble (xs.1 - 2147483648 + (xn.1 - 2147483648)) a.length && (Nat.ble (xd.1 - 2147483648 + (xn.1 - 2147483648)) b.length && Nat.ble (zi_wt sk) 20))))))) then some (nx, (lc, sk, w.set q1 (.inl (.int, zi_cpyl a b (xs.1 - 2147483648) (xd.1 - 2147483648) (xn.1 - 2147483648))), r)) else none
            | _ => none
          | _ => none
        | none => none
      | none => none
    | none => none
  | _ => none
/-- what a method answers, by its type -/
def zi_fin (ret : Option FieldType) (sk : List zi_V) : Option (Option zi_V) := match ret, sk with
  | none, [] => some none
  | some .int, [v] => (match zi_iv v with
    | some r => some (some (.inl r))
    | none => none)
  | some .boolean, [.inl r] => bif Nat.ble 2147483648 r.1 && Nat.ble r.2 2147483649 then some (some (.inl r)) else none
  | some .long, [.inr (.inl r)] => some (some (.inr (.inl r)))
  | some (.object _), [.inr (.inr (.inl q))] => some (some (.inr (.inr (.inl q))))
  | _, _ => none
/-- n steps at most, d calls one in another -/
def zi_run (mt : Nat → Option zi_M) : Nat → zi_T → Option (List zi_V) → Nat → Nat → zi_S → Option (Nat × zi_S)
  | 0, _, _, _, _, _ => none
  | n + 1, t, sc, d, pc, s => match zi_lk t pc with
    | none => none
    | some none => some (pc, s)
    | some (some f) => match f ((fun j as w => match d with
          | 0 => none
          | d' + 1 => match mt j with
            | none => none
            | some (_, _, _, ret, t', mc, ms) => match zi_run mt n t' none d' 0 (zi_args 0 as, [], w, mc, ms) with
              | none => none
              | some (_, _, sk, w', _) => match zi_fin ret sk with
                | none => none
                | some v => some (v, w')), sc) s with
      | none => none
      | some (pc', s') => zi_run mt n t sc d pc' s'
def zi_ne (x y : zi_I) : Option Bool := zi_not (zi_eq x y)
def zi_ge (x y : zi_I) : Option Bool := zi_not (zi_lt x y)
def zi_gt (x y : zi_I) : Option Bool := zi_not (zi_le x y)
def zi_ladd (x y : zi_I) : zi_I := zi_sgl (· + ·) x y
def zi_land (x y : zi_I) : zi_I := zi_sgl (· &&& ·) x y
def zi_lor (x y : zi_I) : zi_I := zi_sgl (· ||| ·) x y
def zi_ldiv (x y : zi_I) : zi_I := zi_sgl (· / ·) x y
def zi_lrem (x y : zi_I) : zi_I := zi_sgl (fun a b => a - a / b * b) x y
def zi_sgs (g : Int64 → Int32 → Int64) (x y : zi_I) : zi_I := bif zi_one x && zi_one y then (zi_ol (g (zi_ul x.1) (zi_u y.1)), zi_ol (g (zi_ul x.1) (zi_u y.1))) else zi_topl
def zi_lshl (x y : zi_I) : zi_I := zi_sgs (fun a b => a <<< (b.toInt64 &&& 63)) x y
def zi_lshr (x y : zi_I) : zi_I := zi_sgs (fun a b => a >>> (b.toInt64 &&& 63)) x y
def zi_n0l (y : zi_I) : Bool := Nat.ble 9223372036854775809 y.1 || Nat.ble y.2 9223372036854775807
def zi_dvl (f : zi_I → zi_I → zi_I) (nx : Nat) : zi_F := fun _ s => match s with
  | (lc, b :: a :: sk, r) => match zi_lv a with
    | some x => match zi_lv b with
      | some y => bif zi_n0l y then some (nx, (lc, .inr (.inl (f x y)) :: sk, r)) else none
      | none => none
    | none => none
  | _ => none
end
section
def zt_X0_init : zi_T := [[some (some (zi_load 0 1)), some (some (zi_obj 4)), none, none, some (some (zi_load 0 5)), some (some (zi_new 2 8 [.inr (.inr (.inl none)), .inr (.inr (.inl none)), .inr (.inr (.inl none)), (.inl (2147483648, 2147483648)), (.inl (2147483648, 2147483648)), (.inl (2147483648, 2147483648)), (.inl (2147483648, 2147483648)), (.inl (2147483648, 2147483648))] 8)), none, none, some (some (zi_dup 9)), some (some (zi_load 1 10)), some (some (zi_inv 19 2 none 2 50 13)), none, none, some (some (zi_putf 0 0 (.object "RiverDiggers$Flow") 16)), none, none],
  [some (some (zi_load 0 17)), some (some (zi_load 2 18)), some (some (zi_putf 0 1 (.object "RiverDiggers$Digger") 21)), none, none, some none]]
def zt_X0_fewest : zi_T := [[some (some (zi_load 0 1)), some (some (zi_getf 0 0 4)), none, none, some (some (zi_load 1 5)), some (some (zi_inv 20 2 (some 2) 0 0 8)), none, none, some (some (zi_push (.inl (2147483648, 2147483648)) 9)), some (some (zi_store 4 11)), none, some (some (zi_load 4 13)), none, some (some (zi_push (.inl (2147483651, 2147483651)) 14)), some (some (zi_ic zi_gt 37 17)), none],
  [none, some (some (zi_load 0 18)), some (some (zi_load 2 19)), some (some (zi_load 3 20)), some (some (zi_load 4 22)), none, some (some (zi_inv 2 4 (some 0) 0 0 25)), none, none, some (some (zi_if zi_eq 31 28)), none, none, some (some (zi_load 4 30)), none, some none, some (some (zi_inc 4 (2147483649, 2147483649) 34))],
  [none, none, some (some (zi_go 11)), none, none, some (some (zi_push (.inl (2147483647, 2147483647)) 38)), some none]]
def zt_X0_brings : zi_T := [[some (some (zi_load 3 1)), some (some (zi_if zi_le 11 4)), none, none, some (some (zi_load 0 5)), some (some (zi_getf 0 1 8)), none, none, some (some (zi_null 11 23)), none, none, some (some (zi_load 0 12)), some (some (zi_getf 0 0 15)), none, none, some (some (zi_getf 2 4 18))],
  [none, none, some (some (zi_load 2 19)), some (some (zi_inv 90 2 none 0 0 22)), none, none, some none, some (some (zi_load 0 24)), some (some (zi_getf 0 0 27)), none, none, some (some (zi_load 1 28)), some (some (zi_inv 23 2 (some 2) 0 0 31)), none, none, some (some (zi_store 4 33))],
  [none, some (some (zi_push (.inl (2147483648, 2147483648)) 34)), some (some (zi_store 5 36)), none, some (some (zi_load 5 38)), none, some (some (zi_push (.inl (2147483673, 2147483673)) 40)), none, some (some (zi_ic zi_gt 131 43)), none, none, some (some (zi_load 5 45)), none, some (some (zi_if zi_eq 60 48)), none, none],
  [some (some (zi_load 4 50)), none, some (some (zi_load 5 52)), none, some (some (zi_push (.inl (2147483649, 2147483649)) 53)), some (some (zi_bin zi_sub 54)), some (some (zi_inv 90 2 none 0 0 57)), none, none, some (some (zi_if zi_eq 125 60)), none, none, some (some (zi_load 0 61)), some (some (zi_load 5 63)), none, some (some (zi_if zi_ne 71 66))],
  [none, none, some (some (zi_push (.inl (2147483673, 2147483673)) 68)), none, some (some (zi_go 75)), none, none, some (some (zi_load 5 73)), none, some (some (zi_push (.inl (2147483649, 2147483649)) 74)), some (some (zi_bin zi_sub 75)), some (some (zi_putf 0 2 .int 78)), none, none, some (some (zi_load 0 79)), some (some (zi_getf 0 1 82))],
  [none, none, some (some (zi_getf 0 0 85)), none, none, some (some (zi_load 0 86)), some (some (zi_getf 0 0 89)), none, none, some (some (zi_inv 20 2 (some 2) 0 0 92)), none, none, some (some (zi_load 0 93)), some (some (zi_getf 0 1 96)), none, none],
  [some (some (zi_getf 0 0 99)), none, none, some (some (zi_load 5 101)), none, some (some (zi_load 1 102)), some (some (zi_inv 89 2 none 0 0 105)), none, none, some (some (zi_inv 27 2 (some 2) 0 0 108)), none, none, some (some (zi_load 0 109)), some (some (zi_getf 0 1 112)), none, none],
  [some (some (zi_load 1 113)), some (some (zi_load 2 114)), some (some (zi_load 3 115)), some (some (zi_push (.inl (2147483649, 2147483649)) 116)), some (some (zi_bin zi_sub 117)), some (some (zi_inv 2 4 (some 0) 0 0 120)), none, none, some (some (zi_if zi_eq 125 123)), none, none, some (some (zi_push (.inl (2147483649, 2147483649)) 124)), some none, some (some (zi_inc 5 (2147483649, 2147483649) 128)), none, none],
  [some (some (zi_go 36)), none, none, some (some (zi_push (.inl (2147483648, 2147483648)) 132)), some none]]
def zt_X0_cutOf : zi_T := [[some (some (zi_load 0 1)), some (some (zi_store 2 2)), some (some (zi_push (.inl (2147483648, 2147483648)) 3)), some (some (zi_store 3 4)), some (some (zi_load 3 5)), some (some (zi_load 1 6)), some (some (zi_ic zi_ge 27 9)), none, none, some (some (zi_load 2 10)), some (some (zi_getf 0 1 13)), none, none, some (some (zi_null 27 16)), none, none],
  [some (some (zi_load 2 17)), some (some (zi_getf 0 1 20)), none, none, some (some (zi_store 2 21)), some (some (zi_inc 3 (2147483649, 2147483649) 24)), none, none, some (some (zi_go 4)), none, none, some (some (zi_load 2 28)), some (some (zi_getf 0 2 31)), none, none, some none]]
def zt_X1_init : zi_T := [[some (some (zi_load 0 1)), some (some (zi_obj 4)), none, none, some (some (zi_load 0 5)), some (some (zi_push (.inl (2147483673, 2147483673)) 7)), none, some (some (zi_newa .int 9)), none, some (some (zi_putf 1 0 (.array .int) 12)), none, none, some (some (zi_load 0 13)), some (some (zi_push (.inl (2147483653, 2147483653)) 14)), some (some (zi_newa .int 16)), none],
  [some (some (zi_putf 1 1 (.array .int) 19)), none, none, some (some (zi_load 0 20)), some (some (zi_push (.inl (2147483651, 2147483651)) 21)), some (some (zi_newa .int 23)), none, some (some (zi_putf 1 2 (.array .int) 26)), none, none, some (some (zi_load 0 27)), some (some (zi_push (.inl (2147483651, 2147483651)) 28)), some (some (zi_newa .int 30)), none, some (some (zi_putf 1 3 (.array .int) 33)), none],
  [none, some none]]
def zt_X1_clear : zi_T := [[some (some (zi_load 0 1)), some (some (zi_getf 1 0 4)), none, none, some (some (zi_push (.inl (2147483648, 2147483648)) 5)), some (some (zi_inv 221 2 none 0 0 8)), none, none, some (some (zi_load 0 9)), some (some (zi_getf 1 1 12)), none, none, some (some (zi_push (.inl (2147483648, 2147483648)) 13)), some (some (zi_inv 221 2 none 0 0 16)), none, none],
  [some (some (zi_load 0 17)), some (some (zi_getf 1 2 20)), none, none, some (some (zi_push (.inl (2147483648, 2147483648)) 21)), some (some (zi_inv 221 2 none 0 0 24)), none, none, some (some (zi_load 0 25)), some (some (zi_getf 1 3 28)), none, none, some (some (zi_push (.inl (2147483648, 2147483648)) 29)), some (some (zi_inv 221 2 none 0 0 32)), none, none],
  [some (some (zi_load 0 33)), some (some (zi_push (.inl (2147483651, 2147483651)) 34)), some (some (zi_putf 1 4 .int 37)), none, none, some (some (zi_load 0 38)), some (some (zi_push (.inl (2147483651, 2147483651)) 39)), some (some (zi_putf 1 5 .int 42)), none, none, some (some (zi_load 0 43)), some (some (zi_push (.inl (2147483648, 2147483648)) 44)), some (some (zi_putf 1 6 .int 47)), none, none, some (some (zi_load 0 48))],
  [some (some (zi_push (.inl (2147483648, 2147483648)) 49)), some (some (zi_putf 1 7 .int 52)), none, none, some (some (zi_load 0 53)), some (some (zi_push (.inl (2147483648, 2147483648)) 54)), some (some (zi_putf 1 8 .int 57)), none, none, some (some (zi_load 0 58)), some (some (zi_push (.inl (2147483648, 2147483648)) 59)), some (some (zi_putf 1 9 .int 62)), none, none, some none]]
def zt_X1_take : zi_T := [[some (some (zi_load 0 1)), some (some (zi_inv 5 1 (some 1) 0 0 4)), none, none, some (some (zi_load 1 5)), some (some (zi_inv 52 1 (some 6) 0 0 8)), none, none, some (some (zi_push (.inl (2147483648, 2147483648)) 9)), some (some (zi_store 2 10)), some (some (zi_push (.inl (2147483648, 2147483648)) 11)), some (some (zi_store 3 12)), some (some (zi_load 3 13)), some (some (zi_push (.inl (2147483968, 2147483968)) 16)), none, none],
  [some (some (zi_ic zi_gt 70 19)), none, none, some (some (zi_load 1 20)), some (some (zi_inv 55 1 (some 6) 0 0 23)), none, none, some (some (zi_load 1 24)), some (some (zi_getf 6 6 27)), none, none, some (some (zi_if zi_ne 40 30)), none, none, some (some (zi_load 1 31)), some (some (zi_getf 6 3 34))],
  [none, none, some (some (zi_if zi_ne 40 37)), none, none, some (some (zi_go 70)), none, none, some (some (zi_load 1 41)), some (some (zi_getf 6 6 44)), none, none, some (some (zi_if zi_ne 52 47)), none, none, some (some (zi_load 0 48))],
  [some (some (zi_load 1 49)), some (some (zi_inv 7 2 (some 1) 0 0 52)), none, none, some (some (zi_load 1 53)), some (some (zi_getf 6 6 56)), none, none, some (some (zi_if zi_eq 61 59)), none, none, some (some (zi_push (.inl (2147483648, 2147483648)) 60)), some none, some (some (zi_inc 2 (2147483649, 2147483649) 64)), none, none],
  [some (some (zi_inc 3 (2147483649, 2147483649) 67)), none, none, some (some (zi_go 12)), none, none, some (some (zi_load 0 71)), some (some (zi_inv 16 1 (some 1) 0 0 74)), none, none, some (some (zi_if zi_ne 83 77)), none, none, some (some (zi_load 1 78)), some (some (zi_push (.inl (2147483654, 2147483654)) 80)), none],
  [some (some (zi_inv 54 2 (some 6) 0 0 83)), none, none, some (some (zi_load 2 84)), some none]]
def zt_X1_takeLine : zi_T := [[some (some (zi_load 1 1)), none, none, some (some (zi_inv 58 2 (some 6) 0 0 6)), none, none, some (some (zi_if zi_eq 17 9)), none, none, some (some (zi_load 0 10)), some (some (zi_load 1 11)), some (some (zi_inv 9 2 (some 1) 0 0 14)), none, none, some (some (zi_go 124)), none],
  [none, some (some (zi_load 1 18)), none, none, some (some (zi_inv 58 2 (some 6) 0 0 23)), none, none, some (some (zi_if zi_eq 34 26)), none, none, some (some (zi_load 0 27)), some (some (zi_load 1 28)), some (some (zi_inv 10 2 (some 1) 0 0 31)), none, none, some (some (zi_go 124))],
  [none, none, some (some (zi_load 1 35)), none, none, some (some (zi_inv 58 2 (some 6) 0 0 40)), none, none, some (some (zi_if zi_eq 51 43)), none, none, some (some (zi_load 0 44)), some (some (zi_load 1 45)), some (some (zi_inv 11 2 (some 1) 0 0 48)), none, none],
  [some (some (zi_go 124)), none, none, some (some (zi_load 1 52)), none, none, some (some (zi_inv 58 2 (some 6) 0 0 57)), none, none, some (some (zi_if zi_eq 68 60)), none, none, some (some (zi_load 0 61)), some (some (zi_load 1 62)), some (some (zi_inv 12 2 (some 1) 0 0 65)), none],
  [none, some (some (zi_go 124)), none, none, some (some (zi_load 1 69)), none, none, some (some (zi_inv 58 2 (some 6) 0 0 74)), none, none, some (some (zi_if zi_eq 85 77)), none, none, some (some (zi_load 0 78)), some (some (zi_load 1 79)), some (some (zi_inv 13 2 (some 1) 0 0 82))],
  [none, none, some (some (zi_go 124)), none, none, some (some (zi_load 1 86)), none, none, some (some (zi_inv 58 2 (some 6) 0 0 91)), none, none, some (some (zi_if zi_eq 102 94)), none, none, some (some (zi_load 0 95)), some (some (zi_load 1 96))],
  [some (some (zi_inv 14 2 (some 1) 0 0 99)), none, none, some (some (zi_go 124)), none, none, some (some (zi_load 1 103)), none, none, some (some (zi_inv 58 2 (some 6) 0 0 108)), none, none, some (some (zi_if zi_eq 119 111)), none, none, some (some (zi_load 0 112))],
  [some (some (zi_load 1 113)), some (some (zi_inv 15 2 (some 1) 0 0 116)), none, none, some (some (zi_go 124)), none, none, some (some (zi_load 1 120)), some (some (zi_push (.inl (2147483650, 2147483650)) 121)), some (some (zi_inv 53 2 (some 6) 0 0 124)), none, none, some none]]
def zt_X1_comesOnce : zi_T := [[some (some (zi_load 0 1)), some (some (zi_getf 1 9 4)), none, none, some (some (zi_load 2 5)), some (some (zi_bin zi_and 6)), some (some (zi_if zi_eq 16 9)), none, none, some (some (zi_load 1 10)), some (some (zi_push (.inl (2147483652, 2147483652)) 11)), some (some (zi_inv 53 2 (some 6) 0 0 14)), none, none, some (some (zi_push (.inl (2147483648, 2147483648)) 15)), some none],
  [some (some (zi_load 0 17)), some (some (zi_dup 18)), some (some (zi_getf 1 9 21)), none, none, some (some (zi_load 2 22)), some (some (zi_bin zi_or 23)), some (some (zi_putf 1 9 .int 26)), none, none, some (some (zi_push (.inl (2147483649, 2147483649)) 27)), some none]]
def zt_X1_takePlain : zi_T := [[some (some (zi_load 0 1)), some (some (zi_load 1 2)), some (some (zi_push (.inl (2147483649, 2147483649)) 3)), some (some (zi_inv 8 3 (some 1) 0 0 6)), none, none, some (some (zi_if zi_eq 18 9)), none, none, some (some (zi_load 1 10)), some (some (zi_push (.inl (2147483650, 2147483650)) 11)), some (some (zi_push (.inl (2147483653, 2147483653)) 12)), some (some (zi_inv 60 3 (some 6) 0 0 15)), none, none, some (some (zi_if zi_ne 19 18))],
  [none, none, some none, some (some (zi_load 0 20)), some (some (zi_load 1 21)), some (some (zi_getf 6 5 24)), none, none, some (some (zi_putf 1 4 .int 27)), none, none, some (some (zi_load 1 28)), some (some (zi_push (.inl (2147483650, 2147483650)) 29)), some (some (zi_push (.inl (2147483653, 2147483653)) 30)), some (some (zi_inv 60 3 (some 6) 0 0 33)), none],
  [none, some (some (zi_if zi_ne 37 36)), none, none, some none, some (some (zi_load 0 38)), some (some (zi_load 1 39)), some (some (zi_getf 6 5 42)), none, none, some (some (zi_putf 1 5 .int 45)), none, none, some (some (zi_load 1 46)), some (some (zi_inv 61 1 (some 6) 0 0 49)), none],
  [none, some none]]
def zt_X1_takeRow : zi_T := [[some (some (zi_load 1 1)), some (some (zi_push (.inl (2147483648, 2147483648)) 2)), some (some (zi_push (.inl (2147483652, 2147483652)) 3)), some (some (zi_inv 60 3 (some 6) 0 0 6)), none, none, some (some (zi_if zi_ne 10 9)), none, none, some none, some (some (zi_load 1 11)), some (some (zi_getf 6 5 14)), none, none, some (some (zi_store 2 15)), some (some (zi_load 0 16))],
  [some (some (zi_getf 1 1 19)), none, none, some (some (zi_load 2 20)), some (some (zi_ald .int 21)), some (some (zi_if zi_eq 30 24)), none, none, some (some (zi_load 1 25)), some (some (zi_push (.inl (2147483652, 2147483652)) 26)), some (some (zi_inv 53 2 (some 6) 0 0 29)), none, none, some none, some (some (zi_push (.inl (2147483648, 2147483648)) 31)), some (some (zi_store 3 32))],
  [some (some (zi_load 3 33)), some (some (zi_push (.inl (2147483653, 2147483653)) 34)), some (some (zi_ic zi_gt 112 37)), none, none, some (some (zi_load 1 38)), some (some (zi_inv 55 1 (some 6) 0 0 41)), none, none, some (some (zi_load 3 42)), some (some (zi_if zi_le 61 45)), none, none, some (some (zi_load 1 46)), some (some (zi_getf 6 6 49)), none],
  [none, some (some (zi_if zi_ne 61 52)), none, none, some (some (zi_load 1 53)), some (some (zi_getf 6 3 56)), none, none, some (some (zi_push (.inl (2147483651, 2147483651)) 57)), some (some (zi_ic zi_ne 61 60)), none, none, some none, some (some (zi_load 1 62)), some (some (zi_push (.inl (2147483648, 2147483648)) 63)), some (some (zi_push (.inl (2147483657, 2147483657)) 65))],
  [none, some (some (zi_inv 59 3 (some 6) 0 0 68)), none, none, some (some (zi_if zi_ne 72 71)), none, none, some none, some (some (zi_load 3 73)), some (some (zi_push (.inl (2147483653, 2147483653)) 74)), some (some (zi_ic zi_lt 83 77)), none, none, some (some (zi_load 1 78)), some (some (zi_push (.inl (2147483653, 2147483653)) 79)), some (some (zi_inv 53 2 (some 6) 0 0 82))],
  [none, none, some none, some (some (zi_load 0 84)), some (some (zi_getf 1 0 87)), none, none, some (some (zi_load 2 88)), some (some (zi_push (.inl (2147483653, 2147483653)) 89)), some (some (zi_bin zi_mul 90)), some (some (zi_load 3 91)), some (some (zi_bin zi_add 92)), some (some (zi_load 1 93)), some (some (zi_getf 6 5 96)), none, none],
  [some (some (zi_ast .int 97)), some (some (zi_load 0 98)), some (some (zi_getf 1 1 101)), none, none, some (some (zi_load 2 102)), some (some (zi_load 3 103)), some (some (zi_push (.inl (2147483649, 2147483649)) 104)), some (some (zi_bin zi_add 105)), some (some (zi_ast .int 106)), some (some (zi_inc 3 (2147483649, 2147483649) 109)), none, none, some (some (zi_go 32)), none, none],
  [some none]]
def zt_X1_takeSpring : zi_T := [[some (some (zi_load 0 1)), some (some (zi_load 1 2)), some (some (zi_push (.inl (2147483650, 2147483650)) 3)), some (some (zi_inv 8 3 (some 1) 0 0 6)), none, none, some (some (zi_if zi_eq 31 9)), none, none, some (some (zi_load 1 10)), some (some (zi_push (.inl (2147483648, 2147483648)) 11)), some (some (zi_push (.inl (2147483672, 2147483672)) 13)), none, some (some (zi_inv 60 3 (some 6) 0 0 16)), none, none],
  [some (some (zi_if zi_eq 31 19)), none, none, some (some (zi_load 0 20)), some (some (zi_load 1 21)), some (some (zi_getf 6 5 24)), none, none, some (some (zi_putf 1 6 .int 27)), none, none, some (some (zi_load 1 28)), some (some (zi_inv 61 1 (some 6) 0 0 31)), none, none, some none]]
def zt_X1_takeFarm : zi_T := [[some (some (zi_load 0 1)), some (some (zi_getf 1 8 4)), none, none, some (some (zi_push (.inl (2147483651, 2147483651)) 5)), some (some (zi_ic zi_lt 16 8)), none, none, some (some (zi_load 1 9)), some (some (zi_push (.inl (2147483653, 2147483653)) 10)), some (some (zi_inv 53 2 (some 6) 0 0 13)), none, none, some (some (zi_go 53)), none, none],
  [some (some (zi_load 1 17)), some (some (zi_push (.inl (2147483649, 2147483649)) 18)), some (some (zi_push (.inl (2147483657, 2147483657)) 20)), none, some (some (zi_inv 60 3 (some 6) 0 0 23)), none, none, some (some (zi_if zi_eq 53 26)), none, none, some (some (zi_load 0 27)), some (some (zi_getf 1 3 30)), none, none, some (some (zi_load 0 31)), some (some (zi_getf 1 8 34))],
  [none, none, some (some (zi_load 1 35)), some (some (zi_getf 6 5 38)), none, none, some (some (zi_ast .int 39)), some (some (zi_load 0 40)), some (some (zi_dup 41)), some (some (zi_getf 1 8 44)), none, none, some (some (zi_push (.inl (2147483649, 2147483649)) 45)), some (some (zi_bin zi_add 46)), some (some (zi_putf 1 8 .int 49)), none],
  [none, some (some (zi_load 1 50)), some (some (zi_inv 61 1 (some 6) 0 0 53)), none, none, some none]]
def zt_X1_takeGround : zi_T := [[some (some (zi_load 1 1)), some (some (zi_push (.inl (2147483648, 2147483648)) 2)), some (some (zi_push (.inl (2147483650, 2147483650)) 3)), some (some (zi_inv 60 3 (some 6) 0 0 6)), none, none, some (some (zi_if zi_ne 10 9)), none, none, some none, some (some (zi_load 1 11)), some (some (zi_getf 6 5 14)), none, none, some (some (zi_store 2 15)), some (some (zi_push (.inl (2147483648, 2147483648)) 16))],
  [some (some (zi_store 3 17)), some (some (zi_load 3 18)), some (some (zi_push (.inl (2147483656, 2147483656)) 20)), none, some (some (zi_ic zi_gt 135 23)), none, none, some (some (zi_load 1 24)), some (some (zi_inv 55 1 (some 6) 0 0 27)), none, none, some (some (zi_load 3 28)), some (some (zi_if zi_le 47 31)), none, none, some (some (zi_load 1 32))],
  [some (some (zi_getf 6 6 35)), none, none, some (some (zi_if zi_ne 47 38)), none, none, some (some (zi_load 1 39)), some (some (zi_getf 6 3 42)), none, none, some (some (zi_push (.inl (2147483651, 2147483651)) 43)), some (some (zi_ic zi_ne 47 46)), none, none, some none, some (some (zi_load 1 48))],
  [some (some (zi_push (.inl (2147483648, 2147483648)) 49)), some (some (zi_push (.inl (2147483672, 2147483672)) 51)), none, some (some (zi_inv 59 3 (some 6) 0 0 54)), none, none, some (some (zi_if zi_ne 58 57)), none, none, some none, some (some (zi_load 0 59)), some (some (zi_getf 1 2 62)), none, none, some (some (zi_push (.inl (2147483648, 2147483648)) 63)), some (some (zi_ald .int 64))],
  [some (some (zi_load 0 65)), some (some (zi_getf 1 2 68)), none, none, some (some (zi_push (.inl (2147483649, 2147483649)) 69)), some (some (zi_ald .int 70)), some (some (zi_bin zi_or 71)), some (some (zi_load 0 72)), some (some (zi_getf 1 2 75)), none, none, some (some (zi_push (.inl (2147483650, 2147483650)) 76)), some (some (zi_ald .int 77)), some (some (zi_bin zi_or 78)), some (some (zi_load 1 79)), some (some (zi_getf 6 5 82))],
  [none, none, some (some (zi_inv 90 2 none 0 0 85)), none, none, some (some (zi_if zi_eq 94 88)), none, none, some (some (zi_load 1 89)), some (some (zi_push (.inl (2147483652, 2147483652)) 90)), some (some (zi_inv 53 2 (some 6) 0 0 93)), none, none, some none, some (some (zi_load 0 95)), some (some (zi_getf 1 2 98))],
  [none, none, some (some (zi_load 2 99)), some (some (zi_ald .int 100)), some (some (zi_inv 210 1 none 0 0 103)), none, none, some (some (zi_push (.inl (2147483656, 2147483656)) 105)), none, some (some (zi_ic zi_lt 114 108)), none, none, some (some (zi_load 1 109)), some (some (zi_push (.inl (2147483653, 2147483653)) 110)), some (some (zi_inv 53 2 (some 6) 0 0 113)), none],
  [none, some none, some (some (zi_load 0 115)), some (some (zi_getf 1 2 118)), none, none, some (some (zi_load 2 119)), some (some (zi_dup2 120)), some (some (zi_ald .int 121)), some (some (zi_push (.inl (2147483649, 2147483649)) 122)), some (some (zi_load 1 123)), some (some (zi_getf 6 5 126)), none, none, some (some (zi_bin zi_shl 127)), some (some (zi_bin zi_or 128))],
  [some (some (zi_ast .int 129)), some (some (zi_inc 3 (2147483649, 2147483649) 132)), none, none, some (some (zi_go 17)), none, none, some none]]
def zt_X1_takeLaw : zi_T := [[some (some (zi_load 0 1)), some (some (zi_load 1 2)), some (some (zi_push (.inl (2147483652, 2147483652)) 3)), some (some (zi_inv 8 3 (some 1) 0 0 6)), none, none, some (some (zi_if zi_eq 30 9)), none, none, some (some (zi_load 1 10)), some (some (zi_push (.inl (2147483648, 2147483648)) 11)), some (some (zi_push (.inl (2147483650, 2147483650)) 12)), some (some (zi_inv 60 3 (some 6) 0 0 15)), none, none, some (some (zi_if zi_eq 30 18))],
  [none, none, some (some (zi_load 0 19)), some (some (zi_load 1 20)), some (some (zi_getf 6 5 23)), none, none, some (some (zi_putf 1 7 .int 26)), none, none, some (some (zi_load 1 27)), some (some (zi_inv 61 1 (some 6) 0 0 30)), none, none, some none]]
def zt_X1_takeSilt : zi_T := [[some (some (zi_load 0 1)), some (some (zi_load 1 2)), some (some (zi_push (.inl (2147483656, 2147483656)) 4)), none, some (some (zi_inv 8 3 (some 1) 0 0 7)), none, none, some (some (zi_if zi_eq 14 10)), none, none, some (some (zi_load 1 11)), some (some (zi_inv 61 1 (some 6) 0 0 14)), none, none, some none]]
def zt_X1_isWhole : zi_T := [[some (some (zi_push (.inl (2147483648, 2147483648)) 1)), some (some (zi_store 1 2)), some (some (zi_load 1 3)), some (some (zi_push (.inl (2147483653, 2147483653)) 4)), some (some (zi_ic zi_ge 40 7)), none, none, some (some (zi_load 0 8)), some (some (zi_getf 1 1 11)), none, none, some (some (zi_load 1 12)), some (some (zi_ald .int 13)), some (some (zi_load 1 14)), some (some (zi_load 0 15)), some (some (zi_getf 1 5 18))],
  [none, none, some (some (zi_ic zi_ge 28 21)), none, none, some (some (zi_load 0 22)), some (some (zi_getf 1 4 25)), none, none, some (some (zi_go 29)), none, none, some (some (zi_push (.inl (2147483648, 2147483648)) 29)), some (some (zi_ic zi_le 34 32)), none, none],
  [some (some (zi_push (.inl (2147483648, 2147483648)) 33)), some none, some (some (zi_inc 1 (2147483649, 2147483649) 37)), none, none, some (some (zi_go 2)), none, none, some (some (zi_push (.inl (2147483648, 2147483648)) 41)), some (some (zi_store 1 42)), some (some (zi_load 1 43)), some (some (zi_push (.inl (2147483651, 2147483651)) 44)), some (some (zi_ic zi_ge 86 47)), none, none, some (some (zi_load 0 48))],
  [some (some (zi_getf 1 2 51)), none, none, some (some (zi_load 1 52)), some (some (zi_ald .int 53)), some (some (zi_load 1 54)), some (some (zi_load 0 55)), some (some (zi_getf 1 8 58)), none, none, some (some (zi_ic zi_ge 73 61)), none, none, some (some (zi_load 0 62)), some (some (zi_getf 1 4 65)), none],
  [none, some (some (zi_load 0 66)), some (some (zi_getf 1 5 69)), none, none, some (some (zi_bin zi_mul 70)), some (some (zi_go 74)), none, none, some (some (zi_push (.inl (2147483648, 2147483648)) 74)), some (some (zi_bin zi_shr 75)), some (some (zi_if zi_eq 80 78)), none, none, some (some (zi_push (.inl (2147483648, 2147483648)) 79)), some none],
  [some (some (zi_inc 1 (2147483649, 2147483649) 83)), none, none, some (some (zi_go 42)), none, none, some (some (zi_load 0 87)), some (some (zi_getf 1 6 90)), none, none, some (some (zi_load 0 91)), some (some (zi_getf 1 4 94)), none, none, some (some (zi_load 0 95)), some (some (zi_getf 1 5 98))],
  [none, none, some (some (zi_bin zi_mul 99)), some (some (zi_ic zi_ge 106 102)), none, none, some (some (zi_push (.inl (2147483649, 2147483649)) 103)), some (some (zi_go 107)), none, none, some (some (zi_push (.inl (2147483648, 2147483648)) 107)), some none]]
def zt_X1_settle : zi_T := [[some (some (zi_load 1 1)), some (some (zi_load 0 2)), some (some (zi_getf 1 4 5)), none, none, some (some (zi_putf 3 2 .int 8)), none, none, some (some (zi_load 1 9)), some (some (zi_load 0 10)), some (some (zi_getf 1 5 13)), none, none, some (some (zi_putf 3 3 .int 16)), none, none],
  [some (some (zi_load 1 17)), some (some (zi_load 0 18)), some (some (zi_getf 1 8 21)), none, none, some (some (zi_putf 3 4 .int 24)), none, none, some (some (zi_load 0 25)), some (some (zi_getf 1 2 28)), none, none, some (some (zi_push (.inl (2147483648, 2147483648)) 29)), some (some (zi_load 1 30)), some (some (zi_getf 3 0 33)), none],
  [none, some (some (zi_push (.inl (2147483648, 2147483648)) 34)), some (some (zi_push (.inl (2147483651, 2147483651)) 35)), some (some (zi_copy 38)), none, none, some (some (zi_load 1 39)), some (some (zi_inv 33 1 (some 3) 0 0 42)), none, none, some (some (zi_load 0 43)), some (some (zi_getf 1 3 46)), none, none, some (some (zi_push (.inl (2147483648, 2147483648)) 47)), some (some (zi_load 2 48))],
  [some (some (zi_getf 7 1 51)), none, none, some (some (zi_push (.inl (2147483648, 2147483648)) 52)), some (some (zi_push (.inl (2147483651, 2147483651)) 53)), some (some (zi_copy 56)), none, none, some (some (zi_load 2 57)), some (some (zi_push (.inl (2147483648, 2147483648)) 58)), some (some (zi_putf 7 4 .int 61)), none, none, some (some (zi_load 2 62)), some (some (zi_push (.inl (2147483648, 2147483648)) 63)), some (some (zi_putf 7 5 .int 66))],
  [none, none, some (some (zi_load 2 67)), some (some (zi_push (.inl (2147483648, 2147483648)) 68)), some (some (zi_putf 7 6 .int 71)), none, none, some (some (zi_load 0 72)), some (some (zi_load 2 73)), some (some (zi_getf 7 0 76)), none, none, some (some (zi_getf 2 1 79)), none, none, some (some (zi_inv 18 2 (some 1) 0 0 82))],
  [none, none, some (some (zi_load 2 83)), some (some (zi_getf 7 0 86)), none, none, some (some (zi_load 0 87)), some (some (zi_getf 1 6 90)), none, none, some (some (zi_putf 2 5 .int 93)), none, none, some (some (zi_load 2 94)), some (some (zi_getf 7 0 97)), none],
  [none, some (some (zi_load 0 98)), some (some (zi_getf 1 7 101)), none, none, some (some (zi_putf 2 6 .int 104)), none, none, some (some (zi_load 2 105)), some (some (zi_getf 7 0 108)), none, none, some (some (zi_load 0 109)), some (some (zi_getf 1 9 112)), none, none],
  [some (some (zi_push (.inl (2147483656, 2147483656)) 114)), none, some (some (zi_bin zi_and 115)), some (some (zi_if zi_eq 122 118)), none, none, some (some (zi_push (.inl (2147483649, 2147483649)) 119)), some (some (zi_go 123)), none, none, some (some (zi_push (.inl (2147483648, 2147483648)) 123)), some (some (zi_putf 2 7 .boolean 126)), none, none, some (some (zi_load 2 127)), some (some (zi_getf 7 0 130))],
  [none, none, some (some (zi_inv 21 1 (some 2) 0 0 133)), none, none, some none]]
def zt_X1_raise : zi_T := [[some (some (zi_load 1 1)), some (some (zi_push (.inl (2147483648, 2147483648)) 2)), some (some (zi_inv 221 2 none 0 0 5)), none, none, some (some (zi_push (.inl (2147483648, 2147483648)) 6)), some (some (zi_store 2 7)), some (some (zi_load 2 8)), some (some (zi_load 0 9)), some (some (zi_getf 1 5 12)), none, none, some (some (zi_ic zi_ge 59 15)), none, none, some (some (zi_push (.inl (2147483648, 2147483648)) 16))],
  [some (some (zi_store 3 17)), some (some (zi_load 3 18)), some (some (zi_load 0 19)), some (some (zi_getf 1 4 22)), none, none, some (some (zi_ic zi_ge 53 25)), none, none, some (some (zi_load 1 26)), some (some (zi_load 2 27)), some (some (zi_load 0 28)), some (some (zi_getf 1 4 31)), none, none, some (some (zi_bin zi_mul 32))],
  [some (some (zi_load 3 33)), some (some (zi_bin zi_add 34)), some (some (zi_push (.inl (2147483651, 2147483651)) 35)), some (some (zi_load 0 36)), some (some (zi_getf 1 0 39)), none, none, some (some (zi_load 2 40)), some (some (zi_push (.inl (2147483653, 2147483653)) 41)), some (some (zi_bin zi_mul 42)), some (some (zi_load 3 43)), some (some (zi_bin zi_add 44)), some (some (zi_ald .int 45)), some (some (zi_bin zi_mul 46)), some (some (zi_ast .int 47)), some (some (zi_inc 3 (2147483649, 2147483649) 50))],
  [none, none, some (some (zi_go 17)), none, none, some (some (zi_inc 2 (2147483649, 2147483649) 56)), none, none, some (some (zi_go 7)), none, none, some none]]
def zt_X2_init : zi_T := [[some (some (zi_load 0 1)), some (some (zi_obj 4)), none, none, some (some (zi_load 0 5)), some (some (zi_push (.inl (2147483673, 2147483673)) 7)), none, some (some (zi_newa .int 9)), none, some (some (zi_putf 2 1 (.array .int) 12)), none, none, some (some (zi_load 0 13)), some (some (zi_push (.inl (2147483673, 2147483673)) 15)), none, some (some (zi_newa .int 17))],
  [none, some (some (zi_putf 2 2 (.array .int) 20)), none, none, some (some (zi_load 0 21)), some (some (zi_load 1 22)), some (some (zi_putf 2 0 (.object "RiverDiggers$Land") 25)), none, none, some none]]
def zt_X2_copy : zi_T := [[some (some (zi_load 1 1)), some (some (zi_getf 2 1 4)), none, none, some (some (zi_push (.inl (2147483648, 2147483648)) 5)), some (some (zi_load 0 6)), some (some (zi_getf 2 1 9)), none, none, some (some (zi_push (.inl (2147483648, 2147483648)) 10)), some (some (zi_push (.inl (2147483673, 2147483673)) 12)), none, some (some (zi_copy 15)), none, none, some (some (zi_load 1 16))],
  [some (some (zi_getf 2 2 19)), none, none, some (some (zi_push (.inl (2147483648, 2147483648)) 20)), some (some (zi_load 0 21)), some (some (zi_getf 2 2 24)), none, none, some (some (zi_push (.inl (2147483648, 2147483648)) 25)), some (some (zi_push (.inl (2147483673, 2147483673)) 27)), none, some (some (zi_copy 30)), none, none, some (some (zi_load 0 31)), some (some (zi_load 1 32))],
  [some (some (zi_getf 2 3 35)), none, none, some (some (zi_putf 2 3 .int 38)), none, none, some (some (zi_load 0 39)), some (some (zi_load 1 40)), some (some (zi_getf 2 4 43)), none, none, some (some (zi_putf 2 4 .int 46)), none, none, some (some (zi_load 0 47)), some (some (zi_load 1 48))],
  [some (some (zi_getf 2 5 51)), none, none, some (some (zi_putf 2 5 .int 54)), none, none, some (some (zi_load 0 55)), some (some (zi_load 1 56)), some (some (zi_getf 2 6 59)), none, none, some (some (zi_putf 2 6 .int 62)), none, none, some (some (zi_load 0 63)), some (some (zi_load 1 64))],
  [some (some (zi_getf 2 7 67)), none, none, some (some (zi_putf 2 7 .boolean 70)), none, none, some none]]
def zt_X2_trace : zi_T := [[some (some (zi_load 0 1)), some (some (zi_push (.inl (2147483648, 2147483648)) 2)), some (some (zi_putf 2 3 .int 5)), none, none, some (some (zi_load 0 6)), some (some (zi_push (.inl (2147483648, 2147483648)) 7)), some (some (zi_putf 2 4 .int 10)), none, none, some (some (zi_load 0 11)), some (some (zi_getf 2 5 14)), none, none, some (some (zi_store 1 15)), some (some (zi_load 1 16))],
  [some (some (zi_if zi_lt 69 19)), none, none, some (some (zi_load 0 20)), some (some (zi_getf 2 3 23)), none, none, some (some (zi_push (.inl (2147483673, 2147483673)) 25)), none, some (some (zi_ic zi_ge 69 28)), none, none, some (some (zi_load 0 29)), some (some (zi_getf 2 2 32)), none, none],
  [some (some (zi_load 0 33)), some (some (zi_getf 2 3 36)), none, none, some (some (zi_load 1 37)), some (some (zi_ast .int 38)), some (some (zi_load 0 39)), some (some (zi_dup 40)), some (some (zi_getf 2 3 43)), none, none, some (some (zi_push (.inl (2147483649, 2147483649)) 44)), some (some (zi_bin zi_add 45)), some (some (zi_putf 2 3 .int 48)), none, none],
  [some (some (zi_load 0 49)), some (some (zi_dup 50)), some (some (zi_getf 2 4 53)), none, none, some (some (zi_push (.inl (2147483649, 2147483649)) 54)), some (some (zi_load 1 55)), some (some (zi_bin zi_shl 56)), some (some (zi_bin zi_or 57)), some (some (zi_putf 2 4 .int 60)), none, none, some (some (zi_load 0 61)), some (some (zi_load 1 62)), some (some (zi_inv 22 2 (some 2) 0 0 65)), none],
  [none, some (some (zi_store 1 66)), some (some (zi_go 15)), none, none, some none]]
def zt_X2_lowestNextTo : zi_T := [[some (some (zi_push (.inl (2147483647, 2147483647)) 1)), some (some (zi_store 2 2)), some (some (zi_push (.inl (2147483648, 2147483648)) 3)), some (some (zi_store 3 4)), some (some (zi_load 3 5)), some (some (zi_push (.inl (2147483652, 2147483652)) 6)), some (some (zi_ic zi_ge 98 9)), none, none, some (some (zi_load 0 10)), some (some (zi_getf 2 0 13)), none, none, some (some (zi_getf 3 1 16)), none, none],
  [some (some (zi_load 1 17)), some (some (zi_push (.inl (2147483652, 2147483652)) 18)), some (some (zi_bin zi_mul 19)), some (some (zi_load 3 20)), some (some (zi_bin zi_add 21)), some (some (zi_ald .int 22)), some (some (zi_store 4 24)), none, some (some (zi_load 4 26)), none, some (some (zi_if zi_lt 61 29)), none, none, some (some (zi_load 0 30)), some (some (zi_getf 2 4 33)), none],
  [none, some (some (zi_load 4 35)), none, some (some (zi_inv 90 2 none 0 0 38)), none, none, some (some (zi_if zi_ne 61 41)), none, none, some (some (zi_load 0 42)), some (some (zi_getf 2 1 45)), none, none, some (some (zi_load 4 47)), none, some (some (zi_ald .int 48))],
  [some (some (zi_load 0 49)), some (some (zi_getf 2 1 52)), none, none, some (some (zi_load 1 53)), some (some (zi_ald .int 54)), some (some (zi_ic zi_gt 61 57)), none, none, some (some (zi_push (.inl (2147483649, 2147483649)) 58)), some (some (zi_go 62)), none, none, some (some (zi_push (.inl (2147483648, 2147483648)) 62)), some (some (zi_store 5 64)), none],
  [some (some (zi_load 5 66)), none, some (some (zi_if zi_eq 92 69)), none, none, some (some (zi_load 2 70)), some (some (zi_if zi_lt 89 73)), none, none, some (some (zi_load 0 74)), some (some (zi_getf 2 1 77)), none, none, some (some (zi_load 4 79)), none, some (some (zi_ald .int 80))],
  [some (some (zi_load 0 81)), some (some (zi_getf 2 1 84)), none, none, some (some (zi_load 2 85)), some (some (zi_ald .int 86)), some (some (zi_ic zi_ge 92 89)), none, none, some (some (zi_load 4 91)), none, some (some (zi_store 2 92)), some (some (zi_inc 3 (2147483649, 2147483649) 95)), none, none, some (some (zi_go 4))],
  [none, none, some (some (zi_load 2 99)), some none]]
def zt_X2_cuttable : zi_T := [[some (some (zi_load 0 1)), some (some (zi_getf 2 0 4)), none, none, some (some (zi_load 1 5)), some (some (zi_inv 31 2 (some 3) 0 0 8)), none, none, some (some (zi_if zi_ne 13 11)), none, none, some (some (zi_push (.inl (2147483648, 2147483648)) 12)), some none, some (some (zi_push (.inl (2147483648, 2147483648)) 14)), some (some (zi_store 2 15)), some (some (zi_push (.inl (2147483648, 2147483648)) 16))],
  [some (some (zi_store 3 17)), some (some (zi_load 3 18)), some (some (zi_push (.inl (2147483673, 2147483673)) 20)), none, some (some (zi_ic zi_ge 61 23)), none, none, some (some (zi_load 0 24)), some (some (zi_getf 2 0 27)), none, none, some (some (zi_getf 3 0 30)), none, none, some (some (zi_load 1 31)), some (some (zi_ald .int 32))],
  [some (some (zi_load 3 33)), some (some (zi_inv 90 2 none 0 0 36)), none, none, some (some (zi_if zi_eq 55 39)), none, none, some (some (zi_load 0 40)), some (some (zi_getf 2 1 43)), none, none, some (some (zi_load 3 44)), some (some (zi_ald .int 45)), some (some (zi_push (.inl (2147483651, 2147483651)) 46)), some (some (zi_ic zi_lt 55 49)), none],
  [none, some (some (zi_load 2 50)), some (some (zi_push (.inl (2147483649, 2147483649)) 51)), some (some (zi_load 3 52)), some (some (zi_bin zi_shl 53)), some (some (zi_bin zi_or 54)), some (some (zi_store 2 55)), some (some (zi_inc 3 (2147483649, 2147483649) 58)), none, none, some (some (zi_go 17)), none, none, some (some (zi_load 0 62)), some (some (zi_getf 2 6 65)), none],
  [none, some (some (zi_push (.inl (2147483649, 2147483649)) 66)), some (some (zi_ic zi_ne 88 69)), none, none, some (some (zi_load 2 70)), some (some (zi_load 0 71)), some (some (zi_getf 2 4 74)), none, none, some (some (zi_load 0 75)), some (some (zi_getf 2 0 78)), none, none, some (some (zi_load 0 79)), some (some (zi_getf 2 4 82))],
  [none, none, some (some (zi_inv 34 2 (some 3) 0 0 85)), none, none, some (some (zi_bin zi_or 86)), some (some (zi_bin zi_and 87)), some none, some (some (zi_load 0 89)), some (some (zi_getf 2 6 92)), none, none, some (some (zi_push (.inl (2147483650, 2147483650)) 93)), some (some (zi_ic zi_ne 119 96)), none, none],
  [some (some (zi_load 2 97)), some (some (zi_load 0 98)), some (some (zi_getf 2 0 101)), none, none, some (some (zi_load 0 102)), some (some (zi_getf 2 4 105)), none, none, some (some (zi_inv 34 2 (some 3) 0 0 108)), none, none, some (some (zi_bin zi_and 109)), some (some (zi_load 0 110)), some (some (zi_getf 2 4 113)), none],
  [none, some (some (zi_push (.inl (2147483647, 2147483647)) 114)), some (some (zi_bin zi_xor 115)), some (some (zi_bin zi_and 116)), some (some (zi_go 120)), none, none, some (some (zi_load 2 120)), some none]]
def zt_X2_refused : zi_T := [[some (some (zi_push (.inl (2147483648, 2147483648)) 1)), some (some (zi_store 2 2)), some (some (zi_load 2 3)), some (some (zi_push (.inl (2147483651, 2147483651)) 4)), some (some (zi_ic zi_ge 39 7)), none, none, some (some (zi_load 1 8)), some (some (zi_load 2 9)), some (some (zi_inv 88 2 none 0 0 12)), none, none, some (some (zi_store 3 13)), some (some (zi_load 3 14)), some (some (zi_if zi_eq 33 17)), none],
  [none, some (some (zi_load 0 18)), some (some (zi_load 2 19)), some (some (zi_inv 23 2 (some 2) 0 0 22)), none, none, some (some (zi_load 3 23)), some (some (zi_push (.inl (2147483649, 2147483649)) 24)), some (some (zi_bin zi_sub 25)), some (some (zi_inv 90 2 none 0 0 28)), none, none, some (some (zi_if zi_ne 33 31)), none, none, some (some (zi_load 2 32))],
  [some none, some (some (zi_inc 2 (2147483649, 2147483649) 36)), none, none, some (some (zi_go 2)), none, none, some (some (zi_push (.inl (2147483647, 2147483647)) 40)), some none]]
def zt_X2_possibleYears : zi_T := [[some (some (zi_push (.inl (2147483649, 2147483649)) 1)), some (some (zi_store 1 2)), some (some (zi_push (.inl (2147483648, 2147483648)) 3)), some (some (zi_store 2 4)), some (some (zi_load 2 5)), some (some (zi_load 0 6)), some (some (zi_getf 2 0 9)), none, none, some (some (zi_getf 3 4 12)), none, none, some (some (zi_ic zi_ge 34 15)), none, none, some (some (zi_load 1 16))],
  [some (some (zi_push (.inl (2147483649, 2147483649)) 17)), some (some (zi_load 0 18)), some (some (zi_load 2 19)), some (some (zi_inv 23 2 (some 2) 0 0 22)), none, none, some (some (zi_inv 210 1 none 0 0 25)), none, none, some (some (zi_bin zi_add 26)), some (some (zi_bin zi_mul 27)), some (some (zi_store 1 28)), some (some (zi_inc 2 (2147483649, 2147483649) 31)), none, none, some (some (zi_go 4))],
  [none, none, some (some (zi_load 1 35)), some none]]
def zt_X2_allParts : zi_T := [[some (some (zi_push (.inl (2147483648, 2147483648)) 1)), some (some (zi_store 1 2)), some (some (zi_push (.inl (2147483648, 2147483648)) 3)), some (some (zi_store 2 4)), some (some (zi_load 2 5)), some (some (zi_push (.inl (2147483673, 2147483673)) 7)), none, some (some (zi_ic zi_ge 25 10)), none, none, some (some (zi_load 1 11)), some (some (zi_load 0 12)), some (some (zi_getf 2 1 15)), none, none, some (some (zi_load 2 16))],
  [some (some (zi_ald .int 17)), some (some (zi_bin zi_add 18)), some (some (zi_store 1 19)), some (some (zi_inc 2 (2147483649, 2147483649) 22)), none, none, some (some (zi_go 4)), none, none, some (some (zi_load 1 26)), some none]]
def zt_X2_pass : zi_T := [[some (some (zi_push (.inl (2147483648, 2147483648)) 1)), some (some (zi_store 2 2)), some (some (zi_load 2 3)), some (some (zi_push (.inl (2147483651, 2147483651)) 4)), some (some (zi_ic zi_ge 35 7)), none, none, some (some (zi_load 1 8)), some (some (zi_load 2 9)), some (some (zi_inv 88 2 none 0 0 12)), none, none, some (some (zi_store 3 13)), some (some (zi_load 3 14)), some (some (zi_if zi_le 29 17)), none],
  [none, some (some (zi_load 0 18)), some (some (zi_getf 2 1 21)), none, none, some (some (zi_load 3 22)), some (some (zi_push (.inl (2147483649, 2147483649)) 23)), some (some (zi_bin zi_sub 24)), some (some (zi_dup2 25)), some (some (zi_ald .int 26)), some (some (zi_push (.inl (2147483651, 2147483651)) 27)), some (some (zi_bin zi_sub 28)), some (some (zi_ast .int 29)), some (some (zi_inc 2 (2147483649, 2147483649) 32)), none, none],
  [some (some (zi_go 2)), none, none, some (some (zi_load 0 36)), some (some (zi_inv 21 1 (some 2) 0 0 39)), none, none, some (some (zi_load 0 40)), some (some (zi_getf 2 7 43)), none, none, some (some (zi_if zi_eq 62 46)), none, none, some (some (zi_load 0 47)), some (some (zi_getf 2 3 50))],
  [none, none, some (some (zi_push (.inl (2147483652, 2147483652)) 51)), some (some (zi_ic zi_lt 62 54)), none, none, some (some (zi_load 0 55)), some (some (zi_inv 28 1 (some 2) 0 0 58)), none, none, some (some (zi_load 0 59)), some (some (zi_inv 21 1 (some 2) 0 0 62)), none, none, some none]]
def zt_X2_carrySilt : zi_T := [[some (some (zi_push (.inl (2147483648, 2147483648)) 1)), some (some (zi_store 1 2)), some (some (zi_push (.inl (2147483649, 2147483649)) 3)), some (some (zi_store 2 4)), some (some (zi_load 2 5)), some (some (zi_push (.inl (2147483651, 2147483651)) 6)), some (some (zi_ic zi_gt 47 9)), none, none, some (some (zi_load 0 10)), some (some (zi_getf 2 1 13)), none, none, some (some (zi_load 0 14)), some (some (zi_getf 2 2 17)), none],
  [none, some (some (zi_load 2 18)), some (some (zi_ald .int 19)), some (some (zi_ald .int 20)), some (some (zi_if zi_le 41 23)), none, none, some (some (zi_load 0 24)), some (some (zi_getf 2 1 27)), none, none, some (some (zi_load 0 28)), some (some (zi_getf 2 2 31)), none, none, some (some (zi_load 2 32))],
  [some (some (zi_ald .int 33)), some (some (zi_dup2 34)), some (some (zi_ald .int 35)), some (some (zi_push (.inl (2147483649, 2147483649)) 36)), some (some (zi_bin zi_sub 37)), some (some (zi_ast .int 38)), some (some (zi_inc 1 (2147483649, 2147483649) 41)), none, none, some (some (zi_inc 2 (2147483649, 2147483649) 44)), none, none, some (some (zi_go 4)), none, none, some (some (zi_load 0 48))],
  [some (some (zi_getf 2 1 51)), none, none, some (some (zi_load 0 52)), some (some (zi_getf 2 2 55)), none, none, some (some (zi_load 0 56)), some (some (zi_getf 2 3 59)), none, none, some (some (zi_push (.inl (2147483649, 2147483649)) 60)), some (some (zi_bin zi_sub 61)), some (some (zi_ald .int 62)), some (some (zi_dup2 63)), some (some (zi_ald .int 64))],
  [some (some (zi_load 1 65)), some (some (zi_bin zi_add 66)), some (some (zi_ast .int 67)), some none]]
def zt_X3_init : zi_T := [[some (some (zi_load 0 1)), some (some (zi_obj 4)), none, none, some (some (zi_load 0 5)), some (some (zi_push (.inl (2147483651, 2147483651)) 6)), some (some (zi_newa .int 8)), none, some (some (zi_putf 3 0 (.array .int) 11)), none, none, some (some (zi_load 0 12)), some (some (zi_push (.inl (2147483748, 2147483748)) 14)), none, some (some (zi_newa .int 16)), none],
  [some (some (zi_putf 3 1 (.array .int) 19)), none, none, some none]]
def zt_X3_hasCell : zi_T := [[some (some (zi_load 1 1)), some (some (zi_if zi_lt 21 4)), none, none, some (some (zi_load 1 5)), some (some (zi_load 0 6)), some (some (zi_getf 3 2 9)), none, none, some (some (zi_load 0 10)), some (some (zi_getf 3 3 13)), none, none, some (some (zi_bin zi_mul 14)), some (some (zi_ic zi_ge 21 17)), none],
  [none, some (some (zi_push (.inl (2147483649, 2147483649)) 18)), some (some (zi_go 22)), none, none, some (some (zi_push (.inl (2147483648, 2147483648)) 22)), some none]]
def zt_X3_hasFarm : zi_T := [[some (some (zi_load 1 1)), some (some (zi_if zi_lt 16 4)), none, none, some (some (zi_load 1 5)), some (some (zi_load 0 6)), some (some (zi_getf 3 4 9)), none, none, some (some (zi_ic zi_ge 16 12)), none, none, some (some (zi_push (.inl (2147483649, 2147483649)) 13)), some (some (zi_go 17)), none, none],
  [some (some (zi_push (.inl (2147483648, 2147483648)) 17)), some none]]
def zt_X3_ownerOf : zi_T := [[some (some (zi_push (.inl (2147483648, 2147483648)) 1)), some (some (zi_store 2 2)), some (some (zi_load 2 3)), some (some (zi_load 0 4)), some (some (zi_getf 3 4 7)), none, none, some (some (zi_ic zi_ge 31 10)), none, none, some (some (zi_load 0 11)), some (some (zi_getf 3 0 14)), none, none, some (some (zi_load 2 15)), some (some (zi_ald .int 16))],
  [some (some (zi_load 1 17)), some (some (zi_inv 90 2 none 0 0 20)), none, none, some (some (zi_if zi_eq 25 23)), none, none, some (some (zi_load 2 24)), some none, some (some (zi_inc 2 (2147483649, 2147483649) 28)), none, none, some (some (zi_go 2)), none, none, some (some (zi_push (.inl (2147483644, 2147483644)) 33))],
  [none, some none]]
def zt_X3_join : zi_T := [[some (some (zi_push (.inl (2147483648, 2147483648)) 1)), some (some (zi_store 1 2)), some (some (zi_load 1 3)), some (some (zi_load 0 4)), some (some (zi_getf 3 3 7)), none, none, some (some (zi_ic zi_ge 141 10)), none, none, some (some (zi_push (.inl (2147483648, 2147483648)) 11)), some (some (zi_store 2 12)), some (some (zi_load 2 13)), some (some (zi_load 0 14)), some (some (zi_getf 3 2 17)), none],
  [none, some (some (zi_ic zi_ge 135 20)), none, none, some (some (zi_load 1 21)), some (some (zi_load 0 22)), some (some (zi_getf 3 2 25)), none, none, some (some (zi_bin zi_mul 26)), some (some (zi_load 2 27)), some (some (zi_bin zi_add 28)), some (some (zi_store 3 29)), some (some (zi_load 0 30)), some (some (zi_getf 3 1 33)), none],
  [none, some (some (zi_load 3 34)), some (some (zi_push (.inl (2147483652, 2147483652)) 35)), some (some (zi_bin zi_mul 36)), some (some (zi_load 1 37)), some (some (zi_if zi_le 49 40)), none, none, some (some (zi_load 3 41)), some (some (zi_load 0 42)), some (some (zi_getf 3 2 45)), none, none, some (some (zi_bin zi_sub 46)), some (some (zi_go 50)), none],
  [none, some (some (zi_push (.inl (2147483647, 2147483647)) 50)), some (some (zi_ast .int 51)), some (some (zi_load 0 52)), some (some (zi_getf 3 1 55)), none, none, some (some (zi_load 3 56)), some (some (zi_push (.inl (2147483652, 2147483652)) 57)), some (some (zi_bin zi_mul 58)), some (some (zi_push (.inl (2147483649, 2147483649)) 59)), some (some (zi_bin zi_add 60)), some (some (zi_load 2 61)), some (some (zi_push (.inl (2147483649, 2147483649)) 62)), some (some (zi_bin zi_add 63)), some (some (zi_load 0 64))],
  [some (some (zi_getf 3 2 67)), none, none, some (some (zi_ic zi_ge 76 70)), none, none, some (some (zi_load 3 71)), some (some (zi_push (.inl (2147483649, 2147483649)) 72)), some (some (zi_bin zi_add 73)), some (some (zi_go 77)), none, none, some (some (zi_push (.inl (2147483647, 2147483647)) 77)), some (some (zi_ast .int 78)), some (some (zi_load 0 79)), some (some (zi_getf 3 1 82))],
  [none, none, some (some (zi_load 3 83)), some (some (zi_push (.inl (2147483652, 2147483652)) 84)), some (some (zi_bin zi_mul 85)), some (some (zi_push (.inl (2147483650, 2147483650)) 86)), some (some (zi_bin zi_add 87)), some (some (zi_load 1 88)), some (some (zi_push (.inl (2147483649, 2147483649)) 89)), some (some (zi_bin zi_add 90)), some (some (zi_load 0 91)), some (some (zi_getf 3 3 94)), none, none, some (some (zi_ic zi_ge 106 97)), none],
  [none, some (some (zi_load 3 98)), some (some (zi_load 0 99)), some (some (zi_getf 3 2 102)), none, none, some (some (zi_bin zi_add 103)), some (some (zi_go 107)), none, none, some (some (zi_push (.inl (2147483647, 2147483647)) 107)), some (some (zi_ast .int 108)), some (some (zi_load 0 109)), some (some (zi_getf 3 1 112)), none, none],
  [some (some (zi_load 3 113)), some (some (zi_push (.inl (2147483652, 2147483652)) 114)), some (some (zi_bin zi_mul 115)), some (some (zi_push (.inl (2147483651, 2147483651)) 116)), some (some (zi_bin zi_add 117)), some (some (zi_load 2 118)), some (some (zi_if zi_le 127 121)), none, none, some (some (zi_load 3 122)), some (some (zi_push (.inl (2147483649, 2147483649)) 123)), some (some (zi_bin zi_sub 124)), some (some (zi_go 128)), none, none, some (some (zi_push (.inl (2147483647, 2147483647)) 128))],
  [some (some (zi_ast .int 129)), some (some (zi_inc 2 (2147483649, 2147483649) 132)), none, none, some (some (zi_go 12)), none, none, some (some (zi_inc 1 (2147483649, 2147483649) 138)), none, none, some (some (zi_go 2)), none, none, some none]]
def zt_X3_beside : zi_T := [[some (some (zi_push (.inl (2147483648, 2147483648)) 1)), some (some (zi_store 2 2)), some (some (zi_push (.inl (2147483648, 2147483648)) 3)), some (some (zi_store 3 4)), some (some (zi_load 3 5)), some (some (zi_load 0 6)), some (some (zi_getf 3 2 9)), none, none, some (some (zi_load 0 10)), some (some (zi_getf 3 3 13)), none, none, some (some (zi_bin zi_mul 14)), some (some (zi_push (.inl (2147483652, 2147483652)) 15)), some (some (zi_bin zi_mul 16))],
  [some (some (zi_ic zi_ge 55 19)), none, none, some (some (zi_load 0 20)), some (some (zi_getf 3 1 23)), none, none, some (some (zi_load 3 24)), some (some (zi_ald .int 25)), some (some (zi_if zi_lt 49 28)), none, none, some (some (zi_load 1 29)), some (some (zi_load 3 30)), some (some (zi_push (.inl (2147483652, 2147483652)) 31)), some (some (zi_dv zi_div 32))],
  [some (some (zi_inv 90 2 none 0 0 35)), none, none, some (some (zi_if zi_eq 49 38)), none, none, some (some (zi_load 2 39)), some (some (zi_push (.inl (2147483649, 2147483649)) 40)), some (some (zi_load 0 41)), some (some (zi_getf 3 1 44)), none, none, some (some (zi_load 3 45)), some (some (zi_ald .int 46)), some (some (zi_bin zi_shl 47)), some (some (zi_bin zi_or 48))],
  [some (some (zi_store 2 49)), some (some (zi_inc 3 (2147483649, 2147483649) 52)), none, none, some (some (zi_go 4)), none, none, some (some (zi_load 2 56)), some none]]
def zt_X4_init : zi_T := [[some (some (zi_load 0 1)), some (some (zi_obj 4)), none, none, some (some (zi_load 0 5)), some (some (zi_push (.inl (2147483675, 2147483675)) 7)), none, some (some (zi_newa .int 9)), none, some (some (zi_putf 4 0 (.array .int) 12)), none, none, some (some (zi_load 0 13)), some (some (zi_push (.inl (2147483651, 2147483651)) 14)), some (some (zi_newa .int 16)), none],
  [some (some (zi_putf 4 1 (.array .int) 19)), none, none, some (some (zi_load 0 20)), some (some (zi_push (.inl (2147483651, 2147483651)) 21)), some (some (zi_newa .int 23)), none, some (some (zi_putf 4 2 (.array .int) 26)), none, none, some (some (zi_load 0 27)), some (some (zi_push (.inl (2147484377, 2147484377)) 30)), none, none, some (some (zi_newa .int 32)), none],
  [some (some (zi_putf 4 3 (.array .int) 35)), none, none, some (some (zi_load 0 36)), some (some (zi_push (.inl (2147484377, 2147484377)) 39)), none, none, some (some (zi_newa .int 41)), none, some (some (zi_putf 4 4 (.array .int) 44)), none, none, some none]]
def zt_X4_build : zi_T := [[some (some (zi_push (.inl (2147483649, 2147483649)) 1)), some (some (zi_store 3 2)), some (some (zi_push (.inl (2147483648, 2147483648)) 3)), some (some (zi_store 4 5)), none, some (some (zi_load 4 7)), none, some (some (zi_push (.inl (2147483651, 2147483651)) 8)), some (some (zi_ic zi_ge 47 11)), none, none, some (some (zi_load 0 12)), some (some (zi_load 4 14)), none, some (some (zi_load 1 15)), some (some (zi_load 4 17))],
  [none, some (some (zi_inv 23 2 (some 2) 0 0 20)), none, none, some (some (zi_inv 37 3 (some 4) 0 0 23)), none, none, some (some (zi_load 0 24)), some (some (zi_getf 4 2 27)), none, none, some (some (zi_load 4 29)), none, some (some (zi_load 3 30)), some (some (zi_ast .int 31)), some (some (zi_load 3 32))],
  [some (some (zi_load 0 33)), some (some (zi_getf 4 1 36)), none, none, some (some (zi_load 4 38)), none, some (some (zi_ald .int 39)), some (some (zi_bin zi_mul 40)), some (some (zi_store 3 41)), some (some (zi_inc 4 (2147483649, 2147483649) 44)), none, none, some (some (zi_go 5)), none, none, some (some (zi_load 0 48))],
  [some (some (zi_push (.inl (2147483648, 2147483648)) 49)), some (some (zi_putf 4 5 .int 52)), none, none, some (some (zi_push (.inl (2147483648, 2147483648)) 53)), some (some (zi_store 4 55)), none, some (some (zi_load 4 57)), none, some (some (zi_load 0 58)), some (some (zi_getf 4 1 61)), none, none, some (some (zi_push (.inl (2147483650, 2147483650)) 62)), some (some (zi_ald .int 63)), some (some (zi_ic zi_ge 217 66))],
  [none, none, some (some (zi_push (.inl (2147483648, 2147483648)) 67)), some (some (zi_store 5 69)), none, some (some (zi_load 5 71)), none, some (some (zi_load 0 72)), some (some (zi_getf 4 1 75)), none, none, some (some (zi_push (.inl (2147483649, 2147483649)) 76)), some (some (zi_ald .int 77)), some (some (zi_ic zi_ge 211 80)), none, none],
  [some (some (zi_load 0 81)), some (some (zi_getf 4 0 84)), none, none, some (some (zi_push (.inl (2147483657, 2147483657)) 86)), none, some (some (zi_load 5 88)), none, some (some (zi_bin zi_add 89)), some (some (zi_ald .int 90)), some (some (zi_push (.inl (2147483649, 2147483649)) 91)), some (some (zi_inv 89 2 none 0 0 94)), none, none, some (some (zi_load 0 95)), some (some (zi_getf 4 0 98))],
  [none, none, some (some (zi_push (.inl (2147483666, 2147483666)) 100)), none, some (some (zi_load 4 102)), none, some (some (zi_bin zi_add 103)), some (some (zi_ald .int 104)), some (some (zi_push (.inl (2147483650, 2147483650)) 105)), some (some (zi_inv 89 2 none 0 0 108)), none, none, some (some (zi_bin zi_add 109)), some (some (zi_store 6 111)), none, some (some (zi_push (.inl (2147483648, 2147483648)) 112))],
  [some (some (zi_store 7 114)), none, some (some (zi_load 7 116)), none, some (some (zi_load 0 117)), some (some (zi_getf 4 1 120)), none, none, some (some (zi_push (.inl (2147483648, 2147483648)) 121)), some (some (zi_ald .int 122)), some (some (zi_ic zi_ge 205 125)), none, none, some (some (zi_load 0 126)), some (some (zi_getf 4 5 129)), none],
  [none, some (some (zi_push (.inl (2147484377, 2147484377)) 132)), none, none, some (some (zi_ic zi_ge 205 135)), none, none, some (some (zi_load 0 136)), some (some (zi_getf 4 3 139)), none, none, some (some (zi_load 0 140)), some (some (zi_getf 4 5 143)), none, none, some (some (zi_load 0 144))],
  [some (some (zi_getf 4 0 147)), none, none, some (some (zi_load 7 149)), none, some (some (zi_ald .int 150)), some (some (zi_push (.inl (2147483648, 2147483648)) 151)), some (some (zi_inv 89 2 none 0 0 154)), none, none, some (some (zi_load 6 156)), none, some (some (zi_bin zi_add 157)), some (some (zi_ast .int 158)), some (some (zi_load 2 159)), some (some (zi_load 1 160))],
  [some (some (zi_inv 20 2 (some 2) 0 0 163)), none, none, some (some (zi_load 2 164)), some (some (zi_load 0 165)), some (some (zi_getf 4 3 168)), none, none, some (some (zi_load 0 169)), some (some (zi_getf 4 5 172)), none, none, some (some (zi_ald .int 173)), some (some (zi_inv 27 2 (some 2) 0 0 176)), none, none],
  [some (some (zi_load 0 177)), some (some (zi_getf 4 4 180)), none, none, some (some (zi_load 0 181)), some (some (zi_getf 4 5 184)), none, none, some (some (zi_load 2 185)), some (some (zi_getf 2 4 188)), none, none, some (some (zi_ast .int 189)), some (some (zi_load 0 190)), some (some (zi_dup 191)), some (some (zi_getf 4 5 194))],
  [none, none, some (some (zi_push (.inl (2147483649, 2147483649)) 195)), some (some (zi_bin zi_add 196)), some (some (zi_putf 4 5 .int 199)), none, none, some (some (zi_inc 7 (2147483649, 2147483649) 202)), none, none, some (some (zi_go 114)), none, none, some (some (zi_inc 5 (2147483649, 2147483649) 208)), none, none],
  [some (some (zi_go 69)), none, none, some (some (zi_inc 4 (2147483649, 2147483649) 214)), none, none, some (some (zi_go 55)), none, none, some (some (zi_load 0 218)), some (some (zi_push (.inl (2147483649, 2147483649)) 219)), some (some (zi_putf 4 6 .boolean 222)), none, none, some none]]
def zt_X4_list : zi_T := [[some (some (zi_push (.inl (2147483649, 2147483649)) 1)), some (some (zi_store 3 2)), some (some (zi_load 0 3)), some (some (zi_getf 4 0 6)), none, none, some (some (zi_load 1 7)), some (some (zi_push (.inl (2147483657, 2147483657)) 9)), none, some (some (zi_bin zi_mul 10)), some (some (zi_push (.inl (2147483648, 2147483648)) 11)), some (some (zi_ast .int 12)), some (some (zi_push (.inl (2147483648, 2147483648)) 13)), some (some (zi_store 4 15)), none, some (some (zi_load 4 17))],
  [none, some (some (zi_push (.inl (2147483673, 2147483673)) 19)), none, some (some (zi_ic zi_ge 61 22)), none, none, some (some (zi_load 3 23)), some (some (zi_push (.inl (2147483657, 2147483657)) 25)), none, some (some (zi_ic zi_ge 61 28)), none, none, some (some (zi_load 2 29)), some (some (zi_load 4 31)), none, some (some (zi_inv 90 2 none 0 0 34))],
  [none, none, some (some (zi_if zi_eq 55 37)), none, none, some (some (zi_load 0 38)), some (some (zi_getf 4 0 41)), none, none, some (some (zi_load 1 42)), some (some (zi_push (.inl (2147483657, 2147483657)) 44)), none, some (some (zi_bin zi_mul 45)), some (some (zi_load 3 46)), some (some (zi_bin zi_add 47)), some (some (zi_load 4 49))],
  [none, some (some (zi_push (.inl (2147483649, 2147483649)) 50)), some (some (zi_bin zi_add 51)), some (some (zi_ast .int 52)), some (some (zi_inc 3 (2147483649, 2147483649) 55)), none, none, some (some (zi_inc 4 (2147483649, 2147483649) 58)), none, none, some (some (zi_go 15)), none, none, some (some (zi_load 0 62)), some (some (zi_getf 4 1 65)), none],
  [none, some (some (zi_load 1 66)), some (some (zi_load 3 67)), some (some (zi_ast .int 68)), some none]]
def zt_X4_indexOf : zi_T := [[some (some (zi_push (.inl (2147483648, 2147483648)) 1)), some (some (zi_store 2 2)), some (some (zi_load 2 3)), some (some (zi_load 0 4)), some (some (zi_getf 4 5 7)), none, none, some (some (zi_ic zi_ge 28 10)), none, none, some (some (zi_load 0 11)), some (some (zi_getf 4 3 14)), none, none, some (some (zi_load 2 15)), some (some (zi_ald .int 16))],
  [some (some (zi_load 1 17)), some (some (zi_ic zi_ne 22 20)), none, none, some (some (zi_load 2 21)), some none, some (some (zi_inc 2 (2147483649, 2147483649) 25)), none, none, some (some (zi_go 2)), none, none, some (some (zi_push (.inl (2147483647, 2147483647)) 29)), some none]]
def zt_X4_breakers : zi_T := [[some (some (zi_push (.inl (2147483648, 2147483648)) 1)), some (some (zi_store 3 2)), some (some (zi_push (.inl (2147483648, 2147483648)) 3)), some (some (zi_store 4 5)), none, some (some (zi_load 4 7)), none, some (some (zi_push (.inl (2147483651, 2147483651)) 8)), some (some (zi_ic zi_ge 117 11)), none, none, some (some (zi_load 2 12)), some (some (zi_load 0 13)), some (some (zi_getf 4 2 16)), none, none],
  [some (some (zi_load 4 18)), none, some (some (zi_ald .int 19)), some (some (zi_load 0 20)), some (some (zi_load 4 22)), none, some (some (zi_load 0 23)), some (some (zi_getf 4 3 26)), none, none, some (some (zi_load 2 27)), some (some (zi_ald .int 28)), some (some (zi_load 4 30)), none, some (some (zi_inv 88 2 none 0 0 33)), none],
  [none, some (some (zi_inv 40 3 (some 4) 0 0 36)), none, none, some (some (zi_bin zi_mul 37)), some (some (zi_bin zi_sub 38)), some (some (zi_store 5 40)), none, some (some (zi_load 1 41)), some (some (zi_load 4 43)), none, some (some (zi_load 0 44)), some (some (zi_getf 4 4 47)), none, none, some (some (zi_load 2 48))],
  [some (some (zi_ald .int 49)), some (some (zi_inv 64 3 (some 7) 0 0 52)), none, none, some (some (zi_store 6 54)), none, some (some (zi_push (.inl (2147483648, 2147483648)) 55)), some (some (zi_store 7 57)), none, some (some (zi_load 7 59)), none, some (some (zi_load 0 60)), some (some (zi_getf 4 1 63)), none, none, some (some (zi_load 4 65))],
  [none, some (some (zi_ald .int 66)), some (some (zi_ic zi_ge 111 69)), none, none, some (some (zi_load 1 70)), some (some (zi_load 4 72)), none, some (some (zi_load 0 73)), some (some (zi_getf 4 4 76)), none, none, some (some (zi_load 5 78)), none, some (some (zi_load 7 80)), none],
  [some (some (zi_load 0 81)), some (some (zi_getf 4 2 84)), none, none, some (some (zi_load 4 86)), none, some (some (zi_ald .int 87)), some (some (zi_bin zi_mul 88)), some (some (zi_bin zi_add 89)), some (some (zi_ald .int 90)), some (some (zi_inv 64 3 (some 7) 0 0 93)), none, none, some (some (zi_load 6 95)), none, some (some (zi_ic zi_le 105 98))],
  [none, none, some (some (zi_load 3 99)), some (some (zi_push (.inl (2147483649, 2147483649)) 100)), some (some (zi_load 4 102)), none, some (some (zi_bin zi_shl 103)), some (some (zi_bin zi_or 104)), some (some (zi_store 3 105)), some (some (zi_inc 7 (2147483649, 2147483649) 108)), none, none, some (some (zi_go 57)), none, none, some (some (zi_inc 4 (2147483649, 2147483649) 114))],
  [none, none, some (some (zi_go 5)), none, none, some (some (zi_load 3 118)), some none]]
def zt_X4_placeOf : zi_T := [[some (some (zi_push (.inl (2147483648, 2147483648)) 1)), some (some (zi_store 3 2)), some (some (zi_load 3 3)), some (some (zi_load 0 4)), some (some (zi_getf 4 1 7)), none, none, some (some (zi_load 1 8)), some (some (zi_ald .int 9)), some (some (zi_ic zi_ge 35 12)), none, none, some (some (zi_load 0 13)), some (some (zi_getf 4 0 16)), none, none],
  [some (some (zi_load 1 17)), some (some (zi_push (.inl (2147483657, 2147483657)) 19)), none, some (some (zi_bin zi_mul 20)), some (some (zi_load 3 21)), some (some (zi_bin zi_add 22)), some (some (zi_ald .int 23)), some (some (zi_load 2 24)), some (some (zi_ic zi_ne 29 27)), none, none, some (some (zi_load 3 28)), some none, some (some (zi_inc 3 (2147483649, 2147483649) 32)), none, none],
  [some (some (zi_go 2)), none, none, some (some (zi_push (.inl (2147483648, 2147483648)) 36)), some none]]
def zt_X4_chosen : zi_T := [[some (some (zi_load 2 1)), some (some (zi_if zi_lt 9 4)), none, none, some (some (zi_load 2 5)), some (some (zi_push (.inl (2147483651, 2147483651)) 6)), some (some (zi_ic zi_lt 11 9)), none, none, some (some (zi_load 3 10)), some none, some (some (zi_load 0 12)), some (some (zi_load 1 13)), some (some (zi_load 2 14)), some (some (zi_push (.inl (2147483649, 2147483649)) 15)), some (some (zi_bin zi_add 16))],
  [some (some (zi_load 3 17)), some (some (zi_inv 41 4 (some 4) 0 0 20)), none, none, some (some (zi_store 4 22)), none, some (some (zi_push (.inl (2147483649, 2147483649)) 23)), some (some (zi_store 5 25)), none, some (some (zi_load 5 27)), none, some (some (zi_load 0 28)), some (some (zi_getf 4 1 31)), none, none, some (some (zi_load 2 32))],
  [some (some (zi_ald .int 33)), some (some (zi_ic zi_ge 94 36)), none, none, some (some (zi_load 0 37)), some (some (zi_load 1 38)), some (some (zi_load 2 39)), some (some (zi_push (.inl (2147483649, 2147483649)) 40)), some (some (zi_bin zi_add 41)), some (some (zi_load 3 42)), some (some (zi_load 5 44)), none, some (some (zi_load 0 45)), some (some (zi_getf 4 2 48)), none, none],
  [some (some (zi_load 2 49)), some (some (zi_ald .int 50)), some (some (zi_bin zi_mul 51)), some (some (zi_bin zi_add 52)), some (some (zi_inv 41 4 (some 4) 0 0 55)), none, none, some (some (zi_store 6 57)), none, some (some (zi_load 1 58)), some (some (zi_load 2 59)), some (some (zi_load 0 60)), some (some (zi_getf 4 4 63)), none, none, some (some (zi_load 6 65))],
  [none, some (some (zi_ald .int 66)), some (some (zi_inv 64 3 (some 7) 0 0 69)), none, none, some (some (zi_load 1 70)), some (some (zi_load 2 71)), some (some (zi_load 0 72)), some (some (zi_getf 4 4 75)), none, none, some (some (zi_load 4 77)), none, some (some (zi_ald .int 78)), some (some (zi_inv 64 3 (some 7) 0 0 81)), none],
  [none, some (some (zi_ic zi_le 88 84)), none, none, some (some (zi_load 6 86)), none, some (some (zi_store 4 88)), none, some (some (zi_inc 5 (2147483649, 2147483649) 91)), none, none, some (some (zi_go 25)), none, none, some (some (zi_load 4 96)), none],
  [some none]]
def zt_X5_init : zi_T := [[some (some (zi_load 0 1)), some (some (zi_obj 4)), none, none, some (some (zi_load 0 5)), some (some (zi_push (.inl (2147483652, 2147483652)) 6)), some (some (zi_newa .int 8)), none, some (some (zi_putf 5 0 (.array .int) 11)), none, none, some (some (zi_load 0 12)), some (some (zi_push (.inl (2147483652, 2147483652)) 13)), some (some (zi_newa .int 15)), none, some (some (zi_putf 5 1 (.array .int) 18))],
  [none, none, some (some (zi_load 0 19)), some (some (zi_push (.inl (2147483808, 2147483808)) 22)), none, none, some (some (zi_newa .int 24)), none, some (some (zi_putf 5 2 (.array .int) 27)), none, none, some (some (zi_load 0 28)), some (some (zi_getf 5 1 31)), none, none, some (some (zi_push (.inl (2147483647, 2147483647)) 32))],
  [some (some (zi_inv 221 2 none 0 0 35)), none, none, some none]]
def zt_X5_hasSheet : zi_T := [[some (some (zi_load 1 1)), some (some (zi_if zi_lt 13 4)), none, none, some (some (zi_load 1 5)), some (some (zi_push (.inl (2147483652, 2147483652)) 6)), some (some (zi_ic zi_ge 13 9)), none, none, some (some (zi_push (.inl (2147483649, 2147483649)) 10)), some (some (zi_go 14)), none, none, some (some (zi_push (.inl (2147483648, 2147483648)) 14)), some none]]
def zt_X5_hasLane : zi_T := [[some (some (zi_load 1 1)), some (some (zi_if zi_lt 13 4)), none, none, some (some (zi_load 1 5)), some (some (zi_push (.inl (2147483651, 2147483651)) 6)), some (some (zi_ic zi_ge 13 9)), none, none, some (some (zi_push (.inl (2147483649, 2147483649)) 10)), some (some (zi_go 14)), none, none, some (some (zi_push (.inl (2147483648, 2147483648)) 14)), some none]]
def zt_X5_renew : zi_T := [[some (some (zi_load 0 1)), some (some (zi_getf 5 0 4)), none, none, some (some (zi_load 1 5)), some (some (zi_load 2 6)), some (some (zi_ast .int 7)), some (some (zi_load 0 8)), some (some (zi_getf 5 1 11)), none, none, some (some (zi_load 1 12)), some (some (zi_load 3 13)), some (some (zi_ast .int 14)), some (some (zi_push (.inl (2147483648, 2147483648)) 15)), some (some (zi_store 4 17))],
  [none, some (some (zi_load 4 19)), none, some (some (zi_push (.inl (2147483688, 2147483688)) 21)), none, some (some (zi_ic zi_ge 43 24)), none, none, some (some (zi_load 0 25)), some (some (zi_getf 5 2 28)), none, none, some (some (zi_load 1 29)), some (some (zi_push (.inl (2147483688, 2147483688)) 31)), none, some (some (zi_bin zi_mul 32))],
  [some (some (zi_load 4 34)), none, some (some (zi_bin zi_add 35)), some (some (zi_push (.inl (2147483648, 2147483648)) 36)), some (some (zi_ast .int 37)), some (some (zi_inc 4 (2147483649, 2147483649) 40)), none, none, some (some (zi_go 17)), none, none, some none]]
def zt_X5_takeFault : zi_T := [[some (some (zi_load 0 1)), some (some (zi_getf 5 1 4)), none, none, some (some (zi_load 1 5)), some (some (zi_ald .int 6)), some (some (zi_if zi_lt 23 9)), none, none, some (some (zi_load 0 10)), some (some (zi_getf 5 0 13)), none, none, some (some (zi_load 1 14)), some (some (zi_ald .int 15)), some (some (zi_load 2 16))],
  [some (some (zi_ic zi_eq 23 19)), none, none, some (some (zi_push (.inl (2147483651, 2147483651)) 20)), some (some (zi_go 29)), none, none, some (some (zi_load 0 24)), some (some (zi_load 1 25)), some (some (zi_load 3 26)), some (some (zi_inv 47 3 (some 5) 0 0 29)), none, none, some none]]
def zt_X5_reachFault : zi_T := [[some (some (zi_load 0 1)), some (some (zi_getf 5 1 4)), none, none, some (some (zi_load 1 5)), some (some (zi_ald .int 6)), some (some (zi_if zi_ge 11 9)), none, none, some (some (zi_push (.inl (2147483649, 2147483649)) 10)), some none, some (some (zi_load 2 12)), some (some (zi_if zi_lt 25 15)), none, none, some (some (zi_load 2 16))],
  [some (some (zi_load 0 17)), some (some (zi_getf 5 1 20)), none, none, some (some (zi_load 1 21)), some (some (zi_ald .int 22)), some (some (zi_ic zi_lt 29 25)), none, none, some (some (zi_push (.inl (2147483650, 2147483650)) 26)), some (some (zi_go 30)), none, none, some (some (zi_push (.inl (2147483648, 2147483648)) 30)), some none]]
def zt_X5_valueAt : zi_T := [[some (some (zi_load 0 1)), some (some (zi_getf 5 2 4)), none, none, some (some (zi_load 1 5)), some (some (zi_push (.inl (2147483688, 2147483688)) 7)), none, some (some (zi_bin zi_mul 8)), some (some (zi_load 2 9)), some (some (zi_bin zi_add 10)), some (some (zi_ald .int 11)), some none]]
def zt_X5_put : zi_T := [[some (some (zi_load 0 1)), some (some (zi_getf 5 0 4)), none, none, some (some (zi_load 1 5)), some (some (zi_ald .int 6)), some (some (zi_store 4 8)), none, some (some (zi_load 0 9)), some (some (zi_getf 5 2 12)), none, none, some (some (zi_load 1 13)), some (some (zi_push (.inl (2147483688, 2147483688)) 15)), none, some (some (zi_bin zi_mul 16))],
  [some (some (zi_load 2 17)), some (some (zi_bin zi_add 18)), some (some (zi_load 4 20)), none, some (some (zi_if zi_ne 28 23)), none, none, some (some (zi_load 3 24)), some (some (zi_un zi_i2bf 25)), some (some (zi_go 40)), none, none, some (some (zi_load 4 30)), none, some (some (zi_push (.inl (2147483649, 2147483649)) 31)), some (some (zi_ic zi_ne 39 34))],
  [none, none, some (some (zi_load 3 35)), some (some (zi_un zi_i2sf 36)), some (some (zi_go 40)), none, none, some (some (zi_load 3 40)), some (some (zi_ast .int 41)), some none]]
def zt_X6_init : zi_T := [[some (some (zi_load 0 1)), some (some (zi_obj 4)), none, none, some (some (zi_load 0 5)), some (some (zi_push (.inl (2147483968, 2147483968)) 8)), none, none, some (some (zi_newa .byte 10)), none, some (some (zi_putf 6 0 (.array .byte) 13)), none, none, some none]]
def zt_X6_append : zi_T := [[some (some (zi_load 0 1)), some (some (zi_getf 6 1 4)), none, none, some (some (zi_push (.inl (2147483656, 2147483656)) 6)), none, some (some (zi_bin zi_add 7)), some (some (zi_push (.inl (2147483968, 2147483968)) 10)), none, none, some (some (zi_ic zi_le 15 13)), none, none, some (some (zi_push (.inl (2147483648, 2147483648)) 14)), some none, some (some (zi_push (.inl (2147483648, 2147483648)) 16))],
  [some (some (zi_store 3 17)), some (some (zi_load 3 18)), some (some (zi_push (.inl (2147483656, 2147483656)) 20)), none, some (some (zi_ic zi_ge 51 23)), none, none, some (some (zi_load 0 24)), some (some (zi_getf 6 0 27)), none, none, some (some (zi_load 0 28)), some (some (zi_getf 6 1 31)), none, none, some (some (zi_load 3 32))],
  [some (some (zi_bin zi_add 33)), some (some (zi_load 1 34)), some (some (zi_push (.inl (2147483656, 2147483656)) 36)), none, some (some (zi_push (.inl (2147483655, 2147483655)) 38)), none, some (some (zi_load 3 39)), some (some (zi_bin zi_sub 40)), some (some (zi_bin zi_mul 41)), some (some (zi_shfl zi_lshr 42)), some (some (zi_l2i 43)), some (some (zi_un zi_i2bf 44)), some (some (zi_ast .byte 45)), some (some (zi_inc 3 (2147483649, 2147483649) 48)), none, none],
  [some (some (zi_go 17)), none, none, some (some (zi_load 0 52)), some (some (zi_dup 53)), some (some (zi_getf 6 1 56)), none, none, some (some (zi_push (.inl (2147483656, 2147483656)) 58)), none, some (some (zi_bin zi_add 59)), some (some (zi_putf 6 1 .int 62)), none, none, some (some (zi_push (.inl (2147483649, 2147483649)) 63)), some none]]
def zt_X6_rewind : zi_T := [[some (some (zi_load 0 1)), some (some (zi_push (.inl (2147483648, 2147483648)) 2)), some (some (zi_putf 6 2 .int 5)), none, none, some (some (zi_load 0 6)), some (some (zi_push (.inl (2147483648, 2147483648)) 7)), some (some (zi_putf 6 6 .int 10)), none, none, some (some (zi_load 0 11)), some (some (zi_push (.inl (2147483648, 2147483648)) 12)), some (some (zi_putf 6 7 .int 15)), none, none, some none]]
def zt_X6_fail : zi_T := [[some (some (zi_load 0 1)), some (some (zi_load 1 2)), some (some (zi_putf 6 6 .int 5)), none, none, some (some (zi_load 0 6)), some (some (zi_load 0 7)), some (some (zi_getf 6 4 10)), none, none, some (some (zi_putf 6 7 .int 13)), none, none, some none]]
def zt_X6_failBehindAll : zi_T := [[some (some (zi_load 0 1)), some (some (zi_load 1 2)), some (some (zi_putf 6 6 .int 5)), none, none, some (some (zi_load 0 6)), some (some (zi_load 0 7)), some (some (zi_getf 6 1 10)), none, none, some (some (zi_putf 6 7 .int 13)), none, none, some none]]
def zt_X6_next : zi_T := [[some (some (zi_load 0 1)), some (some (zi_getf 6 2 4)), none, none, some (some (zi_load 0 5)), some (some (zi_getf 6 1 8)), none, none, some (some (zi_ic zi_ge 38 11)), none, none, some (some (zi_load 0 12)), some (some (zi_getf 6 0 15)), none, none, some (some (zi_load 0 16))],
  [some (some (zi_getf 6 2 19)), none, none, some (some (zi_ald .byte 20)), some (some (zi_push (.inl (2147483680, 2147483680)) 22)), none, some (some (zi_ic zi_ne 38 25)), none, none, some (some (zi_load 0 26)), some (some (zi_dup 27)), some (some (zi_getf 6 2 30)), none, none, some (some (zi_push (.inl (2147483649, 2147483649)) 31)), some (some (zi_bin zi_add 32))],
  [some (some (zi_putf 6 2 .int 35)), none, none, some (some (zi_go 0)), none, none, some (some (zi_load 0 39)), some (some (zi_load 0 40)), some (some (zi_getf 6 2 43)), none, none, some (some (zi_putf 6 4 .int 46)), none, none, some (some (zi_load 0 47)), some (some (zi_push (.inl (2147483648, 2147483648)) 48))],
  [some (some (zi_putf 6 5 .int 51)), none, none, some (some (zi_load 0 52)), some (some (zi_getf 6 2 55)), none, none, some (some (zi_load 0 56)), some (some (zi_getf 6 1 59)), none, none, some (some (zi_ic zi_lt 68 62)), none, none, some (some (zi_load 0 63)), some (some (zi_push (.inl (2147483648, 2147483648)) 64))],
  [some (some (zi_putf 6 3 .int 67)), none, none, some none, some (some (zi_load 0 69)), some (some (zi_getf 6 0 72)), none, none, some (some (zi_load 0 73)), some (some (zi_getf 6 2 76)), none, none, some (some (zi_ald .byte 77)), some (some (zi_push (.inl (2147483707, 2147483707)) 79)), none, some (some (zi_ic zi_ne 98 82))],
  [none, none, some (some (zi_load 0 83)), some (some (zi_push (.inl (2147483651, 2147483651)) 84)), some (some (zi_putf 6 3 .int 87)), none, none, some (some (zi_load 0 88)), some (some (zi_dup 89)), some (some (zi_getf 6 2 92)), none, none, some (some (zi_push (.inl (2147483649, 2147483649)) 93)), some (some (zi_bin zi_add 94)), some (some (zi_putf 6 2 .int 97)), none],
  [none, some none, some (some (zi_load 0 99)), some (some (zi_load 0 100)), some (some (zi_getf 6 0 103)), none, none, some (some (zi_load 0 104)), some (some (zi_getf 6 2 107)), none, none, some (some (zi_ald .byte 108)), some (some (zi_inv 56 1 none 0 0 111)), none, none, some (some (zi_if zi_eq 118 114))],
  [none, none, some (some (zi_push (.inl (2147483649, 2147483649)) 115)), some (some (zi_go 119)), none, none, some (some (zi_push (.inl (2147483650, 2147483650)) 119)), some (some (zi_putf 6 3 .int 122)), none, none, some (some (zi_load 0 123)), some (some (zi_getf 6 2 126)), none, none, some (some (zi_load 0 127)), some (some (zi_getf 6 1 130))],
  [none, none, some (some (zi_ic zi_ge 169 133)), none, none, some (some (zi_load 0 134)), some (some (zi_getf 6 3 137)), none, none, some (some (zi_push (.inl (2147483649, 2147483649)) 138)), some (some (zi_ic zi_ne 169 141)), none, none, some (some (zi_load 0 142)), some (some (zi_getf 6 0 145)), none],
  [none, some (some (zi_load 0 146)), some (some (zi_getf 6 2 149)), none, none, some (some (zi_ald .byte 150)), some (some (zi_inv 56 1 none 0 0 153)), none, none, some (some (zi_if zi_eq 169 156)), none, none, some (some (zi_load 0 157)), some (some (zi_dup 158)), some (some (zi_getf 6 2 161)), none],
  [none, some (some (zi_push (.inl (2147483649, 2147483649)) 162)), some (some (zi_bin zi_add 163)), some (some (zi_putf 6 2 .int 166)), none, none, some (some (zi_go 122)), none, none, some (some (zi_load 0 170)), some (some (zi_getf 6 2 173)), none, none, some (some (zi_load 0 174)), some (some (zi_getf 6 1 177)), none],
  [none, some (some (zi_ic zi_ge 240 180)), none, none, some (some (zi_load 0 181)), some (some (zi_getf 6 3 184)), none, none, some (some (zi_push (.inl (2147483650, 2147483650)) 185)), some (some (zi_ic zi_ne 240 188)), none, none, some (some (zi_load 0 189)), some (some (zi_getf 6 0 192)), none, none],
  [some (some (zi_load 0 193)), some (some (zi_getf 6 2 196)), none, none, some (some (zi_ald .byte 197)), some (some (zi_inv 57 1 none 0 0 200)), none, none, some (some (zi_if zi_eq 240 203)), none, none, some (some (zi_load 0 204)), some (some (zi_load 0 205)), some (some (zi_getf 6 5 208)), none, none],
  [some (some (zi_push (.inl (2147483658, 2147483658)) 210)), none, some (some (zi_bin zi_mul 211)), some (some (zi_load 0 212)), some (some (zi_getf 6 0 215)), none, none, some (some (zi_load 0 216)), some (some (zi_getf 6 2 219)), none, none, some (some (zi_ald .byte 220)), some (some (zi_bin zi_add 221)), some (some (zi_push (.inl (2147483696, 2147483696)) 223)), none, some (some (zi_bin zi_sub 224))],
  [some (some (zi_putf 6 5 .int 227)), none, none, some (some (zi_load 0 228)), some (some (zi_dup 229)), some (some (zi_getf 6 2 232)), none, none, some (some (zi_push (.inl (2147483649, 2147483649)) 233)), some (some (zi_bin zi_add 234)), some (some (zi_putf 6 2 .int 237)), none, none, some (some (zi_go 169)), none, none],
  [some (some (zi_load 0 241)), some (some (zi_getf 6 2 244)), none, none, some (some (zi_load 0 245)), some (some (zi_getf 6 4 248)), none, none, some (some (zi_ic zi_eq 272 251)), none, none, some (some (zi_load 0 252)), some (some (zi_getf 6 3 255)), none, none, some (some (zi_push (.inl (2147483650, 2147483650)) 256))],
  [some (some (zi_ic zi_ne 277 259)), none, none, some (some (zi_load 0 260)), some (some (zi_getf 6 2 263)), none, none, some (some (zi_load 0 264)), some (some (zi_getf 6 4 267)), none, none, some (some (zi_bin zi_sub 268)), some (some (zi_push (.inl (2147483650, 2147483650)) 269)), some (some (zi_ic zi_le 277 272)), none, none],
  [some (some (zi_load 0 273)), some (some (zi_push (.inl (2147483649, 2147483649)) 274)), some (some (zi_inv 53 2 (some 6) 0 0 277)), none, none, some none]]
def zt_X6_isLetter : zi_T := [[some (some (zi_load 0 1)), some (some (zi_push (.inl (2147483745, 2147483745)) 3)), none, some (some (zi_ic zi_lt 16 6)), none, none, some (some (zi_load 0 7)), some (some (zi_push (.inl (2147483770, 2147483770)) 9)), none, some (some (zi_ic zi_gt 16 12)), none, none, some (some (zi_push (.inl (2147483649, 2147483649)) 13)), some (some (zi_go 17)), none, none],
  [some (some (zi_push (.inl (2147483648, 2147483648)) 17)), some none]]
def zt_X6_isFigure : zi_T := [[some (some (zi_load 0 1)), some (some (zi_push (.inl (2147483696, 2147483696)) 3)), none, some (some (zi_ic zi_lt 16 6)), none, none, some (some (zi_load 0 7)), some (some (zi_push (.inl (2147483705, 2147483705)) 9)), none, some (some (zi_ic zi_gt 16 12)), none, none, some (some (zi_push (.inl (2147483649, 2147483649)) 13)), some (some (zi_go 17)), none, none],
  [some (some (zi_push (.inl (2147483648, 2147483648)) 17)), some none]]
def zt_X6_says : zi_T := [[some (some (zi_load 0 1)), some (some (zi_getf 6 3 4)), none, none, some (some (zi_push (.inl (2147483649, 2147483649)) 5)), some (some (zi_ic zi_ne 24 8)), none, none, some (some (zi_load 0 9)), some (some (zi_getf 6 2 12)), none, none, some (some (zi_load 0 13)), some (some (zi_getf 6 4 16)), none, none],
  [some (some (zi_bin zi_sub 17)), some (some (zi_load 1 18)), none, none, none, some (some (zi_ic zi_eq 26 24)), none, none, some (some (zi_push (.inl (2147483648, 2147483648)) 25)), some none, some (some (zi_push (.inl (2147483648, 2147483648)) 27)), some (some (zi_store 2 28)), some (some (zi_load 2 29)), some (some (zi_load 1 30)), none, none],
  [none, some (some (zi_ic zi_ge 63 36)), none, none, some (some (zi_load 0 37)), some (some (zi_getf 6 0 40)), none, none, some (some (zi_load 0 41)), some (some (zi_getf 6 4 44)), none, none, some (some (zi_load 2 45)), some (some (zi_bin zi_add 46)), some (some (zi_ald .byte 47)), some (some (zi_load 1 48))],
  [some (some (zi_load 2 49)), none, none, none, some (some (zi_ic zi_eq 57 55)), none, none, some (some (zi_push (.inl (2147483648, 2147483648)) 56)), some none, some (some (zi_inc 2 (2147483649, 2147483649) 60)), none, none, some (some (zi_go 28)), none, none, some (some (zi_push (.inl (2147483649, 2147483649)) 64))],
  [some none]]
def zt_X6_isNumber : zi_T := [[some (some (zi_load 0 1)), some (some (zi_getf 6 6 4)), none, none, some (some (zi_if zi_ne 20 7)), none, none, some (some (zi_load 0 8)), some (some (zi_getf 6 3 11)), none, none, some (some (zi_push (.inl (2147483650, 2147483650)) 12)), some (some (zi_ic zi_eq 20 15)), none, none, some (some (zi_load 0 16))],
  [some (some (zi_push (.inl (2147483650, 2147483650)) 17)), some (some (zi_inv 53 2 (some 6) 0 0 20)), none, none, some (some (zi_load 0 21)), some (some (zi_getf 6 6 24)), none, none, some (some (zi_if zi_ne 48 27)), none, none, some (some (zi_load 0 28)), some (some (zi_getf 6 5 31)), none, none, some (some (zi_load 1 32))],
  [some (some (zi_ic zi_lt 43 35)), none, none, some (some (zi_load 0 36)), some (some (zi_getf 6 5 39)), none, none, some (some (zi_load 2 40)), some (some (zi_ic zi_le 48 43)), none, none, some (some (zi_load 0 44)), some (some (zi_push (.inl (2147483651, 2147483651)) 45)), some (some (zi_inv 53 2 (some 6) 0 0 48)), none, none],
  [some (some (zi_load 0 49)), some (some (zi_getf 6 6 52)), none, none, some (some (zi_if zi_ne 59 55)), none, none, some (some (zi_push (.inl (2147483649, 2147483649)) 56)), some (some (zi_go 60)), none, none, some (some (zi_push (.inl (2147483648, 2147483648)) 60)), some none]]
def zt_X6_nextNumber : zi_T := [[some (some (zi_load 0 1)), some (some (zi_inv 55 1 (some 6) 0 0 4)), none, none, some (some (zi_load 0 5)), some (some (zi_load 1 6)), some (some (zi_load 2 7)), some (some (zi_inv 59 3 (some 6) 0 0 10)), none, none, some none]]
def zt_X6_nextStop : zi_T := [[some (some (zi_load 0 1)), some (some (zi_inv 55 1 (some 6) 0 0 4)), none, none, some (some (zi_load 0 5)), some (some (zi_getf 6 6 8)), none, none, some (some (zi_if zi_ne 24 11)), none, none, some (some (zi_load 0 12)), some (some (zi_getf 6 3 15)), none, none, some (some (zi_push (.inl (2147483651, 2147483651)) 16))],
  [some (some (zi_ic zi_eq 24 19)), none, none, some (some (zi_load 0 20)), some (some (zi_push (.inl (2147483650, 2147483650)) 21)), some (some (zi_inv 53 2 (some 6) 0 0 24)), none, none, some none]]
def zt_X7_init : zi_T := [[some (some (zi_load 0 1)), some (some (zi_obj 4)), none, none, some (some (zi_load 0 5)), some (some (zi_push (.inl (2147483651, 2147483651)) 6)), some (some (zi_newa .int 8)), none, some (some (zi_putf 7 1 (.array .int) 11)), none, none, some (some (zi_load 0 12)), some (some (zi_push (.inl (2147483654, 2147483654)) 14)), none, some (some (zi_newa .int 16)), none],
  [some (some (zi_putf 7 2 (.array .int) 19)), none, none, some (some (zi_load 0 20)), some (some (zi_push (.inl (2147483656, 2147483656)) 22)), none, some (some (zi_newa .int 24)), none, some (some (zi_putf 7 3 (.array .int) 27)), none, none, some (some (zi_load 0 28)), some (some (zi_new 2 8 [.inr (.inr (.inl none)), .inr (.inr (.inl none)), .inr (.inr (.inl none)), (.inl (2147483648, 2147483648)), (.inl (2147483648, 2147483648)), (.inl (2147483648, 2147483648)), (.inl (2147483648, 2147483648)), (.inl (2147483648, 2147483648))] 31)), none, none, some (some (zi_dup 32))],
  [some (some (zi_load 1 33)), some (some (zi_inv 19 2 none 2 50 36)), none, none, some (some (zi_putf 7 0 (.object "RiverDiggers$Flow") 39)), none, none, some none]]
def zt_X7_copy : zi_T := [[some (some (zi_load 0 1)), some (some (zi_getf 7 0 4)), none, none, some (some (zi_load 1 5)), some (some (zi_getf 7 0 8)), none, none, some (some (zi_inv 20 2 (some 2) 0 0 11)), none, none, some (some (zi_load 1 12)), some (some (zi_getf 7 1 15)), none, none, some (some (zi_push (.inl (2147483648, 2147483648)) 16))],
  [some (some (zi_load 0 17)), some (some (zi_getf 7 1 20)), none, none, some (some (zi_push (.inl (2147483648, 2147483648)) 21)), some (some (zi_push (.inl (2147483651, 2147483651)) 22)), some (some (zi_copy 25)), none, none, some (some (zi_load 1 26)), some (some (zi_getf 7 2 29)), none, none, some (some (zi_push (.inl (2147483648, 2147483648)) 30)), some (some (zi_load 0 31)), some (some (zi_getf 7 2 34))],
  [none, none, some (some (zi_push (.inl (2147483648, 2147483648)) 35)), some (some (zi_push (.inl (2147483654, 2147483654)) 37)), none, some (some (zi_copy 40)), none, none, some (some (zi_load 1 41)), some (some (zi_getf 7 3 44)), none, none, some (some (zi_push (.inl (2147483648, 2147483648)) 45)), some (some (zi_load 0 46)), some (some (zi_getf 7 3 49)), none],
  [none, some (some (zi_push (.inl (2147483648, 2147483648)) 50)), some (some (zi_push (.inl (2147483656, 2147483656)) 52)), none, some (some (zi_copy 55)), none, none, some (some (zi_load 0 56)), some (some (zi_load 1 57)), some (some (zi_getf 7 4 60)), none, none, some (some (zi_putf 7 4 .int 63)), none, none, some (some (zi_load 0 64))],
  [some (some (zi_load 1 65)), some (some (zi_getf 7 5 68)), none, none, some (some (zi_putf 7 5 .int 71)), none, none, some (some (zi_load 0 72)), some (some (zi_load 1 73)), some (some (zi_getf 7 6 76)), none, none, some (some (zi_putf 7 6 .int 79)), none, none, some none]]
def zt_X7_gain : zi_T := [[some (some (zi_load 0 1)), some (some (zi_getf 7 0 4)), none, none, some (some (zi_getf 2 0 7)), none, none, some (some (zi_load 1 8)), some (some (zi_inv 31 2 (some 3) 0 0 11)), none, none, some (some (zi_if zi_ne 16 14)), none, none, some (some (zi_push (.inl (2147483648, 2147483648)) 15)), some none],
  [some (some (zi_load 0 17)), some (some (zi_getf 7 1 20)), none, none, some (some (zi_load 1 21)), some (some (zi_ald .int 22)), some (some (zi_load 0 23)), some (some (zi_getf 7 0 26)), none, none, some (some (zi_getf 2 0 29)), none, none, some (some (zi_getf 3 0 32)), none, none],
  [some (some (zi_load 1 33)), some (some (zi_ald .int 34)), some (some (zi_load 2 35)), some (some (zi_bin zi_and 36)), some (some (zi_inv 210 1 none 0 0 39)), none, none, some (some (zi_bin zi_mul 40)), some none]]
def zt_X7_agrees : zi_T := [[some (some (zi_push (.inl (2147483648, 2147483648)) 1)), some (some (zi_store 2 2)), some (some (zi_load 2 3)), some (some (zi_load 0 4)), some (some (zi_getf 7 6 7)), none, none, some (some (zi_ic zi_ge 69 10)), none, none, some (some (zi_load 2 11)), some (some (zi_push (.inl (2147483656, 2147483656)) 13)), none, some (some (zi_ic zi_ge 69 16)), none, none],
  [some (some (zi_load 0 17)), some (some (zi_getf 7 3 20)), none, none, some (some (zi_load 2 21)), some (some (zi_ald .int 22)), some (some (zi_if zi_lt 29 25)), none, none, some (some (zi_push (.inl (2147483649, 2147483649)) 26)), some (some (zi_go 30)), none, none, some (some (zi_push (.inl (2147483648, 2147483648)) 30)), some (some (zi_store 3 31)), some (some (zi_load 1 32))],
  [some (some (zi_load 3 33)), some (some (zi_if zi_eq 45 36)), none, none, some (some (zi_load 0 37)), some (some (zi_getf 7 3 40)), none, none, some (some (zi_load 2 41)), some (some (zi_ald .int 42)), some (some (zi_go 54)), none, none, some (some (zi_load 0 46)), some (some (zi_getf 7 3 49)), none],
  [none, some (some (zi_load 2 50)), some (some (zi_ald .int 51)), some (some (zi_push (.inl (2147483673, 2147483673)) 53)), none, some (some (zi_bin zi_add 54)), some (some (zi_inv 90 2 none 0 0 57)), none, none, some (some (zi_load 3 58)), some (some (zi_ic zi_eq 63 61)), none, none, some (some (zi_push (.inl (2147483648, 2147483648)) 62)), some none, some (some (zi_inc 2 (2147483649, 2147483649) 66))],
  [none, none, some (some (zi_go 2)), none, none, some (some (zi_push (.inl (2147483649, 2147483649)) 70)), some none]]
def zt_X8_init : zi_T := [[some (some (zi_load 0 1)), some (some (zi_obj 4)), none, none, some (some (zi_load 0 5)), some (some (zi_new 3 5 [.inr (.inr (.inl none)), .inr (.inr (.inl none)), (.inl (2147483648, 2147483648)), (.inl (2147483648, 2147483648)), (.inl (2147483648, 2147483648))] 8)), none, none, some (some (zi_dup 9)), some (some (zi_inv 29 1 none 2 103 12)), none, none, some (some (zi_putf 8 0 (.object "RiverDiggers$Land") 15)), none, none, some (some (zi_load 0 16))],
  [some (some (zi_new 7 7 [.inr (.inr (.inl none)), .inr (.inr (.inl none)), .inr (.inr (.inl none)), .inr (.inr (.inl none)), (.inl (2147483648, 2147483648)), (.inl (2147483648, 2147483648)), (.inl (2147483648, 2147483648))] 19)), none, none, some (some (zi_dup 20)), some (some (zi_load 0 21)), some (some (zi_getf 8 0 24)), none, none, some (some (zi_inv 62 2 none 6 75 27)), none, none, some (some (zi_putf 8 1 (.object "RiverDiggers$Times") 30)), none, none, some (some (zi_load 0 31)), some (some (zi_new 7 7 [.inr (.inr (.inl none)), .inr (.inr (.inl none)), .inr (.inr (.inl none)), .inr (.inr (.inl none)), (.inl (2147483648, 2147483648)), (.inl (2147483648, 2147483648)), (.inl (2147483648, 2147483648))] 34))],
  [none, none, some (some (zi_dup 35)), some (some (zi_load 0 36)), some (some (zi_getf 8 0 39)), none, none, some (some (zi_inv 62 2 none 6 75 42)), none, none, some (some (zi_putf 8 2 (.object "RiverDiggers$Times") 45)), none, none, some (some (zi_load 0 46)), some (some (zi_new 7 7 [.inr (.inr (.inl none)), .inr (.inr (.inl none)), .inr (.inr (.inl none)), .inr (.inr (.inl none)), (.inl (2147483648, 2147483648)), (.inl (2147483648, 2147483648)), (.inl (2147483648, 2147483648))] 49)), none],
  [none, some (some (zi_dup 50)), some (some (zi_load 0 51)), some (some (zi_getf 8 0 54)), none, none, some (some (zi_inv 62 2 none 6 75 57)), none, none, some (some (zi_putf 8 3 (.object "RiverDiggers$Times") 60)), none, none, some (some (zi_load 0 61)), some (some (zi_new 2 8 [.inr (.inr (.inl none)), .inr (.inr (.inl none)), .inr (.inr (.inl none)), (.inl (2147483648, 2147483648)), (.inl (2147483648, 2147483648)), (.inl (2147483648, 2147483648)), (.inl (2147483648, 2147483648)), (.inl (2147483648, 2147483648))] 64)), none, none],
  [some (some (zi_dup 65)), some (some (zi_load 0 66)), some (some (zi_getf 8 0 69)), none, none, some (some (zi_inv 19 2 none 2 50 72)), none, none, some (some (zi_putf 8 4 (.object "RiverDiggers$Flow") 75)), none, none, some (some (zi_load 0 76)), some (some (zi_new 4 7 [.inr (.inr (.inl none)), .inr (.inr (.inl none)), .inr (.inr (.inl none)), .inr (.inr (.inl none)), .inr (.inr (.inl none)), (.inl (2147483648, 2147483648)), (.inl (2147483648, 2147483648))] 79)), none, none, some (some (zi_dup 80))],
  [some (some (zi_inv 35 1 none 5 1491 83)), none, none, some (some (zi_putf 8 5 (.object "RiverDiggers$Outlook") 86)), none, none, some (some (zi_load 0 87)), some (some (zi_new 0 3 [.inr (.inr (.inl none)), .inr (.inr (.inl none)), (.inl (2147483648, 2147483648))] 90)), none, none, some (some (zi_dup 91)), some (some (zi_load 0 92)), some (some (zi_getf 8 0 95)), none, none, some (some (zi_new 0 3 [.inr (.inr (.inl none)), .inr (.inr (.inl none)), (.inl (2147483648, 2147483648))] 98))],
  [none, none, some (some (zi_dup 99)), some (some (zi_load 0 100)), some (some (zi_getf 8 0 103)), none, none, some (some (zi_new 0 3 [.inr (.inr (.inl none)), .inr (.inr (.inl none)), (.inl (2147483648, 2147483648))] 106)), none, none, some (some (zi_dup 107)), some (some (zi_load 0 108)), some (some (zi_getf 8 0 111)), none, none, some (some (zi_new 0 3 [.inr (.inr (.inl none)), .inr (.inr (.inl none)), (.inl (2147483648, 2147483648))] 114))],
  [none, none, some (some (zi_dup 115)), some (some (zi_load 0 116)), some (some (zi_getf 8 0 119)), none, none, some (some (zi_push (.inr (.inr (.inl none))) 120)), some (some (zi_inv 0 3 none 3 58 123)), none, none, some (some (zi_inv 0 3 none 3 58 126)), none, none, some (some (zi_inv 0 3 none 3 58 129)), none],
  [none, some (some (zi_inv 0 3 none 3 58 132)), none, none, some (some (zi_putf 8 6 (.object "RiverDiggers$Digger") 135)), none, none, some (some (zi_load 0 136)), some (some (zi_new 6 8 [.inr (.inr (.inl none)), (.inl (2147483648, 2147483648)), (.inl (2147483648, 2147483648)), (.inl (2147483648, 2147483648)), (.inl (2147483648, 2147483648)), (.inl (2147483648, 2147483648)), (.inl (2147483648, 2147483648)), (.inl (2147483648, 2147483648))] 139)), none, none, some (some (zi_dup 140)), some (some (zi_inv 50 1 none 1 320 143)), none, none, some (some (zi_putf 8 7 (.object "RiverDiggers$Tape") 146))],
  [none, none, some (some (zi_load 0 147)), some (some (zi_new 1 10 [.inr (.inr (.inl none)), .inr (.inr (.inl none)), .inr (.inr (.inl none)), .inr (.inr (.inl none)), (.inl (2147483648, 2147483648)), (.inl (2147483648, 2147483648)), (.inl (2147483648, 2147483648)), (.inl (2147483648, 2147483648)), (.inl (2147483648, 2147483648)), (.inl (2147483648, 2147483648))] 150)), none, none, some (some (zi_dup 151)), some (some (zi_inv 4 1 none 4 36 154)), none, none, some (some (zi_putf 8 8 (.object "RiverDiggers$Draft") 157)), none, none, some (some (zi_load 0 158)), some (some (zi_new 5 3 [.inr (.inr (.inl none)), .inr (.inr (.inl none)), .inr (.inr (.inl none))] 161)), none],
  [none, some (some (zi_dup 162)), some (some (zi_inv 42 1 none 3 168 165)), none, none, some (some (zi_putf 8 9 (.object "RiverDiggers$Sheets") 168)), none, none, some (some (zi_load 0 169)), some (some (zi_push (.inl (2147485173, 2147485173)) 172)), none, none, some (some (zi_newa .int 174)), none, some (some (zi_putf 8 10 (.array .int) 177)), none],
  [none, some (some (zi_load 0 178)), some (some (zi_getf 8 8 181)), none, none, some (some (zi_inv 5 1 (some 1) 0 0 184)), none, none, some (some (zi_load 0 185)), some (some (zi_getf 8 8 188)), none, none, some (some (zi_load 0 189)), some (some (zi_getf 8 0 192)), none, none],
  [some (some (zi_load 0 193)), some (some (zi_getf 8 1 196)), none, none, some (some (zi_inv 17 3 (some 1) 0 0 199)), none, none, some none]]
def zt_X8_feed : zi_T := [[some (some (zi_load 0 1)), some (some (zi_getf 8 7 4)), none, none, some (some (zi_load 1 5)), some (some (zi_inv 51 2 (some 6) 0 0 8)), none, none, some (some (zi_if zi_eq 21 11)), none, none, some (some (zi_load 0 12)), some (some (zi_getf 8 7 15)), none, none, some (some (zi_getf 6 1 18))],
  [none, none, some (some (zi_go 23)), none, none, some (some (zi_push (.inl (2147483645, 2147483645)) 23)), none, some none]]
def zt_X8_end : zi_T := [[some (some (zi_load 1 1)), some (some (zi_if zi_lt 15 4)), none, none, some (some (zi_load 1 5)), some (some (zi_load 0 6)), some (some (zi_getf 8 7 9)), none, none, some (some (zi_getf 6 1 12)), none, none, some (some (zi_ic zi_le 17 15)), none, none, some (some (zi_push (.inl (2147483647, 2147483647)) 16))],
  [some none, some (some (zi_load 0 18)), some (some (zi_getf 8 7 21)), none, none, some (some (zi_getf 6 1 24)), none, none, some (some (zi_store 2 25)), some (some (zi_load 0 26)), some (some (zi_getf 8 7 29)), none, none, some (some (zi_load 1 30)), some (some (zi_putf 6 1 .int 33)), none],
  [none, some (some (zi_load 2 34)), some none]]
def zt_X8_text : zi_T := [[some (some (zi_load 0 1)), some (some (zi_getf 8 8 4)), none, none, some (some (zi_load 0 5)), some (some (zi_getf 8 7 8)), none, none, some (some (zi_inv 6 2 (some 1) 0 0 11)), none, none, some (some (zi_store 1 12)), some (some (zi_load 0 13)), some (some (zi_load 0 14)), some (some (zi_getf 8 7 17)), none],
  [none, some (some (zi_getf 6 6 20)), none, none, some (some (zi_putf 8 12 .int 23)), none, none, some (some (zi_load 0 24)), some (some (zi_getf 8 7 27)), none, none, some (some (zi_push (.inl (2147483648, 2147483648)) 28)), some (some (zi_putf 6 1 .int 31)), none, none, some (some (zi_load 0 32))],
  [some (some (zi_getf 8 12 35)), none, none, some (some (zi_if zi_eq 49 38)), none, none, some (some (zi_push (.inl (2147483638, 2147483638)) 40)), none, some (some (zi_load 0 41)), some (some (zi_getf 8 7 44)), none, none, some (some (zi_getf 6 7 47)), none, none, some (some (zi_bin zi_sub 48))],
  [some none, some (some (zi_load 0 50)), some (some (zi_getf 8 8 53)), none, none, some (some (zi_load 0 54)), some (some (zi_getf 8 0 57)), none, none, some (some (zi_load 0 58)), some (some (zi_getf 8 1 61)), none, none, some (some (zi_inv 17 3 (some 1) 0 0 64)), none, none],
  [some (some (zi_load 0 65)), some (some (zi_getf 8 5 68)), none, none, some (some (zi_push (.inl (2147483648, 2147483648)) 69)), some (some (zi_putf 4 6 .boolean 72)), none, none, some (some (zi_load 0 73)), some (some (zi_push (.inl (2147483648, 2147483648)) 74)), some (some (zi_putf 8 11 .int 77)), none, none, some (some (zi_load 1 78)), some none]]
def zt_X8_fault : zi_T := [[some (some (zi_load 0 1)), some (some (zi_getf 8 12 4)), none, none, some none]]
def zt_X8_rule : zi_T := [[some (some (zi_load 1 1)), some (some (zi_tsw 2147483648 2147483654 [44, 52, 60, 71, 79, 90, 109] 117)), none, none, none, none, none, none, none, none, none, none, none, none, none, none],
  [none, none, none, none, none, none, none, none, none, none, none, none, none, none, none, none],
  [none, none, none, none, none, none, none, none, none, none, none, none, some (some (zi_load 0 45)), some (some (zi_getf 8 0 48)), none, none],
  [some (some (zi_getf 3 2 51)), none, none, some none, some (some (zi_load 0 53)), some (some (zi_getf 8 0 56)), none, none, some (some (zi_getf 3 3 59)), none, none, some none, some (some (zi_load 0 61)), some (some (zi_getf 8 1 64)), none, none],
  [some (some (zi_getf 7 0 67)), none, none, some (some (zi_getf 2 5 70)), none, none, some none, some (some (zi_load 0 72)), some (some (zi_getf 8 0 75)), none, none, some (some (zi_getf 3 4 78)), none, none, some none, some (some (zi_load 0 80))],
  [some (some (zi_getf 8 1 83)), none, none, some (some (zi_getf 7 0 86)), none, none, some (some (zi_getf 2 6 89)), none, none, some none, some (some (zi_load 0 91)), some (some (zi_getf 8 1 94)), none, none, some (some (zi_getf 7 0 97)), none],
  [none, some (some (zi_getf 2 7 100)), none, none, some (some (zi_if zi_eq 107 103)), none, none, some (some (zi_push (.inl (2147483649, 2147483649)) 104)), some (some (zi_go 108)), none, none, some (some (zi_push (.inl (2147483648, 2147483648)) 108)), some none, some (some (zi_load 0 110)), some (some (zi_getf 8 1 113)), none],
  [none, some (some (zi_getf 7 4 116)), none, none, some none, some (some (zi_push (.inl (2147483647, 2147483647)) 118)), some none]]
def zt_X8_cell : zi_T := [[some (some (zi_load 0 1)), some (some (zi_getf 8 0 4)), none, none, some (some (zi_load 1 5)), some (some (zi_inv 30 2 (some 3) 0 0 8)), none, none, some (some (zi_if zi_eq 20 11)), none, none, some (some (zi_load 2 12)), some (some (zi_if zi_lt 20 15)), none, none, some (some (zi_load 2 16))],
  [some (some (zi_push (.inl (2147483649, 2147483649)) 17)), some (some (zi_ic zi_le 22 20)), none, none, some (some (zi_push (.inl (2147483647, 2147483647)) 21)), some none, some (some (zi_load 2 23)), some (some (zi_if zi_ne 41 26)), none, none, some (some (zi_load 0 27)), some (some (zi_getf 8 1 30)), none, none, some (some (zi_getf 7 0 33)), none],
  [none, some (some (zi_getf 2 1 36)), none, none, some (some (zi_load 1 37)), some (some (zi_ald .int 38)), some (some (zi_go 49)), none, none, some (some (zi_load 0 42)), some (some (zi_getf 8 0 45)), none, none, some (some (zi_load 1 46)), some (some (zi_inv 32 2 (some 3) 0 0 49)), none],
  [none, some none]]
def zt_X8_farm : zi_T := [[some (some (zi_load 0 1)), some (some (zi_getf 8 0 4)), none, none, some (some (zi_load 1 5)), some (some (zi_inv 31 2 (some 3) 0 0 8)), none, none, some (some (zi_if zi_ne 13 11)), none, none, some (some (zi_push (.inl (2147483647, 2147483647)) 12)), some none, some (some (zi_load 2 14)), some (some (zi_tsw 2147483648 2147483651 [44, 54, 64, 83] 95)), none],
  [none, none, none, none, none, none, none, none, none, none, none, none, none, none, none, none],
  [none, none, none, none, none, none, none, none, none, none, none, none, some (some (zi_load 0 45)), some (some (zi_getf 8 1 48)), none, none],
  [some (some (zi_getf 7 1 51)), none, none, some (some (zi_load 1 52)), some (some (zi_ald .int 53)), some none, some (some (zi_load 0 55)), some (some (zi_getf 8 0 58)), none, none, some (some (zi_getf 3 0 61)), none, none, some (some (zi_load 1 62)), some (some (zi_ald .int 63)), some none],
  [some (some (zi_load 0 65)), some (some (zi_getf 8 1 68)), none, none, some (some (zi_load 1 69)), some (some (zi_load 0 70)), some (some (zi_getf 8 1 73)), none, none, some (some (zi_getf 7 0 76)), none, none, some (some (zi_getf 2 4 79)), none, none, some (some (zi_inv 64 3 (some 7) 0 0 82))],
  [none, none, some none, some (some (zi_load 0 84)), some (some (zi_getf 8 1 87)), none, none, some (some (zi_getf 7 0 90)), none, none, some (some (zi_load 1 91)), some (some (zi_inv 23 2 (some 2) 0 0 94)), none, none, some none, some (some (zi_push (.inl (2147483647, 2147483647)) 96))],
  [some none]]
def zt_X8_bed : zi_T := [[some (some (zi_load 1 1)), some (some (zi_if zi_ge 6 4)), none, none, some (some (zi_push (.inl (2147483647, 2147483647)) 5)), some none, some (some (zi_load 1 7)), some (some (zi_load 0 8)), some (some (zi_getf 8 1 11)), none, none, some (some (zi_getf 7 0 14)), none, none, some (some (zi_getf 2 3 17)), none],
  [none, some (some (zi_ic zi_ge 35 20)), none, none, some (some (zi_load 0 21)), some (some (zi_getf 8 1 24)), none, none, some (some (zi_getf 7 0 27)), none, none, some (some (zi_getf 2 2 30)), none, none, some (some (zi_load 1 31)), some (some (zi_ald .int 32))],
  [some (some (zi_go 37)), none, none, some (some (zi_push (.inl (2147483644, 2147483644)) 37)), none, some none]]
def zt_X8_dam : zi_T := [[some (some (zi_load 0 1)), some (some (zi_getf 8 0 4)), none, none, some (some (zi_load 1 5)), some (some (zi_inv 30 2 (some 3) 0 0 8)), none, none, some (some (zi_if zi_eq 21 11)), none, none, some (some (zi_load 2 12)), some (some (zi_if zi_lt 21 15)), none, none, some (some (zi_load 2 16))],
  [some (some (zi_push (.inl (2147483747, 2147483747)) 18)), none, some (some (zi_ic zi_le 23 21)), none, none, some (some (zi_push (.inl (2147483647, 2147483647)) 22)), some none, some (some (zi_load 0 24)), some (some (zi_getf 8 1 27)), none, none, some (some (zi_getf 7 0 30)), none, none, some (some (zi_getf 2 1 33)), none],
  [none, some (some (zi_load 1 34)), some (some (zi_ald .int 35)), some (some (zi_store 3 36)), some (some (zi_load 0 37)), some (some (zi_getf 8 1 40)), none, none, some (some (zi_getf 7 0 43)), none, none, some (some (zi_getf 2 1 46)), none, none, some (some (zi_load 1 47)), some (some (zi_load 2 48))],
  [some (some (zi_ast .int 49)), some (some (zi_load 0 50)), some (some (zi_inv 80 1 (some 8) 0 0 53)), none, none, some (some (zi_load 3 54)), some none]]
def zt_X8_move : zi_T := [[some (some (zi_load 0 1)), some (some (zi_getf 8 0 4)), none, none, some (some (zi_load 1 5)), some (some (zi_inv 30 2 (some 3) 0 0 8)), none, none, some (some (zi_if zi_ne 13 11)), none, none, some (some (zi_push (.inl (2147483647, 2147483647)) 12)), some none, some (some (zi_load 0 14)), some (some (zi_getf 8 1 17)), none],
  [none, some (some (zi_getf 7 0 20)), none, none, some (some (zi_getf 2 5 23)), none, none, some (some (zi_store 2 24)), some (some (zi_load 0 25)), some (some (zi_getf 8 1 28)), none, none, some (some (zi_getf 7 0 31)), none, none, some (some (zi_load 1 32))],
  [some (some (zi_putf 2 5 .int 35)), none, none, some (some (zi_load 0 36)), some (some (zi_inv 80 1 (some 8) 0 0 39)), none, none, some (some (zi_load 2 40)), some none]]
def zt_X8_law : zi_T := [[some (some (zi_load 1 1)), some (some (zi_if zi_lt 9 4)), none, none, some (some (zi_load 1 5)), some (some (zi_push (.inl (2147483651, 2147483651)) 6)), some (some (zi_ic zi_lt 11 9)), none, none, some (some (zi_push (.inl (2147483647, 2147483647)) 10)), some none, some (some (zi_load 0 12)), some (some (zi_getf 8 1 15)), none, none, some (some (zi_getf 7 0 18))],
  [none, none, some (some (zi_getf 2 6 21)), none, none, some (some (zi_store 2 22)), some (some (zi_load 0 23)), some (some (zi_getf 8 1 26)), none, none, some (some (zi_getf 7 0 29)), none, none, some (some (zi_load 1 30)), some (some (zi_putf 2 6 .int 33)), none],
  [none, some (some (zi_load 0 34)), some (some (zi_getf 8 5 37)), none, none, some (some (zi_push (.inl (2147483648, 2147483648)) 38)), some (some (zi_putf 4 6 .boolean 41)), none, none, some (some (zi_load 2 42)), some none]]
def zt_X8_silt : zi_T := [[some (some (zi_load 0 1)), some (some (zi_getf 8 1 4)), none, none, some (some (zi_getf 7 0 7)), none, none, some (some (zi_getf 2 7 10)), none, none, some (some (zi_if zi_eq 17 13)), none, none, some (some (zi_push (.inl (2147483649, 2147483649)) 14)), some (some (zi_go 18)), none],
  [none, some (some (zi_push (.inl (2147483648, 2147483648)) 18)), some (some (zi_store 2 19)), some (some (zi_load 0 20)), some (some (zi_getf 8 1 23)), none, none, some (some (zi_getf 7 0 26)), none, none, some (some (zi_load 1 27)), some (some (zi_putf 2 7 .boolean 30)), none, none, some (some (zi_load 0 31)), some (some (zi_getf 8 5 34))],
  [none, none, some (some (zi_push (.inl (2147483648, 2147483648)) 35)), some (some (zi_putf 4 6 .boolean 38)), none, none, some (some (zi_load 2 39)), some none]]
def zt_X8_price : zi_T := [[some (some (zi_load 0 1)), some (some (zi_getf 8 0 4)), none, none, some (some (zi_load 1 5)), some (some (zi_inv 31 2 (some 3) 0 0 8)), none, none, some (some (zi_if zi_eq 22 11)), none, none, some (some (zi_load 2 12)), some (some (zi_push (.inl (2147483649, 2147483649)) 13)), some (some (zi_ic zi_lt 22 16)), none, none],
  [some (some (zi_load 2 17)), some (some (zi_push (.inl (2147483657, 2147483657)) 19)), none, some (some (zi_ic zi_le 24 22)), none, none, some (some (zi_push (.inl (2147483647, 2147483647)) 23)), some none, some (some (zi_load 0 25)), some (some (zi_getf 8 1 28)), none, none, some (some (zi_getf 7 1 31)), none, none, some (some (zi_load 1 32))],
  [some (some (zi_ald .int 33)), some (some (zi_store 3 34)), some (some (zi_load 0 35)), some (some (zi_getf 8 1 38)), none, none, some (some (zi_getf 7 1 41)), none, none, some (some (zi_load 1 42)), some (some (zi_load 2 43)), some (some (zi_ast .int 44)), some (some (zi_load 3 45)), some none]]
def zt_X8_retrace : zi_T := [[some (some (zi_load 0 1)), some (some (zi_getf 8 1 4)), none, none, some (some (zi_getf 7 0 7)), none, none, some (some (zi_inv 21 1 (some 2) 0 0 10)), none, none, some (some (zi_load 0 11)), some (some (zi_getf 8 5 14)), none, none, some (some (zi_push (.inl (2147483648, 2147483648)) 15)), some (some (zi_putf 4 6 .boolean 18))],
  [none, none, some none]]
def zt_X8_year : zi_T := [[some (some (zi_load 0 1)), some (some (zi_getf 8 1 4)), none, none, some (some (zi_getf 7 0 7)), none, none, some (some (zi_load 1 8)), some (some (zi_load 0 9)), some (some (zi_getf 8 1 12)), none, none, some (some (zi_getf 7 4 15)), none, none, some (some (zi_inv 86 3 none 0 0 18))],
  [none, none, some (some (zi_store 2 19)), some (some (zi_load 2 20)), some (some (zi_if zi_eq 25 23)), none, none, some (some (zi_load 2 24)), some none, some (some (zi_load 0 26)), some (some (zi_getf 8 1 29)), none, none, some (some (zi_getf 7 0 32)), none, none],
  [some (some (zi_load 1 33)), some (some (zi_inv 27 2 (some 2) 0 0 36)), none, none, some (some (zi_load 0 37)), some (some (zi_getf 8 1 40)), none, none, some (some (zi_dup 41)), some (some (zi_getf 7 4 44)), none, none, some (some (zi_push (.inl (2147483649, 2147483649)) 45)), some (some (zi_bin zi_add 46)), some (some (zi_putf 7 4 .int 49)), none],
  [none, some (some (zi_load 0 50)), some (some (zi_getf 8 5 53)), none, none, some (some (zi_push (.inl (2147483648, 2147483648)) 54)), some (some (zi_putf 4 6 .boolean 57)), none, none, some (some (zi_load 0 58)), some (some (zi_getf 8 1 61)), none, none, some (some (zi_getf 7 0 64)), none, none],
  [some (some (zi_getf 2 3 67)), none, none, some none]]
def zt_X8_would : zi_T := [[some (some (zi_load 1 1)), some (some (zi_inv 87 1 none 0 0 4)), none, none, some (some (zi_if zi_eq 18 7)), none, none, some (some (zi_load 0 8)), some (some (zi_getf 8 0 11)), none, none, some (some (zi_load 2 12)), some (some (zi_inv 31 2 (some 3) 0 0 15)), none, none, some (some (zi_if zi_ne 20 18))],
  [none, none, some (some (zi_push (.inl (2147483647, 2147483647)) 19)), some none, some (some (zi_load 0 21)), some (some (zi_getf 8 1 24)), none, none, some (some (zi_getf 7 0 27)), none, none, some (some (zi_load 1 28)), some (some (zi_inv 24 2 (some 2) 0 0 31)), none, none, some (some (zi_if zi_lt 37 34))],
  [none, none, some (some (zi_push (.inl (2147483646, 2147483646)) 36)), none, some none, some (some (zi_load 0 38)), some (some (zi_getf 8 4 41)), none, none, some (some (zi_load 0 42)), some (some (zi_getf 8 1 45)), none, none, some (some (zi_getf 7 0 48)), none, none],
  [some (some (zi_inv 20 2 (some 2) 0 0 51)), none, none, some (some (zi_load 0 52)), some (some (zi_getf 8 4 55)), none, none, some (some (zi_load 1 56)), some (some (zi_inv 27 2 (some 2) 0 0 59)), none, none, some (some (zi_load 0 60)), some (some (zi_getf 8 1 63)), none, none, some (some (zi_load 2 64))],
  [some (some (zi_load 0 65)), some (some (zi_getf 8 4 68)), none, none, some (some (zi_getf 2 4 71)), none, none, some (some (zi_inv 64 3 (some 7) 0 0 74)), none, none, some none]]
def zt_X8_tell : zi_T := [[some (some (zi_load 1 1)), some (some (zi_inv 87 1 none 0 0 4)), none, none, some (some (zi_if zi_ne 9 7)), none, none, some (some (zi_push (.inl (2147483647, 2147483647)) 8)), some none, some (some (zi_load 0 10)), some (some (zi_getf 8 1 13)), none, none, some (some (zi_getf 7 5 16)), none, none],
  [some (some (zi_push (.inl (2147483654, 2147483654)) 18)), none, some (some (zi_ic zi_lt 24 21)), none, none, some (some (zi_push (.inl (2147483645, 2147483645)) 23)), none, some none, some (some (zi_load 0 25)), some (some (zi_getf 8 1 28)), none, none, some (some (zi_getf 7 2 31)), none, none, some (some (zi_load 0 32))],
  [some (some (zi_getf 8 1 35)), none, none, some (some (zi_getf 7 5 38)), none, none, some (some (zi_load 1 39)), some (some (zi_ast .int 40)), some (some (zi_load 0 41)), some (some (zi_getf 8 1 44)), none, none, some (some (zi_dup 45)), some (some (zi_getf 7 5 48)), none, none],
  [some (some (zi_push (.inl (2147483649, 2147483649)) 49)), some (some (zi_bin zi_add 50)), some (some (zi_putf 7 5 .int 53)), none, none, some (some (zi_load 0 54)), some (some (zi_getf 8 1 57)), none, none, some (some (zi_getf 7 5 60)), none, none, some none]]
def zt_X8_drop : zi_T := [[some (some (zi_load 1 1)), some (some (zi_if zi_lt 15 4)), none, none, some (some (zi_load 1 5)), some (some (zi_load 0 6)), some (some (zi_getf 8 1 9)), none, none, some (some (zi_getf 7 5 12)), none, none, some (some (zi_ic zi_le 17 15)), none, none, some (some (zi_push (.inl (2147483647, 2147483647)) 16))],
  [some none, some (some (zi_load 0 18)), some (some (zi_getf 8 1 21)), none, none, some (some (zi_getf 7 5 24)), none, none, some (some (zi_store 2 25)), some (some (zi_load 0 26)), some (some (zi_getf 8 1 29)), none, none, some (some (zi_load 1 30)), some (some (zi_putf 7 5 .int 33)), none],
  [none, some (some (zi_load 2 34)), some none]]
def zt_X8_judge : zi_T := [[some (some (zi_load 1 1)), some (some (zi_if zi_lt 9 4)), none, none, some (some (zi_load 1 5)), some (some (zi_push (.inl (2147483649, 2147483649)) 6)), some (some (zi_ic zi_le 11 9)), none, none, some (some (zi_push (.inl (2147483647, 2147483647)) 10)), some none, some (some (zi_load 0 12)), some (some (zi_getf 8 4 15)), none, none, some (some (zi_load 0 16))],
  [some (some (zi_getf 8 1 19)), none, none, some (some (zi_getf 7 0 22)), none, none, some (some (zi_inv 20 2 (some 2) 0 0 25)), none, none, some (some (zi_push (.inl (2147483648, 2147483648)) 26)), some (some (zi_store 2 27)), some (some (zi_load 2 28)), some (some (zi_load 0 29)), some (some (zi_getf 8 1 32)), none, none],
  [some (some (zi_getf 7 5 35)), none, none, some (some (zi_ic zi_ge 113 38)), none, none, some (some (zi_load 2 39)), some (some (zi_push (.inl (2147483654, 2147483654)) 41)), none, some (some (zi_ic zi_ge 113 44)), none, none, some (some (zi_load 0 45)), some (some (zi_getf 8 4 48)), none, none],
  [some (some (zi_load 0 49)), some (some (zi_getf 8 1 52)), none, none, some (some (zi_getf 7 2 55)), none, none, some (some (zi_load 2 56)), some (some (zi_ald .int 57)), some (some (zi_inv 24 2 (some 2) 0 0 60)), none, none, some (some (zi_store 3 61)), some (some (zi_load 3 62)), some (some (zi_if zi_lt 91 65)), none],
  [none, some (some (zi_load 1 66)), some (some (zi_if zi_ne 73 69)), none, none, some (some (zi_load 2 70)), some (some (zi_go 90)), none, none, some (some (zi_load 0 74)), some (some (zi_getf 8 0 77)), none, none, some (some (zi_load 3 78)), some (some (zi_inv 31 2 (some 3) 0 0 81)), none],
  [none, some (some (zi_if zi_eq 88 84)), none, none, some (some (zi_load 3 85)), some (some (zi_go 90)), none, none, some (some (zi_push (.inl (2147483644, 2147483644)) 90)), none, some none, some (some (zi_load 0 92)), some (some (zi_getf 8 4 95)), none, none, some (some (zi_load 0 96))],
  [some (some (zi_getf 8 1 99)), none, none, some (some (zi_getf 7 2 102)), none, none, some (some (zi_load 2 103)), some (some (zi_ald .int 104)), some (some (zi_inv 27 2 (some 2) 0 0 107)), none, none, some (some (zi_inc 2 (2147483649, 2147483649) 110)), none, none, some (some (zi_go 27)), none],
  [none, some (some (zi_push (.inl (2147483644, 2147483644)) 115)), none, some none]]
def zt_X8_refusal : zi_T := [[some (some (zi_load 1 1)), some (some (zi_inv 87 1 none 0 0 4)), none, none, some (some (zi_if zi_ne 9 7)), none, none, some (some (zi_push (.inl (2147483647, 2147483647)) 8)), some none, some (some (zi_load 0 10)), some (some (zi_load 1 11)), some (some (zi_inv 24 2 (some 2) 0 0 14)), none, none, some (some (zi_if zi_lt 20 17)), none],
  [none, some (some (zi_push (.inl (2147483646, 2147483646)) 19)), none, some none, some (some (zi_load 2 21)), some (some (zi_push (.inl (2147484647, 2147484647)) 24)), none, none, some (some (zi_ic zi_lt 32 27)), none, none, some (some (zi_push (.inl (2147483645, 2147483645)) 29)), none, some (some (zi_go 33)), none, none],
  [some (some (zi_push (.inl (2147483648, 2147483648)) 33)), some none]]
def zt_X8_isNumber : zi_T := [[some (some (zi_load 0 1)), some (some (zi_if zi_lt 15 4)), none, none, some (some (zi_load 0 5)), some (some (zi_push (.inl (2147501223, 2147501223)) 8)), none, none, some (some (zi_ic zi_gt 15 11)), none, none, some (some (zi_push (.inl (2147483649, 2147483649)) 12)), some (some (zi_go 16)), none, none, some (some (zi_push (.inl (2147483648, 2147483648)) 16))],
  [some none]]
def zt_X8_option : zi_T := [[some (some (zi_load 1 1)), some (some (zi_tsw 2147483648 2147483650 [28, 33, 41] 50)), none, none, none, none, none, none, none, none, none, none, none, none, none, none],
  [none, none, none, none, none, none, none, none, none, none, none, none, some (some (zi_load 0 29)), some (some (zi_push (.inl (2147483674, 2147483674)) 31)), none, some (some (zi_dv zi_rem 32))],
  [some none, some (some (zi_load 0 34)), some (some (zi_push (.inl (2147483674, 2147483674)) 36)), none, some (some (zi_dv zi_div 37)), some (some (zi_push (.inl (2147483674, 2147483674)) 39)), none, some (some (zi_dv zi_rem 40)), some none, some (some (zi_load 0 42)), some (some (zi_push (.inl (2147484324, 2147484324)) 45)), none, none, some (some (zi_dv zi_div 46)), some (some (zi_push (.inl (2147483674, 2147483674)) 48)), none],
  [some (some (zi_dv zi_rem 49)), some none, some (some (zi_push (.inl (2147483648, 2147483648)) 51)), some none]]
def zt_X8_numberOf : zi_T := [[some (some (zi_load 1 1)), some (some (zi_tsw 2147483648 2147483650 [28, 30, 35] 43)), none, none, none, none, none, none, none, none, none, none, none, none, none, none],
  [none, none, none, none, none, none, none, none, none, none, none, none, some (some (zi_load 0 29)), some none, some (some (zi_load 0 31)), some (some (zi_push (.inl (2147483674, 2147483674)) 33))],
  [none, some (some (zi_bin zi_mul 34)), some none, some (some (zi_load 0 36)), some (some (zi_push (.inl (2147483674, 2147483674)) 38)), none, some (some (zi_bin zi_mul 39)), some (some (zi_push (.inl (2147483674, 2147483674)) 41)), none, some (some (zi_bin zi_mul 42)), some none, some (some (zi_push (.inl (2147483648, 2147483648)) 44)), some none]]
def zt_X8_has : zi_T := [[some (some (zi_load 0 1)), some (some (zi_load 1 2)), some (some (zi_bin zi_shr 3)), some (some (zi_push (.inl (2147483649, 2147483649)) 4)), some (some (zi_bin zi_and 5)), some (some (zi_if zi_eq 12 8)), none, none, some (some (zi_push (.inl (2147483649, 2147483649)) 9)), some (some (zi_go 13)), none, none, some (some (zi_push (.inl (2147483648, 2147483648)) 13)), some none]]
def zt_X8_alone : zi_T := [[some (some (zi_load 3 1)), some (some (zi_push (.inl (2147483658, 2147483658)) 3)), none, some (some (zi_ic zi_lt 16 6)), none, none, some (some (zi_load 3 7)), some (some (zi_push (.inl (2147483661, 2147483661)) 9)), none, some (some (zi_ic zi_ge 16 12)), none, none, some (some (zi_push (.inl (2147483649, 2147483649)) 13)), some (some (zi_go 17)), none, none],
  [some (some (zi_push (.inl (2147483648, 2147483648)) 17)), some (some (zi_store 4 19)), none, some (some (zi_load 0 20)), some (some (zi_getf 8 0 23)), none, none, some (some (zi_load 1 24)), some (some (zi_inv 31 2 (some 3) 0 0 27)), none, none, some (some (zi_if zi_eq 50 30)), none, none, some (some (zi_load 0 31)), some (some (zi_getf 8 0 34))],
  [none, none, some (some (zi_load 2 35)), some (some (zi_inv 30 2 (some 3) 0 0 38)), none, none, some (some (zi_if zi_eq 50 41)), none, none, some (some (zi_load 3 42)), some (some (zi_if zi_eq 52 45)), none, none, some (some (zi_load 4 47)), none, some (some (zi_if zi_ne 52 50))],
  [none, none, some (some (zi_push (.inl (2147483647, 2147483647)) 51)), some none, some (some (zi_load 0 53)), some (some (zi_getf 8 6 56)), none, none, some (some (zi_load 0 57)), some (some (zi_getf 8 1 60)), none, none, some (some (zi_getf 7 0 63)), none, none, some (some (zi_load 1 64))],
  [some (some (zi_load 2 65)), some (some (zi_inv 1 4 (some 0) 0 0 68)), none, none, some (some (zi_store 5 70)), none, some (some (zi_load 5 72)), none, some (some (zi_if zi_ge 78 75)), none, none, some (some (zi_push (.inl (2147483644, 2147483644)) 77)), none, some none, some (some (zi_load 3 79)), some (some (zi_if zi_ne 85 82))],
  [none, none, some (some (zi_load 5 84)), none, some none, some (some (zi_load 3 86)), some (some (zi_push (.inl (2147483658, 2147483658)) 88)), none, some (some (zi_bin zi_sub 89)), some (some (zi_load 5 91)), none, some (some (zi_ic zi_ge 108 94)), none, none, some (some (zi_load 0 95)), some (some (zi_getf 8 6 98))],
  [none, none, some (some (zi_load 3 99)), some (some (zi_push (.inl (2147483658, 2147483658)) 101)), none, some (some (zi_bin zi_sub 102)), some (some (zi_inv 3 2 (some 0) 0 0 105)), none, none, some (some (zi_go 110)), none, none, some (some (zi_push (.inl (2147483644, 2147483644)) 110)), none, some none]]
def zt_X8_together : zi_T := [[some (some (zi_load 0 1)), some (some (zi_getf 8 0 4)), none, none, some (some (zi_load 1 5)), some (some (zi_inv 30 2 (some 3) 0 0 8)), none, none, some (some (zi_if zi_eq 20 11)), none, none, some (some (zi_load 2 12)), some (some (zi_if zi_lt 20 15)), none, none, some (some (zi_load 2 16))],
  [some (some (zi_push (.inl (2147483649, 2147483649)) 17)), some (some (zi_ic zi_le 22 20)), none, none, some (some (zi_push (.inl (2147483647, 2147483647)) 21)), some none, some (some (zi_load 0 23)), some (some (zi_inv 93 1 (some 8) 0 0 26)), none, none, some (some (zi_push (.inl (2147483652, 2147483652)) 27)), some (some (zi_store 3 28)), some (some (zi_push (.inl (2147483644, 2147483644)) 30)), none, some (some (zi_store 4 32)), none],
  [some (some (zi_push (.inl (2147483648, 2147483648)) 33)), some (some (zi_store 5 35)), none, some (some (zi_load 5 37)), none, some (some (zi_load 0 38)), some (some (zi_getf 8 5 41)), none, none, some (some (zi_getf 4 5 44)), none, none, some (some (zi_ic zi_ge 109 47)), none, none, some (some (zi_load 0 48))],
  [some (some (zi_getf 8 5 51)), none, none, some (some (zi_getf 4 3 54)), none, none, some (some (zi_load 5 56)), none, some (some (zi_ald .int 57)), some (some (zi_inv 94 1 none 0 0 60)), none, none, some (some (zi_inv 210 1 none 0 0 63)), none, none, some (some (zi_store 6 65))],
  [none, some (some (zi_load 0 66)), some (some (zi_getf 8 5 69)), none, none, some (some (zi_getf 4 4 72)), none, none, some (some (zi_load 5 74)), none, some (some (zi_ald .int 75)), some (some (zi_load 1 76)), some (some (zi_inv 90 2 none 0 0 79)), none, none, some (some (zi_if zi_eq 103 82))],
  [none, none, some (some (zi_load 6 84)), none, some (some (zi_load 3 85)), some (some (zi_ic zi_ge 103 88)), none, none, some (some (zi_load 6 90)), none, some (some (zi_store 3 91)), some (some (zi_load 0 92)), some (some (zi_getf 8 5 95)), none, none, some (some (zi_getf 4 3 98))],
  [none, none, some (some (zi_load 5 100)), none, some (some (zi_ald .int 101)), some (some (zi_store 4 103)), none, some (some (zi_inc 5 (2147483649, 2147483649) 106)), none, none, some (some (zi_go 35)), none, none, some (some (zi_load 4 111)), none, some (some (zi_push (.inl (2147483644, 2147483644)) 113))],
  [none, some (some (zi_ic zi_eq 121 116)), none, none, some (some (zi_load 2 117)), some (some (zi_push (.inl (2147483649, 2147483649)) 118)), some (some (zi_ic zi_ne 126 121)), none, none, some (some (zi_load 4 123)), none, some (some (zi_go 127)), none, none, some (some (zi_load 3 127)), some none]]
def zt_X8_lookAhead : zi_T := [[some (some (zi_load 0 1)), some (some (zi_getf 8 5 4)), none, none, some (some (zi_getf 4 6 7)), none, none, some (some (zi_if zi_ne 28 10)), none, none, some (some (zi_load 0 11)), some (some (zi_getf 8 5 14)), none, none, some (some (zi_load 0 15)), some (some (zi_getf 8 1 18))],
  [none, none, some (some (zi_getf 7 0 21)), none, none, some (some (zi_load 0 22)), some (some (zi_getf 8 4 25)), none, none, some (some (zi_inv 36 3 (some 4) 0 0 28)), none, none, some none]]
def zt_X8_cutters : zi_T := [[some (some (zi_push (.inl (2147483648, 2147483648)) 1)), some (some (zi_store 1 2)), some (some (zi_push (.inl (2147483648, 2147483648)) 3)), some (some (zi_store 2 4)), some (some (zi_load 2 5)), some (some (zi_push (.inl (2147483651, 2147483651)) 6)), some (some (zi_ic zi_ge 29 9)), none, none, some (some (zi_load 0 10)), some (some (zi_load 2 11)), some (some (zi_inv 88 2 none 0 0 14)), none, none, some (some (zi_if zi_eq 23 17)), none],
  [none, some (some (zi_load 1 18)), some (some (zi_push (.inl (2147483649, 2147483649)) 19)), some (some (zi_load 2 20)), some (some (zi_bin zi_shl 21)), some (some (zi_bin zi_or 22)), some (some (zi_store 1 23)), some (some (zi_inc 2 (2147483649, 2147483649) 26)), none, none, some (some (zi_go 4)), none, none, some (some (zi_load 1 30)), some none]]
def zt_X8_selfish : zi_T := [[some (some (zi_load 1 1)), some (some (zi_if zi_eq 26 4)), none, none, some (some (zi_load 1 5)), some (some (zi_push (.inl (2147483658, 2147483658)) 7)), none, some (some (zi_ic zi_lt 24 10)), none, none, some (some (zi_load 0 11)), some (some (zi_getf 8 0 14)), none, none, some (some (zi_load 1 15)), some (some (zi_push (.inl (2147483658, 2147483658)) 17))],
  [none, some (some (zi_bin zi_sub 18)), some (some (zi_inv 31 2 (some 3) 0 0 21)), none, none, some (some (zi_if zi_ne 26 24)), none, none, some (some (zi_push (.inl (2147483647, 2147483647)) 25)), some none, some (some (zi_load 0 27)), some (some (zi_inv 93 1 (some 8) 0 0 30)), none, none, some (some (zi_load 0 31)), some (some (zi_getf 8 5 34))],
  [none, none, some (some (zi_load 0 35)), some (some (zi_getf 8 1 38)), none, none, some (some (zi_push (.inl (2147483648, 2147483648)) 39)), some (some (zi_push (.inl (2147483648, 2147483648)) 40)), some (some (zi_inv 41 4 (some 4) 0 0 43)), none, none, some (some (zi_store 2 44)), some (some (zi_load 1 45)), some (some (zi_if zi_ne 60 48)), none, none],
  [some (some (zi_load 0 49)), some (some (zi_getf 8 5 52)), none, none, some (some (zi_getf 4 3 55)), none, none, some (some (zi_load 2 56)), some (some (zi_ald .int 57)), some (some (zi_go 80)), none, none, some (some (zi_load 0 61)), some (some (zi_getf 8 1 64)), none, none],
  [some (some (zi_load 1 65)), some (some (zi_push (.inl (2147483658, 2147483658)) 67)), none, some (some (zi_bin zi_sub 68)), some (some (zi_load 0 69)), some (some (zi_getf 8 5 72)), none, none, some (some (zi_getf 4 4 75)), none, none, some (some (zi_load 2 76)), some (some (zi_ald .int 77)), some (some (zi_inv 64 3 (some 7) 0 0 80)), none, none],
  [some none]]
def zt_X8_rests : zi_T := [[some (some (zi_load 1 1)), some (some (zi_if zi_lt 9 4)), none, none, some (some (zi_load 1 5)), some (some (zi_push (.inl (2147483649, 2147483649)) 6)), some (some (zi_ic zi_le 11 9)), none, none, some (some (zi_push (.inl (2147483647, 2147483647)) 10)), some none, some (some (zi_load 0 12)), some (some (zi_inv 93 1 (some 8) 0 0 15)), none, none, some (some (zi_push (.inl (2147483648, 2147483648)) 16))],
  [some (some (zi_store 2 17)), some (some (zi_push (.inl (2147483648, 2147483648)) 18)), some (some (zi_store 3 19)), some (some (zi_load 3 20)), some (some (zi_load 0 21)), some (some (zi_getf 8 5 24)), none, none, some (some (zi_getf 4 5 27)), none, none, some (some (zi_ic zi_ge 69 30)), none, none, some (some (zi_load 0 31)), some (some (zi_getf 8 5 34))],
  [none, none, some (some (zi_load 0 35)), some (some (zi_getf 8 1 38)), none, none, some (some (zi_load 3 39)), some (some (zi_inv 39 3 (some 4) 0 0 42)), none, none, some (some (zi_if zi_ne 63 45)), none, none, some (some (zi_load 1 46)), some (some (zi_push (.inl (2147483649, 2147483649)) 47)), some (some (zi_ic zi_ne 60 50))],
  [none, none, some (some (zi_load 0 51)), some (some (zi_getf 8 5 54)), none, none, some (some (zi_getf 4 3 57)), none, none, some (some (zi_load 3 58)), some (some (zi_ald .int 59)), some none, some (some (zi_inc 2 (2147483649, 2147483649) 63)), none, none, some (some (zi_inc 3 (2147483649, 2147483649) 66))],
  [none, none, some (some (zi_go 19)), none, none, some (some (zi_load 1 70)), some (some (zi_if zi_ne 77 73)), none, none, some (some (zi_load 2 74)), some (some (zi_go 79)), none, none, some (some (zi_push (.inl (2147483644, 2147483644)) 79)), none, some none]]
def zt_X8_breaks : zi_T := [[some (some (zi_load 1 1)), some (some (zi_inv 87 1 none 0 0 4)), none, none, some (some (zi_if zi_ne 9 7)), none, none, some (some (zi_push (.inl (2147483647, 2147483647)) 8)), some none, some (some (zi_load 0 10)), some (some (zi_inv 93 1 (some 8) 0 0 13)), none, none, some (some (zi_load 0 14)), some (some (zi_getf 8 5 17)), none],
  [none, some (some (zi_load 1 18)), some (some (zi_inv 38 2 (some 4) 0 0 21)), none, none, some (some (zi_store 2 22)), some (some (zi_load 2 23)), some (some (zi_if zi_ge 31 26)), none, none, some (some (zi_push (.inl (2147483646, 2147483646)) 28)), none, some (some (zi_go 43)), none, none, some (some (zi_load 0 32))],
  [some (some (zi_getf 8 5 35)), none, none, some (some (zi_load 0 36)), some (some (zi_getf 8 1 39)), none, none, some (some (zi_load 2 40)), some (some (zi_inv 39 3 (some 4) 0 0 43)), none, none, some none]]
def zt_X8_stands : zi_T := [[some (some (zi_load 0 1)), some (some (zi_getf 8 0 4)), none, none, some (some (zi_load 1 5)), some (some (zi_inv 30 2 (some 3) 0 0 8)), none, none, some (some (zi_if zi_ne 13 11)), none, none, some (some (zi_push (.inl (2147483647, 2147483647)) 12)), some none, some (some (zi_load 0 14)), some (some (zi_getf 8 1 17)), none],
  [none, some (some (zi_getf 7 0 20)), none, none, some (some (zi_getf 2 4 23)), none, none, some (some (zi_load 1 24)), some (some (zi_inv 90 2 none 0 0 27)), none, none, some (some (zi_if zi_ne 33 30)), none, none, some (some (zi_push (.inl (2147483646, 2147483646)) 32)), none],
  [some none, some (some (zi_load 0 34)), some (some (zi_getf 8 4 37)), none, none, some (some (zi_load 0 38)), some (some (zi_getf 8 1 41)), none, none, some (some (zi_getf 7 0 44)), none, none, some (some (zi_inv 20 2 (some 2) 0 0 47)), none, none, some (some (zi_push (.inl (2147483648, 2147483648)) 48))],
  [some (some (zi_store 2 49)), some (some (zi_load 2 50)), some (some (zi_push (.inl (2147483668, 2147483668)) 52)), none, some (some (zi_ic zi_ge 85 55)), none, none, some (some (zi_load 0 56)), some (some (zi_getf 8 4 59)), none, none, some (some (zi_push (.inl (2147483648, 2147483648)) 60)), some (some (zi_inv 27 2 (some 2) 0 0 63)), none, none, some (some (zi_load 0 64))],
  [some (some (zi_getf 8 4 67)), none, none, some (some (zi_getf 2 4 70)), none, none, some (some (zi_load 1 71)), some (some (zi_inv 90 2 none 0 0 74)), none, none, some (some (zi_if zi_ne 79 77)), none, none, some (some (zi_load 2 78)), some none, some (some (zi_inc 2 (2147483649, 2147483649) 82))],
  [none, none, some (some (zi_go 49)), none, none, some (some (zi_push (.inl (2147483668, 2147483668)) 87)), none, some none]]
def zt_X8_again : zi_T := [[some (some (zi_load 1 1)), some (some (zi_if zi_lt 9 4)), none, none, some (some (zi_load 1 5)), some (some (zi_push (.inl (2147483649, 2147483649)) 6)), some (some (zi_ic zi_le 11 9)), none, none, some (some (zi_push (.inl (2147483647, 2147483647)) 10)), some none, some (some (zi_load 0 12)), some (some (zi_getf 8 4 15)), none, none, some (some (zi_load 0 16))],
  [some (some (zi_getf 8 1 19)), none, none, some (some (zi_getf 7 0 22)), none, none, some (some (zi_inv 20 2 (some 2) 0 0 25)), none, none, some (some (zi_load 0 26)), some (some (zi_push (.inl (2147483648, 2147483648)) 27)), some (some (zi_inv 100 2 (some 8) 0 0 30)), none, none, some (some (zi_push (.inl (2147483649, 2147483649)) 31)), some (some (zi_store 2 32))],
  [some (some (zi_load 2 33)), some (some (zi_push (.inl (2147483708, 2147483708)) 35)), none, some (some (zi_ic zi_gt 79 38)), none, none, some (some (zi_load 0 39)), some (some (zi_getf 8 4 42)), none, none, some (some (zi_push (.inl (2147483648, 2147483648)) 43)), some (some (zi_inv 27 2 (some 2) 0 0 46)), none, none, some (some (zi_load 0 47)), some (some (zi_load 2 48))],
  [some (some (zi_inv 101 2 (some 8) 0 0 51)), none, none, some (some (zi_store 3 52)), some (some (zi_load 3 53)), some (some (zi_if zi_lt 68 56)), none, none, some (some (zi_load 1 57)), some (some (zi_if zi_ne 64 60)), none, none, some (some (zi_load 3 61)), some (some (zi_go 67)), none, none],
  [some (some (zi_load 2 65)), some (some (zi_load 3 66)), some (some (zi_bin zi_sub 67)), some none, some (some (zi_load 0 69)), some (some (zi_load 2 70)), some (some (zi_inv 100 2 (some 8) 0 0 73)), none, none, some (some (zi_inc 2 (2147483649, 2147483649) 76)), none, none, some (some (zi_go 32)), none, none, some (some (zi_push (.inl (2147483644, 2147483644)) 81))],
  [none, some none]]
def zt_X8_note : zi_T := [[some (some (zi_load 0 1)), some (some (zi_getf 8 4 4)), none, none, some (some (zi_getf 2 1 7)), none, none, some (some (zi_push (.inl (2147483648, 2147483648)) 8)), some (some (zi_load 0 9)), some (some (zi_getf 8 10 12)), none, none, some (some (zi_load 1 13)), some (some (zi_push (.inl (2147483673, 2147483673)) 15)), none, some (some (zi_bin zi_mul 16))],
  [some (some (zi_push (.inl (2147483673, 2147483673)) 18)), none, some (some (zi_copy 21)), none, none, some none]]
def zt_X8_firstAlike : zi_T := [[some (some (zi_push (.inl (2147483648, 2147483648)) 1)), some (some (zi_store 2 2)), some (some (zi_load 2 3)), some (some (zi_load 1 4)), some (some (zi_ic zi_ge 23 7)), none, none, some (some (zi_load 0 8)), some (some (zi_load 2 9)), some (some (zi_inv 102 2 (some 8) 0 0 12)), none, none, some (some (zi_if zi_eq 17 15)), none, none, some (some (zi_load 2 16))],
  [some none, some (some (zi_inc 2 (2147483649, 2147483649) 20)), none, none, some (some (zi_go 2)), none, none, some (some (zi_push (.inl (2147483647, 2147483647)) 24)), some none]]
def zt_X8_isAlike : zi_T := [[some (some (zi_push (.inl (2147483648, 2147483648)) 1)), some (some (zi_store 2 2)), some (some (zi_load 2 3)), some (some (zi_push (.inl (2147483673, 2147483673)) 5)), none, some (some (zi_ic zi_ge 39 8)), none, none, some (some (zi_load 0 9)), some (some (zi_getf 8 10 12)), none, none, some (some (zi_load 1 13)), some (some (zi_push (.inl (2147483673, 2147483673)) 15)), none, some (some (zi_bin zi_mul 16))],
  [some (some (zi_load 2 17)), some (some (zi_bin zi_add 18)), some (some (zi_ald .int 19)), some (some (zi_load 0 20)), some (some (zi_getf 8 4 23)), none, none, some (some (zi_getf 2 1 26)), none, none, some (some (zi_load 2 27)), some (some (zi_ald .int 28)), some (some (zi_ic zi_eq 33 31)), none, none, some (some (zi_push (.inl (2147483648, 2147483648)) 32))],
  [some none, some (some (zi_inc 2 (2147483649, 2147483649) 36)), none, none, some (some (zi_go 2)), none, none, some (some (zi_push (.inl (2147483649, 2147483649)) 40)), some none]]
def zt_X8_odds : zi_T := [[some (some (zi_load 0 1)), some (some (zi_getf 8 0 4)), none, none, some (some (zi_load 1 5)), some (some (zi_inv 30 2 (some 3) 0 0 8)), none, none, some (some (zi_if zi_eq 20 11)), none, none, some (some (zi_load 2 12)), some (some (zi_if zi_lt 20 15)), none, none, some (some (zi_load 2 16))],
  [some (some (zi_push (.inl (2147483649, 2147483649)) 17)), some (some (zi_ic zi_le 24 20)), none, none, some (some (zi_push (.inr (.inl (9223372036854775807, 9223372036854775807))) 23)), none, none, some none, some (some (zi_load 0 25)), some (some (zi_inv 93 1 (some 8) 0 0 28)), none, none, some (some (zi_push (.inl (2147483648, 2147483648)) 29)), some (some (zi_store 3 30)), some (some (zi_push (.inl (2147483648, 2147483648)) 31)), some (some (zi_store 4 33))],
  [none, some (some (zi_load 4 35)), none, some (some (zi_load 0 36)), some (some (zi_getf 8 5 39)), none, none, some (some (zi_getf 4 5 42)), none, none, some (some (zi_ic zi_ge 71 45)), none, none, some (some (zi_load 0 46)), some (some (zi_getf 8 5 49)), none],
  [none, some (some (zi_getf 4 4 52)), none, none, some (some (zi_load 4 54)), none, some (some (zi_ald .int 55)), some (some (zi_load 1 56)), some (some (zi_inv 90 2 none 0 0 59)), none, none, some (some (zi_if zi_eq 65 62)), none, none, some (some (zi_inc 3 (2147483649, 2147483649) 65)), none],
  [none, some (some (zi_inc 4 (2147483649, 2147483649) 68)), none, none, some (some (zi_go 33)), none, none, some (some (zi_load 0 72)), some (some (zi_getf 8 5 75)), none, none, some (some (zi_getf 4 5 78)), none, none, some (some (zi_load 3 79)), some (some (zi_inv 104 2 none 0 0 82))],
  [none, none, some (some (zi_store 4 84)), none, some (some (zi_load 4 86)), none, some (some (zi_push (.inl (2147483649, 2147483649)) 87)), some (some (zi_ic zi_ge 94 90)), none, none, some (some (zi_push (.inr (.inl (9223372036854775808, 9223372036854775808))) 91)), some (some (zi_go 113)), none, none, some (some (zi_load 2 95)), some (some (zi_if zi_ne 102 98))],
  [none, none, some (some (zi_load 3 99)), some (some (zi_go 109)), none, none, some (some (zi_load 0 103)), some (some (zi_getf 8 5 106)), none, none, some (some (zi_getf 4 5 109)), none, none, some (some (zi_load 4 111)), none, some (some (zi_dv zi_div 112))],
  [some (some (zi_i2l 113)), some none]]
def zt_X8_commonDivisor : zi_T := [[some (some (zi_load 0 1)), some (some (zi_store 2 2)), some (some (zi_load 1 3)), some (some (zi_store 3 4)), some (some (zi_push (.inl (2147483648, 2147483648)) 5)), some (some (zi_store 4 7)), none, some (some (zi_load 4 9)), none, some (some (zi_push (.inl (2147483712, 2147483712)) 11)), none, some (some (zi_ic zi_ge 34 14)), none, none, some (some (zi_load 3 15)), some (some (zi_if zi_eq 34 18))],
  [none, none, some (some (zi_load 2 19)), some (some (zi_load 3 20)), some (some (zi_dv zi_rem 21)), some (some (zi_store 5 23)), none, some (some (zi_load 3 24)), some (some (zi_store 2 25)), some (some (zi_load 5 27)), none, some (some (zi_store 3 28)), some (some (zi_inc 4 (2147483649, 2147483649) 31)), none, none, some (some (zi_go 7))],
  [none, none, some (some (zi_load 2 35)), some none]]
def zt_X8_see : zi_T := [[some (some (zi_load 0 1)), some (some (zi_getf 8 0 4)), none, none, some (some (zi_load 1 5)), some (some (zi_inv 30 2 (some 3) 0 0 8)), none, none, some (some (zi_if zi_ne 13 11)), none, none, some (some (zi_push (.inl (2147483647, 2147483647)) 12)), some none, some (some (zi_load 0 14)), some (some (zi_getf 8 1 17)), none],
  [none, some (some (zi_getf 7 6 20)), none, none, some (some (zi_push (.inl (2147483656, 2147483656)) 22)), none, some (some (zi_ic zi_lt 28 25)), none, none, some (some (zi_push (.inl (2147483645, 2147483645)) 27)), none, some none, some (some (zi_load 0 29)), some (some (zi_getf 8 1 32)), none, none],
  [some (some (zi_getf 7 3 35)), none, none, some (some (zi_load 0 36)), some (some (zi_getf 8 1 39)), none, none, some (some (zi_getf 7 6 42)), none, none, some (some (zi_load 2 43)), some (some (zi_if zi_eq 50 46)), none, none, some (some (zi_load 1 47)), some (some (zi_go 54))],
  [none, none, some (some (zi_load 1 51)), some (some (zi_push (.inl (2147483673, 2147483673)) 53)), none, some (some (zi_bin zi_sub 54)), some (some (zi_ast .int 55)), some (some (zi_load 0 56)), some (some (zi_getf 8 1 59)), none, none, some (some (zi_dup 60)), some (some (zi_getf 7 6 63)), none, none, some (some (zi_push (.inl (2147483649, 2147483649)) 64))],
  [some (some (zi_bin zi_add 65)), some (some (zi_putf 7 6 .int 68)), none, none, some (some (zi_load 0 69)), some (some (zi_getf 8 1 72)), none, none, some (some (zi_getf 7 6 75)), none, none, some none]]
def zt_X8_forget : zi_T := [[some (some (zi_load 1 1)), some (some (zi_if zi_lt 15 4)), none, none, some (some (zi_load 1 5)), some (some (zi_load 0 6)), some (some (zi_getf 8 1 9)), none, none, some (some (zi_getf 7 6 12)), none, none, some (some (zi_ic zi_le 17 15)), none, none, some (some (zi_push (.inl (2147483647, 2147483647)) 16))],
  [some none, some (some (zi_load 0 18)), some (some (zi_getf 8 1 21)), none, none, some (some (zi_getf 7 6 24)), none, none, some (some (zi_store 2 25)), some (some (zi_load 0 26)), some (some (zi_getf 8 1 29)), none, none, some (some (zi_load 1 30)), some (some (zi_putf 7 6 .int 33)), none],
  [none, some (some (zi_load 2 34)), some none]]
def zt_X8_fits : zi_T := [[some (some (zi_load 1 1)), some (some (zi_if zi_lt 9 4)), none, none, some (some (zi_load 1 5)), some (some (zi_push (.inl (2147483651, 2147483651)) 6)), some (some (zi_ic zi_le 11 9)), none, none, some (some (zi_push (.inl (2147483647, 2147483647)) 10)), some none, some (some (zi_load 0 12)), some (some (zi_inv 93 1 (some 8) 0 0 15)), none, none, some (some (zi_push (.inl (2147483648, 2147483648)) 16))],
  [some (some (zi_store 2 17)), some (some (zi_push (.inl (2147483644, 2147483644)) 19)), none, some (some (zi_store 3 20)), some (some (zi_push (.inl (2147483649, 2147483649)) 21)), some (some (zi_load 0 22)), some (some (zi_getf 8 0 25)), none, none, some (some (zi_getf 3 4 28)), none, none, some (some (zi_bin zi_shl 29)), some (some (zi_push (.inl (2147483649, 2147483649)) 30)), some (some (zi_bin zi_sub 31)), some (some (zi_store 4 33))],
  [none, some (some (zi_load 4 35)), none, some (some (zi_store 5 37)), none, some (some (zi_push (.inl (2147483648, 2147483648)) 38)), some (some (zi_store 6 40)), none, some (some (zi_load 6 42)), none, some (some (zi_load 0 43)), some (some (zi_getf 8 5 46)), none, none, some (some (zi_getf 4 5 49)), none],
  [none, some (some (zi_ic zi_ge 131 52)), none, none, some (some (zi_load 0 53)), some (some (zi_getf 8 1 56)), none, none, some (some (zi_load 0 57)), some (some (zi_getf 8 5 60)), none, none, some (some (zi_getf 4 4 63)), none, none, some (some (zi_load 6 65))],
  [none, some (some (zi_ald .int 66)), some (some (zi_inv 65 2 (some 7) 0 0 69)), none, none, some (some (zi_if zi_eq 125 72)), none, none, some (some (zi_load 0 73)), some (some (zi_getf 8 5 76)), none, none, some (some (zi_getf 4 3 79)), none, none, some (some (zi_load 6 81))],
  [none, some (some (zi_ald .int 82)), some (some (zi_inv 94 1 none 0 0 85)), none, none, some (some (zi_store 7 87)), none, some (some (zi_load 2 88)), some (some (zi_if zi_ne 104 91)), none, none, some (some (zi_load 0 92)), some (some (zi_getf 8 5 95)), none, none, some (some (zi_getf 4 3 98))],
  [none, none, some (some (zi_load 6 100)), none, some (some (zi_ald .int 101)), some (some (zi_go 105)), none, none, some (some (zi_load 3 105)), some (some (zi_store 3 106)), some (some (zi_load 4 108)), none, some (some (zi_load 7 110)), none, some (some (zi_bin zi_and 111)), some (some (zi_store 4 113))],
  [none, some (some (zi_load 5 115)), none, some (some (zi_load 7 117)), none, some (some (zi_push (.inl (2147483647, 2147483647)) 118)), some (some (zi_bin zi_xor 119)), some (some (zi_bin zi_and 120)), some (some (zi_store 5 122)), none, some (some (zi_inc 2 (2147483649, 2147483649) 125)), none, none, some (some (zi_inc 6 (2147483649, 2147483649) 128)), none, none],
  [some (some (zi_go 40)), none, none, some (some (zi_load 1 132)), some (some (zi_if zi_eq 139 135)), none, none, some (some (zi_load 2 136)), some (some (zi_if zi_ne 150 139)), none, none, some (some (zi_load 1 140)), some (some (zi_if zi_ne 147 143)), none, none, some (some (zi_load 2 144))],
  [some (some (zi_go 149)), none, none, some (some (zi_push (.inl (2147483644, 2147483644)) 149)), none, some none, some (some (zi_load 1 151)), some (some (zi_push (.inl (2147483649, 2147483649)) 152)), some (some (zi_ic zi_ne 159 155)), none, none, some (some (zi_load 3 156)), some (some (zi_go 171)), none, none, some (some (zi_load 1 160))],
  [some (some (zi_push (.inl (2147483650, 2147483650)) 161)), some (some (zi_ic zi_ne 169 164)), none, none, some (some (zi_load 4 166)), none, some (some (zi_go 171)), none, none, some (some (zi_load 5 171)), none, some none]]
def zt_X8_keep : zi_T := [[some (some (zi_load 1 1)), some (some (zi_if zi_lt 9 4)), none, none, some (some (zi_load 1 5)), some (some (zi_push (.inl (2147483650, 2147483650)) 6)), some (some (zi_ic zi_lt 11 9)), none, none, some (some (zi_push (.inl (2147483647, 2147483647)) 10)), some none, some (some (zi_load 0 12)), some (some (zi_getf 8 11 15)), none, none, some (some (zi_load 1 16))],
  [some (some (zi_bin zi_shr 17)), some (some (zi_push (.inl (2147483649, 2147483649)) 18)), some (some (zi_bin zi_and 19)), some (some (zi_store 2 20)), some (some (zi_load 0 21)), some (some (zi_load 1 22)), some (some (zi_inv 110 2 (some 8) 0 0 25)), none, none, some (some (zi_load 0 26)), some (some (zi_getf 8 1 29)), none, none, some (some (zi_inv 63 2 (some 7) 0 0 32)), none, none],
  [some (some (zi_load 0 33)), some (some (zi_dup 34)), some (some (zi_getf 8 11 37)), none, none, some (some (zi_push (.inl (2147483649, 2147483649)) 38)), some (some (zi_load 1 39)), some (some (zi_bin zi_shl 40)), some (some (zi_bin zi_or 41)), some (some (zi_putf 8 11 .int 44)), none, none, some (some (zi_load 2 45)), some none]]
def zt_X8_back : zi_T := [[some (some (zi_load 1 1)), some (some (zi_if zi_lt 9 4)), none, none, some (some (zi_load 1 5)), some (some (zi_push (.inl (2147483650, 2147483650)) 6)), some (some (zi_ic zi_lt 11 9)), none, none, some (some (zi_push (.inl (2147483647, 2147483647)) 10)), some none, some (some (zi_load 0 12)), some (some (zi_getf 8 11 15)), none, none, some (some (zi_load 1 16))],
  [some (some (zi_inv 90 2 none 0 0 19)), none, none, some (some (zi_if zi_ne 25 22)), none, none, some (some (zi_push (.inl (2147483646, 2147483646)) 24)), none, some none, some (some (zi_load 0 26)), some (some (zi_getf 8 1 29)), none, none, some (some (zi_load 0 30)), some (some (zi_load 1 31)), some (some (zi_inv 110 2 (some 8) 0 0 34))],
  [none, none, some (some (zi_inv 63 2 (some 7) 0 0 37)), none, none, some (some (zi_load 0 38)), some (some (zi_getf 8 5 41)), none, none, some (some (zi_push (.inl (2147483648, 2147483648)) 42)), some (some (zi_putf 4 6 .boolean 45)), none, none, some (some (zi_load 0 46)), some (some (zi_getf 8 1 49)), none],
  [none, some (some (zi_getf 7 4 52)), none, none, some none]]
def zt_X8_imageOf : zi_T := [[some (some (zi_load 1 1)), some (some (zi_if zi_ne 11 4)), none, none, some (some (zi_load 0 5)), some (some (zi_getf 8 2 8)), none, none, some (some (zi_go 15)), none, none, some (some (zi_load 0 12)), some (some (zi_getf 8 3 15)), none, none, some none]]
def zt_X8_sheet : zi_T := [[some (some (zi_load 0 1)), some (some (zi_getf 8 9 4)), none, none, some (some (zi_load 1 5)), some (some (zi_inv 43 2 (some 5) 0 0 8)), none, none, some (some (zi_if zi_eq 28 11)), none, none, some (some (zi_load 0 12)), some (some (zi_getf 8 9 15)), none, none, some (some (zi_load 2 16))],
  [some (some (zi_inv 44 2 (some 5) 0 0 19)), none, none, some (some (zi_if zi_eq 28 22)), none, none, some (some (zi_load 3 23)), some (some (zi_push (.inl (2147483688, 2147483688)) 25)), none, some (some (zi_ic zi_le 30 28)), none, none, some (some (zi_push (.inl (2147483647, 2147483647)) 29)), some none, some (some (zi_load 3 31)), some (some (zi_if zi_ge 37 34))],
  [none, none, some (some (zi_push (.inl (2147483634, 2147483634)) 36)), none, some none, some (some (zi_load 0 38)), some (some (zi_getf 8 9 41)), none, none, some (some (zi_load 1 42)), some (some (zi_load 2 43)), some (some (zi_load 3 44)), some (some (zi_inv 45 4 (some 5) 0 0 47)), none, none, some (some (zi_push (.inl (2147483649, 2147483649)) 48))],
  [some none]]
def zt_X8_lay : zi_T := [[some (some (zi_load 0 1)), some (some (zi_getf 8 9 4)), none, none, some (some (zi_load 1 5)), some (some (zi_inv 43 2 (some 5) 0 0 8)), none, none, some (some (zi_if zi_ne 13 11)), none, none, some (some (zi_push (.inl (2147483647, 2147483647)) 12)), some none, some (some (zi_load 0 14)), some (some (zi_getf 8 9 17)), none],
  [none, some (some (zi_load 1 18)), some (some (zi_load 2 19)), some (some (zi_inv 47 3 (some 5) 0 0 22)), none, none, some (some (zi_store 4 24)), none, some (some (zi_load 4 26)), none, some (some (zi_if zi_eq 35 29)), none, none, some (some (zi_push (.inl (2147483638, 2147483638)) 31)), none, some (some (zi_load 4 33))],
  [none, some (some (zi_bin zi_sub 34)), some none, some (some (zi_load 0 36)), some (some (zi_getf 8 9 39)), none, none, some (some (zi_load 1 40)), some (some (zi_load 2 41)), some (some (zi_load 3 42)), some (some (zi_inv 49 4 (some 5) 0 0 45)), none, none, some (some (zi_push (.inl (2147483649, 2147483649)) 46)), some none]]
def zt_X8_read : zi_T := [[some (some (zi_load 0 1)), some (some (zi_getf 8 9 4)), none, none, some (some (zi_load 1 5)), some (some (zi_inv 43 2 (some 5) 0 0 8)), none, none, some (some (zi_if zi_eq 34 11)), none, none, some (some (zi_load 0 12)), some (some (zi_getf 8 9 15)), none, none, some (some (zi_load 2 16))],
  [some (some (zi_inv 44 2 (some 5) 0 0 19)), none, none, some (some (zi_if zi_eq 34 22)), none, none, some (some (zi_load 4 24)), none, some (some (zi_if zi_lt 34 27)), none, none, some (some (zi_load 4 29)), none, some (some (zi_push (.inl (2147483668, 2147483668)) 31)), none, some (some (zi_ic zi_le 36 34))],
  [none, none, some (some (zi_push (.inl (2147483647, 2147483647)) 35)), some none, some (some (zi_load 0 37)), some (some (zi_getf 8 4 40)), none, none, some (some (zi_load 0 41)), some (some (zi_getf 8 1 44)), none, none, some (some (zi_getf 7 0 47)), none, none, some (some (zi_inv 20 2 (some 2) 0 0 50))],
  [none, none, some (some (zi_push (.inl (2147483648, 2147483648)) 51)), some (some (zi_store 5 53)), none, some (some (zi_push (.inl (2147483648, 2147483648)) 54)), some (some (zi_store 6 56)), none, some (some (zi_push (.inl (2147483648, 2147483648)) 57)), some (some (zi_store 7 59)), none, some (some (zi_load 7 61)), none, some (some (zi_load 4 63)), none, some (some (zi_ic zi_ge 151 66))],
  [none, none, some (some (zi_load 6 68)), none, some (some (zi_if zi_ne 151 71)), none, none, some (some (zi_load 0 72)), some (some (zi_getf 8 9 75)), none, none, some (some (zi_load 1 76)), some (some (zi_load 2 77)), some (some (zi_load 3 78)), some (some (zi_load 7 80)), none],
  [some (some (zi_bin zi_add 81)), some (some (zi_inv 46 4 (some 5) 0 0 84)), none, none, some (some (zi_store 6 86)), none, some (some (zi_load 6 88)), none, some (some (zi_if zi_ne 145 91)), none, none, some (some (zi_load 0 92)), some (some (zi_getf 8 9 95)), none, none, some (some (zi_load 1 96))],
  [some (some (zi_load 3 97)), some (some (zi_load 7 99)), none, some (some (zi_bin zi_add 100)), some (some (zi_inv 48 3 (some 5) 0 0 103)), none, none, some (some (zi_store 8 105)), none, some (some (zi_load 0 106)), some (some (zi_getf 8 4 109)), none, none, some (some (zi_load 8 111)), none, some (some (zi_load 0 112))],
  [some (some (zi_getf 8 1 115)), none, none, some (some (zi_getf 7 4 118)), none, none, some (some (zi_load 7 120)), none, some (some (zi_bin zi_add 121)), some (some (zi_inv 86 3 none 0 0 124)), none, none, some (some (zi_if zi_eq 133 127)), none, none, some (some (zi_push (.inl (2147483628, 2147483628)) 129))],
  [none, some (some (zi_load 7 131)), none, some (some (zi_bin zi_sub 132)), some none, some (some (zi_load 0 134)), some (some (zi_getf 8 4 137)), none, none, some (some (zi_load 8 139)), none, some (some (zi_inv 27 2 (some 2) 0 0 142)), none, none, some (some (zi_inc 5 (2147483649, 2147483649) 145)), none],
  [none, some (some (zi_inc 7 (2147483649, 2147483649) 148)), none, none, some (some (zi_go 59)), none, none, some (some (zi_load 0 152)), some (some (zi_getf 8 1 155)), none, none, some (some (zi_getf 7 0 158)), none, none, some (some (zi_load 0 159)), some (some (zi_getf 8 4 162))],
  [none, none, some (some (zi_inv 20 2 (some 2) 0 0 165)), none, none, some (some (zi_load 0 166)), some (some (zi_getf 8 1 169)), none, none, some (some (zi_dup 170)), some (some (zi_getf 7 4 173)), none, none, some (some (zi_load 5 175)), none, some (some (zi_bin zi_add 176))],
  [some (some (zi_putf 7 4 .int 179)), none, none, some (some (zi_load 0 180)), some (some (zi_getf 8 5 183)), none, none, some (some (zi_push (.inl (2147483648, 2147483648)) 184)), some (some (zi_putf 4 6 .boolean 187)), none, none, some (some (zi_load 0 188)), some (some (zi_load 6 190)), none, some (some (zi_putf 8 13 .int 193)), none],
  [none, some (some (zi_load 5 195)), none, some none]]
def zt_X8_torn : zi_T := [[some (some (zi_load 0 1)), some (some (zi_getf 8 13 4)), none, none, some none]]
def zt_X8_count : zi_T := [[some (some (zi_load 1 1)), some (some (zi_tsw 2147483648 2147483655 [48, 59, 67, 75, 83, 91, 118, 129] 140)), none, none, none, none, none, none, none, none, none, none, none, none, none, none],
  [none, none, none, none, none, none, none, none, none, none, none, none, none, none, none, none],
  [none, none, none, none, none, none, none, none, none, none, none, none, none, none, none, none],
  [some (some (zi_load 0 49)), some (some (zi_getf 8 1 52)), none, none, some (some (zi_getf 7 0 55)), none, none, some (some (zi_getf 2 3 58)), none, none, some none, some (some (zi_load 0 60)), some (some (zi_getf 8 1 63)), none, none, some (some (zi_getf 7 5 66))],
  [none, none, some none, some (some (zi_load 0 68)), some (some (zi_getf 8 1 71)), none, none, some (some (zi_getf 7 6 74)), none, none, some none, some (some (zi_load 0 76)), some (some (zi_getf 8 11 79)), none, none, some (some (zi_inv 210 1 none 0 0 82))],
  [none, none, some none, some (some (zi_load 0 84)), some (some (zi_getf 8 7 87)), none, none, some (some (zi_getf 6 1 90)), none, none, some none, some (some (zi_load 0 92)), some (some (zi_getf 8 9 95)), none, none, some (some (zi_getf 5 1 98))],
  [none, none, some (some (zi_push (.inl (2147483648, 2147483648)) 99)), some (some (zi_ald .int 100)), some (some (zi_if zi_ge 108 103)), none, none, some (some (zi_push (.inl (2147483644, 2147483644)) 105)), none, some (some (zi_go 117)), none, none, some (some (zi_load 0 109)), some (some (zi_getf 8 9 112)), none, none],
  [some (some (zi_getf 5 1 115)), none, none, some (some (zi_push (.inl (2147483648, 2147483648)) 116)), some (some (zi_ald .int 117)), some none, some (some (zi_load 0 119)), some (some (zi_getf 8 1 122)), none, none, some (some (zi_getf 7 0 125)), none, none, some (some (zi_inv 26 1 (some 2) 0 0 128)), none, none],
  [some none, some (some (zi_load 0 130)), some (some (zi_getf 8 1 133)), none, none, some (some (zi_getf 7 0 136)), none, none, some (some (zi_inv 25 1 (some 2) 0 0 139)), none, none, some none, some (some (zi_push (.inl (2147483647, 2147483647)) 141)), some none]]
def zt_X9_init : zi_T := [[some (some (zi_load 0 1)), some (some (zi_obj 4)), none, none, some (some (zi_load 0 5)), some (some (zi_push (.inl (2147483816, 2147483816)) 8)), none, none, some (some (zi_newa .int 10)), none, some (some (zi_putf 9 0 (.array .int) 13)), none, none, some (some (zi_load 0 14)), some (some (zi_push (.inl (2147483650, 2147483650)) 15)), some (some (zi_newa .boolean 17))],
  [none, some (some (zi_putf 9 1 (.array .boolean) 20)), none, none, some (some (zi_load 0 21)), some (some (zi_push (.inl (2147483673, 2147483673)) 23)), none, some (some (zi_newa .int 25)), none, some (some (zi_putf 9 5 (.array .int) 28)), none, none, some (some (zi_load 0 29)), some (some (zi_push (.inl (2147483673, 2147483673)) 31)), none, some (some (zi_newa .int 33))],
  [none, some (some (zi_putf 9 12 (.array .int) 36)), none, none, some (some (zi_load 0 37)), some (some (zi_push (.inl (2147483651, 2147483651)) 38)), some (some (zi_newa .int 40)), none, some (some (zi_putf 9 13 (.array .int) 43)), none, none, some (some (zi_load 0 44)), some (some (zi_push (.inl (2147483673, 2147483673)) 46)), none, some (some (zi_newa .int 48)), none],
  [some (some (zi_putf 9 14 (.array .int) 51)), none, none, some (some (zi_load 0 52)), some (some (zi_push (.inl (2147483651, 2147483651)) 53)), some (some (zi_newa .int 55)), none, some (some (zi_putf 9 15 (.array .int) 58)), none, none, some (some (zi_load 0 59)), some (some (zi_push (.inl (2147483968, 2147483968)) 62)), none, none, some (some (zi_newa .int 64)), none],
  [some (some (zi_putf 9 22 (.array .int) 67)), none, none, some (some (zi_load 0 68)), some (some (zi_push (.inl (2147483673, 2147483673)) 70)), none, some (some (zi_newa .int 72)), none, some (some (zi_putf 9 30 (.array .int) 75)), none, none, some (some (zi_load 0 76)), some (some (zi_push (.inl (2147483673, 2147483673)) 78)), none, some (some (zi_newa .int 80)), none],
  [some (some (zi_putf 9 33 (.array .int) 83)), none, none, some (some (zi_load 0 84)), some (some (zi_push (.inl (2147483673, 2147483673)) 86)), none, some (some (zi_newa .int 88)), none, some (some (zi_putf 9 34 (.array .int) 91)), none, none, some (some (zi_load 0 92)), some (some (zi_push (.inl (2147483675, 2147483675)) 94)), none, some (some (zi_newa .int 96)), none],
  [some (some (zi_putf 9 35 (.array .int) 99)), none, none, some (some (zi_load 0 100)), some (some (zi_push (.inl (2147483651, 2147483651)) 101)), some (some (zi_newa .int 103)), none, some (some (zi_putf 9 36 (.array .int) 106)), none, none, some (some (zi_load 0 107)), some (some (zi_push (.inl (2147483748, 2147483748)) 109)), none, some (some (zi_newa .int 111)), none, some (some (zi_putf 9 37 (.array .int) 114))],
  [none, none, some (some (zi_load 0 115)), some (some (zi_push (.inl (2147483651, 2147483651)) 116)), some (some (zi_newa .int 118)), none, some (some (zi_putf 9 38 (.array .int) 121)), none, none, some (some (zi_load 0 122)), some (some (zi_push (.inl (2147483684, 2147483684)) 124)), none, some (some (zi_newa .int 126)), none, some (some (zi_putf 9 39 (.array .int) 129)), none],
  [none, some (some (zi_load 0 130)), some (some (zi_push (.inl (2147483652, 2147483652)) 131)), some (some (zi_newa .int 133)), none, some (some (zi_putf 9 40 (.array .int) 136)), none, none, some (some (zi_load 0 137)), some (some (zi_push (.inl (2147485173, 2147485173)) 140)), none, none, some (some (zi_newa .int 142)), none, some (some (zi_putf 9 41 (.array .int) 145)), none],
  [none, some (some (zi_load 0 146)), some (some (zi_push (.inl (2147483652, 2147483652)) 147)), some (some (zi_newa .int 149)), none, some (some (zi_putf 9 42 (.array .int) 152)), none, none, some (some (zi_load 0 153)), some (some (zi_push (.inl (2147483652, 2147483652)) 154)), some (some (zi_newa .int 156)), none, some (some (zi_putf 9 43 (.array .int) 159)), none, none, some (some (zi_load 0 160))],
  [some (some (zi_push (.inl (2147483808, 2147483808)) 163)), none, none, some (some (zi_newa .int 165)), none, some (some (zi_putf 9 44 (.array .int) 168)), none, none, some (some (zi_load 0 169)), some (some (zi_push (.inl (2147483673, 2147483673)) 171)), none, some (some (zi_newa .int 173)), none, some (some (zi_putf 9 46 (.array .int) 176)), none, none],
  [some (some (zi_push (.inl (2147483648, 2147483648)) 177)), some (some (zi_store 1 178)), some (some (zi_load 1 179)), some (some (zi_push (.inl (2147483652, 2147483652)) 180)), some (some (zi_ic zi_ge 197 183)), none, none, some (some (zi_load 0 184)), some (some (zi_getf 9 42 187)), none, none, some (some (zi_load 1 188)), some (some (zi_push (.inl (2147483644, 2147483644)) 190)), none, some (some (zi_ast .int 191)), some (some (zi_inc 1 (2147483649, 2147483649) 194))],
  [none, none, some (some (zi_go 178)), none, none, some (some (zi_load 0 198)), some (some (zi_inv 119 1 (some 9) 0 0 201)), none, none, some (some (zi_load 0 202)), some (some (zi_inv 120 1 (some 9) 0 0 205)), none, none, some none]]
def zt_X9_in : zi_T := [[some (some (zi_load 0 1)), some (some (zi_load 2 2)), some (some (zi_lcmp 3)), some (some (zi_if zi_lt 17 6)), none, none, some (some (zi_load 0 7)), some (some (zi_load 4 9)), none, some (some (zi_lcmp 10)), some (some (zi_if zi_gt 17 13)), none, none, some (some (zi_push (.inl (2147483649, 2147483649)) 14)), some (some (zi_go 18)), none],
  [none, some (some (zi_push (.inl (2147483648, 2147483648)) 18)), some none]]
def zt_X9_flag : zi_T := [[some (some (zi_load 0 1)), some (some (zi_if zi_eq 8 4)), none, none, some (some (zi_push (.inl (2147483649, 2147483649)) 5)), some (some (zi_go 9)), none, none, some (some (zi_push (.inl (2147483648, 2147483648)) 9)), some none]]
def zt_X9_firstDraft : zi_T := [[some (some (zi_load 0 1)), some (some (zi_push (.inl (2147483651, 2147483651)) 2)), some (some (zi_putf 9 6 .int 5)), none, none, some (some (zi_load 0 6)), some (some (zi_push (.inl (2147483651, 2147483651)) 7)), some (some (zi_putf 9 7 .int 10)), none, none, some (some (zi_load 0 11)), some (some (zi_push (.inl (2147483648, 2147483648)) 12)), some (some (zi_putf 9 8 .int 15)), none, none, some (some (zi_load 0 16))],
  [some (some (zi_push (.inl (2147483648, 2147483648)) 17)), some (some (zi_putf 9 9 .int 20)), none, none, some (some (zi_load 0 21)), some (some (zi_push (.inl (2147483648, 2147483648)) 22)), some (some (zi_putf 9 10 .int 25)), none, none, some (some (zi_load 0 26)), some (some (zi_push (.inl (2147483648, 2147483648)) 27)), some (some (zi_putf 9 11 .int 30)), none, none, some (some (zi_push (.inl (2147483648, 2147483648)) 31)), some (some (zi_store 1 32))],
  [some (some (zi_load 1 33)), some (some (zi_push (.inl (2147483673, 2147483673)) 35)), none, some (some (zi_ic zi_ge 59 38)), none, none, some (some (zi_load 0 39)), some (some (zi_getf 9 12 42)), none, none, some (some (zi_load 1 43)), some (some (zi_push (.inl (2147483648, 2147483648)) 44)), some (some (zi_ast .int 45)), some (some (zi_load 0 46)), some (some (zi_getf 9 14 49)), none],
  [none, some (some (zi_load 1 50)), some (some (zi_push (.inl (2147483644, 2147483644)) 52)), none, some (some (zi_ast .int 53)), some (some (zi_inc 1 (2147483649, 2147483649) 56)), none, none, some (some (zi_go 32)), none, none, some (some (zi_push (.inl (2147483648, 2147483648)) 60)), some (some (zi_store 1 61)), some (some (zi_load 1 62)), some (some (zi_push (.inl (2147483651, 2147483651)) 63)), some (some (zi_ic zi_ge 86 66))],
  [none, none, some (some (zi_load 0 67)), some (some (zi_getf 9 15 70)), none, none, some (some (zi_load 1 71)), some (some (zi_push (.inl (2147483648, 2147483648)) 72)), some (some (zi_ast .int 73)), some (some (zi_load 0 74)), some (some (zi_getf 9 13 77)), none, none, some (some (zi_load 1 78)), some (some (zi_push (.inl (2147483648, 2147483648)) 79)), some (some (zi_ast .int 80))],
  [some (some (zi_inc 1 (2147483649, 2147483649) 83)), none, none, some (some (zi_go 61)), none, none, some (some (zi_load 0 87)), some (some (zi_push (.inl (2147483648, 2147483648)) 88)), some (some (zi_putf 9 16 .int 91)), none, none, some (some (zi_load 0 92)), some (some (zi_push (.inl (2147483648, 2147483648)) 93)), some (some (zi_putf 9 17 .int 96)), none, none],
  [some (some (zi_load 0 97)), some (some (zi_push (.inl (2147483644, 2147483644)) 99)), none, some (some (zi_putf 9 18 .int 102)), none, none, some (some (zi_load 0 103)), some (some (zi_push (.inl (2147483644, 2147483644)) 105)), none, some (some (zi_putf 9 19 .int 108)), none, none, some (some (zi_load 0 109)), some (some (zi_push (.inl (2147483644, 2147483644)) 111)), none, some (some (zi_putf 9 20 .int 114))],
  [none, none, some (some (zi_load 0 115)), some (some (zi_push (.inl (2147483644, 2147483644)) 117)), none, some (some (zi_putf 9 21 .int 120)), none, none, some none]]
def zt_X9_keepDraft : zi_T := [[some (some (zi_push (.inl (2147483648, 2147483648)) 1)), some (some (zi_store 1 2)), some (some (zi_load 1 3)), some (some (zi_push (.inl (2147483704, 2147483704)) 5)), none, some (some (zi_ic zi_ge 21 8)), none, none, some (some (zi_load 0 9)), some (some (zi_getf 9 0 12)), none, none, some (some (zi_load 1 13)), some (some (zi_push (.inl (2147483648, 2147483648)) 14)), some (some (zi_ast .int 15)), some (some (zi_inc 1 (2147483649, 2147483649) 18))],
  [none, none, some (some (zi_go 2)), none, none, some (some (zi_load 0 22)), some (some (zi_load 0 23)), some (some (zi_getf 9 6 26)), none, none, some (some (zi_putf 9 2 .int 29)), none, none, some (some (zi_load 0 30)), some (some (zi_load 0 31)), some (some (zi_getf 9 7 34))],
  [none, none, some (some (zi_putf 9 3 .int 37)), none, none, some (some (zi_load 0 38)), some (some (zi_load 0 39)), some (some (zi_getf 9 9 42)), none, none, some (some (zi_putf 9 4 .int 45)), none, none, some (some (zi_push (.inl (2147483648, 2147483648)) 46)), some (some (zi_store 1 47)), some (some (zi_load 1 48))],
  [some (some (zi_push (.inl (2147483673, 2147483673)) 50)), none, some (some (zi_ic zi_ge 116 53)), none, none, some (some (zi_load 0 54)), some (some (zi_getf 9 5 57)), none, none, some (some (zi_load 1 58)), some (some (zi_load 0 59)), some (some (zi_getf 9 14 62)), none, none, some (some (zi_load 1 63)), some (some (zi_ald .int 64))],
  [some (some (zi_ast .int 65)), some (some (zi_load 0 66)), some (some (zi_getf 9 0 69)), none, none, some (some (zi_load 1 70)), some (some (zi_load 1 71)), some (some (zi_load 0 72)), some (some (zi_getf 9 2 75)), none, none, some (some (zi_load 0 76)), some (some (zi_getf 9 3 79)), none, none, some (some (zi_bin zi_mul 80))],
  [some (some (zi_ic zi_ge 108 83)), none, none, some (some (zi_push (.inl (2147483651, 2147483651)) 84)), some (some (zi_load 0 85)), some (some (zi_getf 9 12 88)), none, none, some (some (zi_push (.inl (2147483653, 2147483653)) 89)), some (some (zi_load 1 90)), some (some (zi_load 0 91)), some (some (zi_getf 9 2 94)), none, none, some (some (zi_dv zi_div 95)), some (some (zi_bin zi_mul 96))],
  [some (some (zi_load 1 97)), some (some (zi_load 0 98)), some (some (zi_getf 9 2 101)), none, none, some (some (zi_dv zi_rem 102)), some (some (zi_bin zi_add 103)), some (some (zi_ald .int 104)), some (some (zi_bin zi_mul 105)), some (some (zi_go 109)), none, none, some (some (zi_push (.inl (2147483648, 2147483648)) 109)), some (some (zi_ast .int 110)), some (some (zi_inc 1 (2147483649, 2147483649) 113)), none],
  [none, some (some (zi_go 47)), none, none, some (some (zi_load 0 117)), some (some (zi_getf 9 0 120)), none, none, some (some (zi_push (.inl (2147483673, 2147483673)) 122)), none, some (some (zi_load 0 123)), some (some (zi_getf 9 8 126)), none, none, some (some (zi_ast .int 127)), some (some (zi_load 0 128))],
  [some (some (zi_getf 9 0 131)), none, none, some (some (zi_push (.inl (2147483674, 2147483674)) 133)), none, some (some (zi_load 0 134)), some (some (zi_getf 9 10 137)), none, none, some (some (zi_ast .int 138)), some (some (zi_load 0 139)), some (some (zi_getf 9 0 142)), none, none, some (some (zi_push (.inl (2147483675, 2147483675)) 144)), none],
  [some (some (zi_load 0 145)), some (some (zi_getf 9 11 148)), none, none, some (some (zi_ast .int 149)), some (some (zi_push (.inl (2147483648, 2147483648)) 150)), some (some (zi_store 1 151)), some (some (zi_load 1 152)), some (some (zi_push (.inl (2147483651, 2147483651)) 153)), some (some (zi_ic zi_ge 177 156)), none, none, some (some (zi_load 0 157)), some (some (zi_getf 9 0 160)), none, none],
  [some (some (zi_push (.inl (2147483676, 2147483676)) 162)), none, some (some (zi_load 1 163)), some (some (zi_bin zi_add 164)), some (some (zi_load 0 165)), some (some (zi_getf 9 13 168)), none, none, some (some (zi_load 1 169)), some (some (zi_ald .int 170)), some (some (zi_ast .int 171)), some (some (zi_inc 1 (2147483649, 2147483649) 174)), none, none, some (some (zi_go 151)), none],
  [none, some (some (zi_load 0 178)), some (some (zi_getf 9 1 181)), none, none, some (some (zi_push (.inl (2147483648, 2147483648)) 182)), some (some (zi_push (.inl (2147483648, 2147483648)) 183)), some (some (zi_ast .boolean 184)), some (some (zi_load 0 185)), some (some (zi_getf 9 1 188)), none, none, some (some (zi_push (.inl (2147483649, 2147483649)) 189)), some (some (zi_push (.inl (2147483648, 2147483648)) 190)), some (some (zi_ast .boolean 191)), some none]]
def zt_X9_feed : zi_T := [[some (some (zi_load 0 1)), some (some (zi_getf 9 23 4)), none, none, some (some (zi_push (.inl (2147483656, 2147483656)) 6)), none, some (some (zi_bin zi_add 7)), some (some (zi_push (.inl (2147483968, 2147483968)) 10)), none, none, some (some (zi_ic zi_le 16 13)), none, none, some (some (zi_push (.inl (2147483645, 2147483645)) 15)), none, some none],
  [some (some (zi_push (.inl (2147483704, 2147483704)) 18)), none, some (some (zi_store 3 19)), some (some (zi_load 3 20)), some (some (zi_if zi_lt 56 23)), none, none, some (some (zi_load 0 24)), some (some (zi_getf 9 22 27)), none, none, some (some (zi_load 0 28)), some (some (zi_getf 9 23 31)), none, none, some (some (zi_load 1 32))],
  [some (some (zi_load 3 33)), some (some (zi_shfl zi_lshr 34)), some (some (zi_push (.inr (.inl (9223372036854776063, 9223372036854776063))) 37)), none, none, some (some (zi_binl zi_land 38)), some (some (zi_l2i 39)), some (some (zi_ast .int 40)), some (some (zi_load 0 41)), some (some (zi_dup 42)), some (some (zi_getf 9 23 45)), none, none, some (some (zi_push (.inl (2147483649, 2147483649)) 46)), some (some (zi_bin zi_add 47)), some (some (zi_putf 9 23 .int 50))],
  [none, none, some (some (zi_inc 3 (2147483640, 2147483640) 53)), none, none, some (some (zi_go 19)), none, none, some (some (zi_load 0 57)), some (some (zi_getf 9 23 60)), none, none, some none]]
def zt_X9_end : zi_T := [[some (some (zi_load 1 1)), some (some (zi_i2l 2)), some (some (zi_push (.inr (.inl (9223372036854775808, 9223372036854775808))) 3)), some (some (zi_load 0 4)), some (some (zi_getf 9 23 7)), none, none, some (some (zi_i2l 8)), some (some (zi_inv 117 3 none 0 0 11)), none, none, some (some (zi_if zi_ne 16 14)), none, none, some (some (zi_push (.inl (2147483647, 2147483647)) 15)), some none],
  [some (some (zi_load 0 17)), some (some (zi_getf 9 23 20)), none, none, some (some (zi_store 2 21)), some (some (zi_load 0 22)), some (some (zi_load 1 23)), some (some (zi_putf 9 23 .int 26)), none, none, some (some (zi_load 2 27)), some none]]
def zt_X9_needs : zi_T := [[some (some (zi_load 1 1)), some (some (zi_if zi_ne 24 4)), none, none, some (some (zi_load 0 5)), some (some (zi_getf 9 28 8)), none, none, some (some (zi_if zi_ne 24 11)), none, none, some (some (zi_load 0 12)), some (some (zi_load 2 13)), some (some (zi_putf 9 28 .int 16)), none, none],
  [some (some (zi_load 0 17)), some (some (zi_load 0 18)), some (some (zi_getf 9 25 21)), none, none, some (some (zi_putf 9 29 .int 24)), none, none, some none]]
def zt_X9_look : zi_T := [[some (some (zi_load 1 1)), some (some (zi_load 0 2)), some (some (zi_getf 9 23 5)), none, none, some (some (zi_ic zi_ge 17 8)), none, none, some (some (zi_load 0 9)), some (some (zi_getf 9 22 12)), none, none, some (some (zi_load 1 13)), some (some (zi_ald .int 14)), some (some (zi_go 18)), none],
  [none, some (some (zi_push (.inl (2147483647, 2147483647)) 18)), some none]]
def zt_X9_is : zi_T := [[some (some (zi_load 0 1)), some (some (zi_getf 9 24 4)), none, none, some (some (zi_load 0 5)), some (some (zi_getf 9 25 8)), none, none, some (some (zi_bin zi_sub 9)), some (some (zi_load 1 10)), some (some (zi_ic zi_ne 58 13)), none, none, some (some (zi_load 0 14)), some (some (zi_load 0 15)), some (some (zi_getf 9 25 18))],
  [none, none, some (some (zi_inv 124 2 (some 9) 0 0 21)), none, none, some (some (zi_load 2 22)), some (some (zi_ic zi_ne 58 25)), none, none, some (some (zi_load 0 26)), some (some (zi_load 0 27)), some (some (zi_getf 9 25 30)), none, none, some (some (zi_push (.inl (2147483649, 2147483649)) 31)), some (some (zi_bin zi_add 32))],
  [some (some (zi_inv 124 2 (some 9) 0 0 35)), none, none, some (some (zi_load 3 36)), some (some (zi_ic zi_ne 58 39)), none, none, some (some (zi_load 0 40)), some (some (zi_load 0 41)), some (some (zi_getf 9 25 44)), none, none, some (some (zi_push (.inl (2147483650, 2147483650)) 45)), some (some (zi_bin zi_add 46)), some (some (zi_inv 124 2 (some 9) 0 0 49)), none],
  [none, some (some (zi_load 4 51)), none, some (some (zi_ic zi_ne 58 54)), none, none, some (some (zi_push (.inl (2147483649, 2147483649)) 55)), some (some (zi_go 59)), none, none, some (some (zi_push (.inl (2147483648, 2147483648)) 59)), some none]]
def zt_X9_ends : zi_T := [[some (some (zi_load 0 1)), some (some (zi_load 0 2)), some (some (zi_getf 9 25 5)), none, none, some (some (zi_push (.inl (2147483651, 2147483651)) 6)), some (some (zi_bin zi_add 7)), some (some (zi_inv 124 2 (some 9) 0 0 10)), none, none, some (some (zi_load 1 11)), some (some (zi_ic zi_ne 54 14)), none, none, some (some (zi_load 2 15)), some (some (zi_if zi_eq 32 18))],
  [none, none, some (some (zi_load 0 19)), some (some (zi_load 0 20)), some (some (zi_getf 9 25 23)), none, none, some (some (zi_push (.inl (2147483652, 2147483652)) 24)), some (some (zi_bin zi_add 25)), some (some (zi_inv 124 2 (some 9) 0 0 28)), none, none, some (some (zi_load 2 29)), some (some (zi_ic zi_ne 54 32)), none, none],
  [some (some (zi_load 3 33)), some (some (zi_if zi_eq 50 36)), none, none, some (some (zi_load 0 37)), some (some (zi_load 0 38)), some (some (zi_getf 9 25 41)), none, none, some (some (zi_push (.inl (2147483653, 2147483653)) 42)), some (some (zi_bin zi_add 43)), some (some (zi_inv 124 2 (some 9) 0 0 46)), none, none, some (some (zi_load 3 47)), some (some (zi_ic zi_ne 54 50))],
  [none, none, some (some (zi_push (.inl (2147483649, 2147483649)) 51)), some (some (zi_go 55)), none, none, some (some (zi_push (.inl (2147483648, 2147483648)) 55)), some none]]
def zt_X9_ruleLine : zi_T := [[some (some (zi_load 0 1)), some (some (zi_push (.inl (2147483653, 2147483653)) 2)), some (some (zi_push (.inl (2147483760, 2147483760)) 4)), none, some (some (zi_push (.inl (2147483756, 2147483756)) 6)), none, some (some (zi_push (.inl (2147483745, 2147483745)) 8)), none, some (some (zi_inv 125 5 (some 9) 0 0 11)), none, none, some (some (zi_if zi_eq 28 14)), none, none, some (some (zi_load 0 15)), some (some (zi_push (.inl (2147483753, 2147483753)) 17))],
  [none, some (some (zi_push (.inl (2147483758, 2147483758)) 19)), none, some (some (zi_push (.inl (2147483648, 2147483648)) 20)), some (some (zi_inv 126 4 (some 9) 0 0 23)), none, none, some (some (zi_if zi_eq 28 26)), none, none, some (some (zi_push (.inl (2147483648, 2147483648)) 27)), some none, some (some (zi_load 0 29)), some (some (zi_push (.inl (2147483654, 2147483654)) 31)), none, some (some (zi_push (.inl (2147483763, 2147483763)) 33))],
  [none, some (some (zi_push (.inl (2147483760, 2147483760)) 35)), none, some (some (zi_push (.inl (2147483762, 2147483762)) 37)), none, some (some (zi_inv 125 5 (some 9) 0 0 40)), none, none, some (some (zi_if zi_eq 58 43)), none, none, some (some (zi_load 0 44)), some (some (zi_push (.inl (2147483753, 2147483753)) 46)), none, some (some (zi_push (.inl (2147483758, 2147483758)) 48)), none],
  [some (some (zi_push (.inl (2147483751, 2147483751)) 50)), none, some (some (zi_inv 126 4 (some 9) 0 0 53)), none, none, some (some (zi_if zi_eq 58 56)), none, none, some (some (zi_push (.inl (2147483649, 2147483649)) 57)), some none, some (some (zi_load 0 59)), some (some (zi_push (.inl (2147483651, 2147483651)) 60)), some (some (zi_push (.inl (2147483756, 2147483756)) 62)), none, some (some (zi_push (.inl (2147483745, 2147483745)) 64)), none],
  [some (some (zi_push (.inl (2147483767, 2147483767)) 66)), none, some (some (zi_inv 125 5 (some 9) 0 0 69)), none, none, some (some (zi_if zi_eq 76 72)), none, none, some (some (zi_push (.inl (2147483650, 2147483650)) 73)), some (some (zi_go 107)), none, none, some (some (zi_load 0 77)), some (some (zi_push (.inl (2147483652, 2147483652)) 78)), some (some (zi_push (.inl (2147483763, 2147483763)) 80)), none],
  [some (some (zi_push (.inl (2147483753, 2147483753)) 82)), none, some (some (zi_push (.inl (2147483756, 2147483756)) 84)), none, some (some (zi_inv 125 5 (some 9) 0 0 87)), none, none, some (some (zi_if zi_eq 105 90)), none, none, some (some (zi_load 0 91)), some (some (zi_push (.inl (2147483764, 2147483764)) 93)), none, some (some (zi_push (.inl (2147483648, 2147483648)) 94)), some (some (zi_push (.inl (2147483648, 2147483648)) 95)), some (some (zi_inv 126 4 (some 9) 0 0 98))],
  [none, none, some (some (zi_if zi_eq 105 101)), none, none, some (some (zi_push (.inl (2147483651, 2147483651)) 102)), some (some (zi_go 107)), none, none, some (some (zi_push (.inl (2147483644, 2147483644)) 107)), none, some none]]
def zt_X9_lineNow : zi_T := [[some (some (zi_load 0 1)), some (some (zi_push (.inl (2147483651, 2147483651)) 2)), some (some (zi_push (.inl (2147483762, 2147483762)) 4)), none, some (some (zi_push (.inl (2147483759, 2147483759)) 6)), none, some (some (zi_push (.inl (2147483767, 2147483767)) 8)), none, some (some (zi_inv 125 5 (some 9) 0 0 11)), none, none, some (some (zi_if zi_eq 16 14)), none, none, some (some (zi_push (.inl (2147483652, 2147483652)) 15)), some none],
  [some (some (zi_load 0 17)), some (some (zi_push (.inl (2147483652, 2147483652)) 18)), some (some (zi_push (.inl (2147483750, 2147483750)) 20)), none, some (some (zi_push (.inl (2147483745, 2147483745)) 22)), none, some (some (zi_push (.inl (2147483762, 2147483762)) 24)), none, some (some (zi_inv 125 5 (some 9) 0 0 27)), none, none, some (some (zi_if zi_eq 43 30)), none, none, some (some (zi_load 0 31)), some (some (zi_push (.inl (2147483757, 2147483757)) 33))],
  [none, some (some (zi_push (.inl (2147483648, 2147483648)) 34)), some (some (zi_push (.inl (2147483648, 2147483648)) 35)), some (some (zi_inv 126 4 (some 9) 0 0 38)), none, none, some (some (zi_if zi_eq 43 41)), none, none, some (some (zi_push (.inl (2147483653, 2147483653)) 42)), some none, some (some (zi_load 0 44)), some (some (zi_push (.inl (2147483654, 2147483654)) 46)), none, some (some (zi_push (.inl (2147483751, 2147483751)) 48)), none],
  [some (some (zi_push (.inl (2147483762, 2147483762)) 50)), none, some (some (zi_push (.inl (2147483759, 2147483759)) 52)), none, some (some (zi_inv 125 5 (some 9) 0 0 55)), none, none, some (some (zi_if zi_eq 76 58)), none, none, some (some (zi_load 0 59)), some (some (zi_push (.inl (2147483765, 2147483765)) 61)), none, some (some (zi_push (.inl (2147483758, 2147483758)) 63)), none, some (some (zi_push (.inl (2147483748, 2147483748)) 65))],
  [none, some (some (zi_inv 126 4 (some 9) 0 0 68)), none, none, some (some (zi_if zi_eq 76 71)), none, none, some (some (zi_push (.inl (2147483654, 2147483654)) 73)), none, some (some (zi_go 80)), none, none, some (some (zi_load 0 77)), some (some (zi_inv 127 1 (some 9) 0 0 80)), none, none],
  [some none]]
def zt_X9_next : zi_T := [[some (some (zi_load 0 1)), some (some (zi_getf 9 28 4)), none, none, some (some (zi_if zi_le 8 7)), none, none, some none, some (some (zi_load 0 9)), some (some (zi_load 0 10)), some (some (zi_getf 9 24 13)), none, none, some (some (zi_inv 124 2 (some 9) 0 0 16)), none, none],
  [some (some (zi_push (.inl (2147483680, 2147483680)) 18)), none, some (some (zi_ic zi_ne 34 21)), none, none, some (some (zi_load 0 22)), some (some (zi_dup 23)), some (some (zi_getf 9 24 26)), none, none, some (some (zi_push (.inl (2147483649, 2147483649)) 27)), some (some (zi_bin zi_add 28)), some (some (zi_putf 9 24 .int 31)), none, none, some (some (zi_go 8))],
  [none, none, some (some (zi_load 0 35)), some (some (zi_load 0 36)), some (some (zi_getf 9 24 39)), none, none, some (some (zi_putf 9 25 .int 42)), none, none, some (some (zi_load 0 43)), some (some (zi_load 0 44)), some (some (zi_getf 9 24 47)), none, none, some (some (zi_inv 124 2 (some 9) 0 0 50))],
  [none, none, some (some (zi_store 1 51)), some (some (zi_load 1 52)), some (some (zi_if zi_ge 63 55)), none, none, some (some (zi_load 0 56)), some (some (zi_push (.inl (2147483648, 2147483648)) 57)), some (some (zi_putf 9 26 .int 60)), none, none, some (some (zi_go 274)), none, none, some (some (zi_load 1 64))],
  [some (some (zi_i2l 65)), some (some (zi_push (.inr (.inl (9223372036854775905, 9223372036854775905))) 68)), none, none, some (some (zi_push (.inr (.inl (9223372036854775930, 9223372036854775930))) 71)), none, none, some (some (zi_inv 117 3 none 0 0 74)), none, none, some (some (zi_if zi_eq 116 77)), none, none, some (some (zi_load 0 78)), some (some (zi_push (.inl (2147483649, 2147483649)) 79)), some (some (zi_putf 9 26 .int 82))],
  [none, none, some (some (zi_load 0 83)), some (some (zi_load 0 84)), some (some (zi_getf 9 24 87)), none, none, some (some (zi_inv 124 2 (some 9) 0 0 90)), none, none, some (some (zi_i2l 91)), some (some (zi_push (.inr (.inl (9223372036854775905, 9223372036854775905))) 94)), none, none, some (some (zi_push (.inr (.inl (9223372036854775930, 9223372036854775930))) 97)), none],
  [none, some (some (zi_inv 117 3 none 0 0 100)), none, none, some (some (zi_if zi_eq 274 103)), none, none, some (some (zi_load 0 104)), some (some (zi_dup 105)), some (some (zi_getf 9 24 108)), none, none, some (some (zi_push (.inl (2147483649, 2147483649)) 109)), some (some (zi_bin zi_add 110)), some (some (zi_putf 9 24 .int 113)), none],
  [none, some (some (zi_go 82)), none, none, some (some (zi_load 1 117)), some (some (zi_i2l 118)), some (some (zi_push (.inr (.inl (9223372036854775856, 9223372036854775856))) 121)), none, none, some (some (zi_push (.inr (.inl (9223372036854775865, 9223372036854775865))) 124)), none, none, some (some (zi_inv 117 3 none 0 0 127)), none, none, some (some (zi_if zi_eq 243 130))],
  [none, none, some (some (zi_load 0 131)), some (some (zi_push (.inl (2147483650, 2147483650)) 132)), some (some (zi_putf 9 26 .int 135)), none, none, some (some (zi_load 0 136)), some (some (zi_push (.inl (2147483648, 2147483648)) 137)), some (some (zi_putf 9 27 .int 140)), none, none, some (some (zi_load 0 141)), some (some (zi_load 0 142)), some (some (zi_getf 9 24 145)), none],
  [none, some (some (zi_inv 124 2 (some 9) 0 0 148)), none, none, some (some (zi_i2l 149)), some (some (zi_push (.inr (.inl (9223372036854775856, 9223372036854775856))) 152)), none, none, some (some (zi_push (.inr (.inl (9223372036854775865, 9223372036854775865))) 155)), none, none, some (some (zi_inv 117 3 none 0 0 158)), none, none, some (some (zi_if zi_eq 217 161)), none],
  [none, some (some (zi_load 0 162)), some (some (zi_load 0 163)), some (some (zi_getf 9 24 166)), none, none, some (some (zi_load 0 167)), some (some (zi_getf 9 25 170)), none, none, some (some (zi_bin zi_sub 171)), some (some (zi_push (.inl (2147483650, 2147483650)) 172)), some (some (zi_ic zi_ge 197 175)), none, none, some (some (zi_push (.inl (2147483658, 2147483658)) 177))],
  [none, some (some (zi_load 0 178)), some (some (zi_getf 9 27 181)), none, none, some (some (zi_bin zi_mul 182)), some (some (zi_load 0 183)), some (some (zi_load 0 184)), some (some (zi_getf 9 24 187)), none, none, some (some (zi_inv 124 2 (some 9) 0 0 190)), none, none, some (some (zi_bin zi_add 191)), some (some (zi_push (.inl (2147483696, 2147483696)) 193))],
  [none, some (some (zi_bin zi_sub 194)), some (some (zi_go 201)), none, none, some (some (zi_load 0 198)), some (some (zi_getf 9 27 201)), none, none, some (some (zi_putf 9 27 .int 204)), none, none, some (some (zi_load 0 205)), some (some (zi_dup 206)), some (some (zi_getf 9 24 209)), none],
  [none, some (some (zi_push (.inl (2147483649, 2147483649)) 210)), some (some (zi_bin zi_add 211)), some (some (zi_putf 9 24 .int 214)), none, none, some (some (zi_go 140)), none, none, some (some (zi_load 0 218)), some (some (zi_load 0 219)), some (some (zi_getf 9 24 222)), none, none, some (some (zi_load 0 223)), some (some (zi_getf 9 25 226))],
  [none, none, some (some (zi_bin zi_sub 227)), some (some (zi_push (.inl (2147483650, 2147483650)) 228)), some (some (zi_ic zi_gt 235 231)), none, none, some (some (zi_push (.inl (2147483649, 2147483649)) 232)), some (some (zi_go 236)), none, none, some (some (zi_push (.inl (2147483648, 2147483648)) 236)), some (some (zi_push (.inl (2147483649, 2147483649)) 237)), some (some (zi_inv 123 3 (some 9) 0 0 240)), none, none],
  [some (some (zi_go 274)), none, none, some (some (zi_load 0 244)), some (some (zi_push (.inl (2147483651, 2147483651)) 245)), some (some (zi_putf 9 26 .int 248)), none, none, some (some (zi_load 0 249)), some (some (zi_load 1 250)), some (some (zi_push (.inl (2147483707, 2147483707)) 252)), none, some (some (zi_ic zi_ne 259 255)), none, none, some (some (zi_push (.inl (2147483649, 2147483649)) 256))],
  [some (some (zi_go 260)), none, none, some (some (zi_push (.inl (2147483648, 2147483648)) 260)), some (some (zi_push (.inl (2147483649, 2147483649)) 261)), some (some (zi_inv 123 3 (some 9) 0 0 264)), none, none, some (some (zi_load 0 265)), some (some (zi_dup 266)), some (some (zi_getf 9 24 269)), none, none, some (some (zi_push (.inl (2147483649, 2147483649)) 270)), some (some (zi_bin zi_add 271)), some (some (zi_putf 9 24 .int 274))],
  [none, none, some none]]
def zt_X9_looked : zi_T := [[some (some (zi_load 0 1)), some (some (zi_getf 9 28 4)), none, none, some (some (zi_if zi_ne 25 7)), none, none, some (some (zi_load 0 8)), some (some (zi_load 0 9)), some (some (zi_getf 9 26 12)), none, none, some (some (zi_push (.inl (2147483650, 2147483650)) 13)), some (some (zi_ic zi_ne 20 16)), none, none],
  [some (some (zi_push (.inl (2147483649, 2147483649)) 17)), some (some (zi_go 21)), none, none, some (some (zi_push (.inl (2147483648, 2147483648)) 21)), some (some (zi_push (.inl (2147483650, 2147483650)) 22)), some (some (zi_inv 123 3 (some 9) 0 0 25)), none, none, some (some (zi_load 0 26)), some (some (zi_getf 9 28 29)), none, none, some (some (zi_if zi_ne 49 32)), none, none],
  [some (some (zi_load 0 33)), some (some (zi_load 0 34)), some (some (zi_getf 9 27 37)), none, none, some (some (zi_i2l 38)), some (some (zi_load 1 39)), some (some (zi_i2l 40)), some (some (zi_load 2 41)), some (some (zi_i2l 42)), some (some (zi_inv 117 3 none 0 0 45)), none, none, some (some (zi_push (.inl (2147483651, 2147483651)) 46)), some (some (zi_inv 123 3 (some 9) 0 0 49)), none],
  [none, some (some (zi_load 0 50)), some (some (zi_getf 9 28 53)), none, none, some (some (zi_if zi_ne 63 56)), none, none, some (some (zi_load 0 57)), some (some (zi_getf 9 27 60)), none, none, some (some (zi_go 64)), none, none, some (some (zi_push (.inl (2147483648, 2147483648)) 64))],
  [some none]]
def zt_X9_readNumber : zi_T := [[some (some (zi_load 0 1)), some (some (zi_load 1 2)), some (some (zi_load 2 3)), some (some (zi_inv 130 3 (some 9) 0 0 6)), none, none, some (some (zi_store 3 7)), some (some (zi_load 0 8)), some (some (zi_inv 129 1 (some 9) 0 0 11)), none, none, some (some (zi_load 3 12)), some none]]
def zt_X9_readRow : zi_T := [[some (some (zi_load 0 1)), some (some (zi_push (.inl (2147483648, 2147483648)) 2)), some (some (zi_push (.inl (2147483652, 2147483652)) 3)), some (some (zi_inv 130 3 (some 9) 0 0 6)), none, none, some (some (zi_store 1 7)), some (some (zi_load 0 8)), some (some (zi_getf 9 28 11)), none, none, some (some (zi_if zi_ne 67 14)), none, none, some (some (zi_load 0 15)), some (some (zi_load 0 16))],
  [some (some (zi_getf 9 17 19)), none, none, some (some (zi_load 1 20)), some (some (zi_bin zi_shr 21)), some (some (zi_push (.inl (2147483649, 2147483649)) 22)), some (some (zi_bin zi_and 23)), some (some (zi_if zi_ne 30 26)), none, none, some (some (zi_push (.inl (2147483649, 2147483649)) 27)), some (some (zi_go 31)), none, none, some (some (zi_push (.inl (2147483648, 2147483648)) 31)), some (some (zi_push (.inl (2147483652, 2147483652)) 32))],
  [some (some (zi_inv 123 3 (some 9) 0 0 35)), none, none, some (some (zi_load 0 36)), some (some (zi_dup 37)), some (some (zi_getf 9 17 40)), none, none, some (some (zi_push (.inl (2147483649, 2147483649)) 41)), some (some (zi_load 1 42)), some (some (zi_bin zi_shl 43)), some (some (zi_bin zi_or 44)), some (some (zi_putf 9 17 .int 47)), none, none, some (some (zi_load 0 48))],
  [some (some (zi_load 1 49)), some (some (zi_load 0 50)), some (some (zi_getf 9 18 53)), none, none, some (some (zi_ic zi_le 60 56)), none, none, some (some (zi_load 1 57)), some (some (zi_go 64)), none, none, some (some (zi_load 0 61)), some (some (zi_getf 9 18 64)), none, none],
  [some (some (zi_putf 9 18 .int 67)), none, none, some (some (zi_load 0 68)), some (some (zi_inv 129 1 (some 9) 0 0 71)), none, none, some (some (zi_push (.inl (2147483648, 2147483648)) 72)), some (some (zi_store 2 73)), some (some (zi_push (.inl (2147483649, 2147483649)) 74)), some (some (zi_store 3 75)), some (some (zi_load 0 76)), some (some (zi_getf 9 28 79)), none, none, some (some (zi_if zi_ne 181 82))],
  [none, none, some (some (zi_load 3 83)), some (some (zi_if zi_eq 181 86)), none, none, some (some (zi_load 0 87)), some (some (zi_load 0 88)), some (some (zi_getf 9 26 91)), none, none, some (some (zi_push (.inl (2147483650, 2147483650)) 92)), some (some (zi_ic zi_ne 100 95)), none, none, some (some (zi_load 2 96))],
  [some (some (zi_push (.inl (2147483653, 2147483653)) 97)), some (some (zi_ic zi_ge 104 100)), none, none, some (some (zi_push (.inl (2147483649, 2147483649)) 101)), some (some (zi_go 105)), none, none, some (some (zi_push (.inl (2147483648, 2147483648)) 105)), some (some (zi_push (.inl (2147483653, 2147483653)) 106)), some (some (zi_inv 123 3 (some 9) 0 0 109)), none, none, some (some (zi_load 0 110)), some (some (zi_push (.inl (2147483648, 2147483648)) 111)), some (some (zi_push (.inl (2147483657, 2147483657)) 113))],
  [none, some (some (zi_inv 130 3 (some 9) 0 0 116)), none, none, some (some (zi_store 4 118)), none, some (some (zi_load 0 119)), some (some (zi_getf 9 28 122)), none, none, some (some (zi_if zi_ne 160 125)), none, none, some (some (zi_load 0 126)), some (some (zi_getf 9 12 129)), none],
  [none, some (some (zi_push (.inl (2147483653, 2147483653)) 130)), some (some (zi_load 1 131)), some (some (zi_bin zi_mul 132)), some (some (zi_load 2 133)), some (some (zi_bin zi_add 134)), some (some (zi_load 4 136)), none, some (some (zi_ast .int 137)), some (some (zi_load 0 138)), some (some (zi_load 2 139)), some (some (zi_load 0 140)), some (some (zi_getf 9 19 143)), none, none, some (some (zi_ic zi_le 150 146))],
  [none, none, some (some (zi_load 2 147)), some (some (zi_go 154)), none, none, some (some (zi_load 0 151)), some (some (zi_getf 9 19 154)), none, none, some (some (zi_putf 9 19 .int 157)), none, none, some (some (zi_inc 2 (2147483649, 2147483649) 160)), none, none],
  [some (some (zi_load 0 161)), some (some (zi_inv 129 1 (some 9) 0 0 164)), none, none, some (some (zi_load 0 165)), some (some (zi_getf 9 26 168)), none, none, some (some (zi_push (.inl (2147483650, 2147483650)) 169)), some (some (zi_ic zi_ne 176 172)), none, none, some (some (zi_push (.inl (2147483649, 2147483649)) 173)), some (some (zi_go 177)), none, none],
  [some (some (zi_push (.inl (2147483648, 2147483648)) 177)), some (some (zi_store 3 178)), some (some (zi_go 75)), none, none, some none]]
def zt_X9_sawCell : zi_T := [[some (some (zi_load 0 1)), some (some (zi_load 1 2)), some (some (zi_load 0 3)), some (some (zi_getf 9 20 6)), none, none, some (some (zi_ic zi_le 13 9)), none, none, some (some (zi_load 1 10)), some (some (zi_go 17)), none, none, some (some (zi_load 0 14)), some (some (zi_getf 9 20 17)), none],
  [none, some (some (zi_putf 9 20 .int 20)), none, none, some none]]
def zt_X9_readGround : zi_T := [[some (some (zi_load 0 1)), some (some (zi_push (.inl (2147483648, 2147483648)) 2)), some (some (zi_push (.inl (2147483650, 2147483650)) 3)), some (some (zi_inv 131 3 (some 9) 0 0 6)), none, none, some (some (zi_store 1 7)), some (some (zi_load 0 8)), some (some (zi_load 1 9)), some (some (zi_load 0 10)), some (some (zi_getf 9 21 13)), none, none, some (some (zi_ic zi_le 20 16)), none, none],
  [some (some (zi_load 1 17)), some (some (zi_go 24)), none, none, some (some (zi_load 0 21)), some (some (zi_getf 9 21 24)), none, none, some (some (zi_putf 9 21 .int 27)), none, none, some (some (zi_push (.inl (2147483649, 2147483649)) 28)), some (some (zi_store 2 29)), some (some (zi_load 0 30)), some (some (zi_getf 9 28 33)), none],
  [none, some (some (zi_if zi_ne 155 36)), none, none, some (some (zi_load 2 37)), some (some (zi_if zi_eq 155 40)), none, none, some (some (zi_load 0 41)), some (some (zi_load 0 42)), some (some (zi_getf 9 26 45)), none, none, some (some (zi_push (.inl (2147483650, 2147483650)) 46)), some (some (zi_ic zi_ne 60 49)), none],
  [none, some (some (zi_load 0 50)), some (some (zi_getf 9 15 53)), none, none, some (some (zi_load 1 54)), some (some (zi_ald .int 55)), some (some (zi_push (.inl (2147483656, 2147483656)) 57)), none, some (some (zi_ic zi_ge 64 60)), none, none, some (some (zi_push (.inl (2147483649, 2147483649)) 61)), some (some (zi_go 65)), none, none],
  [some (some (zi_push (.inl (2147483648, 2147483648)) 65)), some (some (zi_push (.inl (2147483653, 2147483653)) 66)), some (some (zi_inv 123 3 (some 9) 0 0 69)), none, none, some (some (zi_load 0 70)), some (some (zi_push (.inl (2147483648, 2147483648)) 71)), some (some (zi_push (.inl (2147483672, 2147483672)) 73)), none, some (some (zi_inv 130 3 (some 9) 0 0 76)), none, none, some (some (zi_store 3 77)), some (some (zi_load 0 78)), some (some (zi_getf 9 28 81)), none],
  [none, some (some (zi_if zi_ne 105 84)), none, none, some (some (zi_load 0 85)), some (some (zi_load 0 86)), some (some (zi_getf 9 14 89)), none, none, some (some (zi_load 3 90)), some (some (zi_ald .int 91)), some (some (zi_push (.inl (2147483644, 2147483644)) 93)), none, some (some (zi_ic zi_ne 100 96)), none, none],
  [some (some (zi_push (.inl (2147483649, 2147483649)) 97)), some (some (zi_go 101)), none, none, some (some (zi_push (.inl (2147483648, 2147483648)) 101)), some (some (zi_push (.inl (2147483652, 2147483652)) 102)), some (some (zi_inv 123 3 (some 9) 0 0 105)), none, none, some (some (zi_load 0 106)), some (some (zi_getf 9 28 109)), none, none, some (some (zi_if zi_ne 134 112)), none, none],
  [some (some (zi_load 0 113)), some (some (zi_getf 9 14 116)), none, none, some (some (zi_load 3 117)), some (some (zi_load 1 118)), some (some (zi_ast .int 119)), some (some (zi_load 0 120)), some (some (zi_getf 9 15 123)), none, none, some (some (zi_load 1 124)), some (some (zi_dup2 125)), some (some (zi_ald .int 126)), some (some (zi_push (.inl (2147483649, 2147483649)) 127)), some (some (zi_bin zi_add 128))],
  [some (some (zi_ast .int 129)), some (some (zi_load 0 130)), some (some (zi_load 3 131)), some (some (zi_inv 133 2 (some 9) 0 0 134)), none, none, some (some (zi_load 0 135)), some (some (zi_inv 129 1 (some 9) 0 0 138)), none, none, some (some (zi_load 0 139)), some (some (zi_getf 9 26 142)), none, none, some (some (zi_push (.inl (2147483650, 2147483650)) 143)), some (some (zi_ic zi_ne 150 146))],
  [none, none, some (some (zi_push (.inl (2147483649, 2147483649)) 147)), some (some (zi_go 151)), none, none, some (some (zi_push (.inl (2147483648, 2147483648)) 151)), some (some (zi_store 2 152)), some (some (zi_go 29)), none, none, some none]]
def zt_X9_readLineOf : zi_T := [[some (some (zi_load 1 1)), some (some (zi_tsw 2147483648 2147483653 [40, 63, 85, 98, 106, 113] 142)), none, none, none, none, none, none, none, none, none, none, none, none, none, none],
  [none, none, none, none, none, none, none, none, none, none, none, none, none, none, none, none],
  [none, none, none, none, none, none, none, none, some (some (zi_load 0 41)), some (some (zi_load 0 42)), some (some (zi_push (.inl (2147483650, 2147483650)) 43)), some (some (zi_push (.inl (2147483653, 2147483653)) 44)), some (some (zi_inv 131 3 (some 9) 0 0 47)), none, none, some (some (zi_putf 9 6 .int 50))],
  [none, none, some (some (zi_load 0 51)), some (some (zi_load 0 52)), some (some (zi_push (.inl (2147483650, 2147483650)) 53)), some (some (zi_push (.inl (2147483653, 2147483653)) 54)), some (some (zi_inv 131 3 (some 9) 0 0 57)), none, none, some (some (zi_putf 9 7 .int 60)), none, none, some (some (zi_go 146)), none, none, some (some (zi_load 0 64))],
  [some (some (zi_load 0 65)), some (some (zi_push (.inl (2147483648, 2147483648)) 66)), some (some (zi_push (.inl (2147483672, 2147483672)) 68)), none, some (some (zi_inv 131 3 (some 9) 0 0 71)), none, none, some (some (zi_putf 9 8 .int 74)), none, none, some (some (zi_load 0 75)), some (some (zi_load 0 76)), some (some (zi_getf 9 8 79)), none, none, some (some (zi_inv 133 2 (some 9) 0 0 82))],
  [none, none, some (some (zi_go 146)), none, none, some (some (zi_load 0 86)), some (some (zi_load 0 87)), some (some (zi_push (.inl (2147483648, 2147483648)) 88)), some (some (zi_push (.inl (2147483650, 2147483650)) 89)), some (some (zi_inv 131 3 (some 9) 0 0 92)), none, none, some (some (zi_putf 9 10 .int 95)), none, none, some (some (zi_go 146))],
  [none, none, some (some (zi_load 0 99)), some (some (zi_push (.inl (2147483649, 2147483649)) 100)), some (some (zi_putf 9 11 .int 103)), none, none, some (some (zi_go 146)), none, none, some (some (zi_load 0 107)), some (some (zi_inv 132 1 (some 9) 0 0 110)), none, none, some (some (zi_go 146)), none],
  [none, some (some (zi_load 0 114)), some (some (zi_getf 9 13 117)), none, none, some (some (zi_load 0 118)), some (some (zi_getf 9 9 121)), none, none, some (some (zi_load 0 122)), some (some (zi_push (.inl (2147483649, 2147483649)) 123)), some (some (zi_push (.inl (2147483657, 2147483657)) 125)), none, some (some (zi_inv 131 3 (some 9) 0 0 128)), none, none],
  [some (some (zi_ast .int 129)), some (some (zi_load 0 130)), some (some (zi_dup 131)), some (some (zi_getf 9 9 134)), none, none, some (some (zi_push (.inl (2147483649, 2147483649)) 135)), some (some (zi_bin zi_add 136)), some (some (zi_putf 9 9 .int 139)), none, none, some (some (zi_go 146)), none, none, some (some (zi_load 0 143)), some (some (zi_inv 134 1 (some 9) 0 0 146))],
  [none, none, some none]]
def zt_X9_readLine : zi_T := [[some (some (zi_load 0 1)), some (some (zi_getf 9 26 4)), none, none, some (some (zi_push (.inl (2147483649, 2147483649)) 5)), some (some (zi_ic zi_ne 15 8)), none, none, some (some (zi_load 0 9)), some (some (zi_inv 128 1 (some 9) 0 0 12)), none, none, some (some (zi_go 17)), none, none, some (some (zi_push (.inl (2147483644, 2147483644)) 17))],
  [none, some (some (zi_store 1 18)), some (some (zi_load 0 19)), some (some (zi_load 1 20)), some (some (zi_push (.inl (2147483644, 2147483644)) 22)), none, some (some (zi_ic zi_eq 29 25)), none, none, some (some (zi_push (.inl (2147483649, 2147483649)) 26)), some (some (zi_go 30)), none, none, some (some (zi_push (.inl (2147483648, 2147483648)) 30)), some (some (zi_push (.inl (2147483650, 2147483650)) 31)), some (some (zi_inv 123 3 (some 9) 0 0 34))],
  [none, none, some (some (zi_load 0 35)), some (some (zi_load 1 36)), some (some (zi_push (.inl (2147483653, 2147483653)) 37)), some (some (zi_ic zi_ne 48 40)), none, none, some (some (zi_load 0 41)), some (some (zi_getf 9 9 44)), none, none, some (some (zi_push (.inl (2147483651, 2147483651)) 45)), some (some (zi_ic zi_ge 52 48)), none, none],
  [some (some (zi_push (.inl (2147483649, 2147483649)) 49)), some (some (zi_go 53)), none, none, some (some (zi_push (.inl (2147483648, 2147483648)) 53)), some (some (zi_push (.inl (2147483653, 2147483653)) 54)), some (some (zi_inv 123 3 (some 9) 0 0 57)), none, none, some (some (zi_load 0 58)), some (some (zi_getf 9 28 61)), none, none, some (some (zi_if zi_ne 102 64)), none, none],
  [some (some (zi_load 1 65)), some (some (zi_push (.inl (2147483651, 2147483651)) 66)), some (some (zi_ic zi_gt 102 69)), none, none, some (some (zi_load 0 70)), some (some (zi_load 0 71)), some (some (zi_getf 9 16 74)), none, none, some (some (zi_load 1 75)), some (some (zi_bin zi_shr 76)), some (some (zi_push (.inl (2147483649, 2147483649)) 77)), some (some (zi_bin zi_and 78)), some (some (zi_if zi_ne 85 81)), none],
  [none, some (some (zi_push (.inl (2147483649, 2147483649)) 82)), some (some (zi_go 86)), none, none, some (some (zi_push (.inl (2147483648, 2147483648)) 86)), some (some (zi_push (.inl (2147483652, 2147483652)) 87)), some (some (zi_inv 123 3 (some 9) 0 0 90)), none, none, some (some (zi_load 0 91)), some (some (zi_dup 92)), some (some (zi_getf 9 16 95)), none, none, some (some (zi_push (.inl (2147483649, 2147483649)) 96))],
  [some (some (zi_load 1 97)), some (some (zi_bin zi_shl 98)), some (some (zi_bin zi_or 99)), some (some (zi_putf 9 16 .int 102)), none, none, some (some (zi_load 0 103)), some (some (zi_inv 129 1 (some 9) 0 0 106)), none, none, some (some (zi_load 0 107)), some (some (zi_getf 9 28 110)), none, none, some (some (zi_if zi_le 114 113)), none],
  [none, some none, some (some (zi_load 0 115)), some (some (zi_load 1 116)), some (some (zi_inv 135 2 (some 9) 0 0 119)), none, none, some (some (zi_load 0 120)), some (some (zi_getf 9 28 123)), none, none, some (some (zi_if zi_ne 144 126)), none, none, some (some (zi_load 0 127)), some (some (zi_load 0 128))],
  [some (some (zi_getf 9 26 131)), none, none, some (some (zi_push (.inl (2147483651, 2147483651)) 132)), some (some (zi_ic zi_ne 139 135)), none, none, some (some (zi_push (.inl (2147483649, 2147483649)) 136)), some (some (zi_go 140)), none, none, some (some (zi_push (.inl (2147483648, 2147483648)) 140)), some (some (zi_push (.inl (2147483650, 2147483650)) 141)), some (some (zi_inv 123 3 (some 9) 0 0 144)), none, none],
  [some (some (zi_load 0 145)), some (some (zi_inv 129 1 (some 9) 0 0 148)), none, none, some none]]
def zt_X9_text : zi_T := [[some (some (zi_push (.inl (2147483648, 2147483648)) 1)), some (some (zi_store 1 2)), some (some (zi_load 0 3)), some (some (zi_push (.inl (2147483648, 2147483648)) 4)), some (some (zi_putf 9 28 .int 7)), none, none, some (some (zi_load 0 8)), some (some (zi_push (.inl (2147483648, 2147483648)) 9)), some (some (zi_putf 9 24 .int 12)), none, none, some (some (zi_load 0 13)), some (some (zi_inv 119 1 (some 9) 0 0 16)), none, none],
  [some (some (zi_load 0 17)), some (some (zi_inv 129 1 (some 9) 0 0 20)), none, none, some (some (zi_load 0 21)), some (some (zi_getf 9 28 24)), none, none, some (some (zi_if zi_ne 44 27)), none, none, some (some (zi_load 0 28)), some (some (zi_getf 9 26 31)), none, none, some (some (zi_if zi_eq 44 34))],
  [none, none, some (some (zi_load 0 35)), some (some (zi_inv 136 1 (some 9) 0 0 38)), none, none, some (some (zi_inc 1 (2147483649, 2147483649) 41)), none, none, some (some (zi_go 20)), none, none, some (some (zi_load 0 45)), some (some (zi_getf 9 28 48)), none, none],
  [some (some (zi_if zi_ne 111 51)), none, none, some (some (zi_load 0 52)), some (some (zi_load 0 53)), some (some (zi_getf 9 18 56)), none, none, some (some (zi_load 0 57)), some (some (zi_getf 9 7 60)), none, none, some (some (zi_ic zi_ge 105 63)), none, none, some (some (zi_load 0 64))],
  [some (some (zi_getf 9 19 67)), none, none, some (some (zi_load 0 68)), some (some (zi_getf 9 6 71)), none, none, some (some (zi_ic zi_ge 105 74)), none, none, some (some (zi_load 0 75)), some (some (zi_getf 9 20 78)), none, none, some (some (zi_load 0 79)), some (some (zi_getf 9 6 82))],
  [none, none, some (some (zi_load 0 83)), some (some (zi_getf 9 7 86)), none, none, some (some (zi_bin zi_mul 87)), some (some (zi_ic zi_ge 105 90)), none, none, some (some (zi_load 0 91)), some (some (zi_getf 9 21 94)), none, none, some (some (zi_load 0 95)), some (some (zi_getf 9 9 98))],
  [none, none, some (some (zi_ic zi_ge 105 101)), none, none, some (some (zi_push (.inl (2147483649, 2147483649)) 102)), some (some (zi_go 106)), none, none, some (some (zi_push (.inl (2147483648, 2147483648)) 106)), some (some (zi_push (.inl (2147483654, 2147483654)) 108)), none, some (some (zi_inv 123 3 (some 9) 0 0 111)), none, none, some (some (zi_load 0 112))],
  [some (some (zi_push (.inl (2147483648, 2147483648)) 113)), some (some (zi_putf 9 23 .int 116)), none, none, some (some (zi_load 0 117)), some (some (zi_getf 9 28 120)), none, none, some (some (zi_if zi_le 131 123)), none, none, some (some (zi_push (.inl (2147483638, 2147483638)) 125)), none, some (some (zi_load 0 126)), some (some (zi_getf 9 29 129)), none],
  [none, some (some (zi_bin zi_sub 130)), some none, some (some (zi_load 0 132)), some (some (zi_inv 120 1 (some 9) 0 0 135)), none, none, some (some (zi_load 1 136)), some none]]
def zt_X9_fault : zi_T := [[some (some (zi_load 0 1)), some (some (zi_getf 9 28 4)), none, none, some none]]
def zt_X9_isCell : zi_T := [[some (some (zi_load 1 1)), some (some (zi_i2l 2)), some (some (zi_push (.inr (.inl (9223372036854775808, 9223372036854775808))) 3)), some (some (zi_load 0 4)), some (some (zi_getf 9 2 7)), none, none, some (some (zi_load 0 8)), some (some (zi_getf 9 3 11)), none, none, some (some (zi_bin zi_mul 12)), some (some (zi_push (.inl (2147483649, 2147483649)) 13)), some (some (zi_bin zi_sub 14)), some (some (zi_i2l 15)), some (some (zi_inv 117 3 none 0 0 18))],
  [none, none, some none]]
def zt_X9_isFarm : zi_T := [[some (some (zi_load 1 1)), some (some (zi_i2l 2)), some (some (zi_push (.inr (.inl (9223372036854775808, 9223372036854775808))) 3)), some (some (zi_load 0 4)), some (some (zi_getf 9 4 7)), none, none, some (some (zi_push (.inl (2147483649, 2147483649)) 8)), some (some (zi_bin zi_sub 9)), some (some (zi_i2l 10)), some (some (zi_inv 117 3 none 0 0 13)), none, none, some none]]
def zt_X9_isYear : zi_T := [[some (some (zi_load 0 1)), some (some (zi_i2l 2)), some (some (zi_push (.inr (.inl (9223372036854775808, 9223372036854775808))) 3)), some (some (zi_push (.inr (.inl (9223372036854793383, 9223372036854793383))) 6)), none, none, some (some (zi_inv 117 3 none 0 0 9)), none, none, some none]]
def zt_X9_beside : zi_T := [[some (some (zi_load 1 1)), some (some (zi_load 0 2)), some (some (zi_getf 9 2 5)), none, none, some (some (zi_dv zi_div 6)), some (some (zi_store 3 7)), some (some (zi_load 1 8)), some (some (zi_load 0 9)), some (some (zi_getf 9 2 12)), none, none, some (some (zi_dv zi_rem 13)), some (some (zi_store 4 15)), none, some (some (zi_load 2 16))],
  [some (some (zi_tsw 2147483648 2147483650 [44, 60, 80] 102)), none, none, none, none, none, none, none, none, none, none, none, none, none, none, none],
  [none, none, none, none, none, none, none, none, none, none, none, none, some (some (zi_load 3 45)), some (some (zi_if zi_le 57 48)), none, none],
  [some (some (zi_load 1 49)), some (some (zi_load 0 50)), some (some (zi_getf 9 2 53)), none, none, some (some (zi_bin zi_sub 54)), some (some (zi_go 59)), none, none, some (some (zi_push (.inl (2147483644, 2147483644)) 59)), none, some none, some (some (zi_load 4 62)), none, some (some (zi_push (.inl (2147483649, 2147483649)) 63)), some (some (zi_bin zi_add 64))],
  [some (some (zi_load 0 65)), some (some (zi_getf 9 2 68)), none, none, some (some (zi_ic zi_ge 77 71)), none, none, some (some (zi_load 1 72)), some (some (zi_push (.inl (2147483649, 2147483649)) 73)), some (some (zi_bin zi_add 74)), some (some (zi_go 79)), none, none, some (some (zi_push (.inl (2147483644, 2147483644)) 79)), none, some none],
  [some (some (zi_load 3 81)), some (some (zi_push (.inl (2147483649, 2147483649)) 82)), some (some (zi_bin zi_add 83)), some (some (zi_load 0 84)), some (some (zi_getf 9 3 87)), none, none, some (some (zi_ic zi_ge 99 90)), none, none, some (some (zi_load 1 91)), some (some (zi_load 0 92)), some (some (zi_getf 9 2 95)), none, none, some (some (zi_bin zi_add 96))],
  [some (some (zi_go 101)), none, none, some (some (zi_push (.inl (2147483644, 2147483644)) 101)), none, some none, some (some (zi_load 4 104)), none, some (some (zi_if zi_le 113 107)), none, none, some (some (zi_load 1 108)), some (some (zi_push (.inl (2147483649, 2147483649)) 109)), some (some (zi_bin zi_sub 110)), some (some (zi_go 115)), none],
  [none, some (some (zi_push (.inl (2147483644, 2147483644)) 115)), none, some none]]
def zt_X9_lowestBeside : zi_T := [[some (some (zi_push (.inl (2147483644, 2147483644)) 2)), none, some (some (zi_store 2 3)), some (some (zi_push (.inl (2147483648, 2147483648)) 4)), some (some (zi_store 3 5)), some (some (zi_load 3 6)), some (some (zi_push (.inl (2147483652, 2147483652)) 7)), some (some (zi_ic zi_ge 100 10)), none, none, some (some (zi_load 0 11)), some (some (zi_load 1 12)), some (some (zi_load 3 13)), some (some (zi_inv 142 3 (some 9) 0 0 16)), none, none],
  [some (some (zi_store 4 18)), none, some (some (zi_load 4 20)), none, some (some (zi_push (.inl (2147483644, 2147483644)) 22)), none, some (some (zi_ic zi_eq 57 25)), none, none, some (some (zi_load 0 26)), some (some (zi_getf 9 32 29)), none, none, some (some (zi_load 4 31)), none, some (some (zi_bin zi_shr 32))],
  [some (some (zi_push (.inl (2147483649, 2147483649)) 33)), some (some (zi_bin zi_and 34)), some (some (zi_if zi_ne 57 37)), none, none, some (some (zi_load 0 38)), some (some (zi_getf 9 0 41)), none, none, some (some (zi_load 4 43)), none, some (some (zi_ald .int 44)), some (some (zi_load 0 45)), some (some (zi_getf 9 0 48)), none, none],
  [some (some (zi_load 1 49)), some (some (zi_ald .int 50)), some (some (zi_ic zi_gt 57 53)), none, none, some (some (zi_push (.inl (2147483649, 2147483649)) 54)), some (some (zi_go 58)), none, none, some (some (zi_push (.inl (2147483648, 2147483648)) 58)), some (some (zi_store 5 60)), none, some (some (zi_load 5 62)), none, some (some (zi_if zi_eq 92 65)), none],
  [none, some (some (zi_load 2 66)), some (some (zi_push (.inl (2147483644, 2147483644)) 68)), none, some (some (zi_ic zi_eq 87 71)), none, none, some (some (zi_load 0 72)), some (some (zi_getf 9 0 75)), none, none, some (some (zi_load 4 77)), none, some (some (zi_ald .int 78)), some (some (zi_load 0 79)), some (some (zi_getf 9 0 82))],
  [none, none, some (some (zi_load 2 83)), some (some (zi_ald .int 84)), some (some (zi_ic zi_ge 92 87)), none, none, some (some (zi_load 4 89)), none, some (some (zi_go 93)), none, none, some (some (zi_load 2 93)), some (some (zi_store 2 94)), some (some (zi_inc 3 (2147483649, 2147483649) 97)), none],
  [none, some (some (zi_go 5)), none, none, some (some (zi_load 2 101)), some none]]
def zt_X9_findBed : zi_T := [[some (some (zi_load 0 1)), some (some (zi_push (.inl (2147483648, 2147483648)) 2)), some (some (zi_putf 9 31 .int 5)), none, none, some (some (zi_load 0 6)), some (some (zi_push (.inl (2147483648, 2147483648)) 7)), some (some (zi_putf 9 32 .int 10)), none, none, some (some (zi_load 0 11)), some (some (zi_getf 9 0 14)), none, none, some (some (zi_push (.inl (2147483673, 2147483673)) 16)), none],
  [some (some (zi_ald .int 17)), some (some (zi_store 1 18)), some (some (zi_load 1 19)), some (some (zi_push (.inl (2147483644, 2147483644)) 21)), none, some (some (zi_ic zi_eq 65 24)), none, none, some (some (zi_load 0 25)), some (some (zi_getf 9 30 28)), none, none, some (some (zi_load 0 29)), some (some (zi_getf 9 31 32)), none, none],
  [some (some (zi_load 1 33)), some (some (zi_ast .int 34)), some (some (zi_load 0 35)), some (some (zi_dup 36)), some (some (zi_getf 9 31 39)), none, none, some (some (zi_push (.inl (2147483649, 2147483649)) 40)), some (some (zi_bin zi_add 41)), some (some (zi_putf 9 31 .int 44)), none, none, some (some (zi_load 0 45)), some (some (zi_dup 46)), some (some (zi_getf 9 32 49)), none],
  [none, some (some (zi_push (.inl (2147483649, 2147483649)) 50)), some (some (zi_load 1 51)), some (some (zi_bin zi_shl 52)), some (some (zi_bin zi_or 53)), some (some (zi_putf 9 32 .int 56)), none, none, some (some (zi_load 0 57)), some (some (zi_load 1 58)), some (some (zi_inv 143 2 (some 9) 0 0 61)), none, none, some (some (zi_store 1 62)), some (some (zi_go 18)), none],
  [none, some none]]
def zt_X9_bedNow : zi_T := [[some (some (zi_load 0 1)), some (some (zi_inv 144 1 (some 9) 0 0 4)), none, none, some (some (zi_load 0 5)), some (some (zi_getf 9 32 8)), none, none, some none]]
def zt_X9_hasNow : zi_T := [[some (some (zi_load 0 1)), some (some (zi_inv 145 1 (some 9) 0 0 4)), none, none, some (some (zi_store 2 5)), some (some (zi_push (.inl (2147483648, 2147483648)) 6)), some (some (zi_store 3 7)), some (some (zi_push (.inl (2147483648, 2147483648)) 8)), some (some (zi_store 4 10)), none, some (some (zi_load 4 12)), none, some (some (zi_load 0 13)), some (some (zi_getf 9 2 16)), none, none],
  [some (some (zi_load 0 17)), some (some (zi_getf 9 3 20)), none, none, some (some (zi_bin zi_mul 21)), some (some (zi_ic zi_ge 54 24)), none, none, some (some (zi_load 3 25)), some (some (zi_load 0 26)), some (some (zi_getf 9 5 29)), none, none, some (some (zi_load 4 31)), none, some (some (zi_ald .int 32))],
  [some (some (zi_load 1 33)), some (some (zi_ic zi_ne 45 36)), none, none, some (some (zi_load 2 37)), some (some (zi_load 4 39)), none, some (some (zi_bin zi_shr 40)), some (some (zi_push (.inl (2147483649, 2147483649)) 41)), some (some (zi_bin zi_and 42)), some (some (zi_go 46)), none, none, some (some (zi_push (.inl (2147483648, 2147483648)) 46)), some (some (zi_bin zi_add 47)), some (some (zi_store 3 48))],
  [some (some (zi_inc 4 (2147483649, 2147483649) 51)), none, none, some (some (zi_go 10)), none, none, some (some (zi_load 3 55)), some (some (zi_load 0 56)), some (some (zi_getf 9 0 59)), none, none, some (some (zi_push (.inl (2147483676, 2147483676)) 61)), none, some (some (zi_load 1 62)), some (some (zi_bin zi_add 63)), some (some (zi_ald .int 64))],
  [some (some (zi_bin zi_mul 65)), some none]]
def zt_X9_isBeside : zi_T := [[some (some (zi_push (.inl (2147483648, 2147483648)) 1)), some (some (zi_store 3 2)), some (some (zi_push (.inl (2147483648, 2147483648)) 3)), some (some (zi_store 4 5)), none, some (some (zi_load 4 7)), none, some (some (zi_push (.inl (2147483652, 2147483652)) 8)), some (some (zi_ic zi_ge 53 11)), none, none, some (some (zi_load 0 12)), some (some (zi_load 1 13)), some (some (zi_load 4 15)), none, some (some (zi_inv 142 3 (some 9) 0 0 18))],
  [none, none, some (some (zi_store 5 20)), none, some (some (zi_load 3 21)), some (some (zi_if zi_ne 41 24)), none, none, some (some (zi_load 5 26)), none, some (some (zi_push (.inl (2147483644, 2147483644)) 28)), none, some (some (zi_ic zi_eq 45 31)), none, none, some (some (zi_load 2 32))],
  [some (some (zi_load 5 34)), none, some (some (zi_bin zi_shr 35)), some (some (zi_push (.inl (2147483649, 2147483649)) 36)), some (some (zi_bin zi_and 37)), some (some (zi_push (.inl (2147483649, 2147483649)) 38)), some (some (zi_ic zi_ne 45 41)), none, none, some (some (zi_push (.inl (2147483649, 2147483649)) 42)), some (some (zi_go 46)), none, none, some (some (zi_push (.inl (2147483648, 2147483648)) 46)), some (some (zi_store 3 47)), some (some (zi_inc 4 (2147483649, 2147483649) 50))],
  [none, none, some (some (zi_go 5)), none, none, some (some (zi_load 3 54)), some none]]
def zt_X9_mayCut : zi_T := [[some (some (zi_load 0 1)), some (some (zi_inv 145 1 (some 9) 0 0 4)), none, none, some (some (zi_store 2 5)), some (some (zi_push (.inl (2147483648, 2147483648)) 6)), some (some (zi_store 3 7)), some (some (zi_push (.inl (2147483648, 2147483648)) 8)), some (some (zi_store 4 10)), none, some (some (zi_load 4 12)), none, some (some (zi_load 0 13)), some (some (zi_getf 9 2 16)), none, none],
  [some (some (zi_load 0 17)), some (some (zi_getf 9 3 20)), none, none, some (some (zi_bin zi_mul 21)), some (some (zi_ic zi_ge 156 24)), none, none, some (some (zi_load 2 25)), some (some (zi_load 4 27)), none, some (some (zi_bin zi_shr 28)), some (some (zi_push (.inl (2147483649, 2147483649)) 29)), some (some (zi_bin zi_and 30)), some (some (zi_push (.inl (2147483649, 2147483649)) 31)), some (some (zi_ic zi_ne 38 34))],
  [none, none, some (some (zi_push (.inl (2147483649, 2147483649)) 35)), some (some (zi_go 39)), none, none, some (some (zi_push (.inl (2147483648, 2147483648)) 39)), some (some (zi_store 5 41)), none, some (some (zi_load 0 42)), some (some (zi_load 4 44)), none, some (some (zi_load 2 45)), some (some (zi_inv 147 3 (some 9) 0 0 48)), none, none],
  [some (some (zi_store 6 50)), none, some (some (zi_load 0 51)), some (some (zi_getf 9 0 54)), none, none, some (some (zi_push (.inl (2147483674, 2147483674)) 56)), none, some (some (zi_ald .int 57)), some (some (zi_if zi_eq 102 60)), none, none, some (some (zi_load 0 61)), some (some (zi_getf 9 0 64)), none, none],
  [some (some (zi_push (.inl (2147483674, 2147483674)) 66)), none, some (some (zi_ald .int 67)), some (some (zi_push (.inl (2147483649, 2147483649)) 68)), some (some (zi_ic zi_ne 81 71)), none, none, some (some (zi_load 5 73)), none, some (some (zi_if zi_ne 102 76)), none, none, some (some (zi_load 6 78)), none, some (some (zi_if zi_ne 102 81)), none],
  [none, some (some (zi_load 0 82)), some (some (zi_getf 9 0 85)), none, none, some (some (zi_push (.inl (2147483674, 2147483674)) 87)), none, some (some (zi_ald .int 88)), some (some (zi_push (.inl (2147483650, 2147483650)) 89)), some (some (zi_ic zi_ne 106 92)), none, none, some (some (zi_load 6 94)), none, some (some (zi_if zi_eq 106 97)), none],
  [none, some (some (zi_load 5 99)), none, some (some (zi_if zi_ne 106 102)), none, none, some (some (zi_push (.inl (2147483649, 2147483649)) 103)), some (some (zi_go 107)), none, none, some (some (zi_push (.inl (2147483648, 2147483648)) 107)), some (some (zi_store 7 109)), none, some (some (zi_load 3 110)), some (some (zi_load 0 111)), some (some (zi_getf 9 5 114))],
  [none, none, some (some (zi_load 4 116)), none, some (some (zi_ald .int 117)), some (some (zi_load 1 118)), some (some (zi_ic zi_ne 141 121)), none, none, some (some (zi_load 0 122)), some (some (zi_getf 9 0 125)), none, none, some (some (zi_load 4 127)), none, some (some (zi_ald .int 128))],
  [some (some (zi_push (.inl (2147483651, 2147483651)) 129)), some (some (zi_ic zi_lt 141 132)), none, none, some (some (zi_load 7 134)), none, some (some (zi_if zi_eq 141 137)), none, none, some (some (zi_push (.inl (2147483649, 2147483649)) 138)), some (some (zi_go 142)), none, none, some (some (zi_push (.inl (2147483648, 2147483648)) 142)), some (some (zi_inv 118 1 none 0 0 145)), none],
  [none, some (some (zi_load 4 147)), none, some (some (zi_bin zi_shl 148)), some (some (zi_bin zi_or 149)), some (some (zi_store 3 150)), some (some (zi_inc 4 (2147483649, 2147483649) 153)), none, none, some (some (zi_go 10)), none, none, some (some (zi_load 3 157)), some none]]
def zt_X9_rule : zi_T := [[some (some (zi_load 1 1)), some (some (zi_tsw 2147483648 2147483654 [44, 49, 54, 62, 67, 75, 83] 91)), none, none, none, none, none, none, none, none, none, none, none, none, none, none],
  [none, none, none, none, none, none, none, none, none, none, none, none, none, none, none, none],
  [none, none, none, none, none, none, none, none, none, none, none, none, some (some (zi_load 0 45)), some (some (zi_getf 9 2 48)), none, none],
  [some none, some (some (zi_load 0 50)), some (some (zi_getf 9 3 53)), none, none, some none, some (some (zi_load 0 55)), some (some (zi_getf 9 0 58)), none, none, some (some (zi_push (.inl (2147483673, 2147483673)) 60)), none, some (some (zi_ald .int 61)), some none, some (some (zi_load 0 63)), some (some (zi_getf 9 4 66))],
  [none, none, some none, some (some (zi_load 0 68)), some (some (zi_getf 9 0 71)), none, none, some (some (zi_push (.inl (2147483674, 2147483674)) 73)), none, some (some (zi_ald .int 74)), some none, some (some (zi_load 0 76)), some (some (zi_getf 9 0 79)), none, none, some (some (zi_push (.inl (2147483675, 2147483675)) 81))],
  [none, some (some (zi_ald .int 82)), some none, some (some (zi_load 0 84)), some (some (zi_getf 9 0 87)), none, none, some (some (zi_push (.inl (2147483679, 2147483679)) 89)), none, some (some (zi_ald .int 90)), some none, some (some (zi_push (.inl (2147483647, 2147483647)) 92)), some none]]
def zt_X9_cell : zi_T := [[some (some (zi_load 0 1)), some (some (zi_load 1 2)), some (some (zi_inv 139 2 (some 9) 0 0 5)), none, none, some (some (zi_if zi_eq 18 8)), none, none, some (some (zi_load 2 9)), some (some (zi_i2l 10)), some (some (zi_push (.inr (.inl (9223372036854775808, 9223372036854775808))) 11)), some (some (zi_push (.inr (.inl (9223372036854775809, 9223372036854775809))) 12)), some (some (zi_inv 117 3 none 0 0 15)), none, none, some (some (zi_if zi_ne 22 18))],
  [none, none, some (some (zi_push (.inl (2147483647, 2147483647)) 19)), some (some (zi_go 41)), none, none, some (some (zi_load 2 23)), some (some (zi_if zi_ne 35 26)), none, none, some (some (zi_load 0 27)), some (some (zi_getf 9 0 30)), none, none, some (some (zi_load 1 31)), some (some (zi_ald .int 32))],
  [some (some (zi_go 41)), none, none, some (some (zi_load 0 36)), some (some (zi_getf 9 5 39)), none, none, some (some (zi_load 1 40)), some (some (zi_ald .int 41)), some none]]
def zt_X9_farm : zi_T := [[some (some (zi_load 0 1)), some (some (zi_load 1 2)), some (some (zi_inv 140 2 (some 9) 0 0 5)), none, none, some (some (zi_if zi_eq 20 8)), none, none, some (some (zi_load 2 9)), some (some (zi_i2l 10)), some (some (zi_push (.inr (.inl (9223372036854775808, 9223372036854775808))) 11)), some (some (zi_push (.inr (.inl (9223372036854775811, 9223372036854775811))) 14)), none, none, some (some (zi_inv 117 3 none 0 0 17)), none],
  [none, some (some (zi_if zi_ne 22 20)), none, none, some (some (zi_push (.inl (2147483647, 2147483647)) 21)), some none, some (some (zi_push (.inl (2147483648, 2147483648)) 23)), some (some (zi_store 3 24)), some (some (zi_push (.inl (2147483648, 2147483648)) 25)), some (some (zi_store 4 27)), none, some (some (zi_load 4 29)), none, some (some (zi_load 0 30)), some (some (zi_getf 9 2 33)), none],
  [none, some (some (zi_load 0 34)), some (some (zi_getf 9 3 37)), none, none, some (some (zi_bin zi_mul 38)), some (some (zi_ic zi_ge 72 41)), none, none, some (some (zi_load 3 42)), some (some (zi_load 0 43)), some (some (zi_getf 9 5 46)), none, none, some (some (zi_load 4 48)), none],
  [some (some (zi_ald .int 49)), some (some (zi_load 1 50)), some (some (zi_ic zi_ne 57 53)), none, none, some (some (zi_push (.inl (2147483649, 2147483649)) 54)), some (some (zi_go 58)), none, none, some (some (zi_push (.inl (2147483648, 2147483648)) 58)), some (some (zi_inv 118 1 none 0 0 61)), none, none, some (some (zi_load 4 63)), none, some (some (zi_bin zi_shl 64))],
  [some (some (zi_bin zi_or 65)), some (some (zi_store 3 66)), some (some (zi_inc 4 (2147483649, 2147483649) 69)), none, none, some (some (zi_go 27)), none, none, some (some (zi_load 2 73)), some (some (zi_if zi_ne 88 76)), none, none, some (some (zi_load 0 77)), some (some (zi_getf 9 0 80)), none, none],
  [some (some (zi_push (.inl (2147483676, 2147483676)) 82)), none, some (some (zi_load 1 83)), some (some (zi_bin zi_add 84)), some (some (zi_ald .int 85)), some (some (zi_go 115)), none, none, some (some (zi_load 2 89)), some (some (zi_push (.inl (2147483649, 2147483649)) 90)), some (some (zi_ic zi_ne 97 93)), none, none, some (some (zi_load 3 94)), some (some (zi_go 115)), none],
  [none, some (some (zi_load 2 98)), some (some (zi_push (.inl (2147483650, 2147483650)) 99)), some (some (zi_ic zi_ne 110 102)), none, none, some (some (zi_load 0 103)), some (some (zi_load 1 104)), some (some (zi_inv 146 2 (some 9) 0 0 107)), none, none, some (some (zi_go 115)), none, none, some (some (zi_load 0 111)), some (some (zi_load 1 112))],
  [some (some (zi_inv 148 2 (some 9) 0 0 115)), none, none, some none]]
def zt_X9_bed : zi_T := [[some (some (zi_load 1 1)), some (some (zi_if zi_ge 6 4)), none, none, some (some (zi_push (.inl (2147483647, 2147483647)) 5)), some none, some (some (zi_load 0 7)), some (some (zi_inv 144 1 (some 9) 0 0 10)), none, none, some (some (zi_load 1 11)), some (some (zi_load 0 12)), some (some (zi_getf 9 31 15)), none, none, some (some (zi_ic zi_ge 27 18))],
  [none, none, some (some (zi_load 0 19)), some (some (zi_getf 9 30 22)), none, none, some (some (zi_load 1 23)), some (some (zi_ald .int 24)), some (some (zi_go 29)), none, none, some (some (zi_push (.inl (2147483644, 2147483644)) 29)), none, some none]]
def zt_X9_becomes : zi_T := [[some (some (zi_load 0 1)), some (some (zi_getf 9 0 4)), none, none, some (some (zi_load 1 5)), some (some (zi_ald .int 6)), some (some (zi_store 3 7)), some (some (zi_load 0 8)), some (some (zi_getf 9 0 11)), none, none, some (some (zi_load 1 12)), some (some (zi_load 2 13)), some (some (zi_ast .int 14)), some (some (zi_load 3 15)), some none]]
def zt_X9_dam : zi_T := [[some (some (zi_load 0 1)), some (some (zi_load 1 2)), some (some (zi_inv 139 2 (some 9) 0 0 5)), none, none, some (some (zi_if zi_eq 29 8)), none, none, some (some (zi_load 2 9)), some (some (zi_i2l 10)), some (some (zi_push (.inr (.inl (9223372036854775808, 9223372036854775808))) 11)), some (some (zi_push (.inr (.inl (9223372036854775907, 9223372036854775907))) 14)), none, none, some (some (zi_inv 117 3 none 0 0 17)), none],
  [none, some (some (zi_if zi_eq 29 20)), none, none, some (some (zi_load 0 21)), some (some (zi_load 1 22)), some (some (zi_load 2 23)), some (some (zi_inv 153 3 (some 9) 0 0 26)), none, none, some (some (zi_go 30)), none, none, some (some (zi_push (.inl (2147483647, 2147483647)) 30)), some none]]
def zt_X9_move : zi_T := [[some (some (zi_load 0 1)), some (some (zi_load 1 2)), some (some (zi_inv 139 2 (some 9) 0 0 5)), none, none, some (some (zi_if zi_eq 18 8)), none, none, some (some (zi_load 0 9)), some (some (zi_push (.inl (2147483673, 2147483673)) 11)), none, some (some (zi_load 1 12)), some (some (zi_inv 153 3 (some 9) 0 0 15)), none, none, some (some (zi_go 19))],
  [none, none, some (some (zi_push (.inl (2147483647, 2147483647)) 19)), some none]]
def zt_X9_law : zi_T := [[some (some (zi_load 1 1)), some (some (zi_i2l 2)), some (some (zi_push (.inr (.inl (9223372036854775808, 9223372036854775808))) 3)), some (some (zi_push (.inr (.inl (9223372036854775810, 9223372036854775810))) 6)), none, none, some (some (zi_inv 117 3 none 0 0 9)), none, none, some (some (zi_if zi_eq 22 12)), none, none, some (some (zi_load 0 13)), some (some (zi_push (.inl (2147483674, 2147483674)) 15)), none, some (some (zi_load 1 16))],
  [some (some (zi_inv 153 3 (some 9) 0 0 19)), none, none, some (some (zi_go 23)), none, none, some (some (zi_push (.inl (2147483647, 2147483647)) 23)), some none]]
def zt_X9_silt : zi_T := [[some (some (zi_load 0 1)), some (some (zi_push (.inl (2147483675, 2147483675)) 3)), none, some (some (zi_load 1 4)), some (some (zi_inv 118 1 none 0 0 7)), none, none, some (some (zi_inv 153 3 (some 9) 0 0 10)), none, none, some none]]
def zt_X9_price : zi_T := [[some (some (zi_load 0 1)), some (some (zi_load 1 2)), some (some (zi_inv 140 2 (some 9) 0 0 5)), none, none, some (some (zi_if zi_eq 32 8)), none, none, some (some (zi_load 2 9)), some (some (zi_i2l 10)), some (some (zi_push (.inr (.inl (9223372036854775809, 9223372036854775809))) 11)), some (some (zi_push (.inr (.inl (9223372036854775817, 9223372036854775817))) 14)), none, none, some (some (zi_inv 117 3 none 0 0 17)), none],
  [none, some (some (zi_if zi_eq 32 20)), none, none, some (some (zi_load 0 21)), some (some (zi_push (.inl (2147483676, 2147483676)) 23)), none, some (some (zi_load 1 24)), some (some (zi_bin zi_add 25)), some (some (zi_load 2 26)), some (some (zi_inv 153 3 (some 9) 0 0 29)), none, none, some (some (zi_go 33)), none, none],
  [some (some (zi_push (.inl (2147483647, 2147483647)) 33)), some none]]
def zt_X9_marks : zi_T := [[some (some (zi_push (.inl (2147483648, 2147483648)) 1)), some (some (zi_store 1 2)), some (some (zi_load 1 3)), some (some (zi_push (.inl (2147483673, 2147483673)) 5)), none, some (some (zi_ic zi_ge 26 8)), none, none, some (some (zi_load 0 9)), some (some (zi_getf 9 33 12)), none, none, some (some (zi_load 1 13)), some (some (zi_load 0 14)), some (some (zi_getf 9 0 17)), none],
  [none, some (some (zi_load 1 18)), some (some (zi_ald .int 19)), some (some (zi_ast .int 20)), some (some (zi_inc 1 (2147483649, 2147483649) 23)), none, none, some (some (zi_go 2)), none, none, some none]]
def zt_X9_returns : zi_T := [[some (some (zi_push (.inl (2147483648, 2147483648)) 1)), some (some (zi_store 1 2)), some (some (zi_load 1 3)), some (some (zi_push (.inl (2147483673, 2147483673)) 5)), none, some (some (zi_ic zi_ge 26 8)), none, none, some (some (zi_load 0 9)), some (some (zi_getf 9 0 12)), none, none, some (some (zi_load 1 13)), some (some (zi_load 0 14)), some (some (zi_getf 9 33 17)), none],
  [none, some (some (zi_load 1 18)), some (some (zi_ald .int 19)), some (some (zi_ast .int 20)), some (some (zi_inc 1 (2147483649, 2147483649) 23)), none, none, some (some (zi_go 2)), none, none, some none]]
def zt_X9_cutOf : zi_T := [[some (some (zi_load 1 1)), some (some (zi_if zi_ne 8 4)), none, none, some (some (zi_load 0 5)), some (some (zi_go 25)), none, none, some (some (zi_load 1 9)), some (some (zi_push (.inl (2147483649, 2147483649)) 10)), some (some (zi_ic zi_ne 20 13)), none, none, some (some (zi_load 0 14)), some (some (zi_push (.inl (2147483674, 2147483674)) 16)), none],
  [some (some (zi_dv zi_div 17)), some (some (zi_go 25)), none, none, some (some (zi_load 0 21)), some (some (zi_push (.inl (2147484324, 2147484324)) 24)), none, none, some (some (zi_dv zi_div 25)), some (some (zi_store 2 26)), some (some (zi_load 2 27)), some (some (zi_push (.inl (2147483674, 2147483674)) 29)), none, some (some (zi_dv zi_rem 30)), some (some (zi_push (.inl (2147483649, 2147483649)) 31)), some (some (zi_bin zi_sub 32))],
  [some none]]
def zt_X9_timesOf : zi_T := [[some (some (zi_load 0 1)), some (some (zi_if zi_ne 8 4)), none, none, some (some (zi_push (.inl (2147483649, 2147483649)) 5)), some (some (zi_go 21)), none, none, some (some (zi_load 0 9)), some (some (zi_push (.inl (2147483649, 2147483649)) 10)), some (some (zi_ic zi_ne 18 13)), none, none, some (some (zi_push (.inl (2147483674, 2147483674)) 15)), none, some (some (zi_go 21))],
  [none, none, some (some (zi_push (.inl (2147484324, 2147484324)) 21)), none, none, some none]]
def zt_X9_firstWrong : zi_T := [[some (some (zi_push (.inl (2147483651, 2147483651)) 1)), some (some (zi_store 2 2)), some (some (zi_push (.inl (2147483650, 2147483650)) 3)), some (some (zi_store 3 4)), some (some (zi_load 3 5)), some (some (zi_if zi_lt 66 8)), none, none, some (some (zi_load 1 9)), some (some (zi_load 3 10)), some (some (zi_inv 161 2 none 0 0 13)), none, none, some (some (zi_store 4 15)), none, some (some (zi_load 4 17))],
  [none, some (some (zi_if zi_lt 42 20)), none, none, some (some (zi_load 3 21)), some (some (zi_load 0 22)), some (some (zi_getf 9 4 25)), none, none, some (some (zi_ic zi_ge 46 28)), none, none, some (some (zi_load 0 29)), some (some (zi_load 3 30)), some (some (zi_inv 148 2 (some 9) 0 0 33)), none],
  [none, some (some (zi_load 4 35)), none, some (some (zi_bin zi_shr 36)), some (some (zi_push (.inl (2147483649, 2147483649)) 37)), some (some (zi_bin zi_and 38)), some (some (zi_push (.inl (2147483649, 2147483649)) 39)), some (some (zi_ic zi_ne 46 42)), none, none, some (some (zi_push (.inl (2147483649, 2147483649)) 43)), some (some (zi_go 47)), none, none, some (some (zi_push (.inl (2147483648, 2147483648)) 47)), some (some (zi_store 5 49))],
  [none, some (some (zi_load 5 51)), none, some (some (zi_if zi_eq 58 54)), none, none, some (some (zi_load 2 55)), some (some (zi_go 59)), none, none, some (some (zi_load 3 59)), some (some (zi_store 2 60)), some (some (zi_inc 3 (2147483647, 2147483647) 63)), none, none, some (some (zi_go 4))],
  [none, none, some (some (zi_load 2 67)), some none]]
def zt_X9_canBe : zi_T := [[some (some (zi_load 0 1)), some (some (zi_load 1 2)), some (some (zi_inv 163 2 (some 9) 0 0 5)), none, none, some (some (zi_push (.inl (2147483651, 2147483651)) 6)), some (some (zi_ic zi_ne 13 9)), none, none, some (some (zi_push (.inl (2147483649, 2147483649)) 10)), some (some (zi_go 14)), none, none, some (some (zi_push (.inl (2147483648, 2147483648)) 14)), some none]]
def zt_X9_silts : zi_T := [[some (some (zi_load 0 1)), some (some (zi_inv 144 1 (some 9) 0 0 4)), none, none, some (some (zi_load 0 5)), some (some (zi_getf 9 0 8)), none, none, some (some (zi_push (.inl (2147483675, 2147483675)) 10)), none, some (some (zi_ald .int 11)), some (some (zi_if zi_eq 22 14)), none, none, some (some (zi_load 0 15)), some (some (zi_getf 9 31 18))],
  [none, none, some (some (zi_push (.inl (2147483652, 2147483652)) 19)), some (some (zi_ic zi_ge 23 22)), none, none, some none, some (some (zi_push (.inl (2147483648, 2147483648)) 24)), some (some (zi_store 1 25)), some (some (zi_push (.inl (2147483649, 2147483649)) 26)), some (some (zi_store 2 27)), some (some (zi_load 2 28)), some (some (zi_push (.inl (2147483652, 2147483652)) 29)), some (some (zi_ic zi_ge 77 32)), none, none],
  [some (some (zi_load 0 33)), some (some (zi_getf 9 0 36)), none, none, some (some (zi_load 0 37)), some (some (zi_getf 9 30 40)), none, none, some (some (zi_load 2 41)), some (some (zi_ald .int 42)), some (some (zi_ald .int 43)), some (some (zi_if zi_le 50 46)), none, none, some (some (zi_push (.inl (2147483649, 2147483649)) 47)), some (some (zi_go 51))],
  [none, none, some (some (zi_push (.inl (2147483648, 2147483648)) 51)), some (some (zi_store 3 52)), some (some (zi_load 0 53)), some (some (zi_getf 9 0 56)), none, none, some (some (zi_load 0 57)), some (some (zi_getf 9 30 60)), none, none, some (some (zi_load 2 61)), some (some (zi_ald .int 62)), some (some (zi_dup2 63)), some (some (zi_ald .int 64))],
  [some (some (zi_load 3 65)), some (some (zi_bin zi_sub 66)), some (some (zi_ast .int 67)), some (some (zi_load 1 68)), some (some (zi_load 3 69)), some (some (zi_bin zi_add 70)), some (some (zi_store 1 71)), some (some (zi_inc 2 (2147483649, 2147483649) 74)), none, none, some (some (zi_go 27)), none, none, some (some (zi_load 0 78)), some (some (zi_getf 9 0 81)), none],
  [none, some (some (zi_load 0 82)), some (some (zi_getf 9 30 85)), none, none, some (some (zi_load 0 86)), some (some (zi_getf 9 31 89)), none, none, some (some (zi_push (.inl (2147483649, 2147483649)) 90)), some (some (zi_bin zi_sub 91)), some (some (zi_ald .int 92)), some (some (zi_dup2 93)), some (some (zi_ald .int 94)), some (some (zi_load 1 95)), some (some (zi_bin zi_add 96))],
  [some (some (zi_ast .int 97)), some none]]
def zt_X9_goes : zi_T := [[some (some (zi_push (.inl (2147483648, 2147483648)) 1)), some (some (zi_store 2 2)), some (some (zi_load 2 3)), some (some (zi_push (.inl (2147483651, 2147483651)) 4)), some (some (zi_ic zi_ge 33 7)), none, none, some (some (zi_load 1 8)), some (some (zi_load 2 9)), some (some (zi_inv 161 2 none 0 0 12)), none, none, some (some (zi_store 3 13)), some (some (zi_load 3 14)), some (some (zi_if zi_lt 27 17)), none],
  [none, some (some (zi_load 0 18)), some (some (zi_getf 9 0 21)), none, none, some (some (zi_load 3 22)), some (some (zi_dup2 23)), some (some (zi_ald .int 24)), some (some (zi_push (.inl (2147483651, 2147483651)) 25)), some (some (zi_bin zi_sub 26)), some (some (zi_ast .int 27)), some (some (zi_inc 2 (2147483649, 2147483649) 30)), none, none, some (some (zi_go 2)), none],
  [none, some (some (zi_load 0 34)), some (some (zi_inv 165 1 (some 9) 0 0 37)), none, none, some none]]
def zt_X9_year : zi_T := [[some (some (zi_load 1 1)), some (some (zi_inv 141 1 none 0 0 4)), none, none, some (some (zi_if zi_ne 9 7)), none, none, some (some (zi_push (.inl (2147483647, 2147483647)) 8)), some none, some (some (zi_load 0 10)), some (some (zi_load 1 11)), some (some (zi_inv 164 2 (some 9) 0 0 14)), none, none, some (some (zi_if zi_ne 20 17)), none],
  [none, some (some (zi_push (.inl (2147483646, 2147483646)) 19)), none, some none, some (some (zi_load 0 21)), some (some (zi_getf 9 0 24)), none, none, some (some (zi_push (.inl (2147483679, 2147483679)) 26)), none, some (some (zi_ald .int 27)), some (some (zi_push (.inl (2147484647, 2147484647)) 30)), none, none, some (some (zi_ic zi_ne 36 33)), none],
  [none, some (some (zi_push (.inl (2147483645, 2147483645)) 35)), none, some none, some (some (zi_load 0 37)), some (some (zi_load 1 38)), some (some (zi_inv 166 2 (some 9) 0 0 41)), none, none, some (some (zi_load 0 42)), some (some (zi_getf 9 0 45)), none, none, some (some (zi_push (.inl (2147483679, 2147483679)) 47)), none, some (some (zi_dup2 48))],
  [some (some (zi_ald .int 49)), some (some (zi_push (.inl (2147483649, 2147483649)) 50)), some (some (zi_bin zi_add 51)), some (some (zi_ast .int 52)), some (some (zi_load 0 53)), some (some (zi_inv 144 1 (some 9) 0 0 56)), none, none, some (some (zi_load 0 57)), some (some (zi_getf 9 31 60)), none, none, some none]]
def zt_X9_hasBy : zi_T := [[some (some (zi_load 0 1)), some (some (zi_inv 159 1 (some 9) 0 0 4)), none, none, some (some (zi_load 0 5)), some (some (zi_load 1 6)), some (some (zi_inv 166 2 (some 9) 0 0 9)), none, none, some (some (zi_load 0 10)), some (some (zi_load 2 11)), some (some (zi_inv 146 2 (some 9) 0 0 14)), none, none, some (some (zi_store 3 15)), some (some (zi_load 0 16))],
  [some (some (zi_inv 160 1 (some 9) 0 0 19)), none, none, some (some (zi_load 3 20)), some none]]
def zt_X9_bedBy : zi_T := [[some (some (zi_load 0 1)), some (some (zi_inv 159 1 (some 9) 0 0 4)), none, none, some (some (zi_load 0 5)), some (some (zi_load 1 6)), some (some (zi_inv 166 2 (some 9) 0 0 9)), none, none, some (some (zi_load 0 10)), some (some (zi_inv 145 1 (some 9) 0 0 13)), none, none, some (some (zi_store 2 14)), some (some (zi_load 0 15)), some (some (zi_inv 160 1 (some 9) 0 0 18))],
  [none, none, some (some (zi_load 2 19)), some none]]
def zt_X9_would : zi_T := [[some (some (zi_load 1 1)), some (some (zi_inv 141 1 none 0 0 4)), none, none, some (some (zi_if zi_eq 15 7)), none, none, some (some (zi_load 0 8)), some (some (zi_load 2 9)), some (some (zi_inv 140 2 (some 9) 0 0 12)), none, none, some (some (zi_if zi_ne 17 15)), none, none, some (some (zi_push (.inl (2147483647, 2147483647)) 16))],
  [some none, some (some (zi_load 0 18)), some (some (zi_load 1 19)), some (some (zi_inv 164 2 (some 9) 0 0 22)), none, none, some (some (zi_if zi_eq 34 25)), none, none, some (some (zi_load 0 26)), some (some (zi_load 1 27)), some (some (zi_load 2 28)), some (some (zi_inv 168 3 (some 9) 0 0 31)), none, none, some (some (zi_go 36))],
  [none, none, some (some (zi_push (.inl (2147483646, 2147483646)) 36)), none, some none]]
def zt_X9_tell : zi_T := [[some (some (zi_load 1 1)), some (some (zi_inv 141 1 none 0 0 4)), none, none, some (some (zi_if zi_ne 9 7)), none, none, some (some (zi_push (.inl (2147483647, 2147483647)) 8)), some none, some (some (zi_load 0 10)), some (some (zi_getf 9 0 13)), none, none, some (some (zi_push (.inl (2147483680, 2147483680)) 15)), none, some (some (zi_ald .int 16))],
  [some (some (zi_push (.inl (2147483654, 2147483654)) 18)), none, some (some (zi_ic zi_ne 24 21)), none, none, some (some (zi_push (.inl (2147483645, 2147483645)) 23)), none, some none, some (some (zi_load 0 25)), some (some (zi_getf 9 0 28)), none, none, some (some (zi_push (.inl (2147483681, 2147483681)) 30)), none, some (some (zi_load 0 31)), some (some (zi_getf 9 0 34))],
  [none, none, some (some (zi_push (.inl (2147483680, 2147483680)) 36)), none, some (some (zi_ald .int 37)), some (some (zi_bin zi_add 38)), some (some (zi_load 1 39)), some (some (zi_ast .int 40)), some (some (zi_load 0 41)), some (some (zi_getf 9 0 44)), none, none, some (some (zi_push (.inl (2147483680, 2147483680)) 46)), none, some (some (zi_dup2 47)), some (some (zi_ald .int 48))],
  [some (some (zi_push (.inl (2147483649, 2147483649)) 49)), some (some (zi_bin zi_add 50)), some (some (zi_ast .int 51)), some (some (zi_load 0 52)), some (some (zi_getf 9 0 55)), none, none, some (some (zi_push (.inl (2147483680, 2147483680)) 57)), none, some (some (zi_ald .int 58)), some none]]
def zt_X9_drop : zi_T := [[some (some (zi_load 1 1)), some (some (zi_i2l 2)), some (some (zi_push (.inr (.inl (9223372036854775808, 9223372036854775808))) 3)), some (some (zi_load 0 4)), some (some (zi_getf 9 0 7)), none, none, some (some (zi_push (.inl (2147483680, 2147483680)) 9)), none, some (some (zi_ald .int 10)), some (some (zi_i2l 11)), some (some (zi_inv 117 3 none 0 0 14)), none, none, some (some (zi_if zi_ne 19 17)), none],
  [none, some (some (zi_push (.inl (2147483647, 2147483647)) 18)), some none, some (some (zi_load 0 20)), some (some (zi_getf 9 0 23)), none, none, some (some (zi_push (.inl (2147483680, 2147483680)) 25)), none, some (some (zi_ald .int 26)), some (some (zi_store 2 27)), some (some (zi_load 0 28)), some (some (zi_getf 9 0 31)), none, none, some (some (zi_push (.inl (2147483680, 2147483680)) 33))],
  [none, some (some (zi_load 1 34)), some (some (zi_ast .int 35)), some (some (zi_load 2 36)), some none]]
def zt_X9_judge : zi_T := [[some (some (zi_load 1 1)), some (some (zi_i2l 2)), some (some (zi_push (.inr (.inl (9223372036854775808, 9223372036854775808))) 3)), some (some (zi_push (.inr (.inl (9223372036854775809, 9223372036854775809))) 4)), some (some (zi_inv 117 3 none 0 0 7)), none, none, some (some (zi_if zi_ne 12 10)), none, none, some (some (zi_push (.inl (2147483647, 2147483647)) 11)), some none, some (some (zi_push (.inl (2147483648, 2147483648)) 13)), some (some (zi_store 2 14)), some (some (zi_load 2 15)), some (some (zi_push (.inl (2147483673, 2147483673)) 17))],
  [none, some (some (zi_ic zi_ge 38 20)), none, none, some (some (zi_load 0 21)), some (some (zi_getf 9 34 24)), none, none, some (some (zi_load 2 25)), some (some (zi_load 0 26)), some (some (zi_getf 9 0 29)), none, none, some (some (zi_load 2 30)), some (some (zi_ald .int 31)), some (some (zi_ast .int 32))],
  [some (some (zi_inc 2 (2147483649, 2147483649) 35)), none, none, some (some (zi_go 14)), none, none, some (some (zi_push (.inl (2147483644, 2147483644)) 40)), none, some (some (zi_store 2 41)), some (some (zi_push (.inl (2147483644, 2147483644)) 43)), none, some (some (zi_store 3 44)), some (some (zi_push (.inl (2147483648, 2147483648)) 45)), some (some (zi_store 4 47)), none, some (some (zi_load 4 49))],
  [none, some (some (zi_load 0 50)), some (some (zi_getf 9 0 53)), none, none, some (some (zi_push (.inl (2147483680, 2147483680)) 55)), none, some (some (zi_ald .int 56)), some (some (zi_ic zi_ge 130 59)), none, none, some (some (zi_load 2 60)), some (some (zi_push (.inl (2147483644, 2147483644)) 62)), none, some (some (zi_ic zi_ne 130 65)), none],
  [none, some (some (zi_load 0 66)), some (some (zi_load 0 67)), some (some (zi_getf 9 0 70)), none, none, some (some (zi_push (.inl (2147483681, 2147483681)) 72)), none, some (some (zi_load 4 74)), none, some (some (zi_bin zi_add 75)), some (some (zi_ald .int 76)), some (some (zi_inv 163 2 (some 9) 0 0 79)), none, none, some (some (zi_store 5 81))],
  [none, some (some (zi_load 5 83)), none, some (some (zi_push (.inl (2147483651, 2147483651)) 84)), some (some (zi_ic zi_ne 104 87)), none, none, some (some (zi_load 0 88)), some (some (zi_load 0 89)), some (some (zi_getf 9 0 92)), none, none, some (some (zi_push (.inl (2147483681, 2147483681)) 94)), none, some (some (zi_load 4 96)), none],
  [some (some (zi_bin zi_add 97)), some (some (zi_ald .int 98)), some (some (zi_inv 166 2 (some 9) 0 0 101)), none, none, some (some (zi_go 124)), none, none, some (some (zi_load 4 106)), none, some (some (zi_store 2 107)), some (some (zi_load 5 109)), none, some (some (zi_load 0 110)), some (some (zi_getf 9 4 113)), none],
  [none, some (some (zi_ic zi_ge 121 116)), none, none, some (some (zi_load 5 118)), none, some (some (zi_go 123)), none, none, some (some (zi_push (.inl (2147483644, 2147483644)) 123)), none, some (some (zi_store 3 124)), some (some (zi_inc 4 (2147483649, 2147483649) 127)), none, none, some (some (zi_go 47))],
  [none, none, some (some (zi_push (.inl (2147483648, 2147483648)) 131)), some (some (zi_store 4 133)), none, some (some (zi_load 4 135)), none, some (some (zi_push (.inl (2147483673, 2147483673)) 137)), none, some (some (zi_ic zi_ge 160 140)), none, none, some (some (zi_load 0 141)), some (some (zi_getf 9 0 144)), none, none],
  [some (some (zi_load 4 146)), none, some (some (zi_load 0 147)), some (some (zi_getf 9 34 150)), none, none, some (some (zi_load 4 152)), none, some (some (zi_ald .int 153)), some (some (zi_ast .int 154)), some (some (zi_inc 4 (2147483649, 2147483649) 157)), none, none, some (some (zi_go 133)), none, none],
  [some (some (zi_load 1 161)), some (some (zi_if zi_ne 168 164)), none, none, some (some (zi_load 2 165)), some (some (zi_go 169)), none, none, some (some (zi_load 3 169)), some none]]
def zt_X9_findOptions : zi_T := [[some (some (zi_push (.inl (2147483648, 2147483648)) 1)), some (some (zi_store 1 2)), some (some (zi_load 1 3)), some (some (zi_push (.inl (2147483651, 2147483651)) 4)), some (some (zi_ic zi_ge 112 7)), none, none, some (some (zi_load 1 8)), some (some (zi_load 0 9)), some (some (zi_getf 9 4 12)), none, none, some (some (zi_ic zi_ge 23 15)), none, none, some (some (zi_load 0 16))],
  [some (some (zi_load 1 17)), some (some (zi_inv 148 2 (some 9) 0 0 20)), none, none, some (some (zi_go 24)), none, none, some (some (zi_push (.inl (2147483648, 2147483648)) 24)), some (some (zi_store 2 25)), some (some (zi_load 0 26)), some (some (zi_getf 9 35 29)), none, none, some (some (zi_push (.inl (2147483657, 2147483657)) 31)), none, some (some (zi_load 1 32))],
  [some (some (zi_bin zi_mul 33)), some (some (zi_push (.inl (2147483648, 2147483648)) 34)), some (some (zi_ast .int 35)), some (some (zi_load 0 36)), some (some (zi_getf 9 36 39)), none, none, some (some (zi_load 1 40)), some (some (zi_push (.inl (2147483649, 2147483649)) 41)), some (some (zi_ast .int 42)), some (some (zi_push (.inl (2147483648, 2147483648)) 43)), some (some (zi_store 3 44)), some (some (zi_load 3 45)), some (some (zi_load 0 46)), some (some (zi_getf 9 2 49)), none],
  [none, some (some (zi_load 0 50)), some (some (zi_getf 9 3 53)), none, none, some (some (zi_bin zi_mul 54)), some (some (zi_ic zi_ge 106 57)), none, none, some (some (zi_load 2 58)), some (some (zi_load 3 59)), some (some (zi_bin zi_shr 60)), some (some (zi_push (.inl (2147483649, 2147483649)) 61)), some (some (zi_bin zi_and 62)), some (some (zi_push (.inl (2147483649, 2147483649)) 63)), some (some (zi_ic zi_ne 100 66))],
  [none, none, some (some (zi_load 0 67)), some (some (zi_getf 9 35 70)), none, none, some (some (zi_push (.inl (2147483657, 2147483657)) 72)), none, some (some (zi_load 1 73)), some (some (zi_bin zi_mul 74)), some (some (zi_load 0 75)), some (some (zi_getf 9 36 78)), none, none, some (some (zi_load 1 79)), some (some (zi_ald .int 80))],
  [some (some (zi_bin zi_add 81)), some (some (zi_load 1 82)), some (some (zi_inv 162 1 none 0 0 85)), none, none, some (some (zi_load 3 86)), some (some (zi_push (.inl (2147483649, 2147483649)) 87)), some (some (zi_bin zi_add 88)), some (some (zi_bin zi_mul 89)), some (some (zi_ast .int 90)), some (some (zi_load 0 91)), some (some (zi_getf 9 36 94)), none, none, some (some (zi_load 1 95)), some (some (zi_dup2 96))],
  [some (some (zi_ald .int 97)), some (some (zi_push (.inl (2147483649, 2147483649)) 98)), some (some (zi_bin zi_add 99)), some (some (zi_ast .int 100)), some (some (zi_inc 3 (2147483649, 2147483649) 103)), none, none, some (some (zi_go 44)), none, none, some (some (zi_inc 1 (2147483649, 2147483649) 109)), none, none, some (some (zi_go 2)), none, none],
  [some none]]
def zt_X9_allOptions : zi_T := [[some (some (zi_load 0 1)), some (some (zi_getf 9 36 4)), none, none, some (some (zi_push (.inl (2147483648, 2147483648)) 5)), some (some (zi_ald .int 6)), some (some (zi_load 0 7)), some (some (zi_getf 9 36 10)), none, none, some (some (zi_push (.inl (2147483649, 2147483649)) 11)), some (some (zi_ald .int 12)), some (some (zi_bin zi_mul 13)), some (some (zi_load 0 14)), some (some (zi_getf 9 36 17)), none],
  [none, some (some (zi_push (.inl (2147483650, 2147483650)) 18)), some (some (zi_ald .int 19)), some (some (zi_bin zi_mul 20)), some none]]
def zt_X9_yearOf : zi_T := [[some (some (zi_load 0 1)), some (some (zi_getf 9 35 4)), none, none, some (some (zi_load 1 5)), some (some (zi_ald .int 6)), some (some (zi_load 0 7)), some (some (zi_getf 9 35 10)), none, none, some (some (zi_push (.inl (2147483657, 2147483657)) 12)), none, some (some (zi_load 2 13)), some (some (zi_bin zi_add 14)), some (some (zi_ald .int 15)), some (some (zi_bin zi_add 16))],
  [some (some (zi_load 0 17)), some (some (zi_getf 9 35 20)), none, none, some (some (zi_push (.inl (2147483666, 2147483666)) 22)), none, some (some (zi_load 3 23)), some (some (zi_bin zi_add 24)), some (some (zi_ald .int 25)), some (some (zi_bin zi_add 26)), some none]]
def zt_X9_yearAt : zi_T := [[some (some (zi_load 0 1)), some (some (zi_load 1 2)), some (some (zi_load 0 3)), some (some (zi_getf 9 36 6)), none, none, some (some (zi_push (.inl (2147483648, 2147483648)) 7)), some (some (zi_ald .int 8)), some (some (zi_dv zi_rem 9)), some (some (zi_load 1 10)), some (some (zi_load 0 11)), some (some (zi_getf 9 36 14)), none, none, some (some (zi_push (.inl (2147483648, 2147483648)) 15)), some (some (zi_ald .int 16))],
  [some (some (zi_dv zi_div 17)), some (some (zi_load 0 18)), some (some (zi_getf 9 36 21)), none, none, some (some (zi_push (.inl (2147483649, 2147483649)) 22)), some (some (zi_ald .int 23)), some (some (zi_dv zi_rem 24)), some (some (zi_load 1 25)), some (some (zi_load 0 26)), some (some (zi_getf 9 36 29)), none, none, some (some (zi_push (.inl (2147483648, 2147483648)) 30)), some (some (zi_ald .int 31)), some (some (zi_load 0 32))],
  [some (some (zi_getf 9 36 35)), none, none, some (some (zi_push (.inl (2147483649, 2147483649)) 36)), some (some (zi_ald .int 37)), some (some (zi_bin zi_mul 38)), some (some (zi_dv zi_div 39)), some (some (zi_inv 176 4 (some 9) 0 0 42)), none, none, some none]]
def zt_X9_enters : zi_T := [[some (some (zi_push (.inl (2147483648, 2147483648)) 1)), some (some (zi_store 3 2)), some (some (zi_load 3 3)), some (some (zi_push (.inl (2147483673, 2147483673)) 5)), none, some (some (zi_ic zi_ge 31 8)), none, none, some (some (zi_load 0 9)), some (some (zi_getf 9 37 12)), none, none, some (some (zi_push (.inl (2147483673, 2147483673)) 14)), none, some (some (zi_load 2 15)), some (some (zi_bin zi_mul 16))],
  [some (some (zi_load 3 17)), some (some (zi_bin zi_add 18)), some (some (zi_load 0 19)), some (some (zi_getf 9 0 22)), none, none, some (some (zi_load 3 23)), some (some (zi_ald .int 24)), some (some (zi_ast .int 25)), some (some (zi_inc 3 (2147483649, 2147483649) 28)), none, none, some (some (zi_go 2)), none, none, some (some (zi_load 0 32))],
  [some (some (zi_load 1 33)), some (some (zi_inv 148 2 (some 9) 0 0 36)), none, none, some (some (zi_store 3 37)), some (some (zi_load 0 38)), some (some (zi_getf 9 39 41)), none, none, some (some (zi_push (.inl (2147483657, 2147483657)) 43)), none, some (some (zi_load 2 44)), some (some (zi_bin zi_mul 45)), some (some (zi_push (.inl (2147483673, 2147483673)) 47)), none, some (some (zi_ast .int 48))],
  [some (some (zi_load 0 49)), some (some (zi_getf 9 40 52)), none, none, some (some (zi_load 2 53)), some (some (zi_push (.inl (2147483649, 2147483649)) 54)), some (some (zi_ast .int 55)), some (some (zi_push (.inl (2147483648, 2147483648)) 56)), some (some (zi_store 4 58)), none, some (some (zi_load 4 60)), none, some (some (zi_load 0 61)), some (some (zi_getf 9 2 64)), none, none],
  [some (some (zi_load 0 65)), some (some (zi_getf 9 3 68)), none, none, some (some (zi_bin zi_mul 69)), some (some (zi_ic zi_ge 116 72)), none, none, some (some (zi_load 3 73)), some (some (zi_load 4 75)), none, some (some (zi_bin zi_shr 76)), some (some (zi_push (.inl (2147483649, 2147483649)) 77)), some (some (zi_bin zi_and 78)), some (some (zi_push (.inl (2147483649, 2147483649)) 79)), some (some (zi_ic zi_ne 110 82))],
  [none, none, some (some (zi_load 0 83)), some (some (zi_getf 9 39 86)), none, none, some (some (zi_push (.inl (2147483657, 2147483657)) 88)), none, some (some (zi_load 2 89)), some (some (zi_bin zi_mul 90)), some (some (zi_load 0 91)), some (some (zi_getf 9 40 94)), none, none, some (some (zi_load 2 95)), some (some (zi_ald .int 96))],
  [some (some (zi_bin zi_add 97)), some (some (zi_load 4 99)), none, some (some (zi_ast .int 100)), some (some (zi_load 0 101)), some (some (zi_getf 9 40 104)), none, none, some (some (zi_load 2 105)), some (some (zi_dup2 106)), some (some (zi_ald .int 107)), some (some (zi_push (.inl (2147483649, 2147483649)) 108)), some (some (zi_bin zi_add 109)), some (some (zi_ast .int 110)), some (some (zi_inc 4 (2147483649, 2147483649) 113)), none],
  [none, some (some (zi_go 58)), none, none, some none]]
def zt_X9_leaves : zi_T := [[some (some (zi_push (.inl (2147483648, 2147483648)) 1)), some (some (zi_store 2 2)), some (some (zi_load 2 3)), some (some (zi_push (.inl (2147483673, 2147483673)) 5)), none, some (some (zi_ic zi_ge 31 8)), none, none, some (some (zi_load 0 9)), some (some (zi_getf 9 0 12)), none, none, some (some (zi_load 2 13)), some (some (zi_load 0 14)), some (some (zi_getf 9 37 17)), none],
  [none, some (some (zi_push (.inl (2147483673, 2147483673)) 19)), none, some (some (zi_load 1 20)), some (some (zi_bin zi_mul 21)), some (some (zi_load 2 22)), some (some (zi_bin zi_add 23)), some (some (zi_ald .int 24)), some (some (zi_ast .int 25)), some (some (zi_inc 2 (2147483649, 2147483649) 28)), none, none, some (some (zi_go 2)), none, none, some none]]
def zt_X9_isBrought : zi_T := [[some (some (zi_load 0 1)), some (some (zi_load 1 2)), some (some (zi_push (.inl (2147483648, 2147483648)) 3)), some (some (zi_inv 178 3 (some 9) 0 0 6)), none, none, some (some (zi_push (.inl (2147483648, 2147483648)) 7)), some (some (zi_store 4 9)), none, some (some (zi_load 3 10)), some (some (zi_if zi_ne 29 13)), none, none, some (some (zi_load 0 14)), some (some (zi_inv 145 1 (some 9) 0 0 17)), none],
  [none, some (some (zi_load 2 18)), some (some (zi_bin zi_shr 19)), some (some (zi_push (.inl (2147483649, 2147483649)) 20)), some (some (zi_bin zi_and 21)), some (some (zi_push (.inl (2147483649, 2147483649)) 22)), some (some (zi_ic zi_ne 29 25)), none, none, some (some (zi_push (.inl (2147483649, 2147483649)) 26)), some (some (zi_go 30)), none, none, some (some (zi_push (.inl (2147483648, 2147483648)) 30)), some (some (zi_store 5 32)), none],
  [some (some (zi_load 3 33)), some (some (zi_if zi_le 43 36)), none, none, some (some (zi_load 0 37)), some (some (zi_getf 9 38 40)), none, none, some (some (zi_push (.inl (2147483648, 2147483648)) 41)), some (some (zi_push (.inl (2147483648, 2147483648)) 42)), some (some (zi_ast .int 43)), some (some (zi_load 3 44)), some (some (zi_if zi_le 220 47)), none, none, some (some (zi_load 4 49))],
  [none, some (some (zi_if zi_lt 220 52)), none, none, some (some (zi_load 5 54)), none, some (some (zi_if zi_ne 220 57)), none, none, some (some (zi_load 0 58)), some (some (zi_getf 9 38 61)), none, none, some (some (zi_load 4 63)), none, some (some (zi_ald .int 64))],
  [some (some (zi_load 0 65)), some (some (zi_getf 9 40 68)), none, none, some (some (zi_load 4 70)), none, some (some (zi_ald .int 71)), some (some (zi_ic zi_ne 96 74)), none, none, some (some (zi_inc 4 (2147483647, 2147483647) 77)), none, none, some (some (zi_load 4 79)), none, some (some (zi_if zi_lt 43 82))],
  [none, none, some (some (zi_load 0 83)), some (some (zi_getf 9 38 86)), none, none, some (some (zi_load 4 88)), none, some (some (zi_dup2 89)), some (some (zi_ald .int 90)), some (some (zi_push (.inl (2147483649, 2147483649)) 91)), some (some (zi_bin zi_add 92)), some (some (zi_ast .int 93)), some (some (zi_go 43)), none, none],
  [some (some (zi_load 0 97)), some (some (zi_load 4 99)), none, some (some (zi_inv 179 2 (some 9) 0 0 102)), none, none, some (some (zi_load 0 103)), some (some (zi_getf 9 39 106)), none, none, some (some (zi_push (.inl (2147483657, 2147483657)) 108)), none, some (some (zi_load 4 110)), none, some (some (zi_bin zi_mul 111)), some (some (zi_load 0 112))],
  [some (some (zi_getf 9 38 115)), none, none, some (some (zi_load 4 117)), none, some (some (zi_ald .int 118)), some (some (zi_bin zi_add 119)), some (some (zi_ald .int 120)), some (some (zi_store 6 122)), none, some (some (zi_load 0 123)), some (some (zi_load 6 125)), none, some (some (zi_push (.inl (2147483673, 2147483673)) 127)), none, some (some (zi_ic zi_ne 134 130))],
  [none, none, some (some (zi_push (.inl (2147483648, 2147483648)) 131)), some (some (zi_go 143)), none, none, some (some (zi_load 1 135)), some (some (zi_inv 162 1 none 0 0 138)), none, none, some (some (zi_load 6 140)), none, some (some (zi_push (.inl (2147483649, 2147483649)) 141)), some (some (zi_bin zi_add 142)), some (some (zi_bin zi_mul 143)), some (some (zi_inv 166 2 (some 9) 0 0 146))],
  [none, none, some (some (zi_load 4 148)), none, some (some (zi_load 3 149)), some (some (zi_push (.inl (2147483649, 2147483649)) 150)), some (some (zi_bin zi_sub 151)), some (some (zi_ic zi_ne 199 154)), none, none, some (some (zi_load 0 155)), some (some (zi_inv 145 1 (some 9) 0 0 158)), none, none, some (some (zi_load 2 159)), some (some (zi_bin zi_shr 160))],
  [some (some (zi_push (.inl (2147483649, 2147483649)) 161)), some (some (zi_bin zi_and 162)), some (some (zi_push (.inl (2147483649, 2147483649)) 163)), some (some (zi_ic zi_ne 170 166)), none, none, some (some (zi_push (.inl (2147483649, 2147483649)) 167)), some (some (zi_go 171)), none, none, some (some (zi_push (.inl (2147483648, 2147483648)) 171)), some (some (zi_store 5 173)), none, some (some (zi_load 0 174)), some (some (zi_getf 9 38 177)), none],
  [none, some (some (zi_load 4 179)), none, some (some (zi_dup2 180)), some (some (zi_ald .int 181)), some (some (zi_load 5 183)), none, some (some (zi_if zi_ne 190 186)), none, none, some (some (zi_push (.inl (2147483649, 2147483649)) 187)), some (some (zi_go 191)), none, none, some (some (zi_push (.inl (2147483648, 2147483648)) 191)), some (some (zi_inv 118 1 none 0 0 194))],
  [none, none, some (some (zi_bin zi_add 195)), some (some (zi_ast .int 196)), some (some (zi_go 217)), none, none, some (some (zi_inc 4 (2147483649, 2147483649) 202)), none, none, some (some (zi_load 0 203)), some (some (zi_load 1 204)), some (some (zi_load 4 206)), none, some (some (zi_inv 178 3 (some 9) 0 0 209)), none],
  [none, some (some (zi_load 0 210)), some (some (zi_getf 9 38 213)), none, none, some (some (zi_load 4 215)), none, some (some (zi_push (.inl (2147483648, 2147483648)) 216)), some (some (zi_ast .int 217)), some (some (zi_go 43)), none, none, some (some (zi_load 0 221)), some (some (zi_push (.inl (2147483648, 2147483648)) 222)), some (some (zi_inv 179 2 (some 9) 0 0 225)), none],
  [none, some (some (zi_load 5 227)), none, some none]]
def zt_X9_alone : zi_T := [[some (some (zi_load 0 1)), some (some (zi_load 1 2)), some (some (zi_inv 140 2 (some 9) 0 0 5)), none, none, some (some (zi_if zi_eq 34 8)), none, none, some (some (zi_load 0 9)), some (some (zi_load 2 10)), some (some (zi_inv 139 2 (some 9) 0 0 13)), none, none, some (some (zi_if zi_eq 34 16)), none, none],
  [some (some (zi_load 3 17)), some (some (zi_if zi_eq 36 20)), none, none, some (some (zi_load 3 21)), some (some (zi_i2l 22)), some (some (zi_push (.inr (.inl (9223372036854775818, 9223372036854775818))) 25)), none, none, some (some (zi_push (.inr (.inl (9223372036854775820, 9223372036854775820))) 28)), none, none, some (some (zi_inv 117 3 none 0 0 31)), none, none, some (some (zi_if zi_ne 36 34))],
  [none, none, some (some (zi_push (.inl (2147483647, 2147483647)) 35)), some none, some (some (zi_push (.inl (2147483648, 2147483648)) 37)), some (some (zi_store 4 39)), none, some (some (zi_load 4 41)), none, some (some (zi_push (.inl (2147483651, 2147483651)) 42)), some (some (zi_ic zi_gt 108 45)), none, none, some (some (zi_load 0 46)), some (some (zi_load 1 47)), some (some (zi_load 2 48))],
  [some (some (zi_load 4 50)), none, some (some (zi_inv 180 4 (some 9) 0 0 53)), none, none, some (some (zi_if zi_eq 102 56)), none, none, some (some (zi_load 3 57)), some (some (zi_if zi_ne 65 60)), none, none, some (some (zi_load 4 62)), none, some (some (zi_go 101)), none],
  [none, some (some (zi_load 3 66)), some (some (zi_push (.inl (2147483658, 2147483658)) 68)), none, some (some (zi_bin zi_sub 69)), some (some (zi_load 4 71)), none, some (some (zi_ic zi_ge 99 74)), none, none, some (some (zi_load 0 75)), some (some (zi_getf 9 39 78)), none, none, some (some (zi_push (.inl (2147483657, 2147483657)) 80)), none],
  [some (some (zi_load 3 81)), some (some (zi_push (.inl (2147483658, 2147483658)) 83)), none, some (some (zi_bin zi_sub 84)), some (some (zi_bin zi_mul 85)), some (some (zi_load 0 86)), some (some (zi_getf 9 38 89)), none, none, some (some (zi_load 3 90)), some (some (zi_push (.inl (2147483658, 2147483658)) 92)), none, some (some (zi_bin zi_sub 93)), some (some (zi_ald .int 94)), some (some (zi_bin zi_add 95)), some (some (zi_ald .int 96))],
  [some (some (zi_go 101)), none, none, some (some (zi_push (.inl (2147483644, 2147483644)) 101)), none, some none, some (some (zi_inc 4 (2147483649, 2147483649) 105)), none, none, some (some (zi_go 39)), none, none, some (some (zi_push (.inl (2147483644, 2147483644)) 110)), none, some none]]
def zt_X9_cutsOf : zi_T := [[some (some (zi_push (.inl (2147483648, 2147483648)) 1)), some (some (zi_store 1 2)), some (some (zi_push (.inl (2147483648, 2147483648)) 3)), some (some (zi_store 2 4)), some (some (zi_load 2 5)), some (some (zi_push (.inl (2147483651, 2147483651)) 6)), some (some (zi_ic zi_ge 34 9)), none, none, some (some (zi_load 1 10)), some (some (zi_load 0 11)), some (some (zi_load 2 12)), some (some (zi_inv 161 2 none 0 0 15)), none, none, some (some (zi_if zi_lt 22 18))],
  [none, none, some (some (zi_push (.inl (2147483649, 2147483649)) 19)), some (some (zi_go 23)), none, none, some (some (zi_push (.inl (2147483648, 2147483648)) 23)), some (some (zi_inv 118 1 none 0 0 26)), none, none, some (some (zi_bin zi_add 27)), some (some (zi_store 1 28)), some (some (zi_inc 2 (2147483649, 2147483649) 31)), none, none, some (some (zi_go 4))],
  [none, none, some (some (zi_load 1 35)), some none]]
def zt_X9_together : zi_T := [[some (some (zi_load 0 1)), some (some (zi_load 1 2)), some (some (zi_inv 139 2 (some 9) 0 0 5)), none, none, some (some (zi_if zi_eq 18 8)), none, none, some (some (zi_load 2 9)), some (some (zi_i2l 10)), some (some (zi_push (.inr (.inl (9223372036854775808, 9223372036854775808))) 11)), some (some (zi_push (.inr (.inl (9223372036854775809, 9223372036854775809))) 12)), some (some (zi_inv 117 3 none 0 0 15)), none, none, some (some (zi_if zi_ne 20 18))],
  [none, none, some (some (zi_push (.inl (2147483647, 2147483647)) 19)), some none, some (some (zi_load 0 21)), some (some (zi_inv 174 1 (some 9) 0 0 24)), none, none, some (some (zi_push (.inl (2147483644, 2147483644)) 26)), none, some (some (zi_store 3 27)), some (some (zi_push (.inl (2147483644, 2147483644)) 29)), none, some (some (zi_store 4 31)), none, some (some (zi_push (.inl (2147483648, 2147483648)) 32))],
  [some (some (zi_store 5 34)), none, some (some (zi_load 5 36)), none, some (some (zi_load 0 37)), some (some (zi_inv 175 1 (some 9) 0 0 40)), none, none, some (some (zi_ic zi_ge 136 43)), none, none, some (some (zi_load 0 44)), some (some (zi_load 5 46)), none, some (some (zi_inv 177 2 (some 9) 0 0 49)), none],
  [none, some (some (zi_store 6 51)), none, some (some (zi_load 0 52)), some (some (zi_load 6 54)), none, some (some (zi_inv 169 2 (some 9) 0 0 57)), none, none, some (some (zi_load 1 58)), some (some (zi_bin zi_shr 59)), some (some (zi_push (.inl (2147483649, 2147483649)) 60)), some (some (zi_bin zi_and 61)), some (some (zi_push (.inl (2147483649, 2147483649)) 62)), some (some (zi_ic zi_ne 130 65)), none],
  [none, some (some (zi_load 6 67)), none, some (some (zi_inv 182 1 none 0 0 70)), none, none, some (some (zi_store 7 72)), none, some (some (zi_load 3 73)), some (some (zi_push (.inl (2147483644, 2147483644)) 75)), none, some (some (zi_ic zi_eq 97 78)), none, none, some (some (zi_load 7 80)), none],
  [some (some (zi_load 3 81)), some (some (zi_ic zi_lt 97 84)), none, none, some (some (zi_load 7 86)), none, some (some (zi_load 3 87)), some (some (zi_ic zi_ne 101 90)), none, none, some (some (zi_load 6 92)), none, some (some (zi_load 4 94)), none, some (some (zi_ic zi_ge 101 97)), none],
  [none, some (some (zi_push (.inl (2147483649, 2147483649)) 98)), some (some (zi_go 102)), none, none, some (some (zi_push (.inl (2147483648, 2147483648)) 102)), some (some (zi_store 8 104)), none, some (some (zi_load 8 106)), none, some (some (zi_if zi_eq 114 109)), none, none, some (some (zi_load 7 111)), none, some (some (zi_go 115))],
  [none, none, some (some (zi_load 3 115)), some (some (zi_store 3 116)), some (some (zi_load 8 118)), none, some (some (zi_if zi_eq 126 121)), none, none, some (some (zi_load 6 123)), none, some (some (zi_go 128)), none, none, some (some (zi_load 4 128)), none],
  [some (some (zi_store 4 130)), none, some (some (zi_inc 5 (2147483649, 2147483649) 133)), none, none, some (some (zi_go 34)), none, none, some (some (zi_load 2 137)), some (some (zi_if zi_ne 144 140)), none, none, some (some (zi_load 3 141)), some (some (zi_go 146)), none, none],
  [some (some (zi_load 4 146)), none, some none]]
def zt_X9_lastOf : zi_T := [[some (some (zi_push (.inl (2147483648, 2147483648)) 1)), some (some (zi_store 3 2)), some (some (zi_push (.inl (2147483644, 2147483644)) 4)), none, some (some (zi_store 4 6)), none, some (some (zi_push (.inl (2147483648, 2147483648)) 7)), some (some (zi_store 5 9)), none, some (some (zi_load 5 11)), none, some (some (zi_load 0 12)), some (some (zi_getf 9 36 15)), none, none, some (some (zi_push (.inl (2147483650, 2147483650)) 16))],
  [some (some (zi_ald .int 17)), some (some (zi_ic zi_ge 83 20)), none, none, some (some (zi_load 0 21)), some (some (zi_getf 9 4 24)), none, none, some (some (zi_push (.inl (2147483650, 2147483650)) 25)), some (some (zi_ic zi_le 44 28)), none, none, some (some (zi_load 0 29)), some (some (zi_load 0 30)), some (some (zi_load 1 31)), some (some (zi_load 2 32))],
  [some (some (zi_load 5 34)), none, some (some (zi_inv 176 4 (some 9) 0 0 37)), none, none, some (some (zi_push (.inl (2147483650, 2147483650)) 38)), some (some (zi_inv 168 3 (some 9) 0 0 41)), none, none, some (some (zi_go 45)), none, none, some (some (zi_push (.inl (2147483648, 2147483648)) 45)), some (some (zi_store 6 47)), none, some (some (zi_load 6 49))],
  [none, some (some (zi_load 4 51)), none, some (some (zi_ic zi_le 59 54)), none, none, some (some (zi_load 5 56)), none, some (some (zi_go 60)), none, none, some (some (zi_load 3 60)), some (some (zi_store 3 61)), some (some (zi_load 6 63)), none, some (some (zi_load 4 65))],
  [none, some (some (zi_ic zi_le 73 68)), none, none, some (some (zi_load 6 70)), none, some (some (zi_go 75)), none, none, some (some (zi_load 4 75)), none, some (some (zi_store 4 77)), none, some (some (zi_inc 5 (2147483649, 2147483649) 80)), none, none],
  [some (some (zi_go 9)), none, none, some (some (zi_load 3 84)), some none]]
def zt_X9_secondOf : zi_T := [[some (some (zi_push (.inl (2147483648, 2147483648)) 1)), some (some (zi_store 2 2)), some (some (zi_push (.inl (2147483644, 2147483644)) 4)), none, some (some (zi_store 3 5)), some (some (zi_push (.inl (2147483648, 2147483648)) 6)), some (some (zi_store 4 8)), none, some (some (zi_load 4 10)), none, some (some (zi_load 0 11)), some (some (zi_getf 9 36 14)), none, none, some (some (zi_push (.inl (2147483649, 2147483649)) 15)), some (some (zi_ald .int 16))],
  [some (some (zi_ic zi_ge 84 19)), none, none, some (some (zi_load 0 20)), some (some (zi_getf 9 4 23)), none, none, some (some (zi_push (.inl (2147483649, 2147483649)) 24)), some (some (zi_ic zi_le 49 27)), none, none, some (some (zi_load 0 28)), some (some (zi_load 0 29)), some (some (zi_load 1 30)), some (some (zi_load 4 32)), none],
  [some (some (zi_load 0 33)), some (some (zi_load 1 34)), some (some (zi_load 4 36)), none, some (some (zi_inv 184 3 (some 9) 0 0 39)), none, none, some (some (zi_inv 176 4 (some 9) 0 0 42)), none, none, some (some (zi_push (.inl (2147483649, 2147483649)) 43)), some (some (zi_inv 168 3 (some 9) 0 0 46)), none, none, some (some (zi_go 50)), none],
  [none, some (some (zi_push (.inl (2147483648, 2147483648)) 50)), some (some (zi_store 5 52)), none, some (some (zi_load 5 54)), none, some (some (zi_load 3 55)), some (some (zi_ic zi_le 63 58)), none, none, some (some (zi_load 4 60)), none, some (some (zi_go 64)), none, none, some (some (zi_load 2 64))],
  [some (some (zi_store 2 65)), some (some (zi_load 5 67)), none, some (some (zi_load 3 68)), some (some (zi_ic zi_le 76 71)), none, none, some (some (zi_load 5 73)), none, some (some (zi_go 77)), none, none, some (some (zi_load 3 77)), some (some (zi_store 3 78)), some (some (zi_inc 4 (2147483649, 2147483649) 81)), none],
  [none, some (some (zi_go 8)), none, none, some (some (zi_load 2 85)), some none]]
def zt_X9_selfishYear : zi_T := [[some (some (zi_load 0 1)), some (some (zi_inv 174 1 (some 9) 0 0 4)), none, none, some (some (zi_push (.inl (2147483648, 2147483648)) 5)), some (some (zi_store 1 6)), some (some (zi_push (.inl (2147483644, 2147483644)) 8)), none, some (some (zi_store 2 9)), some (some (zi_push (.inl (2147483648, 2147483648)) 10)), some (some (zi_store 3 11)), some (some (zi_load 3 12)), some (some (zi_load 0 13)), some (some (zi_getf 9 36 16)), none, none],
  [some (some (zi_push (.inl (2147483648, 2147483648)) 17)), some (some (zi_ald .int 18)), some (some (zi_ic zi_ge 91 21)), none, none, some (some (zi_load 0 22)), some (some (zi_load 3 23)), some (some (zi_inv 185 2 (some 9) 0 0 26)), none, none, some (some (zi_store 4 28)), none, some (some (zi_load 0 29)), some (some (zi_getf 9 4 32)), none, none],
  [some (some (zi_if zi_le 57 35)), none, none, some (some (zi_load 0 36)), some (some (zi_load 0 37)), some (some (zi_load 3 38)), some (some (zi_load 4 40)), none, some (some (zi_load 0 41)), some (some (zi_load 3 42)), some (some (zi_load 4 44)), none, some (some (zi_inv 184 3 (some 9) 0 0 47)), none, none, some (some (zi_inv 176 4 (some 9) 0 0 50))],
  [none, none, some (some (zi_push (.inl (2147483648, 2147483648)) 51)), some (some (zi_inv 168 3 (some 9) 0 0 54)), none, none, some (some (zi_go 58)), none, none, some (some (zi_push (.inl (2147483648, 2147483648)) 58)), some (some (zi_store 5 60)), none, some (some (zi_load 5 62)), none, some (some (zi_load 2 63)), some (some (zi_ic zi_le 70 66))],
  [none, none, some (some (zi_load 3 67)), some (some (zi_go 71)), none, none, some (some (zi_load 1 71)), some (some (zi_store 1 72)), some (some (zi_load 5 74)), none, some (some (zi_load 2 75)), some (some (zi_ic zi_le 83 78)), none, none, some (some (zi_load 5 80)), none],
  [some (some (zi_go 84)), none, none, some (some (zi_load 2 84)), some (some (zi_store 2 85)), some (some (zi_inc 3 (2147483649, 2147483649) 88)), none, none, some (some (zi_go 11)), none, none, some (some (zi_load 0 92)), some (some (zi_load 1 93)), some (some (zi_inv 185 2 (some 9) 0 0 96)), none, none],
  [some (some (zi_store 3 97)), some (some (zi_load 0 98)), some (some (zi_load 1 99)), some (some (zi_load 3 100)), some (some (zi_load 0 101)), some (some (zi_load 1 102)), some (some (zi_load 3 103)), some (some (zi_inv 184 3 (some 9) 0 0 106)), none, none, some (some (zi_inv 176 4 (some 9) 0 0 109)), none, none, some none]]
def zt_X9_selfish : zi_T := [[some (some (zi_load 1 1)), some (some (zi_if zi_eq 17 4)), none, none, some (some (zi_load 0 5)), some (some (zi_load 1 6)), some (some (zi_push (.inl (2147483658, 2147483658)) 8)), none, some (some (zi_bin zi_sub 9)), some (some (zi_inv 140 2 (some 9) 0 0 12)), none, none, some (some (zi_if zi_ne 17 15)), none, none, some (some (zi_push (.inl (2147483647, 2147483647)) 16))],
  [some none, some (some (zi_load 0 18)), some (some (zi_inv 186 1 (some 9) 0 0 21)), none, none, some (some (zi_store 2 22)), some (some (zi_load 1 23)), some (some (zi_if zi_ne 30 26)), none, none, some (some (zi_load 2 27)), some (some (zi_go 39)), none, none, some (some (zi_load 0 31)), some (some (zi_load 2 32))],
  [some (some (zi_load 1 33)), some (some (zi_push (.inl (2147483658, 2147483658)) 35)), none, some (some (zi_bin zi_sub 36)), some (some (zi_inv 168 3 (some 9) 0 0 39)), none, none, some none]]
def zt_X9_breaksOf : zi_T := [[some (some (zi_push (.inl (2147483648, 2147483648)) 1)), some (some (zi_store 2 2)), some (some (zi_push (.inl (2147483648, 2147483648)) 3)), some (some (zi_store 3 4)), some (some (zi_load 3 5)), some (some (zi_load 0 6)), some (some (zi_getf 9 4 9)), none, none, some (some (zi_ic zi_ge 100 12)), none, none, some (some (zi_load 1 13)), some (some (zi_load 3 14)), some (some (zi_inv 162 1 none 0 0 17)), none],
  [none, some (some (zi_load 1 18)), some (some (zi_load 3 19)), some (some (zi_inv 161 2 none 0 0 22)), none, none, some (some (zi_push (.inl (2147483649, 2147483649)) 23)), some (some (zi_bin zi_add 24)), some (some (zi_bin zi_mul 25)), some (some (zi_bin zi_sub 26)), some (some (zi_store 4 28)), none, some (some (zi_load 0 29)), some (some (zi_load 1 30)), some (some (zi_load 3 31)), some (some (zi_inv 168 3 (some 9) 0 0 34))],
  [none, none, some (some (zi_store 5 36)), none, some (some (zi_push (.inl (2147483648, 2147483648)) 37)), some (some (zi_store 6 39)), none, some (some (zi_load 6 41)), none, some (some (zi_load 0 42)), some (some (zi_getf 9 36 45)), none, none, some (some (zi_load 3 46)), some (some (zi_ald .int 47)), some (some (zi_ic zi_ge 94 50))],
  [none, none, some (some (zi_load 2 51)), some (some (zi_load 0 52)), some (some (zi_load 4 54)), none, some (some (zi_load 0 55)), some (some (zi_getf 9 35 58)), none, none, some (some (zi_push (.inl (2147483657, 2147483657)) 60)), none, some (some (zi_load 3 61)), some (some (zi_bin zi_mul 62)), some (some (zi_load 6 64)), none],
  [some (some (zi_bin zi_add 65)), some (some (zi_ald .int 66)), some (some (zi_bin zi_add 67)), some (some (zi_load 3 68)), some (some (zi_inv 168 3 (some 9) 0 0 71)), none, none, some (some (zi_load 5 73)), none, some (some (zi_ic zi_le 80 76)), none, none, some (some (zi_push (.inl (2147483649, 2147483649)) 77)), some (some (zi_go 81)), none, none],
  [some (some (zi_push (.inl (2147483648, 2147483648)) 81)), some (some (zi_inv 118 1 none 0 0 84)), none, none, some (some (zi_load 3 85)), some (some (zi_bin zi_shl 86)), some (some (zi_bin zi_or 87)), some (some (zi_store 2 88)), some (some (zi_inc 6 (2147483649, 2147483649) 91)), none, none, some (some (zi_go 39)), none, none, some (some (zi_inc 3 (2147483649, 2147483649) 97)), none],
  [none, some (some (zi_go 4)), none, none, some (some (zi_load 2 101)), some none]]
def zt_X9_rests : zi_T := [[some (some (zi_load 1 1)), some (some (zi_i2l 2)), some (some (zi_push (.inr (.inl (9223372036854775808, 9223372036854775808))) 3)), some (some (zi_push (.inr (.inl (9223372036854775809, 9223372036854775809))) 4)), some (some (zi_inv 117 3 none 0 0 7)), none, none, some (some (zi_if zi_ne 12 10)), none, none, some (some (zi_push (.inl (2147483647, 2147483647)) 11)), some none, some (some (zi_load 0 13)), some (some (zi_inv 174 1 (some 9) 0 0 16)), none, none],
  [some (some (zi_push (.inl (2147483648, 2147483648)) 17)), some (some (zi_store 2 18)), some (some (zi_push (.inl (2147483644, 2147483644)) 20)), none, some (some (zi_store 3 21)), some (some (zi_push (.inl (2147483648, 2147483648)) 22)), some (some (zi_store 4 24)), none, some (some (zi_load 4 26)), none, some (some (zi_load 0 27)), some (some (zi_inv 175 1 (some 9) 0 0 30)), none, none, some (some (zi_ic zi_ge 78 33)), none],
  [none, some (some (zi_load 0 34)), some (some (zi_load 4 36)), none, some (some (zi_inv 177 2 (some 9) 0 0 39)), none, none, some (some (zi_store 5 41)), none, some (some (zi_load 0 42)), some (some (zi_load 5 44)), none, some (some (zi_inv 188 2 (some 9) 0 0 47)), none, none, some (some (zi_if zi_ne 72 50))],
  [none, none, some (some (zi_load 3 51)), some (some (zi_push (.inl (2147483644, 2147483644)) 53)), none, some (some (zi_ic zi_eq 62 56)), none, none, some (some (zi_load 5 58)), none, some (some (zi_load 3 59)), some (some (zi_ic zi_ge 67 62)), none, none, some (some (zi_load 5 64)), none],
  [some (some (zi_go 68)), none, none, some (some (zi_load 3 68)), some (some (zi_store 3 69)), some (some (zi_inc 2 (2147483649, 2147483649) 72)), none, none, some (some (zi_inc 4 (2147483649, 2147483649) 75)), none, none, some (some (zi_go 24)), none, none, some (some (zi_load 1 79)), some (some (zi_if zi_ne 86 82))],
  [none, none, some (some (zi_load 2 83)), some (some (zi_go 87)), none, none, some (some (zi_load 3 87)), some none]]
def zt_X9_breaks : zi_T := [[some (some (zi_load 1 1)), some (some (zi_inv 141 1 none 0 0 4)), none, none, some (some (zi_if zi_ne 9 7)), none, none, some (some (zi_push (.inl (2147483647, 2147483647)) 8)), some none, some (some (zi_load 0 10)), some (some (zi_load 1 11)), some (some (zi_inv 164 2 (some 9) 0 0 14)), none, none, some (some (zi_if zi_ne 20 17)), none],
  [none, some (some (zi_push (.inl (2147483646, 2147483646)) 19)), none, some none, some (some (zi_load 0 21)), some (some (zi_inv 174 1 (some 9) 0 0 24)), none, none, some (some (zi_load 0 25)), some (some (zi_load 1 26)), some (some (zi_inv 188 2 (some 9) 0 0 29)), none, none, some none]]
def zt_X9_stands : zi_T := [[some (some (zi_load 0 1)), some (some (zi_load 1 2)), some (some (zi_inv 139 2 (some 9) 0 0 5)), none, none, some (some (zi_if zi_ne 10 8)), none, none, some (some (zi_push (.inl (2147483647, 2147483647)) 9)), some none, some (some (zi_load 0 11)), some (some (zi_inv 145 1 (some 9) 0 0 14)), none, none, some (some (zi_load 1 15)), some (some (zi_bin zi_shr 16))],
  [some (some (zi_push (.inl (2147483649, 2147483649)) 17)), some (some (zi_bin zi_and 18)), some (some (zi_if zi_ne 24 21)), none, none, some (some (zi_push (.inl (2147483646, 2147483646)) 23)), none, some none, some (some (zi_load 0 25)), some (some (zi_inv 159 1 (some 9) 0 0 28)), none, none, some (some (zi_push (.inl (2147483648, 2147483648)) 29)), some (some (zi_store 2 30)), some (some (zi_push (.inl (2147483649, 2147483649)) 31)), some (some (zi_store 3 32))],
  [some (some (zi_load 3 33)), some (some (zi_if zi_eq 74 36)), none, none, some (some (zi_load 2 37)), some (some (zi_push (.inl (2147483668, 2147483668)) 39)), none, some (some (zi_ic zi_ge 74 42)), none, none, some (some (zi_load 0 43)), some (some (zi_inv 165 1 (some 9) 0 0 46)), none, none, some (some (zi_load 0 47)), some (some (zi_inv 145 1 (some 9) 0 0 50))],
  [none, none, some (some (zi_load 1 51)), some (some (zi_bin zi_shr 52)), some (some (zi_push (.inl (2147483649, 2147483649)) 53)), some (some (zi_bin zi_and 54)), some (some (zi_push (.inl (2147483649, 2147483649)) 55)), some (some (zi_ic zi_ne 62 58)), none, none, some (some (zi_push (.inl (2147483649, 2147483649)) 59)), some (some (zi_go 63)), none, none, some (some (zi_push (.inl (2147483648, 2147483648)) 63)), some (some (zi_store 3 64))],
  [some (some (zi_load 2 65)), some (some (zi_load 3 66)), some (some (zi_inv 118 1 none 0 0 69)), none, none, some (some (zi_bin zi_add 70)), some (some (zi_store 2 71)), some (some (zi_go 32)), none, none, some (some (zi_load 0 75)), some (some (zi_inv 160 1 (some 9) 0 0 78)), none, none, some (some (zi_load 2 79)), some none]]
def zt_X9_areAlike : zi_T := [[some (some (zi_push (.inl (2147483649, 2147483649)) 1)), some (some (zi_store 3 2)), some (some (zi_push (.inl (2147483648, 2147483648)) 3)), some (some (zi_store 4 5)), none, some (some (zi_load 4 7)), none, some (some (zi_push (.inl (2147483673, 2147483673)) 9)), none, some (some (zi_ic zi_ge 55 12)), none, none, some (some (zi_load 3 13)), some (some (zi_if zi_eq 47 16)), none, none],
  [some (some (zi_load 0 17)), some (some (zi_getf 9 41 20)), none, none, some (some (zi_push (.inl (2147483673, 2147483673)) 22)), none, some (some (zi_load 1 23)), some (some (zi_bin zi_mul 24)), some (some (zi_load 4 26)), none, some (some (zi_bin zi_add 27)), some (some (zi_ald .int 28)), some (some (zi_load 0 29)), some (some (zi_getf 9 41 32)), none, none],
  [some (some (zi_push (.inl (2147483673, 2147483673)) 34)), none, some (some (zi_load 2 35)), some (some (zi_bin zi_mul 36)), some (some (zi_load 4 38)), none, some (some (zi_bin zi_add 39)), some (some (zi_ald .int 40)), some (some (zi_ic zi_ne 47 43)), none, none, some (some (zi_push (.inl (2147483649, 2147483649)) 44)), some (some (zi_go 48)), none, none, some (some (zi_push (.inl (2147483648, 2147483648)) 48))],
  [some (some (zi_store 3 49)), some (some (zi_inc 4 (2147483649, 2147483649) 52)), none, none, some (some (zi_go 5)), none, none, some (some (zi_load 3 56)), some none]]
def zt_X9_again : zi_T := [[some (some (zi_load 1 1)), some (some (zi_i2l 2)), some (some (zi_push (.inr (.inl (9223372036854775808, 9223372036854775808))) 3)), some (some (zi_push (.inr (.inl (9223372036854775809, 9223372036854775809))) 4)), some (some (zi_inv 117 3 none 0 0 7)), none, none, some (some (zi_if zi_ne 12 10)), none, none, some (some (zi_push (.inl (2147483647, 2147483647)) 11)), some none, some (some (zi_load 0 13)), some (some (zi_inv 159 1 (some 9) 0 0 16)), none, none],
  [some (some (zi_push (.inl (2147483644, 2147483644)) 18)), none, some (some (zi_store 2 19)), some (some (zi_push (.inl (2147483644, 2147483644)) 21)), none, some (some (zi_store 3 22)), some (some (zi_push (.inl (2147483648, 2147483648)) 23)), some (some (zi_store 4 25)), none, some (some (zi_load 4 27)), none, some (some (zi_push (.inl (2147483708, 2147483708)) 29)), none, some (some (zi_ic zi_gt 121 32)), none, none],
  [some (some (zi_load 2 33)), some (some (zi_push (.inl (2147483644, 2147483644)) 35)), none, some (some (zi_ic zi_ne 121 38)), none, none, some (some (zi_push (.inl (2147483648, 2147483648)) 39)), some (some (zi_store 5 41)), none, some (some (zi_load 5 43)), none, some (some (zi_push (.inl (2147483673, 2147483673)) 45)), none, some (some (zi_ic zi_ge 74 48)), none, none],
  [some (some (zi_load 0 49)), some (some (zi_getf 9 41 52)), none, none, some (some (zi_push (.inl (2147483673, 2147483673)) 54)), none, some (some (zi_load 4 56)), none, some (some (zi_bin zi_mul 57)), some (some (zi_load 5 59)), none, some (some (zi_bin zi_add 60)), some (some (zi_load 0 61)), some (some (zi_getf 9 0 64)), none, none],
  [some (some (zi_load 5 66)), none, some (some (zi_ald .int 67)), some (some (zi_ast .int 68)), some (some (zi_inc 5 (2147483649, 2147483649) 71)), none, none, some (some (zi_go 41)), none, none, some (some (zi_load 4 76)), none, some (some (zi_push (.inl (2147483649, 2147483649)) 77)), some (some (zi_bin zi_sub 78)), some (some (zi_store 5 80)), none],
  [some (some (zi_load 5 82)), none, some (some (zi_if zi_lt 111 85)), none, none, some (some (zi_load 0 86)), some (some (zi_load 5 88)), none, some (some (zi_load 4 90)), none, some (some (zi_inv 192 3 (some 9) 0 0 93)), none, none, some (some (zi_if zi_eq 105 96)), none, none],
  [some (some (zi_load 5 98)), none, some (some (zi_store 2 99)), some (some (zi_load 4 101)), none, some (some (zi_load 5 103)), none, some (some (zi_bin zi_sub 104)), some (some (zi_store 3 105)), some (some (zi_inc 5 (2147483647, 2147483647) 108)), none, none, some (some (zi_go 80)), none, none, some (some (zi_load 0 112))],
  [some (some (zi_inv 165 1 (some 9) 0 0 115)), none, none, some (some (zi_inc 4 (2147483649, 2147483649) 118)), none, none, some (some (zi_go 25)), none, none, some (some (zi_load 0 122)), some (some (zi_inv 160 1 (some 9) 0 0 125)), none, none, some (some (zi_load 1 126)), some (some (zi_if zi_ne 133 129)), none],
  [none, some (some (zi_load 2 130)), some (some (zi_go 134)), none, none, some (some (zi_load 3 134)), some none]]
def zt_X9_common : zi_T := [[some (some (zi_load 0 1)), some (some (zi_store 4 3)), none, some (some (zi_load 2 4)), some (some (zi_store 6 6)), none, some (some (zi_load 6 8)), none, some (some (zi_push (.inr (.inl (9223372036854775808, 9223372036854775808))) 9)), some (some (zi_lcmp 10)), some (some (zi_if zi_eq 31 13)), none, none, some (some (zi_load 4 15)), none, some (some (zi_load 6 17))],
  [none, some (some (zi_dvl zi_lrem 18)), some (some (zi_store 8 20)), none, some (some (zi_load 6 22)), none, some (some (zi_store 4 24)), none, some (some (zi_load 8 26)), none, some (some (zi_store 6 28)), none, some (some (zi_go 6)), none, none, some (some (zi_load 4 33))],
  [none, some none]]
def zt_X9_odds : zi_T := [[some (some (zi_load 0 1)), some (some (zi_load 1 2)), some (some (zi_inv 139 2 (some 9) 0 0 5)), none, none, some (some (zi_if zi_eq 18 8)), none, none, some (some (zi_load 2 9)), some (some (zi_i2l 10)), some (some (zi_push (.inr (.inl (9223372036854775808, 9223372036854775808))) 11)), some (some (zi_push (.inr (.inl (9223372036854775809, 9223372036854775809))) 12)), some (some (zi_inv 117 3 none 0 0 15)), none, none, some (some (zi_if zi_ne 22 18))],
  [none, none, some (some (zi_push (.inr (.inl (9223372036854775807, 9223372036854775807))) 21)), none, none, some none, some (some (zi_load 0 23)), some (some (zi_inv 174 1 (some 9) 0 0 26)), none, none, some (some (zi_load 0 27)), some (some (zi_inv 175 1 (some 9) 0 0 30)), none, none, some (some (zi_store 3 31)), some (some (zi_push (.inr (.inl (9223372036854775808, 9223372036854775808))) 32))],
  [some (some (zi_store 4 34)), none, some (some (zi_push (.inl (2147483648, 2147483648)) 35)), some (some (zi_store 6 37)), none, some (some (zi_load 6 39)), none, some (some (zi_load 3 40)), some (some (zi_ic zi_ge 69 43)), none, none, some (some (zi_load 4 45)), none, some (some (zi_load 0 46)), some (some (zi_load 0 47)), some (some (zi_load 6 49))],
  [none, some (some (zi_inv 177 2 (some 9) 0 0 52)), none, none, some (some (zi_inv 169 2 (some 9) 0 0 55)), none, none, some (some (zi_load 1 56)), some (some (zi_bin zi_shr 57)), some (some (zi_push (.inl (2147483649, 2147483649)) 58)), some (some (zi_bin zi_and 59)), some (some (zi_i2l 60)), some (some (zi_binl zi_ladd 61)), some (some (zi_store 4 63)), none, some (some (zi_inc 6 (2147483649, 2147483649) 66))],
  [none, none, some (some (zi_go 37)), none, none, some (some (zi_load 3 70)), some (some (zi_i2l 71)), some (some (zi_load 4 73)), none, some (some (zi_inv 194 2 none 0 0 76)), none, none, some (some (zi_store 6 78)), none, some (some (zi_load 2 79)), some (some (zi_if zi_ne 90 82))],
  [none, none, some (some (zi_load 4 84)), none, some (some (zi_load 6 86)), none, some (some (zi_dvl zi_ldiv 87)), some (some (zi_go 95)), none, none, some (some (zi_load 3 91)), some (some (zi_i2l 92)), some (some (zi_load 6 94)), none, some (some (zi_dvl zi_ldiv 95)), some none]]
def zt_X9_see : zi_T := [[some (some (zi_load 0 1)), some (some (zi_load 1 2)), some (some (zi_inv 139 2 (some 9) 0 0 5)), none, none, some (some (zi_if zi_ne 10 8)), none, none, some (some (zi_push (.inl (2147483647, 2147483647)) 9)), some none, some (some (zi_load 0 11)), some (some (zi_getf 9 0 14)), none, none, some (some (zi_push (.inl (2147483687, 2147483687)) 16)), none],
  [some (some (zi_ald .int 17)), some (some (zi_push (.inl (2147483656, 2147483656)) 19)), none, some (some (zi_ic zi_ne 25 22)), none, none, some (some (zi_push (.inl (2147483645, 2147483645)) 24)), none, some none, some (some (zi_load 0 26)), some (some (zi_getf 9 0 29)), none, none, some (some (zi_push (.inl (2147483688, 2147483688)) 31)), none, some (some (zi_push (.inl (2147483650, 2147483650)) 32))],
  [some (some (zi_load 0 33)), some (some (zi_getf 9 0 36)), none, none, some (some (zi_push (.inl (2147483687, 2147483687)) 38)), none, some (some (zi_ald .int 39)), some (some (zi_bin zi_mul 40)), some (some (zi_bin zi_add 41)), some (some (zi_load 1 42)), some (some (zi_ast .int 43)), some (some (zi_load 0 44)), some (some (zi_getf 9 0 47)), none, none, some (some (zi_push (.inl (2147483688, 2147483688)) 49))],
  [none, some (some (zi_push (.inl (2147483650, 2147483650)) 50)), some (some (zi_load 0 51)), some (some (zi_getf 9 0 54)), none, none, some (some (zi_push (.inl (2147483687, 2147483687)) 56)), none, some (some (zi_ald .int 57)), some (some (zi_bin zi_mul 58)), some (some (zi_bin zi_add 59)), some (some (zi_push (.inl (2147483649, 2147483649)) 60)), some (some (zi_bin zi_add 61)), some (some (zi_load 2 62)), some (some (zi_inv 118 1 none 0 0 65)), none],
  [none, some (some (zi_ast .int 66)), some (some (zi_load 0 67)), some (some (zi_getf 9 0 70)), none, none, some (some (zi_push (.inl (2147483687, 2147483687)) 72)), none, some (some (zi_dup2 73)), some (some (zi_ald .int 74)), some (some (zi_push (.inl (2147483649, 2147483649)) 75)), some (some (zi_bin zi_add 76)), some (some (zi_ast .int 77)), some (some (zi_load 0 78)), some (some (zi_getf 9 0 81)), none],
  [none, some (some (zi_push (.inl (2147483687, 2147483687)) 83)), none, some (some (zi_ald .int 84)), some none]]
def zt_X9_forget : zi_T := [[some (some (zi_load 1 1)), some (some (zi_i2l 2)), some (some (zi_push (.inr (.inl (9223372036854775808, 9223372036854775808))) 3)), some (some (zi_load 0 4)), some (some (zi_getf 9 0 7)), none, none, some (some (zi_push (.inl (2147483687, 2147483687)) 9)), none, some (some (zi_ald .int 10)), some (some (zi_i2l 11)), some (some (zi_inv 117 3 none 0 0 14)), none, none, some (some (zi_if zi_ne 19 17)), none],
  [none, some (some (zi_push (.inl (2147483647, 2147483647)) 18)), some none, some (some (zi_load 0 20)), some (some (zi_getf 9 0 23)), none, none, some (some (zi_push (.inl (2147483687, 2147483687)) 25)), none, some (some (zi_ald .int 26)), some (some (zi_store 2 27)), some (some (zi_load 0 28)), some (some (zi_getf 9 0 31)), none, none, some (some (zi_push (.inl (2147483687, 2147483687)) 33))],
  [none, some (some (zi_load 1 34)), some (some (zi_ast .int 35)), some (some (zi_load 2 36)), some none]]
def zt_X9_isSo : zi_T := [[some (some (zi_push (.inl (2147483649, 2147483649)) 1)), some (some (zi_store 2 2)), some (some (zi_push (.inl (2147483648, 2147483648)) 3)), some (some (zi_store 3 4)), some (some (zi_load 3 5)), some (some (zi_load 0 6)), some (some (zi_getf 9 0 9)), none, none, some (some (zi_push (.inl (2147483687, 2147483687)) 11)), none, some (some (zi_ald .int 12)), some (some (zi_ic zi_ge 62 15)), none, none, some (some (zi_load 2 16))],
  [some (some (zi_if zi_eq 54 19)), none, none, some (some (zi_load 1 20)), some (some (zi_load 0 21)), some (some (zi_getf 9 0 24)), none, none, some (some (zi_push (.inl (2147483688, 2147483688)) 26)), none, some (some (zi_push (.inl (2147483650, 2147483650)) 27)), some (some (zi_load 3 28)), some (some (zi_bin zi_mul 29)), some (some (zi_bin zi_add 30)), some (some (zi_ald .int 31)), some (some (zi_bin zi_shr 32))],
  [some (some (zi_push (.inl (2147483649, 2147483649)) 33)), some (some (zi_bin zi_and 34)), some (some (zi_load 0 35)), some (some (zi_getf 9 0 38)), none, none, some (some (zi_push (.inl (2147483688, 2147483688)) 40)), none, some (some (zi_push (.inl (2147483650, 2147483650)) 41)), some (some (zi_load 3 42)), some (some (zi_bin zi_mul 43)), some (some (zi_bin zi_add 44)), some (some (zi_push (.inl (2147483649, 2147483649)) 45)), some (some (zi_bin zi_add 46)), some (some (zi_ald .int 47)), some (some (zi_ic zi_ne 54 50))],
  [none, none, some (some (zi_push (.inl (2147483649, 2147483649)) 51)), some (some (zi_go 55)), none, none, some (some (zi_push (.inl (2147483648, 2147483648)) 55)), some (some (zi_store 2 56)), some (some (zi_inc 3 (2147483649, 2147483649) 59)), none, none, some (some (zi_go 4)), none, none, some (some (zi_load 2 63)), some none]]
def zt_X9_cutters : zi_T := [[some (some (zi_push (.inl (2147483648, 2147483648)) 1)), some (some (zi_store 1 2)), some (some (zi_push (.inl (2147483648, 2147483648)) 3)), some (some (zi_store 2 4)), some (some (zi_load 2 5)), some (some (zi_push (.inl (2147483651, 2147483651)) 6)), some (some (zi_ic zi_ge 36 9)), none, none, some (some (zi_load 1 10)), some (some (zi_load 0 11)), some (some (zi_load 2 12)), some (some (zi_inv 161 2 none 0 0 15)), none, none, some (some (zi_if zi_lt 22 18))],
  [none, none, some (some (zi_push (.inl (2147483649, 2147483649)) 19)), some (some (zi_go 23)), none, none, some (some (zi_push (.inl (2147483648, 2147483648)) 23)), some (some (zi_inv 118 1 none 0 0 26)), none, none, some (some (zi_load 2 27)), some (some (zi_bin zi_shl 28)), some (some (zi_bin zi_or 29)), some (some (zi_store 1 30)), some (some (zi_inc 2 (2147483649, 2147483649) 33)), none],
  [none, some (some (zi_go 4)), none, none, some (some (zi_load 1 37)), some none]]
def zt_X9_fits : zi_T := [[some (some (zi_load 1 1)), some (some (zi_i2l 2)), some (some (zi_push (.inr (.inl (9223372036854775808, 9223372036854775808))) 3)), some (some (zi_push (.inr (.inl (9223372036854775811, 9223372036854775811))) 6)), none, none, some (some (zi_inv 117 3 none 0 0 9)), none, none, some (some (zi_if zi_ne 14 12)), none, none, some (some (zi_push (.inl (2147483647, 2147483647)) 13)), some none, some (some (zi_load 0 15)), some (some (zi_inv 174 1 (some 9) 0 0 18))],
  [none, none, some (some (zi_push (.inl (2147483648, 2147483648)) 19)), some (some (zi_store 2 20)), some (some (zi_push (.inl (2147483644, 2147483644)) 22)), none, some (some (zi_store 3 23)), some (some (zi_push (.inl (2147483649, 2147483649)) 24)), some (some (zi_load 0 25)), some (some (zi_getf 9 4 28)), none, none, some (some (zi_bin zi_shl 29)), some (some (zi_push (.inl (2147483649, 2147483649)) 30)), some (some (zi_bin zi_sub 31)), some (some (zi_store 4 33))],
  [none, some (some (zi_push (.inl (2147483648, 2147483648)) 34)), some (some (zi_store 5 36)), none, some (some (zi_push (.inl (2147483648, 2147483648)) 37)), some (some (zi_store 6 39)), none, some (some (zi_load 6 41)), none, some (some (zi_load 0 42)), some (some (zi_inv 175 1 (some 9) 0 0 45)), none, none, some (some (zi_ic zi_ge 115 48)), none, none],
  [some (some (zi_load 0 49)), some (some (zi_load 6 51)), none, some (some (zi_inv 177 2 (some 9) 0 0 54)), none, none, some (some (zi_store 7 56)), none, some (some (zi_load 0 57)), some (some (zi_load 0 58)), some (some (zi_load 7 60)), none, some (some (zi_inv 169 2 (some 9) 0 0 63)), none, none, some (some (zi_inv 198 2 (some 9) 0 0 66))],
  [none, none, some (some (zi_if zi_eq 109 69)), none, none, some (some (zi_load 2 70)), some (some (zi_if zi_eq 79 73)), none, none, some (some (zi_load 7 75)), none, some (some (zi_load 3 76)), some (some (zi_ic zi_ge 84 79)), none, none, some (some (zi_load 7 81))],
  [none, some (some (zi_go 85)), none, none, some (some (zi_load 3 85)), some (some (zi_store 3 86)), some (some (zi_load 4 88)), none, some (some (zi_load 7 90)), none, some (some (zi_inv 199 1 none 0 0 93)), none, none, some (some (zi_bin zi_and 94)), some (some (zi_store 4 96)), none],
  [some (some (zi_load 5 98)), none, some (some (zi_load 7 100)), none, some (some (zi_inv 199 1 none 0 0 103)), none, none, some (some (zi_bin zi_or 104)), some (some (zi_store 5 106)), none, some (some (zi_inc 2 (2147483649, 2147483649) 109)), none, none, some (some (zi_inc 6 (2147483649, 2147483649) 112)), none, none],
  [some (some (zi_go 39)), none, none, some (some (zi_load 1 116)), some (some (zi_if zi_eq 123 119)), none, none, some (some (zi_load 2 120)), some (some (zi_if zi_ne 134 123)), none, none, some (some (zi_load 1 124)), some (some (zi_if zi_ne 131 127)), none, none, some (some (zi_load 2 128))],
  [some (some (zi_go 133)), none, none, some (some (zi_push (.inl (2147483644, 2147483644)) 133)), none, some none, some (some (zi_load 1 135)), some (some (zi_push (.inl (2147483649, 2147483649)) 136)), some (some (zi_ic zi_ne 143 139)), none, none, some (some (zi_load 3 140)), some (some (zi_go 166)), none, none, some (some (zi_load 1 144))],
  [some (some (zi_push (.inl (2147483650, 2147483650)) 145)), some (some (zi_ic zi_ne 153 148)), none, none, some (some (zi_load 4 150)), none, some (some (zi_go 166)), none, none, some (some (zi_push (.inl (2147483649, 2147483649)) 154)), some (some (zi_load 0 155)), some (some (zi_getf 9 4 158)), none, none, some (some (zi_bin zi_shl 159)), some (some (zi_push (.inl (2147483649, 2147483649)) 160))],
  [some (some (zi_bin zi_sub 161)), some (some (zi_load 5 163)), none, some (some (zi_push (.inl (2147483647, 2147483647)) 164)), some (some (zi_bin zi_xor 165)), some (some (zi_bin zi_and 166)), some none]]
def zt_X9_copies : zi_T := [[some (some (zi_push (.inl (2147483648, 2147483648)) 1)), some (some (zi_store 3 2)), some (some (zi_load 3 3)), some (some (zi_push (.inl (2147483704, 2147483704)) 5)), none, some (some (zi_ic zi_ge 30 8)), none, none, some (some (zi_load 0 9)), some (some (zi_getf 9 0 12)), none, none, some (some (zi_load 1 13)), some (some (zi_load 3 14)), some (some (zi_bin zi_add 15)), some (some (zi_load 0 16))],
  [some (some (zi_getf 9 0 19)), none, none, some (some (zi_load 2 20)), some (some (zi_load 3 21)), some (some (zi_bin zi_add 22)), some (some (zi_ald .int 23)), some (some (zi_ast .int 24)), some (some (zi_inc 3 (2147483649, 2147483649) 27)), none, none, some (some (zi_go 2)), none, none, some none]]
def zt_X9_keep : zi_T := [[some (some (zi_load 1 1)), some (some (zi_i2l 2)), some (some (zi_push (.inr (.inl (9223372036854775808, 9223372036854775808))) 3)), some (some (zi_push (.inr (.inl (9223372036854775809, 9223372036854775809))) 4)), some (some (zi_inv 117 3 none 0 0 7)), none, none, some (some (zi_if zi_ne 12 10)), none, none, some (some (zi_push (.inl (2147483647, 2147483647)) 11)), some none, some (some (zi_load 0 13)), some (some (zi_getf 9 1 16)), none, none],
  [some (some (zi_load 1 17)), some (some (zi_ald .boolean 18)), some (some (zi_inv 118 1 none 0 0 21)), none, none, some (some (zi_store 2 22)), some (some (zi_load 0 23)), some (some (zi_getf 9 1 26)), none, none, some (some (zi_load 1 27)), some (some (zi_push (.inl (2147483649, 2147483649)) 28)), some (some (zi_ast .boolean 29)), some (some (zi_load 0 30)), some (some (zi_push (.inl (2147483704, 2147483704)) 32)), none],
  [some (some (zi_load 1 33)), some (some (zi_push (.inl (2147483649, 2147483649)) 34)), some (some (zi_bin zi_add 35)), some (some (zi_bin zi_mul 36)), some (some (zi_push (.inl (2147483648, 2147483648)) 37)), some (some (zi_inv 201 3 (some 9) 0 0 40)), none, none, some (some (zi_load 2 41)), some none]]
def zt_X9_back : zi_T := [[some (some (zi_load 1 1)), some (some (zi_i2l 2)), some (some (zi_push (.inr (.inl (9223372036854775808, 9223372036854775808))) 3)), some (some (zi_push (.inr (.inl (9223372036854775809, 9223372036854775809))) 4)), some (some (zi_inv 117 3 none 0 0 7)), none, none, some (some (zi_if zi_ne 12 10)), none, none, some (some (zi_push (.inl (2147483647, 2147483647)) 11)), some none, some (some (zi_load 0 13)), some (some (zi_getf 9 1 16)), none, none],
  [some (some (zi_load 1 17)), some (some (zi_ald .boolean 18)), some (some (zi_if zi_ne 24 21)), none, none, some (some (zi_push (.inl (2147483646, 2147483646)) 23)), none, some none, some (some (zi_load 0 25)), some (some (zi_push (.inl (2147483648, 2147483648)) 26)), some (some (zi_push (.inl (2147483704, 2147483704)) 28)), none, some (some (zi_load 1 29)), some (some (zi_push (.inl (2147483649, 2147483649)) 30)), some (some (zi_bin zi_add 31)), some (some (zi_bin zi_mul 32))],
  [some (some (zi_inv 201 3 (some 9) 0 0 35)), none, none, some (some (zi_load 0 36)), some (some (zi_getf 9 0 39)), none, none, some (some (zi_push (.inl (2147483679, 2147483679)) 41)), none, some (some (zi_ald .int 42)), some none]]
def zt_X9_isSheet : zi_T := [[some (some (zi_load 0 1)), some (some (zi_i2l 2)), some (some (zi_push (.inr (.inl (9223372036854775808, 9223372036854775808))) 3)), some (some (zi_push (.inr (.inl (9223372036854775811, 9223372036854775811))) 6)), none, none, some (some (zi_inv 117 3 none 0 0 9)), none, none, some (some (zi_if zi_eq 28 12)), none, none, some (some (zi_load 1 13)), some (some (zi_i2l 14)), some (some (zi_push (.inr (.inl (9223372036854775808, 9223372036854775808))) 15)), some (some (zi_push (.inr (.inl (9223372036854775810, 9223372036854775810))) 18))],
  [none, none, some (some (zi_inv 117 3 none 0 0 21)), none, none, some (some (zi_if zi_eq 28 24)), none, none, some (some (zi_push (.inl (2147483649, 2147483649)) 25)), some (some (zi_go 29)), none, none, some (some (zi_push (.inl (2147483648, 2147483648)) 29)), some none]]
def zt_X9_sheet : zi_T := [[some (some (zi_load 1 1)), some (some (zi_load 2 2)), some (some (zi_inv 204 2 none 0 0 5)), none, none, some (some (zi_if zi_eq 14 8)), none, none, some (some (zi_load 3 9)), some (some (zi_push (.inl (2147483688, 2147483688)) 11)), none, some (some (zi_ic zi_le 16 14)), none, none, some (some (zi_push (.inl (2147483647, 2147483647)) 15)), some none],
  [some (some (zi_load 3 17)), some (some (zi_if zi_ge 23 20)), none, none, some (some (zi_push (.inl (2147483634, 2147483634)) 22)), none, some none, some (some (zi_load 0 24)), some (some (zi_getf 9 42 27)), none, none, some (some (zi_load 1 28)), some (some (zi_load 2 29)), some (some (zi_ast .int 30)), some (some (zi_load 0 31)), some (some (zi_getf 9 43 34))],
  [none, none, some (some (zi_load 1 35)), some (some (zi_load 3 36)), some (some (zi_ast .int 37)), some (some (zi_push (.inl (2147483648, 2147483648)) 38)), some (some (zi_store 4 40)), none, some (some (zi_load 4 42)), none, some (some (zi_push (.inl (2147483688, 2147483688)) 44)), none, some (some (zi_ic zi_ge 66 47)), none, none, some (some (zi_load 0 48))],
  [some (some (zi_getf 9 44 51)), none, none, some (some (zi_push (.inl (2147483688, 2147483688)) 53)), none, some (some (zi_load 1 54)), some (some (zi_bin zi_mul 55)), some (some (zi_load 4 57)), none, some (some (zi_bin zi_add 58)), some (some (zi_push (.inl (2147483648, 2147483648)) 59)), some (some (zi_ast .int 60)), some (some (zi_inc 4 (2147483649, 2147483649) 63)), none, none, some (some (zi_go 40))],
  [none, none, some (some (zi_push (.inl (2147483649, 2147483649)) 67)), some none]]
def zt_X9_lay : zi_T := [[some (some (zi_load 1 1)), some (some (zi_push (.inl (2147483648, 2147483648)) 2)), some (some (zi_inv 204 2 none 0 0 5)), none, none, some (some (zi_if zi_ne 10 8)), none, none, some (some (zi_push (.inl (2147483647, 2147483647)) 9)), some none, some (some (zi_load 0 11)), some (some (zi_getf 9 42 14)), none, none, some (some (zi_load 1 15)), some (some (zi_ald .int 16))],
  [some (some (zi_push (.inl (2147483644, 2147483644)) 18)), none, some (some (zi_ic zi_ne 24 21)), none, none, some (some (zi_push (.inl (2147483637, 2147483637)) 23)), none, some none, some (some (zi_load 2 25)), some (some (zi_i2l 26)), some (some (zi_push (.inr (.inl (9223372036854775808, 9223372036854775808))) 27)), some (some (zi_load 0 28)), some (some (zi_getf 9 43 31)), none, none, some (some (zi_load 1 32))],
  [some (some (zi_ald .int 33)), some (some (zi_push (.inl (2147483649, 2147483649)) 34)), some (some (zi_bin zi_sub 35)), some (some (zi_i2l 36)), some (some (zi_inv 117 3 none 0 0 39)), none, none, some (some (zi_if zi_ne 45 42)), none, none, some (some (zi_push (.inl (2147483636, 2147483636)) 44)), none, some none, some (some (zi_load 0 46)), some (some (zi_getf 9 44 49)), none],
  [none, some (some (zi_push (.inl (2147483688, 2147483688)) 51)), none, some (some (zi_load 1 52)), some (some (zi_bin zi_mul 53)), some (some (zi_load 2 54)), some (some (zi_bin zi_add 55)), some (some (zi_load 0 56)), some (some (zi_getf 9 42 59)), none, none, some (some (zi_load 1 60)), some (some (zi_ald .int 61)), some (some (zi_if zi_ne 69 64)), none, none],
  [some (some (zi_load 3 65)), some (some (zi_un zi_i2bf 66)), some (some (zi_go 85)), none, none, some (some (zi_load 0 70)), some (some (zi_getf 9 42 73)), none, none, some (some (zi_load 1 74)), some (some (zi_ald .int 75)), some (some (zi_push (.inl (2147483649, 2147483649)) 76)), some (some (zi_ic zi_ne 84 79)), none, none, some (some (zi_load 3 80))],
  [some (some (zi_un zi_i2sf 81)), some (some (zi_go 85)), none, none, some (some (zi_load 3 85)), some (some (zi_ast .int 86)), some (some (zi_push (.inl (2147483649, 2147483649)) 87)), some none]]
def zt_X9_read : zi_T := [[some (some (zi_load 1 1)), some (some (zi_load 2 2)), some (some (zi_inv 204 2 none 0 0 5)), none, none, some (some (zi_if zi_eq 21 8)), none, none, some (some (zi_load 4 10)), none, some (some (zi_i2l 11)), some (some (zi_push (.inr (.inl (9223372036854775808, 9223372036854775808))) 12)), some (some (zi_push (.inr (.inl (9223372036854775828, 9223372036854775828))) 15)), none, none, some (some (zi_inv 117 3 none 0 0 18))],
  [none, none, some (some (zi_if zi_ne 23 21)), none, none, some (some (zi_push (.inl (2147483647, 2147483647)) 22)), some none, some (some (zi_load 0 24)), some (some (zi_getf 9 0 27)), none, none, some (some (zi_push (.inl (2147483679, 2147483679)) 29)), none, some (some (zi_ald .int 30)), some (some (zi_store 5 32)), none],
  [some (some (zi_push (.inl (2147483648, 2147483648)) 33)), some (some (zi_store 6 35)), none, some (some (zi_load 6 37)), none, some (some (zi_push (.inl (2147483673, 2147483673)) 39)), none, some (some (zi_ic zi_ge 62 42)), none, none, some (some (zi_load 0 43)), some (some (zi_getf 9 46 46)), none, none, some (some (zi_load 6 48)), none],
  [some (some (zi_load 0 49)), some (some (zi_getf 9 0 52)), none, none, some (some (zi_load 6 54)), none, some (some (zi_ald .int 55)), some (some (zi_ast .int 56)), some (some (zi_inc 6 (2147483649, 2147483649) 59)), none, none, some (some (zi_go 35)), none, none, some (some (zi_push (.inl (2147483648, 2147483648)) 63)), some (some (zi_store 6 65))],
  [none, some (some (zi_push (.inl (2147483648, 2147483648)) 66)), some (some (zi_store 7 68)), none, some (some (zi_push (.inl (2147483648, 2147483648)) 69)), some (some (zi_store 8 71)), none, some (some (zi_load 8 73)), none, some (some (zi_load 4 75)), none, some (some (zi_ic zi_ge 227 78)), none, none, some (some (zi_load 6 80)), none],
  [some (some (zi_if zi_ne 227 83)), none, none, some (some (zi_load 3 84)), some (some (zi_i2l 85)), some (some (zi_load 8 87)), none, some (some (zi_i2l 88)), some (some (zi_binl zi_ladd 89)), some (some (zi_store 9 91)), none, some (some (zi_load 0 92)), some (some (zi_getf 9 42 95)), none, none, some (some (zi_load 1 96))],
  [some (some (zi_ald .int 97)), some (some (zi_push (.inl (2147483644, 2147483644)) 99)), none, some (some (zi_ic zi_ne 106 102)), none, none, some (some (zi_push (.inl (2147483649, 2147483649)) 103)), some (some (zi_go 145)), none, none, some (some (zi_load 0 107)), some (some (zi_getf 9 42 110)), none, none, some (some (zi_load 1 111)), some (some (zi_ald .int 112))],
  [some (some (zi_load 2 113)), some (some (zi_ic zi_eq 120 116)), none, none, some (some (zi_push (.inl (2147483651, 2147483651)) 117)), some (some (zi_go 145)), none, none, some (some (zi_load 9 122)), none, some (some (zi_push (.inr (.inl (9223372036854775808, 9223372036854775808))) 123)), some (some (zi_lcmp 124)), some (some (zi_if zi_lt 140 127)), none, none, some (some (zi_load 9 129))],
  [none, some (some (zi_load 0 130)), some (some (zi_getf 9 43 133)), none, none, some (some (zi_load 1 134)), some (some (zi_ald .int 135)), some (some (zi_i2l 136)), some (some (zi_lcmp 137)), some (some (zi_if zi_lt 144 140)), none, none, some (some (zi_push (.inl (2147483650, 2147483650)) 141)), some (some (zi_go 145)), none, none],
  [some (some (zi_push (.inl (2147483648, 2147483648)) 145)), some (some (zi_store 6 147)), none, some (some (zi_load 6 149)), none, some (some (zi_if zi_ne 221 152)), none, none, some (some (zi_load 0 153)), some (some (zi_load 0 154)), some (some (zi_getf 9 44 157)), none, none, some (some (zi_push (.inl (2147483688, 2147483688)) 159)), none, some (some (zi_load 1 160))],
  [some (some (zi_bin zi_mul 161)), some (some (zi_load 3 162)), some (some (zi_bin zi_add 163)), some (some (zi_load 8 165)), none, some (some (zi_bin zi_add 166)), some (some (zi_ald .int 167)), some (some (zi_inv 167 2 (some 9) 0 0 170)), none, none, some (some (zi_if zi_ge 218 173)), none, none, some (some (zi_load 0 174)), some (some (zi_getf 9 0 177)), none],
  [none, some (some (zi_push (.inl (2147483679, 2147483679)) 179)), none, some (some (zi_load 5 181)), none, some (some (zi_ast .int 182)), some (some (zi_push (.inl (2147483648, 2147483648)) 183)), some (some (zi_store 11 185)), none, some (some (zi_load 11 187)), none, some (some (zi_push (.inl (2147483673, 2147483673)) 189)), none, some (some (zi_ic zi_ge 212 192)), none, none],
  [some (some (zi_load 0 193)), some (some (zi_getf 9 0 196)), none, none, some (some (zi_load 11 198)), none, some (some (zi_load 0 199)), some (some (zi_getf 9 46 202)), none, none, some (some (zi_load 11 204)), none, some (some (zi_ald .int 205)), some (some (zi_ast .int 206)), some (some (zi_inc 11 (2147483649, 2147483649) 209)), none],
  [none, some (some (zi_go 185)), none, none, some (some (zi_push (.inl (2147483628, 2147483628)) 214)), none, some (some (zi_load 8 216)), none, some (some (zi_bin zi_sub 217)), some none, some (some (zi_inc 7 (2147483649, 2147483649) 221)), none, none, some (some (zi_inc 8 (2147483649, 2147483649) 224)), none, none],
  [some (some (zi_go 71)), none, none, some (some (zi_load 0 228)), some (some (zi_load 6 230)), none, some (some (zi_putf 9 45 .int 233)), none, none, some (some (zi_load 7 235)), none, some none]]
def zt_X9_torn : zi_T := [[some (some (zi_load 0 1)), some (some (zi_getf 9 45 4)), none, none, some none]]
def zt_X9_count : zi_T := [[some (some (zi_push (.inl (2147483648, 2147483648)) 1)), some (some (zi_store 2 2)), some (some (zi_push (.inl (2147483648, 2147483648)) 3)), some (some (zi_store 3 4)), some (some (zi_load 3 5)), some (some (zi_push (.inl (2147483673, 2147483673)) 7)), none, some (some (zi_ic zi_ge 25 10)), none, none, some (some (zi_load 2 11)), some (some (zi_load 0 12)), some (some (zi_getf 9 0 15)), none, none, some (some (zi_load 3 16))],
  [some (some (zi_ald .int 17)), some (some (zi_bin zi_add 18)), some (some (zi_store 2 19)), some (some (zi_inc 3 (2147483649, 2147483649) 22)), none, none, some (some (zi_go 4)), none, none, some (some (zi_load 1 26)), some (some (zi_tsw 2147483648 2147483655 [72, 81, 89, 97, 117, 122, 145, 147] 156)), none, none, none, none, none],
  [none, none, none, none, none, none, none, none, none, none, none, none, none, none, none, none],
  [none, none, none, none, none, none, none, none, none, none, none, none, none, none, none, none],
  [none, none, none, none, none, none, none, none, some (some (zi_load 0 73)), some (some (zi_inv 144 1 (some 9) 0 0 76)), none, none, some (some (zi_load 0 77)), some (some (zi_getf 9 31 80)), none, none],
  [some none, some (some (zi_load 0 82)), some (some (zi_getf 9 0 85)), none, none, some (some (zi_push (.inl (2147483680, 2147483680)) 87)), none, some (some (zi_ald .int 88)), some none, some (some (zi_load 0 90)), some (some (zi_getf 9 0 93)), none, none, some (some (zi_push (.inl (2147483687, 2147483687)) 95)), none, some (some (zi_ald .int 96))],
  [some none, some (some (zi_load 0 98)), some (some (zi_getf 9 1 101)), none, none, some (some (zi_push (.inl (2147483648, 2147483648)) 102)), some (some (zi_ald .boolean 103)), some (some (zi_inv 118 1 none 0 0 106)), none, none, some (some (zi_load 0 107)), some (some (zi_getf 9 1 110)), none, none, some (some (zi_push (.inl (2147483649, 2147483649)) 111)), some (some (zi_ald .boolean 112))],
  [some (some (zi_inv 118 1 none 0 0 115)), none, none, some (some (zi_bin zi_add 116)), some none, some (some (zi_load 0 118)), some (some (zi_getf 9 23 121)), none, none, some none, some (some (zi_load 0 123)), some (some (zi_getf 9 42 126)), none, none, some (some (zi_push (.inl (2147483648, 2147483648)) 127)), some (some (zi_ald .int 128))],
  [some (some (zi_push (.inl (2147483644, 2147483644)) 130)), none, some (some (zi_ic zi_ne 138 133)), none, none, some (some (zi_push (.inl (2147483644, 2147483644)) 135)), none, some (some (zi_go 144)), none, none, some (some (zi_load 0 139)), some (some (zi_getf 9 43 142)), none, none, some (some (zi_push (.inl (2147483648, 2147483648)) 143)), some (some (zi_ald .int 144))],
  [some none, some (some (zi_load 2 146)), some none, some (some (zi_load 0 148)), some (some (zi_inv 174 1 (some 9) 0 0 151)), none, none, some (some (zi_load 0 152)), some (some (zi_inv 175 1 (some 9) 0 0 155)), none, none, some none, some (some (zi_push (.inl (2147483647, 2147483647)) 157)), some none]]
def zt_J6_bitCount_0f7a4 : zi_T := [[some (some (zi_load 0 1)), some (some (zi_load 0 2)), some (some (zi_push (.inl (2147483649, 2147483649)) 3)), some (some (zi_bin zi_ushr 4)), some (some (zi_push (.inl (3579139413, 3579139413)) 7)), none, none, some (some (zi_bin zi_and 8)), some (some (zi_bin zi_sub 9)), some (some (zi_store 0 10)), some (some (zi_load 0 11)), some (some (zi_push (.inl (3006477107, 3006477107)) 14)), none, none, some (some (zi_bin zi_and 15)), some (some (zi_load 0 16))],
  [some (some (zi_push (.inl (2147483650, 2147483650)) 17)), some (some (zi_bin zi_ushr 18)), some (some (zi_push (.inl (3006477107, 3006477107)) 21)), none, none, some (some (zi_bin zi_and 22)), some (some (zi_bin zi_add 23)), some (some (zi_store 0 24)), some (some (zi_load 0 25)), some (some (zi_load 0 26)), some (some (zi_push (.inl (2147483652, 2147483652)) 27)), some (some (zi_bin zi_ushr 28)), some (some (zi_bin zi_add 29)), some (some (zi_push (.inl (2400128783, 2400128783)) 32)), none, none],
  [some (some (zi_bin zi_and 33)), some (some (zi_store 0 34)), some (some (zi_load 0 35)), some (some (zi_load 0 36)), some (some (zi_push (.inl (2147483656, 2147483656)) 38)), none, some (some (zi_bin zi_ushr 39)), some (some (zi_bin zi_add 40)), some (some (zi_store 0 41)), some (some (zi_load 0 42)), some (some (zi_load 0 43)), some (some (zi_push (.inl (2147483664, 2147483664)) 45)), none, some (some (zi_bin zi_ushr 46)), some (some (zi_bin zi_add 47)), some (some (zi_store 0 48))],
  [some (some (zi_load 0 49)), some (some (zi_push (.inl (2147483711, 2147483711)) 51)), none, some (some (zi_bin zi_and 52)), some none]]
def zt_J0_length_8abf5 : zi_T := [[some (some (zi_load 0 1)), none, none, none, some (some (zi_alen 5)), some (some (zi_load 0 6)), none, none, none, some (some (zi_bin zi_shr 10)), some none]]
def zt_J0_charAt_5068e : zi_T := [[some (some (zi_load 0 1)), none, none, none, some (some (zi_if zi_eq 16 7)), none, none, some (some (zi_load 0 8)), none, none, none, some (some (zi_load 1 12)), some (some (zi_inv 216 2 none 0 0 15)), none, none, some none],
  [some (some (zi_load 0 17)), none, none, none, some (some (zi_load 1 21)), some (some (zi_inv 219 2 none 0 0 24)), none, none, some none]]
def zt_J0_coder_7d493 : zi_T := [[none, none, none, some (some (zi_if zi_eq 13 6)), none, none, some (some (zi_load 0 7)), none, none, none, some (some (zi_go 14)), none, none, some (some (zi_push (.inl (2147483649, 2147483649)) 14)), some none]]
def zt_J0_isLatin1_aae02 : zi_T := [[none, none, none, some (some (zi_if zi_eq 17 6)), none, none, some (some (zi_load 0 7)), none, none, none, some (some (zi_if zi_ne 17 13)), none, none, some (some (zi_push (.inl (2147483649, 2147483649)) 14)), some (some (zi_go 18)), none],
  [none, some (some (zi_push (.inl (2147483648, 2147483648)) 18)), some none]]
def zt_J0_checkIndex_df160 : zi_T := [[some (some (zi_load 0 1)), some (some (zi_load 1 2)), none, none, none, some (some (zi_inv 222 3 none 0 0 8)), none, none, some (some (zi_popp 9)), some none]]
def zt_J1_charAt_3b067 : zi_T := [[some (some (zi_load 1 1)), some (some (zi_load 0 2)), some (some (zi_alen 3)), some (some (zi_inv 215 2 none 0 0 6)), none, none, some (some (zi_load 0 7)), some (some (zi_load 1 8)), some (some (zi_ald .byte 9)), some (some (zi_push (.inl (2147483903, 2147483903)) 12)), none, none, some (some (zi_bin zi_and 13)), none, some none]]
def zt_J2_getChar_3b067 : zi_T := [[none, none, none, some (some (zi_if zi_ne 28 6)), none, none, some (some (zi_load 1 7)), some (some (zi_if zi_lt 18 10)), none, none, some (some (zi_load 1 11)), some (some (zi_load 0 12)), some (some (zi_inv 218 1 none 0 0 15)), none, none, some (some (zi_ic zi_lt 28 18))],
  [none, none, none, none, none, some (some (zi_dup 22)), none, none, none, none, none, none, some (some (zi_load 1 29)), some (some (zi_push (.inl (2147483649, 2147483649)) 30)), some (some (zi_bin zi_shl 31)), some (some (zi_store 1 32))],
  [some (some (zi_load 0 33)), some (some (zi_load 1 34)), some (some (zi_inc 1 (2147483649, 2147483649) 37)), none, none, some (some (zi_ald .byte 38)), some (some (zi_push (.inl (2147483903, 2147483903)) 41)), none, none, some (some (zi_bin zi_and 42)), none, none, none, some (some (zi_bin zi_shl 46)), some (some (zi_load 0 47)), some (some (zi_load 1 48))],
  [some (some (zi_ald .byte 49)), some (some (zi_push (.inl (2147483903, 2147483903)) 52)), none, none, some (some (zi_bin zi_and 53)), none, none, none, some (some (zi_bin zi_shl 57)), some (some (zi_bin zi_or 58)), none, some none]]
def zt_J2_length_9d52b : zi_T := [[some (some (zi_load 0 1)), some (some (zi_alen 2)), some (some (zi_push (.inl (2147483649, 2147483649)) 3)), some (some (zi_bin zi_shr 4)), some none]]
def zt_J2_charAt_3b067 : zi_T := [[some (some (zi_load 1 1)), some (some (zi_load 0 2)), some (some (zi_inv 220 2 none 0 0 5)), none, none, some (some (zi_load 0 6)), some (some (zi_load 1 7)), some (some (zi_inv 217 2 none 0 0 10)), none, none, some none]]
def zt_J2_checkIndex_2214a : zi_T := [[some (some (zi_load 0 1)), some (some (zi_load 1 2)), some (some (zi_inv 218 1 none 0 0 5)), none, none, some (some (zi_inv 215 2 none 0 0 8)), none, none, some none]]
def zt_J7_fill_53178 : zi_T := [[some (some (zi_push (.inl (2147483648, 2147483648)) 1)), some (some (zi_store 2 2)), some (some (zi_load 0 3)), some (some (zi_alen 4)), some (some (zi_store 3 5)), some (some (zi_load 2 6)), some (some (zi_load 3 7)), some (some (zi_ic zi_ge 20 10)), none, none, some (some (zi_load 0 11)), some (some (zi_load 2 12)), some (some (zi_load 1 13)), some (some (zi_ast .int 14)), some (some (zi_inc 2 (2147483649, 2147483649) 17)), none],
  [none, some (some (zi_go 5)), none, none, some none]]
def zt_J3_checkIndex_8e157 : zi_T := [[some (some (zi_load 0 1)), some (some (zi_if zi_lt 9 4)), none, none, some (some (zi_load 0 5)), some (some (zi_load 1 6)), some (some (zi_ic zi_lt 16 9)), none, none, some (some (zi_load 2 10)), some (some (zi_load 0 11)), some (some (zi_load 1 12)), none, none, none, none],
  [some (some (zi_load 0 17)), some none]]
def zt_L_law : zi_T := [[some (some (zi_new 8 14 [.inr (.inr (.inl none)), .inr (.inr (.inl none)), .inr (.inr (.inl none)), .inr (.inr (.inl none)), .inr (.inr (.inl none)), .inr (.inr (.inl none)), .inr (.inr (.inl none)), .inr (.inr (.inl none)), .inr (.inr (.inl none)), .inr (.inr (.inl none)), .inr (.inr (.inl none)), (.inl (2147483648, 2147483648)), (.inl (2147483648, 2147483648)), (.inl (2147483648, 2147483648))] 3)), none, none, some (some (zi_dup 4)), some (some (zi_inv 66 1 none 61 4224 7)), none, none, some (some (zi_store 1 8)), some (some (zi_new 9 47 [.inr (.inr (.inl none)), .inr (.inr (.inl none)), (.inl (2147483648, 2147483648)), (.inl (2147483648, 2147483648)), (.inl (2147483648, 2147483648)), .inr (.inr (.inl none)), (.inl (2147483648, 2147483648)), (.inl (2147483648, 2147483648)), (.inl (2147483648, 2147483648)), (.inl (2147483648, 2147483648)), (.inl (2147483648, 2147483648)), (.inl (2147483648, 2147483648)), .inr (.inr (.inl none)), .inr (.inr (.inl none)), .inr (.inr (.inl none)), .inr (.inr (.inl none)), (.inl (2147483648, 2147483648)), (.inl (2147483648, 2147483648)), (.inl (2147483648, 2147483648)), (.inl (2147483648, 2147483648)), (.inl (2147483648, 2147483648)), (.inl (2147483648, 2147483648)), .inr (.inr (.inl none)), (.inl (2147483648, 2147483648)), (.inl (2147483648, 2147483648)), (.inl (2147483648, 2147483648)), (.inl (2147483648, 2147483648)), (.inl (2147483648, 2147483648)), (.inl (2147483648, 2147483648)), (.inl (2147483648, 2147483648)), .inr (.inr (.inl none)), (.inl (2147483648, 2147483648)), (.inl (2147483648, 2147483648)), .inr (.inr (.inl none)), .inr (.inr (.inl none)), .inr (.inr (.inl none)), .inr (.inr (.inl none)), .inr (.inr (.inl none)), .inr (.inr (.inl none)), .inr (.inr (.inl none)), .inr (.inr (.inl none)), .inr (.inr (.inl none)), .inr (.inr (.inl none)), .inr (.inr (.inl none)), .inr (.inr (.inl none)), (.inl (2147483648, 2147483648)), .inr (.inr (.inl none))] 11)), none, none, some (some (zi_dup 12)), some (some (zi_inv 116 1 none 22 2537 15)), none, none, some (some (zi_store 2 16))],
  [some (some (zi_push (.inl (2147483648, 2147483648)) 17)), some (some (zi_store 3 18)), some (some (zi_load 3 19)), some (some (zi_load 0 20)), some (some (zi_slen 21)), some (some (zi_push (.inl (2147483653, 2147483653)) 22)), some (some (zi_bin zi_sub 23)), some (some (zi_ic zi_gt 1229 26)), none, none, some (some (zi_load 0 27)), some (some (zi_load 3 28)), some (some (zi_sld 29)), some (some (zi_push (.inl (2147483711, 2147483711)) 31)), none, some (some (zi_bin zi_and 32))],
  [some (some (zi_tsw 2147483648 2147483683 [192, 245, 268, 281, 294, 317, 350, 383, 406, 439, 462, 485, 524, 557, 580, 613, 636, 659, 682, 725, 758, 781, 804, 827, 850, 873, 907, 956, 979, 1002, 1025, 1048, 1091, 1134, 1187, 1200] 1223)), none, none, none, none, none, none, none, none, none, none, none, none, none, none, none],
  [none, none, none, none, none, none, none, none, none, none, none, none, none, none, none, none],
  [none, none, none, none, none, none, none, none, none, none, none, none, none, none, none, none],
  [none, none, none, none, none, none, none, none, none, none, none, none, none, none, none, none],
  [none, none, none, none, none, none, none, none, none, none, none, none, none, none, none, none],
  [none, none, none, none, none, none, none, none, none, none, none, none, none, none, none, none],
  [none, none, none, none, none, none, none, none, none, none, none, none, none, none, none, none],
  [none, none, none, none, none, none, none, none, none, none, none, none, none, none, none, none],
  [none, none, none, none, none, none, none, none, none, none, none, none, none, none, none, none],
  [none, none, none, none, none, none, none, none, none, none, none, none, none, none, none, none],
  [some (some (zi_load 1 193)), some (some (zi_load 0 194)), some (some (zi_load 3 195)), some (some (zi_push (.inl (2147483649, 2147483649)) 196)), some (some (zi_bin zi_add 197)), some (some (zi_sld 198)), some (some (zi_i2l 199)), some (some (zi_push (.inl (2147483680, 2147483680)) 201)), none, some (some (zi_shfl zi_lshl 202)), some (some (zi_load 0 203)), some (some (zi_load 3 204)), some (some (zi_push (.inl (2147483650, 2147483650)) 205)), some (some (zi_bin zi_add 206)), some (some (zi_sld 207)), some (some (zi_i2l 208))],
  [some (some (zi_push (.inr (.inl (9223372041149743103, 9223372041149743103))) 211)), none, none, some (some (zi_binl zi_land 212)), some (some (zi_binl zi_lor 213)), some (some (zi_inv 67 2 (some 8) 0 0 216)), none, none, some (some (zi_load 2 217)), some (some (zi_load 0 218)), some (some (zi_load 3 219)), some (some (zi_push (.inl (2147483649, 2147483649)) 220)), some (some (zi_bin zi_add 221)), some (some (zi_sld 222)), some (some (zi_i2l 223)), some (some (zi_push (.inl (2147483680, 2147483680)) 225))],
  [none, some (some (zi_shfl zi_lshl 226)), some (some (zi_load 0 227)), some (some (zi_load 3 228)), some (some (zi_push (.inl (2147483650, 2147483650)) 229)), some (some (zi_bin zi_add 230)), some (some (zi_sld 231)), some (some (zi_i2l 232)), some (some (zi_push (.inr (.inl (9223372041149743103, 9223372041149743103))) 235)), none, none, some (some (zi_binl zi_land 236)), some (some (zi_binl zi_lor 237)), some (some (zi_inv 121 2 (some 9) 0 0 240)), none, none],
  [some (some (zi_ic zi_eq 1223 243)), none, none, some (some (zi_push (.inl (2147483648, 2147483648)) 244)), some none, some (some (zi_load 1 246)), some (some (zi_load 0 247)), some (some (zi_load 3 248)), some (some (zi_push (.inl (2147483649, 2147483649)) 249)), some (some (zi_bin zi_add 250)), some (some (zi_sld 251)), some (some (zi_inv 68 2 (some 8) 0 0 254)), none, none, some (some (zi_load 2 255)), some (some (zi_load 0 256))],
  [some (some (zi_load 3 257)), some (some (zi_push (.inl (2147483649, 2147483649)) 258)), some (some (zi_bin zi_add 259)), some (some (zi_sld 260)), some (some (zi_inv 122 2 (some 9) 0 0 263)), none, none, some (some (zi_ic zi_eq 1223 266)), none, none, some (some (zi_push (.inl (2147483648, 2147483648)) 267)), some none, some (some (zi_load 1 269)), some (some (zi_inv 69 1 (some 8) 0 0 272)), none, none],
  [some (some (zi_load 2 273)), some (some (zi_inv 137 1 (some 9) 0 0 276)), none, none, some (some (zi_ic zi_eq 1223 279)), none, none, some (some (zi_push (.inl (2147483648, 2147483648)) 280)), some none, some (some (zi_load 1 282)), some (some (zi_inv 70 1 (some 8) 0 0 285)), none, none, some (some (zi_load 2 286)), some (some (zi_inv 138 1 (some 9) 0 0 289)), none],
  [none, some (some (zi_ic zi_eq 1223 292)), none, none, some (some (zi_push (.inl (2147483648, 2147483648)) 293)), some none, some (some (zi_load 1 295)), some (some (zi_load 0 296)), some (some (zi_load 3 297)), some (some (zi_push (.inl (2147483649, 2147483649)) 298)), some (some (zi_bin zi_add 299)), some (some (zi_sld 300)), some (some (zi_inv 71 2 (some 8) 0 0 303)), none, none, some (some (zi_load 2 304))],
  [some (some (zi_load 0 305)), some (some (zi_load 3 306)), some (some (zi_push (.inl (2147483649, 2147483649)) 307)), some (some (zi_bin zi_add 308)), some (some (zi_sld 309)), some (some (zi_inv 149 2 (some 9) 0 0 312)), none, none, some (some (zi_ic zi_eq 1223 315)), none, none, some (some (zi_push (.inl (2147483648, 2147483648)) 316)), some none, some (some (zi_load 1 318)), some (some (zi_load 0 319)), some (some (zi_load 3 320))],
  [some (some (zi_push (.inl (2147483649, 2147483649)) 321)), some (some (zi_bin zi_add 322)), some (some (zi_sld 323)), some (some (zi_load 0 324)), some (some (zi_load 3 325)), some (some (zi_push (.inl (2147483650, 2147483650)) 326)), some (some (zi_bin zi_add 327)), some (some (zi_sld 328)), some (some (zi_inv 72 3 (some 8) 0 0 331)), none, none, some (some (zi_load 2 332)), some (some (zi_load 0 333)), some (some (zi_load 3 334)), some (some (zi_push (.inl (2147483649, 2147483649)) 335)), some (some (zi_bin zi_add 336))],
  [some (some (zi_sld 337)), some (some (zi_load 0 338)), some (some (zi_load 3 339)), some (some (zi_push (.inl (2147483650, 2147483650)) 340)), some (some (zi_bin zi_add 341)), some (some (zi_sld 342)), some (some (zi_inv 150 3 (some 9) 0 0 345)), none, none, some (some (zi_ic zi_eq 1223 348)), none, none, some (some (zi_push (.inl (2147483648, 2147483648)) 349)), some none, some (some (zi_load 1 351)), some (some (zi_load 0 352))],
  [some (some (zi_load 3 353)), some (some (zi_push (.inl (2147483649, 2147483649)) 354)), some (some (zi_bin zi_add 355)), some (some (zi_sld 356)), some (some (zi_load 0 357)), some (some (zi_load 3 358)), some (some (zi_push (.inl (2147483650, 2147483650)) 359)), some (some (zi_bin zi_add 360)), some (some (zi_sld 361)), some (some (zi_inv 73 3 (some 8) 0 0 364)), none, none, some (some (zi_load 2 365)), some (some (zi_load 0 366)), some (some (zi_load 3 367)), some (some (zi_push (.inl (2147483649, 2147483649)) 368))],
  [some (some (zi_bin zi_add 369)), some (some (zi_sld 370)), some (some (zi_load 0 371)), some (some (zi_load 3 372)), some (some (zi_push (.inl (2147483650, 2147483650)) 373)), some (some (zi_bin zi_add 374)), some (some (zi_sld 375)), some (some (zi_inv 151 3 (some 9) 0 0 378)), none, none, some (some (zi_ic zi_eq 1223 381)), none, none, some (some (zi_push (.inl (2147483648, 2147483648)) 382)), some none, some (some (zi_load 1 384))],
  [some (some (zi_load 0 385)), some (some (zi_load 3 386)), some (some (zi_push (.inl (2147483649, 2147483649)) 387)), some (some (zi_bin zi_add 388)), some (some (zi_sld 389)), some (some (zi_inv 74 2 (some 8) 0 0 392)), none, none, some (some (zi_load 2 393)), some (some (zi_load 0 394)), some (some (zi_load 3 395)), some (some (zi_push (.inl (2147483649, 2147483649)) 396)), some (some (zi_bin zi_add 397)), some (some (zi_sld 398)), some (some (zi_inv 152 2 (some 9) 0 0 401)), none],
  [none, some (some (zi_ic zi_eq 1223 404)), none, none, some (some (zi_push (.inl (2147483648, 2147483648)) 405)), some none, some (some (zi_load 1 407)), some (some (zi_load 0 408)), some (some (zi_load 3 409)), some (some (zi_push (.inl (2147483649, 2147483649)) 410)), some (some (zi_bin zi_add 411)), some (some (zi_sld 412)), some (some (zi_load 0 413)), some (some (zi_load 3 414)), some (some (zi_push (.inl (2147483650, 2147483650)) 415)), some (some (zi_bin zi_add 416))],
  [some (some (zi_sld 417)), some (some (zi_inv 75 3 (some 8) 0 0 420)), none, none, some (some (zi_load 2 421)), some (some (zi_load 0 422)), some (some (zi_load 3 423)), some (some (zi_push (.inl (2147483649, 2147483649)) 424)), some (some (zi_bin zi_add 425)), some (some (zi_sld 426)), some (some (zi_load 0 427)), some (some (zi_load 3 428)), some (some (zi_push (.inl (2147483650, 2147483650)) 429)), some (some (zi_bin zi_add 430)), some (some (zi_sld 431)), some (some (zi_inv 154 3 (some 9) 0 0 434))],
  [none, none, some (some (zi_ic zi_eq 1223 437)), none, none, some (some (zi_push (.inl (2147483648, 2147483648)) 438)), some none, some (some (zi_load 1 440)), some (some (zi_load 0 441)), some (some (zi_load 3 442)), some (some (zi_push (.inl (2147483649, 2147483649)) 443)), some (some (zi_bin zi_add 444)), some (some (zi_sld 445)), some (some (zi_inv 76 2 (some 8) 0 0 448)), none, none],
  [some (some (zi_load 2 449)), some (some (zi_load 0 450)), some (some (zi_load 3 451)), some (some (zi_push (.inl (2147483649, 2147483649)) 452)), some (some (zi_bin zi_add 453)), some (some (zi_sld 454)), some (some (zi_inv 155 2 (some 9) 0 0 457)), none, none, some (some (zi_ic zi_eq 1223 460)), none, none, some (some (zi_push (.inl (2147483648, 2147483648)) 461)), some none, some (some (zi_load 1 463)), some (some (zi_load 0 464))],
  [some (some (zi_load 3 465)), some (some (zi_push (.inl (2147483649, 2147483649)) 466)), some (some (zi_bin zi_add 467)), some (some (zi_sld 468)), some (some (zi_inv 77 2 (some 8) 0 0 471)), none, none, some (some (zi_load 2 472)), some (some (zi_load 0 473)), some (some (zi_load 3 474)), some (some (zi_push (.inl (2147483649, 2147483649)) 475)), some (some (zi_bin zi_add 476)), some (some (zi_sld 477)), some (some (zi_inv 156 2 (some 9) 0 0 480)), none, none],
  [some (some (zi_ic zi_eq 1223 483)), none, none, some (some (zi_push (.inl (2147483648, 2147483648)) 484)), some none, some (some (zi_load 1 486)), some (some (zi_load 0 487)), some (some (zi_load 3 488)), some (some (zi_push (.inl (2147483649, 2147483649)) 489)), some (some (zi_bin zi_add 490)), some (some (zi_sld 491)), some (some (zi_if zi_eq 498 494)), none, none, some (some (zi_push (.inl (2147483649, 2147483649)) 495)), some (some (zi_go 499))],
  [none, none, some (some (zi_push (.inl (2147483648, 2147483648)) 499)), some (some (zi_inv 78 2 (some 8) 0 0 502)), none, none, some (some (zi_load 2 503)), some (some (zi_load 0 504)), some (some (zi_load 3 505)), some (some (zi_push (.inl (2147483649, 2147483649)) 506)), some (some (zi_bin zi_add 507)), some (some (zi_sld 508)), some (some (zi_if zi_eq 515 511)), none, none, some (some (zi_push (.inl (2147483649, 2147483649)) 512))],
  [some (some (zi_go 516)), none, none, some (some (zi_push (.inl (2147483648, 2147483648)) 516)), some (some (zi_inv 157 2 (some 9) 0 0 519)), none, none, some (some (zi_ic zi_eq 1223 522)), none, none, some (some (zi_push (.inl (2147483648, 2147483648)) 523)), some none, some (some (zi_load 1 525)), some (some (zi_load 0 526)), some (some (zi_load 3 527)), some (some (zi_push (.inl (2147483649, 2147483649)) 528))],
  [some (some (zi_bin zi_add 529)), some (some (zi_sld 530)), some (some (zi_load 0 531)), some (some (zi_load 3 532)), some (some (zi_push (.inl (2147483650, 2147483650)) 533)), some (some (zi_bin zi_add 534)), some (some (zi_sld 535)), some (some (zi_inv 79 3 (some 8) 0 0 538)), none, none, some (some (zi_load 2 539)), some (some (zi_load 0 540)), some (some (zi_load 3 541)), some (some (zi_push (.inl (2147483649, 2147483649)) 542)), some (some (zi_bin zi_add 543)), some (some (zi_sld 544))],
  [some (some (zi_load 0 545)), some (some (zi_load 3 546)), some (some (zi_push (.inl (2147483650, 2147483650)) 547)), some (some (zi_bin zi_add 548)), some (some (zi_sld 549)), some (some (zi_inv 158 3 (some 9) 0 0 552)), none, none, some (some (zi_ic zi_eq 1223 555)), none, none, some (some (zi_push (.inl (2147483648, 2147483648)) 556)), some none, some (some (zi_load 1 558)), some (some (zi_load 0 559)), some (some (zi_load 3 560))],
  [some (some (zi_push (.inl (2147483649, 2147483649)) 561)), some (some (zi_bin zi_add 562)), some (some (zi_sld 563)), some (some (zi_inv 81 2 (some 8) 0 0 566)), none, none, some (some (zi_load 2 567)), some (some (zi_load 0 568)), some (some (zi_load 3 569)), some (some (zi_push (.inl (2147483649, 2147483649)) 570)), some (some (zi_bin zi_add 571)), some (some (zi_sld 572)), some (some (zi_inv 167 2 (some 9) 0 0 575)), none, none, some (some (zi_ic zi_eq 1223 578))],
  [none, none, some (some (zi_push (.inl (2147483648, 2147483648)) 579)), some none, some (some (zi_load 1 581)), some (some (zi_load 0 582)), some (some (zi_load 3 583)), some (some (zi_push (.inl (2147483649, 2147483649)) 584)), some (some (zi_bin zi_add 585)), some (some (zi_sld 586)), some (some (zi_load 0 587)), some (some (zi_load 3 588)), some (some (zi_push (.inl (2147483650, 2147483650)) 589)), some (some (zi_bin zi_add 590)), some (some (zi_sld 591)), some (some (zi_inv 82 3 (some 8) 0 0 594))],
  [none, none, some (some (zi_load 2 595)), some (some (zi_load 0 596)), some (some (zi_load 3 597)), some (some (zi_push (.inl (2147483649, 2147483649)) 598)), some (some (zi_bin zi_add 599)), some (some (zi_sld 600)), some (some (zi_load 0 601)), some (some (zi_load 3 602)), some (some (zi_push (.inl (2147483650, 2147483650)) 603)), some (some (zi_bin zi_add 604)), some (some (zi_sld 605)), some (some (zi_inv 170 3 (some 9) 0 0 608)), none, none],
  [some (some (zi_ic zi_eq 1223 611)), none, none, some (some (zi_push (.inl (2147483648, 2147483648)) 612)), some none, some (some (zi_load 1 614)), some (some (zi_load 0 615)), some (some (zi_load 3 616)), some (some (zi_push (.inl (2147483649, 2147483649)) 617)), some (some (zi_bin zi_add 618)), some (some (zi_sld 619)), some (some (zi_inv 83 2 (some 8) 0 0 622)), none, none, some (some (zi_load 2 623)), some (some (zi_load 0 624))],
  [some (some (zi_load 3 625)), some (some (zi_push (.inl (2147483649, 2147483649)) 626)), some (some (zi_bin zi_add 627)), some (some (zi_sld 628)), some (some (zi_inv 171 2 (some 9) 0 0 631)), none, none, some (some (zi_ic zi_eq 1223 634)), none, none, some (some (zi_push (.inl (2147483648, 2147483648)) 635)), some none, some (some (zi_load 1 637)), some (some (zi_load 0 638)), some (some (zi_load 3 639)), some (some (zi_push (.inl (2147483649, 2147483649)) 640))],
  [some (some (zi_bin zi_add 641)), some (some (zi_sld 642)), some (some (zi_inv 84 2 (some 8) 0 0 645)), none, none, some (some (zi_load 2 646)), some (some (zi_load 0 647)), some (some (zi_load 3 648)), some (some (zi_push (.inl (2147483649, 2147483649)) 649)), some (some (zi_bin zi_add 650)), some (some (zi_sld 651)), some (some (zi_inv 172 2 (some 9) 0 0 654)), none, none, some (some (zi_ic zi_eq 1223 657)), none],
  [none, some (some (zi_push (.inl (2147483648, 2147483648)) 658)), some none, some (some (zi_load 1 660)), some (some (zi_load 0 661)), some (some (zi_load 3 662)), some (some (zi_push (.inl (2147483649, 2147483649)) 663)), some (some (zi_bin zi_add 664)), some (some (zi_sld 665)), some (some (zi_inv 85 2 (some 8) 0 0 668)), none, none, some (some (zi_load 2 669)), some (some (zi_load 0 670)), some (some (zi_load 3 671)), some (some (zi_push (.inl (2147483649, 2147483649)) 672))],
  [some (some (zi_bin zi_add 673)), some (some (zi_sld 674)), some (some (zi_inv 173 2 (some 9) 0 0 677)), none, none, some (some (zi_ic zi_eq 1223 680)), none, none, some (some (zi_push (.inl (2147483648, 2147483648)) 681)), some none, some (some (zi_load 1 683)), some (some (zi_load 0 684)), some (some (zi_load 3 685)), some (some (zi_push (.inl (2147483649, 2147483649)) 686)), some (some (zi_bin zi_add 687)), some (some (zi_sld 688))],
  [some (some (zi_load 0 689)), some (some (zi_load 3 690)), some (some (zi_push (.inl (2147483650, 2147483650)) 691)), some (some (zi_bin zi_add 692)), some (some (zi_sld 693)), some (some (zi_load 0 694)), some (some (zi_load 3 695)), some (some (zi_push (.inl (2147483651, 2147483651)) 696)), some (some (zi_bin zi_add 697)), some (some (zi_sld 698)), some (some (zi_inv 91 4 (some 8) 0 0 701)), none, none, some (some (zi_load 2 702)), some (some (zi_load 0 703)), some (some (zi_load 3 704))],
  [some (some (zi_push (.inl (2147483649, 2147483649)) 705)), some (some (zi_bin zi_add 706)), some (some (zi_sld 707)), some (some (zi_load 0 708)), some (some (zi_load 3 709)), some (some (zi_push (.inl (2147483650, 2147483650)) 710)), some (some (zi_bin zi_add 711)), some (some (zi_sld 712)), some (some (zi_load 0 713)), some (some (zi_load 3 714)), some (some (zi_push (.inl (2147483651, 2147483651)) 715)), some (some (zi_bin zi_add 716)), some (some (zi_sld 717)), some (some (zi_inv 181 4 (some 9) 0 0 720)), none, none],
  [some (some (zi_ic zi_eq 1223 723)), none, none, some (some (zi_push (.inl (2147483648, 2147483648)) 724)), some none, some (some (zi_load 1 726)), some (some (zi_load 0 727)), some (some (zi_load 3 728)), some (some (zi_push (.inl (2147483649, 2147483649)) 729)), some (some (zi_bin zi_add 730)), some (some (zi_sld 731)), some (some (zi_load 0 732)), some (some (zi_load 3 733)), some (some (zi_push (.inl (2147483650, 2147483650)) 734)), some (some (zi_bin zi_add 735)), some (some (zi_sld 736))],
  [some (some (zi_inv 92 3 (some 8) 0 0 739)), none, none, some (some (zi_load 2 740)), some (some (zi_load 0 741)), some (some (zi_load 3 742)), some (some (zi_push (.inl (2147483649, 2147483649)) 743)), some (some (zi_bin zi_add 744)), some (some (zi_sld 745)), some (some (zi_load 0 746)), some (some (zi_load 3 747)), some (some (zi_push (.inl (2147483650, 2147483650)) 748)), some (some (zi_bin zi_add 749)), some (some (zi_sld 750)), some (some (zi_inv 183 3 (some 9) 0 0 753)), none],
  [none, some (some (zi_ic zi_eq 1223 756)), none, none, some (some (zi_push (.inl (2147483648, 2147483648)) 757)), some none, some (some (zi_load 1 759)), some (some (zi_load 0 760)), some (some (zi_load 3 761)), some (some (zi_push (.inl (2147483649, 2147483649)) 762)), some (some (zi_bin zi_add 763)), some (some (zi_sld 764)), some (some (zi_inv 95 2 (some 8) 0 0 767)), none, none, some (some (zi_load 2 768))],
  [some (some (zi_load 0 769)), some (some (zi_load 3 770)), some (some (zi_push (.inl (2147483649, 2147483649)) 771)), some (some (zi_bin zi_add 772)), some (some (zi_sld 773)), some (some (zi_inv 187 2 (some 9) 0 0 776)), none, none, some (some (zi_ic zi_eq 1223 779)), none, none, some (some (zi_push (.inl (2147483648, 2147483648)) 780)), some none, some (some (zi_load 1 782)), some (some (zi_load 0 783)), some (some (zi_load 3 784))],
  [some (some (zi_push (.inl (2147483649, 2147483649)) 785)), some (some (zi_bin zi_add 786)), some (some (zi_sld 787)), some (some (zi_inv 96 2 (some 8) 0 0 790)), none, none, some (some (zi_load 2 791)), some (some (zi_load 0 792)), some (some (zi_load 3 793)), some (some (zi_push (.inl (2147483649, 2147483649)) 794)), some (some (zi_bin zi_add 795)), some (some (zi_sld 796)), some (some (zi_inv 189 2 (some 9) 0 0 799)), none, none, some (some (zi_ic zi_eq 1223 802))],
  [none, none, some (some (zi_push (.inl (2147483648, 2147483648)) 803)), some none, some (some (zi_load 1 805)), some (some (zi_load 0 806)), some (some (zi_load 3 807)), some (some (zi_push (.inl (2147483649, 2147483649)) 808)), some (some (zi_bin zi_add 809)), some (some (zi_sld 810)), some (some (zi_inv 97 2 (some 8) 0 0 813)), none, none, some (some (zi_load 2 814)), some (some (zi_load 0 815)), some (some (zi_load 3 816))],
  [some (some (zi_push (.inl (2147483649, 2147483649)) 817)), some (some (zi_bin zi_add 818)), some (some (zi_sld 819)), some (some (zi_inv 190 2 (some 9) 0 0 822)), none, none, some (some (zi_ic zi_eq 1223 825)), none, none, some (some (zi_push (.inl (2147483648, 2147483648)) 826)), some none, some (some (zi_load 1 828)), some (some (zi_load 0 829)), some (some (zi_load 3 830)), some (some (zi_push (.inl (2147483649, 2147483649)) 831)), some (some (zi_bin zi_add 832))],
  [some (some (zi_sld 833)), some (some (zi_inv 98 2 (some 8) 0 0 836)), none, none, some (some (zi_load 2 837)), some (some (zi_load 0 838)), some (some (zi_load 3 839)), some (some (zi_push (.inl (2147483649, 2147483649)) 840)), some (some (zi_bin zi_add 841)), some (some (zi_sld 842)), some (some (zi_inv 191 2 (some 9) 0 0 845)), none, none, some (some (zi_ic zi_eq 1223 848)), none, none],
  [some (some (zi_push (.inl (2147483648, 2147483648)) 849)), some none, some (some (zi_load 1 851)), some (some (zi_load 0 852)), some (some (zi_load 3 853)), some (some (zi_push (.inl (2147483649, 2147483649)) 854)), some (some (zi_bin zi_add 855)), some (some (zi_sld 856)), some (some (zi_inv 99 2 (some 8) 0 0 859)), none, none, some (some (zi_load 2 860)), some (some (zi_load 0 861)), some (some (zi_load 3 862)), some (some (zi_push (.inl (2147483649, 2147483649)) 863)), some (some (zi_bin zi_add 864))],
  [some (some (zi_sld 865)), some (some (zi_inv 193 2 (some 9) 0 0 868)), none, none, some (some (zi_ic zi_eq 1223 871)), none, none, some (some (zi_push (.inl (2147483648, 2147483648)) 872)), some none, some (some (zi_load 1 874)), some (some (zi_load 0 875)), some (some (zi_load 3 876)), some (some (zi_push (.inl (2147483649, 2147483649)) 877)), some (some (zi_bin zi_add 878)), some (some (zi_sld 879)), some (some (zi_load 0 880))],
  [some (some (zi_load 3 881)), some (some (zi_push (.inl (2147483650, 2147483650)) 882)), some (some (zi_bin zi_add 883)), some (some (zi_sld 884)), some (some (zi_inv 103 3 (some 8) 0 0 887)), none, none, some (some (zi_load 2 888)), some (some (zi_load 0 889)), some (some (zi_load 3 890)), some (some (zi_push (.inl (2147483649, 2147483649)) 891)), some (some (zi_bin zi_add 892)), some (some (zi_sld 893)), some (some (zi_load 0 894)), some (some (zi_load 3 895)), some (some (zi_push (.inl (2147483650, 2147483650)) 896))],
  [some (some (zi_bin zi_add 897)), some (some (zi_sld 898)), some (some (zi_inv 195 3 (some 9) 0 0 901)), none, none, some (some (zi_lcmp 902)), some (some (zi_if zi_eq 1223 905)), none, none, some (some (zi_push (.inl (2147483648, 2147483648)) 906)), some none, some (some (zi_load 1 908)), some (some (zi_load 0 909)), some (some (zi_load 3 910)), some (some (zi_push (.inl (2147483649, 2147483649)) 911)), some (some (zi_bin zi_add 912))],
  [some (some (zi_sld 913)), some (some (zi_load 0 914)), some (some (zi_load 3 915)), some (some (zi_push (.inl (2147483650, 2147483650)) 916)), some (some (zi_bin zi_add 917)), some (some (zi_sld 918)), some (some (zi_if zi_eq 925 921)), none, none, some (some (zi_push (.inl (2147483649, 2147483649)) 922)), some (some (zi_go 926)), none, none, some (some (zi_push (.inl (2147483648, 2147483648)) 926)), some (some (zi_inv 105 3 (some 8) 0 0 929)), none],
  [none, some (some (zi_load 2 930)), some (some (zi_load 0 931)), some (some (zi_load 3 932)), some (some (zi_push (.inl (2147483649, 2147483649)) 933)), some (some (zi_bin zi_add 934)), some (some (zi_sld 935)), some (some (zi_load 0 936)), some (some (zi_load 3 937)), some (some (zi_push (.inl (2147483650, 2147483650)) 938)), some (some (zi_bin zi_add 939)), some (some (zi_sld 940)), some (some (zi_if zi_eq 947 943)), none, none, some (some (zi_push (.inl (2147483649, 2147483649)) 944))],
  [some (some (zi_go 948)), none, none, some (some (zi_push (.inl (2147483648, 2147483648)) 948)), some (some (zi_inv 196 3 (some 9) 0 0 951)), none, none, some (some (zi_ic zi_eq 1223 954)), none, none, some (some (zi_push (.inl (2147483648, 2147483648)) 955)), some none, some (some (zi_load 1 957)), some (some (zi_load 0 958)), some (some (zi_load 3 959)), some (some (zi_push (.inl (2147483649, 2147483649)) 960))],
  [some (some (zi_bin zi_add 961)), some (some (zi_sld 962)), some (some (zi_inv 106 2 (some 8) 0 0 965)), none, none, some (some (zi_load 2 966)), some (some (zi_load 0 967)), some (some (zi_load 3 968)), some (some (zi_push (.inl (2147483649, 2147483649)) 969)), some (some (zi_bin zi_add 970)), some (some (zi_sld 971)), some (some (zi_inv 197 2 (some 9) 0 0 974)), none, none, some (some (zi_ic zi_eq 1223 977)), none],
  [none, some (some (zi_push (.inl (2147483648, 2147483648)) 978)), some none, some (some (zi_load 1 980)), some (some (zi_load 0 981)), some (some (zi_load 3 982)), some (some (zi_push (.inl (2147483649, 2147483649)) 983)), some (some (zi_bin zi_add 984)), some (some (zi_sld 985)), some (some (zi_inv 107 2 (some 8) 0 0 988)), none, none, some (some (zi_load 2 989)), some (some (zi_load 0 990)), some (some (zi_load 3 991)), some (some (zi_push (.inl (2147483649, 2147483649)) 992))],
  [some (some (zi_bin zi_add 993)), some (some (zi_sld 994)), some (some (zi_inv 200 2 (some 9) 0 0 997)), none, none, some (some (zi_ic zi_eq 1223 1000)), none, none, some (some (zi_push (.inl (2147483648, 2147483648)) 1001)), some none, some (some (zi_load 1 1003)), some (some (zi_load 0 1004)), some (some (zi_load 3 1005)), some (some (zi_push (.inl (2147483649, 2147483649)) 1006)), some (some (zi_bin zi_add 1007)), some (some (zi_sld 1008))],
  [some (some (zi_inv 108 2 (some 8) 0 0 1011)), none, none, some (some (zi_load 2 1012)), some (some (zi_load 0 1013)), some (some (zi_load 3 1014)), some (some (zi_push (.inl (2147483649, 2147483649)) 1015)), some (some (zi_bin zi_add 1016)), some (some (zi_sld 1017)), some (some (zi_inv 202 2 (some 9) 0 0 1020)), none, none, some (some (zi_ic zi_eq 1223 1023)), none, none, some (some (zi_push (.inl (2147483648, 2147483648)) 1024))],
  [some none, some (some (zi_load 1 1026)), some (some (zi_load 0 1027)), some (some (zi_load 3 1028)), some (some (zi_push (.inl (2147483649, 2147483649)) 1029)), some (some (zi_bin zi_add 1030)), some (some (zi_sld 1031)), some (some (zi_inv 109 2 (some 8) 0 0 1034)), none, none, some (some (zi_load 2 1035)), some (some (zi_load 0 1036)), some (some (zi_load 3 1037)), some (some (zi_push (.inl (2147483649, 2147483649)) 1038)), some (some (zi_bin zi_add 1039)), some (some (zi_sld 1040))],
  [some (some (zi_inv 203 2 (some 9) 0 0 1043)), none, none, some (some (zi_ic zi_eq 1223 1046)), none, none, some (some (zi_push (.inl (2147483648, 2147483648)) 1047)), some none, some (some (zi_load 1 1049)), some (some (zi_load 0 1050)), some (some (zi_load 3 1051)), some (some (zi_push (.inl (2147483649, 2147483649)) 1052)), some (some (zi_bin zi_add 1053)), some (some (zi_sld 1054)), some (some (zi_load 0 1055)), some (some (zi_load 3 1056))],
  [some (some (zi_push (.inl (2147483650, 2147483650)) 1057)), some (some (zi_bin zi_add 1058)), some (some (zi_sld 1059)), some (some (zi_load 0 1060)), some (some (zi_load 3 1061)), some (some (zi_push (.inl (2147483651, 2147483651)) 1062)), some (some (zi_bin zi_add 1063)), some (some (zi_sld 1064)), some (some (zi_inv 111 4 (some 8) 0 0 1067)), none, none, some (some (zi_load 2 1068)), some (some (zi_load 0 1069)), some (some (zi_load 3 1070)), some (some (zi_push (.inl (2147483649, 2147483649)) 1071)), some (some (zi_bin zi_add 1072))],
  [some (some (zi_sld 1073)), some (some (zi_load 0 1074)), some (some (zi_load 3 1075)), some (some (zi_push (.inl (2147483650, 2147483650)) 1076)), some (some (zi_bin zi_add 1077)), some (some (zi_sld 1078)), some (some (zi_load 0 1079)), some (some (zi_load 3 1080)), some (some (zi_push (.inl (2147483651, 2147483651)) 1081)), some (some (zi_bin zi_add 1082)), some (some (zi_sld 1083)), some (some (zi_inv 205 4 (some 9) 0 0 1086)), none, none, some (some (zi_ic zi_eq 1223 1089)), none],
  [none, some (some (zi_push (.inl (2147483648, 2147483648)) 1090)), some none, some (some (zi_load 1 1092)), some (some (zi_load 0 1093)), some (some (zi_load 3 1094)), some (some (zi_push (.inl (2147483649, 2147483649)) 1095)), some (some (zi_bin zi_add 1096)), some (some (zi_sld 1097)), some (some (zi_load 0 1098)), some (some (zi_load 3 1099)), some (some (zi_push (.inl (2147483650, 2147483650)) 1100)), some (some (zi_bin zi_add 1101)), some (some (zi_sld 1102)), some (some (zi_load 0 1103)), some (some (zi_load 3 1104))],
  [some (some (zi_push (.inl (2147483651, 2147483651)) 1105)), some (some (zi_bin zi_add 1106)), some (some (zi_sld 1107)), some (some (zi_inv 112 4 (some 8) 0 0 1110)), none, none, some (some (zi_load 2 1111)), some (some (zi_load 0 1112)), some (some (zi_load 3 1113)), some (some (zi_push (.inl (2147483649, 2147483649)) 1114)), some (some (zi_bin zi_add 1115)), some (some (zi_sld 1116)), some (some (zi_load 0 1117)), some (some (zi_load 3 1118)), some (some (zi_push (.inl (2147483650, 2147483650)) 1119)), some (some (zi_bin zi_add 1120))],
  [some (some (zi_sld 1121)), some (some (zi_load 0 1122)), some (some (zi_load 3 1123)), some (some (zi_push (.inl (2147483651, 2147483651)) 1124)), some (some (zi_bin zi_add 1125)), some (some (zi_sld 1126)), some (some (zi_inv 206 4 (some 9) 0 0 1129)), none, none, some (some (zi_ic zi_eq 1223 1132)), none, none, some (some (zi_push (.inl (2147483648, 2147483648)) 1133)), some none, some (some (zi_load 1 1135)), some (some (zi_load 0 1136))],
  [some (some (zi_load 3 1137)), some (some (zi_push (.inl (2147483649, 2147483649)) 1138)), some (some (zi_bin zi_add 1139)), some (some (zi_sld 1140)), some (some (zi_load 0 1141)), some (some (zi_load 3 1142)), some (some (zi_push (.inl (2147483650, 2147483650)) 1143)), some (some (zi_bin zi_add 1144)), some (some (zi_sld 1145)), some (some (zi_load 0 1146)), some (some (zi_load 3 1147)), some (some (zi_push (.inl (2147483651, 2147483651)) 1148)), some (some (zi_bin zi_add 1149)), some (some (zi_sld 1150)), some (some (zi_load 0 1151)), some (some (zi_load 3 1152))],
  [some (some (zi_push (.inl (2147483652, 2147483652)) 1153)), some (some (zi_bin zi_add 1154)), some (some (zi_sld 1155)), some (some (zi_inv 113 5 (some 8) 0 0 1158)), none, none, some (some (zi_load 2 1159)), some (some (zi_load 0 1160)), some (some (zi_load 3 1161)), some (some (zi_push (.inl (2147483649, 2147483649)) 1162)), some (some (zi_bin zi_add 1163)), some (some (zi_sld 1164)), some (some (zi_load 0 1165)), some (some (zi_load 3 1166)), some (some (zi_push (.inl (2147483650, 2147483650)) 1167)), some (some (zi_bin zi_add 1168))],
  [some (some (zi_sld 1169)), some (some (zi_load 0 1170)), some (some (zi_load 3 1171)), some (some (zi_push (.inl (2147483651, 2147483651)) 1172)), some (some (zi_bin zi_add 1173)), some (some (zi_sld 1174)), some (some (zi_load 0 1175)), some (some (zi_load 3 1176)), some (some (zi_push (.inl (2147483652, 2147483652)) 1177)), some (some (zi_bin zi_add 1178)), some (some (zi_sld 1179)), some (some (zi_inv 207 5 (some 9) 0 0 1182)), none, none, some (some (zi_ic zi_eq 1223 1185)), none],
  [none, some (some (zi_push (.inl (2147483648, 2147483648)) 1186)), some none, some (some (zi_load 1 1188)), some (some (zi_inv 114 1 (some 8) 0 0 1191)), none, none, some (some (zi_load 2 1192)), some (some (zi_inv 208 1 (some 9) 0 0 1195)), none, none, some (some (zi_ic zi_eq 1223 1198)), none, none, some (some (zi_push (.inl (2147483648, 2147483648)) 1199)), some none],
  [some (some (zi_load 1 1201)), some (some (zi_load 0 1202)), some (some (zi_load 3 1203)), some (some (zi_push (.inl (2147483649, 2147483649)) 1204)), some (some (zi_bin zi_add 1205)), some (some (zi_sld 1206)), some (some (zi_inv 115 2 (some 8) 0 0 1209)), none, none, some (some (zi_load 2 1210)), some (some (zi_load 0 1211)), some (some (zi_load 3 1212)), some (some (zi_push (.inl (2147483649, 2147483649)) 1213)), some (some (zi_bin zi_add 1214)), some (some (zi_sld 1215)), some (some (zi_inv 209 2 (some 9) 0 0 1218))],
  [none, none, some (some (zi_ic zi_eq 1223 1221)), none, none, some (some (zi_push (.inl (2147483648, 2147483648)) 1222)), some none, some (some (zi_inc 3 (2147483653, 2147483653) 1226)), none, none, some (some (zi_go 18)), none, none, some (some (zi_push (.inl (2147483649, 2147483649)) 1230)), some none]]
def zm_X0_init : zi_M := (yX0_init, cX0_init, 3, none, zt_X0_init, 3, 58)
def zm_X0_fewest : zi_M := (yX0_fewest, cX0_fewest, 5, (some .int), zt_X0_fewest, 0, 0)
def zm_X0_brings : zi_M := (yX0_brings, cX0_brings, 6, (some .boolean), zt_X0_brings, 0, 0)
def zm_X0_cutOf : zi_M := (yX0_cutOf, cX0_cutOf, 4, (some .int), zt_X0_cutOf, 0, 0)
def zm_X1_init : zi_M := (yX1_init, cX1_init, 1, none, zt_X1_init, 4, 36)
def zm_X1_clear : zi_M := (yX1_clear, cX1_clear, 1, none, zt_X1_clear, 0, 0)
def zm_X1_take : zi_M := (yX1_take, cX1_take, 4, (some .int), zt_X1_take, 0, 0)
def zm_X1_takeLine : zi_M := (yX1_takeLine, cX1_takeLine, 2, none, zt_X1_takeLine, 0, 0)
def zm_X1_comesOnce : zi_M := (yX1_comesOnce, cX1_comesOnce, 3, (some .boolean), zt_X1_comesOnce, 0, 0)
def zm_X1_takePlain : zi_M := (yX1_takePlain, cX1_takePlain, 2, none, zt_X1_takePlain, 0, 0)
def zm_X1_takeRow : zi_M := (yX1_takeRow, cX1_takeRow, 4, none, zt_X1_takeRow, 0, 0)
def zm_X1_takeSpring : zi_M := (yX1_takeSpring, cX1_takeSpring, 2, none, zt_X1_takeSpring, 0, 0)
def zm_X1_takeFarm : zi_M := (yX1_takeFarm, cX1_takeFarm, 2, none, zt_X1_takeFarm, 0, 0)
def zm_X1_takeGround : zi_M := (yX1_takeGround, cX1_takeGround, 4, none, zt_X1_takeGround, 0, 0)
def zm_X1_takeLaw : zi_M := (yX1_takeLaw, cX1_takeLaw, 2, none, zt_X1_takeLaw, 0, 0)
def zm_X1_takeSilt : zi_M := (yX1_takeSilt, cX1_takeSilt, 2, none, zt_X1_takeSilt, 0, 0)
def zm_X1_isWhole : zi_M := (yX1_isWhole, cX1_isWhole, 2, (some .boolean), zt_X1_isWhole, 0, 0)
def zm_X1_settle : zi_M := (yX1_settle, cX1_settle, 3, none, zt_X1_settle, 0, 0)
def zm_X1_raise : zi_M := (yX1_raise, cX1_raise, 4, none, zt_X1_raise, 0, 0)
def zm_X2_init : zi_M := (yX2_init, cX2_init, 2, none, zt_X2_init, 2, 50)
def zm_X2_copy : zi_M := (yX2_copy, cX2_copy, 2, none, zt_X2_copy, 0, 0)
def zm_X2_trace : zi_M := (yX2_trace, cX2_trace, 2, none, zt_X2_trace, 0, 0)
def zm_X2_lowestNextTo : zi_M := (yX2_lowestNextTo, cX2_lowestNextTo, 6, (some .int), zt_X2_lowestNextTo, 0, 0)
def zm_X2_cuttable : zi_M := (yX2_cuttable, cX2_cuttable, 4, (some .int), zt_X2_cuttable, 0, 0)
def zm_X2_refused : zi_M := (yX2_refused, cX2_refused, 4, (some .int), zt_X2_refused, 0, 0)
def zm_X2_possibleYears : zi_M := (yX2_possibleYears, cX2_possibleYears, 3, (some .int), zt_X2_possibleYears, 0, 0)
def zm_X2_allParts : zi_M := (yX2_allParts, cX2_allParts, 3, (some .int), zt_X2_allParts, 0, 0)
def zm_X2_pass : zi_M := (yX2_pass, cX2_pass, 4, none, zt_X2_pass, 0, 0)
def zm_X2_carrySilt : zi_M := (yX2_carrySilt, cX2_carrySilt, 3, none, zt_X2_carrySilt, 0, 0)
def zm_X3_init : zi_M := (yX3_init, cX3_init, 1, none, zt_X3_init, 2, 103)
def zm_X3_hasCell : zi_M := (yX3_hasCell, cX3_hasCell, 2, (some .boolean), zt_X3_hasCell, 0, 0)
def zm_X3_hasFarm : zi_M := (yX3_hasFarm, cX3_hasFarm, 2, (some .boolean), zt_X3_hasFarm, 0, 0)
def zm_X3_ownerOf : zi_M := (yX3_ownerOf, cX3_ownerOf, 3, (some .int), zt_X3_ownerOf, 0, 0)
def zm_X3_join : zi_M := (yX3_join, cX3_join, 4, none, zt_X3_join, 0, 0)
def zm_X3_beside : zi_M := (yX3_beside, cX3_beside, 4, (some .int), zt_X3_beside, 0, 0)
def zm_X4_init : zi_M := (yX4_init, cX4_init, 1, none, zt_X4_init, 5, 1491)
def zm_X4_build : zi_M := (yX4_build, cX4_build, 8, none, zt_X4_build, 0, 0)
def zm_X4_list : zi_M := (yX4_list, cX4_list, 5, none, zt_X4_list, 0, 0)
def zm_X4_indexOf : zi_M := (yX4_indexOf, cX4_indexOf, 3, (some .int), zt_X4_indexOf, 0, 0)
def zm_X4_breakers : zi_M := (yX4_breakers, cX4_breakers, 8, (some .int), zt_X4_breakers, 0, 0)
def zm_X4_placeOf : zi_M := (yX4_placeOf, cX4_placeOf, 4, (some .int), zt_X4_placeOf, 0, 0)
def zm_X4_chosen : zi_M := (yX4_chosen, cX4_chosen, 7, (some .int), zt_X4_chosen, 0, 0)
def zm_X5_init : zi_M := (yX5_init, cX5_init, 1, none, zt_X5_init, 3, 168)
def zm_X5_hasSheet : zi_M := (yX5_hasSheet, cX5_hasSheet, 2, (some .boolean), zt_X5_hasSheet, 0, 0)
def zm_X5_hasLane : zi_M := (yX5_hasLane, cX5_hasLane, 2, (some .boolean), zt_X5_hasLane, 0, 0)
def zm_X5_renew : zi_M := (yX5_renew, cX5_renew, 5, none, zt_X5_renew, 0, 0)
def zm_X5_takeFault : zi_M := (yX5_takeFault, cX5_takeFault, 4, (some .int), zt_X5_takeFault, 0, 0)
def zm_X5_reachFault : zi_M := (yX5_reachFault, cX5_reachFault, 3, (some .int), zt_X5_reachFault, 0, 0)
def zm_X5_valueAt : zi_M := (yX5_valueAt, cX5_valueAt, 3, (some .int), zt_X5_valueAt, 0, 0)
def zm_X5_put : zi_M := (yX5_put, cX5_put, 5, none, zt_X5_put, 0, 0)
def zm_X6_init : zi_M := (yX6_init, cX6_init, 1, none, zt_X6_init, 1, 320)
def zm_X6_append : zi_M := (yX6_append, cX6_append, 4, (some .boolean), zt_X6_append, 0, 0)
def zm_X6_rewind : zi_M := (yX6_rewind, cX6_rewind, 1, none, zt_X6_rewind, 0, 0)
def zm_X6_fail : zi_M := (yX6_fail, cX6_fail, 2, none, zt_X6_fail, 0, 0)
def zm_X6_failBehindAll : zi_M := (yX6_failBehindAll, cX6_failBehindAll, 2, none, zt_X6_failBehindAll, 0, 0)
def zm_X6_next : zi_M := (yX6_next, cX6_next, 1, none, zt_X6_next, 0, 0)
def zm_X6_isLetter : zi_M := (yX6_isLetter, cX6_isLetter, 1, (some .boolean), zt_X6_isLetter, 0, 0)
def zm_X6_isFigure : zi_M := (yX6_isFigure, cX6_isFigure, 1, (some .boolean), zt_X6_isFigure, 0, 0)
def zm_X6_says : zi_M := (yX6_says, cX6_says, 3, (some .boolean), zt_X6_says, 0, 0)
def zm_X6_isNumber : zi_M := (yX6_isNumber, cX6_isNumber, 3, (some .boolean), zt_X6_isNumber, 0, 0)
def zm_X6_nextNumber : zi_M := (yX6_nextNumber, cX6_nextNumber, 3, (some .boolean), zt_X6_nextNumber, 0, 0)
def zm_X6_nextStop : zi_M := (yX6_nextStop, cX6_nextStop, 1, none, zt_X6_nextStop, 0, 0)
def zm_X7_init : zi_M := (yX7_init, cX7_init, 2, none, zt_X7_init, 6, 75)
def zm_X7_copy : zi_M := (yX7_copy, cX7_copy, 2, none, zt_X7_copy, 0, 0)
def zm_X7_gain : zi_M := (yX7_gain, cX7_gain, 3, (some .int), zt_X7_gain, 0, 0)
def zm_X7_agrees : zi_M := (yX7_agrees, cX7_agrees, 4, (some .boolean), zt_X7_agrees, 0, 0)
def zm_X8_init : zi_M := (yX8_init, cX8_init, 1, none, zt_X8_init, 61, 4224)
def zm_X8_feed : zi_M := (yX8_feed, cX8_feed, 3, (some .int), zt_X8_feed, 0, 0)
def zm_X8_end : zi_M := (yX8_end, cX8_end, 3, (some .int), zt_X8_end, 0, 0)
def zm_X8_text : zi_M := (yX8_text, cX8_text, 2, (some .int), zt_X8_text, 0, 0)
def zm_X8_fault : zi_M := (yX8_fault, cX8_fault, 1, (some .int), zt_X8_fault, 0, 0)
def zm_X8_rule : zi_M := (yX8_rule, cX8_rule, 2, (some .int), zt_X8_rule, 0, 0)
def zm_X8_cell : zi_M := (yX8_cell, cX8_cell, 3, (some .int), zt_X8_cell, 0, 0)
def zm_X8_farm : zi_M := (yX8_farm, cX8_farm, 3, (some .int), zt_X8_farm, 0, 0)
def zm_X8_bed : zi_M := (yX8_bed, cX8_bed, 2, (some .int), zt_X8_bed, 0, 0)
def zm_X8_dam : zi_M := (yX8_dam, cX8_dam, 4, (some .int), zt_X8_dam, 0, 0)
def zm_X8_move : zi_M := (yX8_move, cX8_move, 3, (some .int), zt_X8_move, 0, 0)
def zm_X8_law : zi_M := (yX8_law, cX8_law, 3, (some .int), zt_X8_law, 0, 0)
def zm_X8_silt : zi_M := (yX8_silt, cX8_silt, 3, (some .int), zt_X8_silt, 0, 0)
def zm_X8_price : zi_M := (yX8_price, cX8_price, 4, (some .int), zt_X8_price, 0, 0)
def zm_X8_retrace : zi_M := (yX8_retrace, cX8_retrace, 1, none, zt_X8_retrace, 0, 0)
def zm_X8_year : zi_M := (yX8_year, cX8_year, 3, (some .int), zt_X8_year, 0, 0)
def zm_X8_would : zi_M := (yX8_would, cX8_would, 3, (some .int), zt_X8_would, 0, 0)
def zm_X8_tell : zi_M := (yX8_tell, cX8_tell, 2, (some .int), zt_X8_tell, 0, 0)
def zm_X8_drop : zi_M := (yX8_drop, cX8_drop, 3, (some .int), zt_X8_drop, 0, 0)
def zm_X8_judge : zi_M := (yX8_judge, cX8_judge, 4, (some .int), zt_X8_judge, 0, 0)
def zm_X8_refusal : zi_M := (yX8_refusal, cX8_refusal, 3, (some .int), zt_X8_refusal, 0, 0)
def zm_X8_isNumber : zi_M := (yX8_isNumber, cX8_isNumber, 1, (some .boolean), zt_X8_isNumber, 0, 0)
def zm_X8_option : zi_M := (yX8_option, cX8_option, 2, (some .int), zt_X8_option, 0, 0)
def zm_X8_numberOf : zi_M := (yX8_numberOf, cX8_numberOf, 2, (some .int), zt_X8_numberOf, 0, 0)
def zm_X8_has : zi_M := (yX8_has, cX8_has, 2, (some .boolean), zt_X8_has, 0, 0)
def zm_X8_alone : zi_M := (yX8_alone, cX8_alone, 6, (some .int), zt_X8_alone, 0, 0)
def zm_X8_together : zi_M := (yX8_together, cX8_together, 7, (some .int), zt_X8_together, 0, 0)
def zm_X8_lookAhead : zi_M := (yX8_lookAhead, cX8_lookAhead, 1, none, zt_X8_lookAhead, 0, 0)
def zm_X8_cutters : zi_M := (yX8_cutters, cX8_cutters, 3, (some .int), zt_X8_cutters, 0, 0)
def zm_X8_selfish : zi_M := (yX8_selfish, cX8_selfish, 3, (some .int), zt_X8_selfish, 0, 0)
def zm_X8_rests : zi_M := (yX8_rests, cX8_rests, 4, (some .int), zt_X8_rests, 0, 0)
def zm_X8_breaks : zi_M := (yX8_breaks, cX8_breaks, 3, (some .int), zt_X8_breaks, 0, 0)
def zm_X8_stands : zi_M := (yX8_stands, cX8_stands, 3, (some .int), zt_X8_stands, 0, 0)
def zm_X8_again : zi_M := (yX8_again, cX8_again, 4, (some .int), zt_X8_again, 0, 0)
def zm_X8_note : zi_M := (yX8_note, cX8_note, 2, none, zt_X8_note, 0, 0)
def zm_X8_firstAlike : zi_M := (yX8_firstAlike, cX8_firstAlike, 3, (some .int), zt_X8_firstAlike, 0, 0)
def zm_X8_isAlike : zi_M := (yX8_isAlike, cX8_isAlike, 3, (some .boolean), zt_X8_isAlike, 0, 0)
def zm_X8_odds : zi_M := (yX8_odds, cX8_odds, 5, (some .long), zt_X8_odds, 0, 0)
def zm_X8_commonDivisor : zi_M := (yX8_commonDivisor, cX8_commonDivisor, 6, (some .int), zt_X8_commonDivisor, 0, 0)
def zm_X8_see : zi_M := (yX8_see, cX8_see, 3, (some .int), zt_X8_see, 0, 0)
def zm_X8_forget : zi_M := (yX8_forget, cX8_forget, 3, (some .int), zt_X8_forget, 0, 0)
def zm_X8_fits : zi_M := (yX8_fits, cX8_fits, 8, (some .int), zt_X8_fits, 0, 0)
def zm_X8_keep : zi_M := (yX8_keep, cX8_keep, 3, (some .int), zt_X8_keep, 0, 0)
def zm_X8_back : zi_M := (yX8_back, cX8_back, 2, (some .int), zt_X8_back, 0, 0)
def zm_X8_imageOf : zi_M := (yX8_imageOf, cX8_imageOf, 2, (some (.object "RiverDiggers$Times")), zt_X8_imageOf, 0, 0)
def zm_X8_sheet : zi_M := (yX8_sheet, cX8_sheet, 4, (some .int), zt_X8_sheet, 0, 0)
def zm_X8_lay : zi_M := (yX8_lay, cX8_lay, 5, (some .int), zt_X8_lay, 0, 0)
def zm_X8_read : zi_M := (yX8_read, cX8_read, 9, (some .int), zt_X8_read, 0, 0)
def zm_X8_torn : zi_M := (yX8_torn, cX8_torn, 1, (some .int), zt_X8_torn, 0, 0)
def zm_X8_count : zi_M := (yX8_count, cX8_count, 2, (some .int), zt_X8_count, 0, 0)
def zm_X9_init : zi_M := (yX9_init, cX9_init, 2, none, zt_X9_init, 22, 2537)
def zm_X9_in : zi_M := (yX9_in, cX9_in, 6, (some .boolean), zt_X9_in, 0, 0)
def zm_X9_flag : zi_M := (yX9_flag, cX9_flag, 1, (some .int), zt_X9_flag, 0, 0)
def zm_X9_firstDraft : zi_M := (yX9_firstDraft, cX9_firstDraft, 2, none, zt_X9_firstDraft, 0, 0)
def zm_X9_keepDraft : zi_M := (yX9_keepDraft, cX9_keepDraft, 2, none, zt_X9_keepDraft, 0, 0)
def zm_X9_feed : zi_M := (yX9_feed, cX9_feed, 4, (some .int), zt_X9_feed, 0, 0)
def zm_X9_end : zi_M := (yX9_end, cX9_end, 3, (some .int), zt_X9_end, 0, 0)
def zm_X9_needs : zi_M := (yX9_needs, cX9_needs, 3, none, zt_X9_needs, 0, 0)
def zm_X9_look : zi_M := (yX9_look, cX9_look, 2, (some .int), zt_X9_look, 0, 0)
def zm_X9_is : zi_M := (yX9_is, cX9_is, 5, (some .boolean), zt_X9_is, 0, 0)
def zm_X9_ends : zi_M := (yX9_ends, cX9_ends, 4, (some .boolean), zt_X9_ends, 0, 0)
def zm_X9_ruleLine : zi_M := (yX9_ruleLine, cX9_ruleLine, 1, (some .int), zt_X9_ruleLine, 0, 0)
def zm_X9_lineNow : zi_M := (yX9_lineNow, cX9_lineNow, 1, (some .int), zt_X9_lineNow, 0, 0)
def zm_X9_next : zi_M := (yX9_next, cX9_next, 2, none, zt_X9_next, 0, 0)
def zm_X9_looked : zi_M := (yX9_looked, cX9_looked, 3, (some .int), zt_X9_looked, 0, 0)
def zm_X9_readNumber : zi_M := (yX9_readNumber, cX9_readNumber, 4, (some .int), zt_X9_readNumber, 0, 0)
def zm_X9_readRow : zi_M := (yX9_readRow, cX9_readRow, 5, none, zt_X9_readRow, 0, 0)
def zm_X9_sawCell : zi_M := (yX9_sawCell, cX9_sawCell, 2, none, zt_X9_sawCell, 0, 0)
def zm_X9_readGround : zi_M := (yX9_readGround, cX9_readGround, 4, none, zt_X9_readGround, 0, 0)
def zm_X9_readLineOf : zi_M := (yX9_readLineOf, cX9_readLineOf, 2, none, zt_X9_readLineOf, 0, 0)
def zm_X9_readLine : zi_M := (yX9_readLine, cX9_readLine, 2, none, zt_X9_readLine, 0, 0)
def zm_X9_text : zi_M := (yX9_text, cX9_text, 2, (some .int), zt_X9_text, 0, 0)
def zm_X9_fault : zi_M := (yX9_fault, cX9_fault, 1, (some .int), zt_X9_fault, 0, 0)
def zm_X9_isCell : zi_M := (yX9_isCell, cX9_isCell, 2, (some .boolean), zt_X9_isCell, 0, 0)
def zm_X9_isFarm : zi_M := (yX9_isFarm, cX9_isFarm, 2, (some .boolean), zt_X9_isFarm, 0, 0)
def zm_X9_isYear : zi_M := (yX9_isYear, cX9_isYear, 1, (some .boolean), zt_X9_isYear, 0, 0)
def zm_X9_beside : zi_M := (yX9_beside, cX9_beside, 5, (some .int), zt_X9_beside, 0, 0)
def zm_X9_lowestBeside : zi_M := (yX9_lowestBeside, cX9_lowestBeside, 6, (some .int), zt_X9_lowestBeside, 0, 0)
def zm_X9_findBed : zi_M := (yX9_findBed, cX9_findBed, 2, none, zt_X9_findBed, 0, 0)
def zm_X9_bedNow : zi_M := (yX9_bedNow, cX9_bedNow, 1, (some .int), zt_X9_bedNow, 0, 0)
def zm_X9_hasNow : zi_M := (yX9_hasNow, cX9_hasNow, 5, (some .int), zt_X9_hasNow, 0, 0)
def zm_X9_isBeside : zi_M := (yX9_isBeside, cX9_isBeside, 6, (some .boolean), zt_X9_isBeside, 0, 0)
def zm_X9_mayCut : zi_M := (yX9_mayCut, cX9_mayCut, 8, (some .int), zt_X9_mayCut, 0, 0)
def zm_X9_rule : zi_M := (yX9_rule, cX9_rule, 2, (some .int), zt_X9_rule, 0, 0)
def zm_X9_cell : zi_M := (yX9_cell, cX9_cell, 3, (some .int), zt_X9_cell, 0, 0)
def zm_X9_farm : zi_M := (yX9_farm, cX9_farm, 5, (some .int), zt_X9_farm, 0, 0)
def zm_X9_bed : zi_M := (yX9_bed, cX9_bed, 2, (some .int), zt_X9_bed, 0, 0)
def zm_X9_becomes : zi_M := (yX9_becomes, cX9_becomes, 4, (some .int), zt_X9_becomes, 0, 0)
def zm_X9_dam : zi_M := (yX9_dam, cX9_dam, 3, (some .int), zt_X9_dam, 0, 0)
def zm_X9_move : zi_M := (yX9_move, cX9_move, 2, (some .int), zt_X9_move, 0, 0)
def zm_X9_law : zi_M := (yX9_law, cX9_law, 2, (some .int), zt_X9_law, 0, 0)
def zm_X9_silt : zi_M := (yX9_silt, cX9_silt, 2, (some .int), zt_X9_silt, 0, 0)
def zm_X9_price : zi_M := (yX9_price, cX9_price, 3, (some .int), zt_X9_price, 0, 0)
def zm_X9_marks : zi_M := (yX9_marks, cX9_marks, 2, none, zt_X9_marks, 0, 0)
def zm_X9_returns : zi_M := (yX9_returns, cX9_returns, 2, none, zt_X9_returns, 0, 0)
def zm_X9_cutOf : zi_M := (yX9_cutOf, cX9_cutOf, 3, (some .int), zt_X9_cutOf, 0, 0)
def zm_X9_timesOf : zi_M := (yX9_timesOf, cX9_timesOf, 1, (some .int), zt_X9_timesOf, 0, 0)
def zm_X9_firstWrong : zi_M := (yX9_firstWrong, cX9_firstWrong, 6, (some .int), zt_X9_firstWrong, 0, 0)
def zm_X9_canBe : zi_M := (yX9_canBe, cX9_canBe, 2, (some .boolean), zt_X9_canBe, 0, 0)
def zm_X9_silts : zi_M := (yX9_silts, cX9_silts, 4, none, zt_X9_silts, 0, 0)
def zm_X9_goes : zi_M := (yX9_goes, cX9_goes, 4, none, zt_X9_goes, 0, 0)
def zm_X9_year : zi_M := (yX9_year, cX9_year, 2, (some .int), zt_X9_year, 0, 0)
def zm_X9_hasBy : zi_M := (yX9_hasBy, cX9_hasBy, 4, (some .int), zt_X9_hasBy, 0, 0)
def zm_X9_bedBy : zi_M := (yX9_bedBy, cX9_bedBy, 3, (some .int), zt_X9_bedBy, 0, 0)
def zm_X9_would : zi_M := (yX9_would, cX9_would, 3, (some .int), zt_X9_would, 0, 0)
def zm_X9_tell : zi_M := (yX9_tell, cX9_tell, 2, (some .int), zt_X9_tell, 0, 0)
def zm_X9_drop : zi_M := (yX9_drop, cX9_drop, 3, (some .int), zt_X9_drop, 0, 0)
def zm_X9_judge : zi_M := (yX9_judge, cX9_judge, 6, (some .int), zt_X9_judge, 0, 0)
def zm_X9_findOptions : zi_M := (yX9_findOptions, cX9_findOptions, 4, none, zt_X9_findOptions, 0, 0)
def zm_X9_allOptions : zi_M := (yX9_allOptions, cX9_allOptions, 1, (some .int), zt_X9_allOptions, 0, 0)
def zm_X9_yearOf : zi_M := (yX9_yearOf, cX9_yearOf, 4, (some .int), zt_X9_yearOf, 0, 0)
def zm_X9_yearAt : zi_M := (yX9_yearAt, cX9_yearAt, 2, (some .int), zt_X9_yearAt, 0, 0)
def zm_X9_enters : zi_M := (yX9_enters, cX9_enters, 5, none, zt_X9_enters, 0, 0)
def zm_X9_leaves : zi_M := (yX9_leaves, cX9_leaves, 3, none, zt_X9_leaves, 0, 0)
def zm_X9_isBrought : zi_M := (yX9_isBrought, cX9_isBrought, 7, (some .boolean), zt_X9_isBrought, 0, 0)
def zm_X9_alone : zi_M := (yX9_alone, cX9_alone, 5, (some .int), zt_X9_alone, 0, 0)
def zm_X9_cutsOf : zi_M := (yX9_cutsOf, cX9_cutsOf, 3, (some .int), zt_X9_cutsOf, 0, 0)
def zm_X9_together : zi_M := (yX9_together, cX9_together, 9, (some .int), zt_X9_together, 0, 0)
def zm_X9_lastOf : zi_M := (yX9_lastOf, cX9_lastOf, 7, (some .int), zt_X9_lastOf, 0, 0)
def zm_X9_secondOf : zi_M := (yX9_secondOf, cX9_secondOf, 6, (some .int), zt_X9_secondOf, 0, 0)
def zm_X9_selfishYear : zi_M := (yX9_selfishYear, cX9_selfishYear, 6, (some .int), zt_X9_selfishYear, 0, 0)
def zm_X9_selfish : zi_M := (yX9_selfish, cX9_selfish, 3, (some .int), zt_X9_selfish, 0, 0)
def zm_X9_breaksOf : zi_M := (yX9_breaksOf, cX9_breaksOf, 7, (some .int), zt_X9_breaksOf, 0, 0)
def zm_X9_rests : zi_M := (yX9_rests, cX9_rests, 6, (some .int), zt_X9_rests, 0, 0)
def zm_X9_breaks : zi_M := (yX9_breaks, cX9_breaks, 2, (some .int), zt_X9_breaks, 0, 0)
def zm_X9_stands : zi_M := (yX9_stands, cX9_stands, 4, (some .int), zt_X9_stands, 0, 0)
def zm_X9_areAlike : zi_M := (yX9_areAlike, cX9_areAlike, 5, (some .boolean), zt_X9_areAlike, 0, 0)
def zm_X9_again : zi_M := (yX9_again, cX9_again, 6, (some .int), zt_X9_again, 0, 0)
def zm_X9_common : zi_M := (yX9_common, cX9_common, 10, (some .long), zt_X9_common, 0, 0)
def zm_X9_odds : zi_M := (yX9_odds, cX9_odds, 8, (some .long), zt_X9_odds, 0, 0)
def zm_X9_see : zi_M := (yX9_see, cX9_see, 3, (some .int), zt_X9_see, 0, 0)
def zm_X9_forget : zi_M := (yX9_forget, cX9_forget, 3, (some .int), zt_X9_forget, 0, 0)
def zm_X9_isSo : zi_M := (yX9_isSo, cX9_isSo, 4, (some .boolean), zt_X9_isSo, 0, 0)
def zm_X9_cutters : zi_M := (yX9_cutters, cX9_cutters, 3, (some .int), zt_X9_cutters, 0, 0)
def zm_X9_fits : zi_M := (yX9_fits, cX9_fits, 8, (some .int), zt_X9_fits, 0, 0)
def zm_X9_copies : zi_M := (yX9_copies, cX9_copies, 4, none, zt_X9_copies, 0, 0)
def zm_X9_keep : zi_M := (yX9_keep, cX9_keep, 3, (some .int), zt_X9_keep, 0, 0)
def zm_X9_back : zi_M := (yX9_back, cX9_back, 2, (some .int), zt_X9_back, 0, 0)
def zm_X9_isSheet : zi_M := (yX9_isSheet, cX9_isSheet, 2, (some .boolean), zt_X9_isSheet, 0, 0)
def zm_X9_sheet : zi_M := (yX9_sheet, cX9_sheet, 5, (some .int), zt_X9_sheet, 0, 0)
def zm_X9_lay : zi_M := (yX9_lay, cX9_lay, 4, (some .int), zt_X9_lay, 0, 0)
def zm_X9_read : zi_M := (yX9_read, cX9_read, 12, (some .int), zt_X9_read, 0, 0)
def zm_X9_torn : zi_M := (yX9_torn, cX9_torn, 1, (some .int), zt_X9_torn, 0, 0)
def zm_X9_count : zi_M := (yX9_count, cX9_count, 4, (some .int), zt_X9_count, 0, 0)
def zm_J6_bitCount_0f7a4 : zi_M := (yJ6_bitCount_0f7a4, cJ6_bitCount_0f7a4, 1, (some .int), zt_J6_bitCount_0f7a4, 0, 0)
def zm_J0_length_8abf5 : zi_M := (yJ0_length_8abf5, cJ0_length_8abf5, 1, (some .int), zt_J0_length_8abf5, 0, 0)
def zm_J0_charAt_5068e : zi_M := (yJ0_charAt_5068e, cJ0_charAt_5068e, 2, (some .char), zt_J0_charAt_5068e, 0, 0)
def zm_J0_coder_7d493 : zi_M := (yJ0_coder_7d493, cJ0_coder_7d493, 1, (some .byte), zt_J0_coder_7d493, 0, 0)
def zm_J0_isLatin1_aae02 : zi_M := (yJ0_isLatin1_aae02, cJ0_isLatin1_aae02, 1, (some .boolean), zt_J0_isLatin1_aae02, 0, 0)
def zm_J0_checkIndex_df160 : zi_M := (yJ0_checkIndex_df160, cJ0_checkIndex_df160, 2, none, zt_J0_checkIndex_df160, 0, 0)
def zm_J1_charAt_3b067 : zi_M := (yJ1_charAt_3b067, cJ1_charAt_3b067, 2, (some .char), zt_J1_charAt_3b067, 0, 0)
def zm_J2_getChar_3b067 : zi_M := (yJ2_getChar_3b067, cJ2_getChar_3b067, 2, (some .char), zt_J2_getChar_3b067, 0, 0)
def zm_J2_length_9d52b : zi_M := (yJ2_length_9d52b, cJ2_length_9d52b, 1, (some .int), zt_J2_length_9d52b, 0, 0)
def zm_J2_charAt_3b067 : zi_M := (yJ2_charAt_3b067, cJ2_charAt_3b067, 2, (some .char), zt_J2_charAt_3b067, 0, 0)
def zm_J2_checkIndex_2214a : zi_M := (yJ2_checkIndex_2214a, cJ2_checkIndex_2214a, 2, none, zt_J2_checkIndex_2214a, 0, 0)
def zm_J7_fill_53178 : zi_M := (yJ7_fill_53178, cJ7_fill_53178, 4, none, zt_J7_fill_53178, 0, 0)
def zm_J3_checkIndex_8e157 : zi_M := (yJ3_checkIndex_8e157, cJ3_checkIndex_8e157, 3, (some .int), zt_J3_checkIndex_8e157, 0, 0)
def zm_L_law : zi_M := (yL_law, cL_law, 4, (some .boolean), zt_L_law, 600000, 7302250)
def zi_ml : List (List zi_M) := [[zm_X0_init, zm_X0_fewest, zm_X0_brings, zm_X0_cutOf, zm_X1_init, zm_X1_clear, zm_X1_take, zm_X1_takeLine, zm_X1_comesOnce, zm_X1_takePlain, zm_X1_takeRow, zm_X1_takeSpring, zm_X1_takeFarm, zm_X1_takeGround, zm_X1_takeLaw, zm_X1_takeSilt],
  [zm_X1_isWhole, zm_X1_settle, zm_X1_raise, zm_X2_init, zm_X2_copy, zm_X2_trace, zm_X2_lowestNextTo, zm_X2_cuttable, zm_X2_refused, zm_X2_possibleYears, zm_X2_allParts, zm_X2_pass, zm_X2_carrySilt, zm_X3_init, zm_X3_hasCell, zm_X3_hasFarm],
  [zm_X3_ownerOf, zm_X3_join, zm_X3_beside, zm_X4_init, zm_X4_build, zm_X4_list, zm_X4_indexOf, zm_X4_breakers, zm_X4_placeOf, zm_X4_chosen, zm_X5_init, zm_X5_hasSheet, zm_X5_hasLane, zm_X5_renew, zm_X5_takeFault, zm_X5_reachFault],
  [zm_X5_valueAt, zm_X5_put, zm_X6_init, zm_X6_append, zm_X6_rewind, zm_X6_fail, zm_X6_failBehindAll, zm_X6_next, zm_X6_isLetter, zm_X6_isFigure, zm_X6_says, zm_X6_isNumber, zm_X6_nextNumber, zm_X6_nextStop, zm_X7_init, zm_X7_copy],
  [zm_X7_gain, zm_X7_agrees, zm_X8_init, zm_X8_feed, zm_X8_end, zm_X8_text, zm_X8_fault, zm_X8_rule, zm_X8_cell, zm_X8_farm, zm_X8_bed, zm_X8_dam, zm_X8_move, zm_X8_law, zm_X8_silt, zm_X8_price],
  [zm_X8_retrace, zm_X8_year, zm_X8_would, zm_X8_tell, zm_X8_drop, zm_X8_judge, zm_X8_refusal, zm_X8_isNumber, zm_X8_option, zm_X8_numberOf, zm_X8_has, zm_X8_alone, zm_X8_together, zm_X8_lookAhead, zm_X8_cutters, zm_X8_selfish],
  [zm_X8_rests, zm_X8_breaks, zm_X8_stands, zm_X8_again, zm_X8_note, zm_X8_firstAlike, zm_X8_isAlike, zm_X8_odds, zm_X8_commonDivisor, zm_X8_see, zm_X8_forget, zm_X8_fits, zm_X8_keep, zm_X8_back, zm_X8_imageOf, zm_X8_sheet],
  [zm_X8_lay, zm_X8_read, zm_X8_torn, zm_X8_count, zm_X9_init, zm_X9_in, zm_X9_flag, zm_X9_firstDraft, zm_X9_keepDraft, zm_X9_feed, zm_X9_end, zm_X9_needs, zm_X9_look, zm_X9_is, zm_X9_ends, zm_X9_ruleLine],
  [zm_X9_lineNow, zm_X9_next, zm_X9_looked, zm_X9_readNumber, zm_X9_readRow, zm_X9_sawCell, zm_X9_readGround, zm_X9_readLineOf, zm_X9_readLine, zm_X9_text, zm_X9_fault, zm_X9_isCell, zm_X9_isFarm, zm_X9_isYear, zm_X9_beside, zm_X9_lowestBeside],
  [zm_X9_findBed, zm_X9_bedNow, zm_X9_hasNow, zm_X9_isBeside, zm_X9_mayCut, zm_X9_rule, zm_X9_cell, zm_X9_farm, zm_X9_bed, zm_X9_becomes, zm_X9_dam, zm_X9_move, zm_X9_law, zm_X9_silt, zm_X9_price, zm_X9_marks],
  [zm_X9_returns, zm_X9_cutOf, zm_X9_timesOf, zm_X9_firstWrong, zm_X9_canBe, zm_X9_silts, zm_X9_goes, zm_X9_year, zm_X9_hasBy, zm_X9_bedBy, zm_X9_would, zm_X9_tell, zm_X9_drop, zm_X9_judge, zm_X9_findOptions, zm_X9_allOptions],
  [zm_X9_yearOf, zm_X9_yearAt, zm_X9_enters, zm_X9_leaves, zm_X9_isBrought, zm_X9_alone, zm_X9_cutsOf, zm_X9_together, zm_X9_lastOf, zm_X9_secondOf, zm_X9_selfishYear, zm_X9_selfish, zm_X9_breaksOf, zm_X9_rests, zm_X9_breaks, zm_X9_stands],
  [zm_X9_areAlike, zm_X9_again, zm_X9_common, zm_X9_odds, zm_X9_see, zm_X9_forget, zm_X9_isSo, zm_X9_cutters, zm_X9_fits, zm_X9_copies, zm_X9_keep, zm_X9_back, zm_X9_isSheet, zm_X9_sheet, zm_X9_lay, zm_X9_read],
  [zm_X9_torn, zm_X9_count, zm_J6_bitCount_0f7a4, zm_J0_length_8abf5, zm_J0_charAt_5068e, zm_J0_coder_7d493, zm_J0_isLatin1_aae02, zm_J0_checkIndex_df160, zm_J1_charAt_3b067, zm_J2_getChar_3b067, zm_J2_length_9d52b, zm_J2_charAt_3b067, zm_J2_checkIndex_2214a, zm_J7_fill_53178, zm_J3_checkIndex_8e157, zm_L_law]]
def zi_mt (j : Nat) : Option zi_M := match zi_ml[j / 16]? with
  | none => none
  | some r => r[j % 16]?
end
section
def zi_is1 (q : Option (Nat × zi_S)) : Bool := match q with
  | some (_, _, [.inl r], _) => Nat.beq r.1 2147483649 && Nat.beq r.2 2147483649
  | _ => false
set_option maxRecDepth 100000 in
theorem zt_1 : zi_is1 (zi_run zi_mt 20000 zt_L_law (some [.inl zi_top, .inl zi_top, .inl zi_top, .inl zi_top]) 10 0 ([(0, .inr (.inr (.inr (.inl ()))))], [], [], 600000, 7302250)) = true := by decide +kernel
end
