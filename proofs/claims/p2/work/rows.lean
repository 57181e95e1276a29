section
-- ===== PART A: goes FIRST, ahead of the names: the tables' words, and 'selects' of the private methods out of them =====
/-- a private method of a class that the tables say can be made, by its rows of tables_1 -/
def lw_okq (q : MethodName × Nat) : Prop := (q.1.cls ≠ "java/lang/invoke/MethodHandle" ∧ q.1.cls ≠ "java/lang/invoke/VarHandle") ∧ Cond.instantiable q.1.cls q.2 ∈ tables_1 ∧ Cond.privateMethod q.1 ∈ tables_1 ∧ Cond.instanceMethod q.1 ∈ tables_1
theorem lw_p0 : lw_okq (⟨"RiverDiggers$Draft", "raise", "([I)V"⟩, 10) := ⟨⟨by decide +kernel, by decide +kernel⟩, List.mem_of_getElem? (i := 237) (by decide +kernel), List.mem_of_getElem? (i := 310) (by decide +kernel), List.mem_of_getElem? (i := 311) (by decide +kernel)⟩
theorem lw_p1 : lw_okq (⟨"RiverDiggers$Flow", "lowestNextTo", "(I)I"⟩, 8) := ⟨⟨by decide +kernel, by decide +kernel⟩, List.mem_of_getElem? (i := 68) (by decide +kernel), List.mem_of_getElem? (i := 318) (by decide +kernel), List.mem_of_getElem? (i := 319) (by decide +kernel)⟩
theorem lw_p2 : lw_okq (⟨"RiverDiggers$Draft", "takeLine", "(LRiverDiggers$Tape;)V"⟩, 10) := ⟨⟨by decide +kernel, by decide +kernel⟩, List.mem_of_getElem? (i := 237) (by decide +kernel), List.mem_of_getElem? (i := 407) (by decide +kernel), List.mem_of_getElem? (i := 408) (by decide +kernel)⟩
theorem lw_p3 : lw_okq (⟨"RiverDiggers$Draft", "takePlain", "(LRiverDiggers$Tape;)V"⟩, 10) := ⟨⟨by decide +kernel, by decide +kernel⟩, List.mem_of_getElem? (i := 237) (by decide +kernel), List.mem_of_getElem? (i := 464) (by decide +kernel), List.mem_of_getElem? (i := 465) (by decide +kernel)⟩
theorem lw_p4 : lw_okq (⟨"RiverDiggers$Draft", "comesOnce", "(LRiverDiggers$Tape;I)Z"⟩, 10) := ⟨⟨by decide +kernel, by decide +kernel⟩, List.mem_of_getElem? (i := 237) (by decide +kernel), List.mem_of_getElem? (i := 468) (by decide +kernel), List.mem_of_getElem? (i := 469) (by decide +kernel)⟩
theorem lw_p5 : lw_okq (⟨"RiverDiggers$Draft", "takeRow", "(LRiverDiggers$Tape;)V"⟩, 10) := ⟨⟨by decide +kernel, by decide +kernel⟩, List.mem_of_getElem? (i := 237) (by decide +kernel), List.mem_of_getElem? (i := 487) (by decide +kernel), List.mem_of_getElem? (i := 488) (by decide +kernel)⟩
theorem lw_p6 : lw_okq (⟨"RiverDiggers$Draft", "takeSpring", "(LRiverDiggers$Tape;)V"⟩, 10) := ⟨⟨by decide +kernel, by decide +kernel⟩, List.mem_of_getElem? (i := 237) (by decide +kernel), List.mem_of_getElem? (i := 493) (by decide +kernel), List.mem_of_getElem? (i := 494) (by decide +kernel)⟩
theorem lw_p7 : lw_okq (⟨"RiverDiggers$Draft", "takeFarm", "(LRiverDiggers$Tape;)V"⟩, 10) := ⟨⟨by decide +kernel, by decide +kernel⟩, List.mem_of_getElem? (i := 237) (by decide +kernel), List.mem_of_getElem? (i := 498) (by decide +kernel), List.mem_of_getElem? (i := 499) (by decide +kernel)⟩
theorem lw_p8 : lw_okq (⟨"RiverDiggers$Draft", "takeGround", "(LRiverDiggers$Tape;)V"⟩, 10) := ⟨⟨by decide +kernel, by decide +kernel⟩, List.mem_of_getElem? (i := 237) (by decide +kernel), List.mem_of_getElem? (i := 503) (by decide +kernel), List.mem_of_getElem? (i := 504) (by decide +kernel)⟩
theorem lw_p9 : lw_okq (⟨"RiverDiggers$Draft", "takeLaw", "(LRiverDiggers$Tape;)V"⟩, 10) := ⟨⟨by decide +kernel, by decide +kernel⟩, List.mem_of_getElem? (i := 237) (by decide +kernel), List.mem_of_getElem? (i := 515) (by decide +kernel), List.mem_of_getElem? (i := 516) (by decide +kernel)⟩
theorem lw_p10 : lw_okq (⟨"RiverDiggers$Draft", "takeSilt", "(LRiverDiggers$Tape;)V"⟩, 10) := ⟨⟨by decide +kernel, by decide +kernel⟩, List.mem_of_getElem? (i := 237) (by decide +kernel), List.mem_of_getElem? (i := 520) (by decide +kernel), List.mem_of_getElem? (i := 521) (by decide +kernel)⟩
theorem lw_p11 : lw_okq (⟨"RiverDiggers$Draft", "isWhole", "()Z"⟩, 10) := ⟨⟨by decide +kernel, by decide +kernel⟩, List.mem_of_getElem? (i := 237) (by decide +kernel), List.mem_of_getElem? (i := 524) (by decide +kernel), List.mem_of_getElem? (i := 525) (by decide +kernel)⟩
theorem lw_p12 : lw_okq (⟨"RiverDiggers", "retrace", "()V"⟩, 14) := ⟨⟨by decide +kernel, by decide +kernel⟩, List.mem_of_getElem? (i := 19) (by decide +kernel), List.mem_of_getElem? (i := 584) (by decide +kernel), List.mem_of_getElem? (i := 585) (by decide +kernel)⟩
theorem lw_p13 : lw_okq (⟨"RiverDiggers$Flow", "carrySilt", "()V"⟩, 8) := ⟨⟨by decide +kernel, by decide +kernel⟩, List.mem_of_getElem? (i := 68) (by decide +kernel), List.mem_of_getElem? (i := 628) (by decide +kernel), List.mem_of_getElem? (i := 629) (by decide +kernel)⟩
theorem lw_p14 : lw_okq (⟨"RiverDiggers$Digger", "brings", "(III)Z"⟩, 3) := ⟨⟨by decide +kernel, by decide +kernel⟩, List.mem_of_getElem? (i := 181) (by decide +kernel), List.mem_of_getElem? (i := 662) (by decide +kernel), List.mem_of_getElem? (i := 663) (by decide +kernel)⟩
theorem lw_p15 : lw_okq (⟨"RiverDiggers", "lookAhead", "()V"⟩, 14) := ⟨⟨by decide +kernel, by decide +kernel⟩, List.mem_of_getElem? (i := 19) (by decide +kernel), List.mem_of_getElem? (i := 680) (by decide +kernel), List.mem_of_getElem? (i := 681) (by decide +kernel)⟩
def lw_privs_1 : List (MethodName × Nat) := [(⟨"RiverDiggers$Draft", "raise", "([I)V"⟩, 10), (⟨"RiverDiggers$Flow", "lowestNextTo", "(I)I"⟩, 8), (⟨"RiverDiggers$Draft", "takeLine", "(LRiverDiggers$Tape;)V"⟩, 10), (⟨"RiverDiggers$Draft", "takePlain", "(LRiverDiggers$Tape;)V"⟩, 10), (⟨"RiverDiggers$Draft", "comesOnce", "(LRiverDiggers$Tape;I)Z"⟩, 10), (⟨"RiverDiggers$Draft", "takeRow", "(LRiverDiggers$Tape;)V"⟩, 10), (⟨"RiverDiggers$Draft", "takeSpring", "(LRiverDiggers$Tape;)V"⟩, 10), (⟨"RiverDiggers$Draft", "takeFarm", "(LRiverDiggers$Tape;)V"⟩, 10), (⟨"RiverDiggers$Draft", "takeGround", "(LRiverDiggers$Tape;)V"⟩, 10), (⟨"RiverDiggers$Draft", "takeLaw", "(LRiverDiggers$Tape;)V"⟩, 10), (⟨"RiverDiggers$Draft", "takeSilt", "(LRiverDiggers$Tape;)V"⟩, 10), (⟨"RiverDiggers$Draft", "isWhole", "()Z"⟩, 10), (⟨"RiverDiggers", "retrace", "()V"⟩, 14), (⟨"RiverDiggers$Flow", "carrySilt", "()V"⟩, 8), (⟨"RiverDiggers$Digger", "brings", "(III)Z"⟩, 3), (⟨"RiverDiggers", "lookAhead", "()V"⟩, 14)]
theorem lw_r1 : ∀ q ∈ lw_privs_1, lw_okq q := List.forall_mem_cons.mpr ⟨lw_p0, List.forall_mem_cons.mpr ⟨lw_p1, List.forall_mem_cons.mpr ⟨lw_p2, List.forall_mem_cons.mpr ⟨lw_p3, List.forall_mem_cons.mpr ⟨lw_p4, List.forall_mem_cons.mpr ⟨lw_p5, List.forall_mem_cons.mpr ⟨lw_p6, List.forall_mem_cons.mpr ⟨lw_p7, List.forall_mem_cons.mpr ⟨lw_p8, List.forall_mem_cons.mpr ⟨lw_p9, List.forall_mem_cons.mpr ⟨lw_p10, List.forall_mem_cons.mpr ⟨lw_p11, List.forall_mem_cons.mpr ⟨lw_p12, List.forall_mem_cons.mpr ⟨lw_p13, List.forall_mem_cons.mpr ⟨lw_p14, List.forall_mem_cons.mpr ⟨lw_p15, fun _ h => absurd h List.not_mem_nil⟩⟩⟩⟩⟩⟩⟩⟩⟩⟩⟩⟩⟩⟩⟩⟩
theorem lw_p16 : lw_okq (⟨"RiverDiggers$Outlook", "list", "(II)V"⟩, 7) := ⟨⟨by decide +kernel, by decide +kernel⟩, List.mem_of_getElem? (i := 149) (by decide +kernel), List.mem_of_getElem? (i := 689) (by decide +kernel), List.mem_of_getElem? (i := 690) (by decide +kernel)⟩
theorem lw_p17 : lw_okq (⟨"RiverDiggers$Outlook", "chosen", "(LRiverDiggers$Times;II)I"⟩, 7) := ⟨⟨by decide +kernel, by decide +kernel⟩, List.mem_of_getElem? (i := 149) (by decide +kernel), List.mem_of_getElem? (i := 707) (by decide +kernel), List.mem_of_getElem? (i := 708) (by decide +kernel)⟩
theorem lw_p18 : lw_okq (⟨"RiverDiggers$Outlook", "placeOf", "(II)I"⟩, 7) := ⟨⟨by decide +kernel, by decide +kernel⟩, List.mem_of_getElem? (i := 149) (by decide +kernel), List.mem_of_getElem? (i := 722) (by decide +kernel), List.mem_of_getElem? (i := 723) (by decide +kernel)⟩
theorem lw_p19 : lw_okq (⟨"RiverDiggers", "note", "(I)V"⟩, 14) := ⟨⟨by decide +kernel, by decide +kernel⟩, List.mem_of_getElem? (i := 19) (by decide +kernel), List.mem_of_getElem? (i := 742) (by decide +kernel), List.mem_of_getElem? (i := 743) (by decide +kernel)⟩
theorem lw_p20 : lw_okq (⟨"RiverDiggers", "firstAlike", "(I)I"⟩, 14) := ⟨⟨by decide +kernel, by decide +kernel⟩, List.mem_of_getElem? (i := 19) (by decide +kernel), List.mem_of_getElem? (i := 747) (by decide +kernel), List.mem_of_getElem? (i := 748) (by decide +kernel)⟩
theorem lw_p21 : lw_okq (⟨"RiverDiggers", "isAlike", "(I)Z"⟩, 14) := ⟨⟨by decide +kernel, by decide +kernel⟩, List.mem_of_getElem? (i := 19) (by decide +kernel), List.mem_of_getElem? (i := 751) (by decide +kernel), List.mem_of_getElem? (i := 752) (by decide +kernel)⟩
theorem lw_p22 : lw_okq (⟨"RiverDiggers", "imageOf", "(I)LRiverDiggers$Times;"⟩, 14) := ⟨⟨by decide +kernel, by decide +kernel⟩, List.mem_of_getElem? (i := 19) (by decide +kernel), List.mem_of_getElem? (i := 784) (by decide +kernel), List.mem_of_getElem? (i := 785) (by decide +kernel)⟩
theorem lw_p23 : lw_okq (⟨"RiverDiggersModel", "firstDraft", "()V"⟩, 47) := ⟨⟨by decide +kernel, by decide +kernel⟩, List.mem_of_getElem? (i := 856) (by decide +kernel), List.mem_of_getElem? (i := 862) (by decide +kernel), List.mem_of_getElem? (i := 863) (by decide +kernel)⟩
theorem lw_p24 : lw_okq (⟨"RiverDiggersModel", "keepDraft", "()V"⟩, 47) := ⟨⟨by decide +kernel, by decide +kernel⟩, List.mem_of_getElem? (i := 856) (by decide +kernel), List.mem_of_getElem? (i := 866) (by decide +kernel), List.mem_of_getElem? (i := 867) (by decide +kernel)⟩
theorem lw_p25 : lw_okq (⟨"RiverDiggersModel", "next", "()V"⟩, 47) := ⟨⟨by decide +kernel, by decide +kernel⟩, List.mem_of_getElem? (i := 856) (by decide +kernel), List.mem_of_getElem? (i := 1029) (by decide +kernel), List.mem_of_getElem? (i := 1030) (by decide +kernel)⟩
theorem lw_p26 : lw_okq (⟨"RiverDiggersModel", "look", "(I)I"⟩, 47) := ⟨⟨by decide +kernel, by decide +kernel⟩, List.mem_of_getElem? (i := 856) (by decide +kernel), List.mem_of_getElem? (i := 1033) (by decide +kernel), List.mem_of_getElem? (i := 1034) (by decide +kernel)⟩
theorem lw_p27 : lw_okq (⟨"RiverDiggersModel", "needs", "(ZI)V"⟩, 47) := ⟨⟨by decide +kernel, by decide +kernel⟩, List.mem_of_getElem? (i := 856) (by decide +kernel), List.mem_of_getElem? (i := 1041) (by decide +kernel), List.mem_of_getElem? (i := 1042) (by decide +kernel)⟩
theorem lw_p28 : lw_okq (⟨"RiverDiggersModel", "readLine", "()V"⟩, 47) := ⟨⟨by decide +kernel, by decide +kernel⟩, List.mem_of_getElem? (i := 856) (by decide +kernel), List.mem_of_getElem? (i := 1045) (by decide +kernel), List.mem_of_getElem? (i := 1046) (by decide +kernel)⟩
theorem lw_p29 : lw_okq (⟨"RiverDiggersModel", "lineNow", "()I"⟩, 47) := ⟨⟨by decide +kernel, by decide +kernel⟩, List.mem_of_getElem? (i := 856) (by decide +kernel), List.mem_of_getElem? (i := 1049) (by decide +kernel), List.mem_of_getElem? (i := 1050) (by decide +kernel)⟩
theorem lw_p30 : lw_okq (⟨"RiverDiggersModel", "is", "(IIII)Z"⟩, 47) := ⟨⟨by decide +kernel, by decide +kernel⟩, List.mem_of_getElem? (i := 856) (by decide +kernel), List.mem_of_getElem? (i := 1053) (by decide +kernel), List.mem_of_getElem? (i := 1054) (by decide +kernel)⟩
theorem lw_p31 : lw_okq (⟨"RiverDiggersModel", "ends", "(III)Z"⟩, 47) := ⟨⟨by decide +kernel, by decide +kernel⟩, List.mem_of_getElem? (i := 856) (by decide +kernel), List.mem_of_getElem? (i := 1057) (by decide +kernel), List.mem_of_getElem? (i := 1058) (by decide +kernel)⟩
def lw_privs_2 : List (MethodName × Nat) := [(⟨"RiverDiggers$Outlook", "list", "(II)V"⟩, 7), (⟨"RiverDiggers$Outlook", "chosen", "(LRiverDiggers$Times;II)I"⟩, 7), (⟨"RiverDiggers$Outlook", "placeOf", "(II)I"⟩, 7), (⟨"RiverDiggers", "note", "(I)V"⟩, 14), (⟨"RiverDiggers", "firstAlike", "(I)I"⟩, 14), (⟨"RiverDiggers", "isAlike", "(I)Z"⟩, 14), (⟨"RiverDiggers", "imageOf", "(I)LRiverDiggers$Times;"⟩, 14), (⟨"RiverDiggersModel", "firstDraft", "()V"⟩, 47), (⟨"RiverDiggersModel", "keepDraft", "()V"⟩, 47), (⟨"RiverDiggersModel", "next", "()V"⟩, 47), (⟨"RiverDiggersModel", "look", "(I)I"⟩, 47), (⟨"RiverDiggersModel", "needs", "(ZI)V"⟩, 47), (⟨"RiverDiggersModel", "readLine", "()V"⟩, 47), (⟨"RiverDiggersModel", "lineNow", "()I"⟩, 47), (⟨"RiverDiggersModel", "is", "(IIII)Z"⟩, 47), (⟨"RiverDiggersModel", "ends", "(III)Z"⟩, 47)]
theorem lw_r2 : ∀ q ∈ lw_privs_2, lw_okq q := List.forall_mem_cons.mpr ⟨lw_p16, List.forall_mem_cons.mpr ⟨lw_p17, List.forall_mem_cons.mpr ⟨lw_p18, List.forall_mem_cons.mpr ⟨lw_p19, List.forall_mem_cons.mpr ⟨lw_p20, List.forall_mem_cons.mpr ⟨lw_p21, List.forall_mem_cons.mpr ⟨lw_p22, List.forall_mem_cons.mpr ⟨lw_p23, List.forall_mem_cons.mpr ⟨lw_p24, List.forall_mem_cons.mpr ⟨lw_p25, List.forall_mem_cons.mpr ⟨lw_p26, List.forall_mem_cons.mpr ⟨lw_p27, List.forall_mem_cons.mpr ⟨lw_p28, List.forall_mem_cons.mpr ⟨lw_p29, List.forall_mem_cons.mpr ⟨lw_p30, List.forall_mem_cons.mpr ⟨lw_p31, fun _ h => absurd h List.not_mem_nil⟩⟩⟩⟩⟩⟩⟩⟩⟩⟩⟩⟩⟩⟩⟩⟩
theorem lw_p32 : lw_okq (⟨"RiverDiggersModel", "ruleLine", "()I"⟩, 47) := ⟨⟨by decide +kernel, by decide +kernel⟩, List.mem_of_getElem? (i := 856) (by decide +kernel), List.mem_of_getElem? (i := 1061) (by decide +kernel), List.mem_of_getElem? (i := 1062) (by decide +kernel)⟩
theorem lw_p33 : lw_okq (⟨"RiverDiggersModel", "readLineOf", "(I)V"⟩, 47) := ⟨⟨by decide +kernel, by decide +kernel⟩, List.mem_of_getElem? (i := 856) (by decide +kernel), List.mem_of_getElem? (i := 1065) (by decide +kernel), List.mem_of_getElem? (i := 1066) (by decide +kernel)⟩
theorem lw_p34 : lw_okq (⟨"RiverDiggersModel", "readNumber", "(II)I"⟩, 47) := ⟨⟨by decide +kernel, by decide +kernel⟩, List.mem_of_getElem? (i := 856) (by decide +kernel), List.mem_of_getElem? (i := 1069) (by decide +kernel), List.mem_of_getElem? (i := 1070) (by decide +kernel)⟩
theorem lw_p35 : lw_okq (⟨"RiverDiggersModel", "looked", "(II)I"⟩, 47) := ⟨⟨by decide +kernel, by decide +kernel⟩, List.mem_of_getElem? (i := 856) (by decide +kernel), List.mem_of_getElem? (i := 1073) (by decide +kernel), List.mem_of_getElem? (i := 1074) (by decide +kernel)⟩
theorem lw_p36 : lw_okq (⟨"RiverDiggersModel", "sawCell", "(I)V"⟩, 47) := ⟨⟨by decide +kernel, by decide +kernel⟩, List.mem_of_getElem? (i := 856) (by decide +kernel), List.mem_of_getElem? (i := 1077) (by decide +kernel), List.mem_of_getElem? (i := 1078) (by decide +kernel)⟩
theorem lw_p37 : lw_okq (⟨"RiverDiggersModel", "readRow", "()V"⟩, 47) := ⟨⟨by decide +kernel, by decide +kernel⟩, List.mem_of_getElem? (i := 856) (by decide +kernel), List.mem_of_getElem? (i := 1081) (by decide +kernel), List.mem_of_getElem? (i := 1082) (by decide +kernel)⟩
theorem lw_p38 : lw_okq (⟨"RiverDiggersModel", "readGround", "()V"⟩, 47) := ⟨⟨by decide +kernel, by decide +kernel⟩, List.mem_of_getElem? (i := 856) (by decide +kernel), List.mem_of_getElem? (i := 1085) (by decide +kernel), List.mem_of_getElem? (i := 1086) (by decide +kernel)⟩
theorem lw_p39 : lw_okq (⟨"RiverDiggersModel", "isCell", "(I)Z"⟩, 47) := ⟨⟨by decide +kernel, by decide +kernel⟩, List.mem_of_getElem? (i := 856) (by decide +kernel), List.mem_of_getElem? (i := 1101) (by decide +kernel), List.mem_of_getElem? (i := 1102) (by decide +kernel)⟩
theorem lw_p40 : lw_okq (⟨"RiverDiggersModel", "isFarm", "(I)Z"⟩, 47) := ⟨⟨by decide +kernel, by decide +kernel⟩, List.mem_of_getElem? (i := 856) (by decide +kernel), List.mem_of_getElem? (i := 1109) (by decide +kernel), List.mem_of_getElem? (i := 1110) (by decide +kernel)⟩
theorem lw_p41 : lw_okq (⟨"RiverDiggersModel", "hasNow", "(I)I"⟩, 47) := ⟨⟨by decide +kernel, by decide +kernel⟩, List.mem_of_getElem? (i := 856) (by decide +kernel), List.mem_of_getElem? (i := 1117) (by decide +kernel), List.mem_of_getElem? (i := 1118) (by decide +kernel)⟩
theorem lw_p42 : lw_okq (⟨"RiverDiggersModel", "bedNow", "()I"⟩, 47) := ⟨⟨by decide +kernel, by decide +kernel⟩, List.mem_of_getElem? (i := 856) (by decide +kernel), List.mem_of_getElem? (i := 1121) (by decide +kernel), List.mem_of_getElem? (i := 1122) (by decide +kernel)⟩
theorem lw_p43 : lw_okq (⟨"RiverDiggersModel", "findBed", "()V"⟩, 47) := ⟨⟨by decide +kernel, by decide +kernel⟩, List.mem_of_getElem? (i := 856) (by decide +kernel), List.mem_of_getElem? (i := 1125) (by decide +kernel), List.mem_of_getElem? (i := 1126) (by decide +kernel)⟩
theorem lw_p44 : lw_okq (⟨"RiverDiggersModel", "lowestBeside", "(I)I"⟩, 47) := ⟨⟨by decide +kernel, by decide +kernel⟩, List.mem_of_getElem? (i := 856) (by decide +kernel), List.mem_of_getElem? (i := 1129) (by decide +kernel), List.mem_of_getElem? (i := 1130) (by decide +kernel)⟩
theorem lw_p45 : lw_okq (⟨"RiverDiggersModel", "beside", "(II)I"⟩, 47) := ⟨⟨by decide +kernel, by decide +kernel⟩, List.mem_of_getElem? (i := 856) (by decide +kernel), List.mem_of_getElem? (i := 1133) (by decide +kernel), List.mem_of_getElem? (i := 1134) (by decide +kernel)⟩
theorem lw_p46 : lw_okq (⟨"RiverDiggersModel", "mayCut", "(I)I"⟩, 47) := ⟨⟨by decide +kernel, by decide +kernel⟩, List.mem_of_getElem? (i := 856) (by decide +kernel), List.mem_of_getElem? (i := 1137) (by decide +kernel), List.mem_of_getElem? (i := 1138) (by decide +kernel)⟩
theorem lw_p47 : lw_okq (⟨"RiverDiggersModel", "isBeside", "(II)Z"⟩, 47) := ⟨⟨by decide +kernel, by decide +kernel⟩, List.mem_of_getElem? (i := 856) (by decide +kernel), List.mem_of_getElem? (i := 1141) (by decide +kernel), List.mem_of_getElem? (i := 1142) (by decide +kernel)⟩
def lw_privs_3 : List (MethodName × Nat) := [(⟨"RiverDiggersModel", "ruleLine", "()I"⟩, 47), (⟨"RiverDiggersModel", "readLineOf", "(I)V"⟩, 47), (⟨"RiverDiggersModel", "readNumber", "(II)I"⟩, 47), (⟨"RiverDiggersModel", "looked", "(II)I"⟩, 47), (⟨"RiverDiggersModel", "sawCell", "(I)V"⟩, 47), (⟨"RiverDiggersModel", "readRow", "()V"⟩, 47), (⟨"RiverDiggersModel", "readGround", "()V"⟩, 47), (⟨"RiverDiggersModel", "isCell", "(I)Z"⟩, 47), (⟨"RiverDiggersModel", "isFarm", "(I)Z"⟩, 47), (⟨"RiverDiggersModel", "hasNow", "(I)I"⟩, 47), (⟨"RiverDiggersModel", "bedNow", "()I"⟩, 47), (⟨"RiverDiggersModel", "findBed", "()V"⟩, 47), (⟨"RiverDiggersModel", "lowestBeside", "(I)I"⟩, 47), (⟨"RiverDiggersModel", "beside", "(II)I"⟩, 47), (⟨"RiverDiggersModel", "mayCut", "(I)I"⟩, 47), (⟨"RiverDiggersModel", "isBeside", "(II)Z"⟩, 47)]
theorem lw_r3 : ∀ q ∈ lw_privs_3, lw_okq q := List.forall_mem_cons.mpr ⟨lw_p32, List.forall_mem_cons.mpr ⟨lw_p33, List.forall_mem_cons.mpr ⟨lw_p34, List.forall_mem_cons.mpr ⟨lw_p35, List.forall_mem_cons.mpr ⟨lw_p36, List.forall_mem_cons.mpr ⟨lw_p37, List.forall_mem_cons.mpr ⟨lw_p38, List.forall_mem_cons.mpr ⟨lw_p39, List.forall_mem_cons.mpr ⟨lw_p40, List.forall_mem_cons.mpr ⟨lw_p41, List.forall_mem_cons.mpr ⟨lw_p42, List.forall_mem_cons.mpr ⟨lw_p43, List.forall_mem_cons.mpr ⟨lw_p44, List.forall_mem_cons.mpr ⟨lw_p45, List.forall_mem_cons.mpr ⟨lw_p46, List.forall_mem_cons.mpr ⟨lw_p47, fun _ h => absurd h List.not_mem_nil⟩⟩⟩⟩⟩⟩⟩⟩⟩⟩⟩⟩⟩⟩⟩⟩
theorem lw_p48 : lw_okq (⟨"RiverDiggersModel", "becomes", "(II)I"⟩, 47) := ⟨⟨by decide +kernel, by decide +kernel⟩, List.mem_of_getElem? (i := 856) (by decide +kernel), List.mem_of_getElem? (i := 1154) (by decide +kernel), List.mem_of_getElem? (i := 1155) (by decide +kernel)⟩
theorem lw_p49 : lw_okq (⟨"RiverDiggersModel", "canBe", "(I)Z"⟩, 47) := ⟨⟨by decide +kernel, by decide +kernel⟩, List.mem_of_getElem? (i := 856) (by decide +kernel), List.mem_of_getElem? (i := 1184) (by decide +kernel), List.mem_of_getElem? (i := 1185) (by decide +kernel)⟩
theorem lw_p50 : lw_okq (⟨"RiverDiggersModel", "firstWrong", "(I)I"⟩, 47) := ⟨⟨by decide +kernel, by decide +kernel⟩, List.mem_of_getElem? (i := 856) (by decide +kernel), List.mem_of_getElem? (i := 1188) (by decide +kernel), List.mem_of_getElem? (i := 1189) (by decide +kernel)⟩
theorem lw_p51 : lw_okq (⟨"RiverDiggersModel", "goes", "(I)V"⟩, 47) := ⟨⟨by decide +kernel, by decide +kernel⟩, List.mem_of_getElem? (i := 856) (by decide +kernel), List.mem_of_getElem? (i := 1195) (by decide +kernel), List.mem_of_getElem? (i := 1196) (by decide +kernel)⟩
theorem lw_p52 : lw_okq (⟨"RiverDiggersModel", "silts", "()V"⟩, 47) := ⟨⟨by decide +kernel, by decide +kernel⟩, List.mem_of_getElem? (i := 856) (by decide +kernel), List.mem_of_getElem? (i := 1199) (by decide +kernel), List.mem_of_getElem? (i := 1200) (by decide +kernel)⟩
theorem lw_p53 : lw_okq (⟨"RiverDiggersModel", "hasBy", "(II)I"⟩, 47) := ⟨⟨by decide +kernel, by decide +kernel⟩, List.mem_of_getElem? (i := 856) (by decide +kernel), List.mem_of_getElem? (i := 1207) (by decide +kernel), List.mem_of_getElem? (i := 1208) (by decide +kernel)⟩
theorem lw_p54 : lw_okq (⟨"RiverDiggersModel", "marks", "()V"⟩, 47) := ⟨⟨by decide +kernel, by decide +kernel⟩, List.mem_of_getElem? (i := 856) (by decide +kernel), List.mem_of_getElem? (i := 1211) (by decide +kernel), List.mem_of_getElem? (i := 1212) (by decide +kernel)⟩
theorem lw_p55 : lw_okq (⟨"RiverDiggersModel", "returns", "()V"⟩, 47) := ⟨⟨by decide +kernel, by decide +kernel⟩, List.mem_of_getElem? (i := 856) (by decide +kernel), List.mem_of_getElem? (i := 1215) (by decide +kernel), List.mem_of_getElem? (i := 1216) (by decide +kernel)⟩
theorem lw_p56 : lw_okq (⟨"RiverDiggersModel", "isBrought", "(III)Z"⟩, 47) := ⟨⟨by decide +kernel, by decide +kernel⟩, List.mem_of_getElem? (i := 856) (by decide +kernel), List.mem_of_getElem? (i := 1237) (by decide +kernel), List.mem_of_getElem? (i := 1238) (by decide +kernel)⟩
theorem lw_p57 : lw_okq (⟨"RiverDiggersModel", "enters", "(II)V"⟩, 47) := ⟨⟨by decide +kernel, by decide +kernel⟩, List.mem_of_getElem? (i := 856) (by decide +kernel), List.mem_of_getElem? (i := 1241) (by decide +kernel), List.mem_of_getElem? (i := 1242) (by decide +kernel)⟩
theorem lw_p58 : lw_okq (⟨"RiverDiggersModel", "leaves", "(I)V"⟩, 47) := ⟨⟨by decide +kernel, by decide +kernel⟩, List.mem_of_getElem? (i := 856) (by decide +kernel), List.mem_of_getElem? (i := 1245) (by decide +kernel), List.mem_of_getElem? (i := 1246) (by decide +kernel)⟩
theorem lw_p59 : lw_okq (⟨"RiverDiggersModel", "findOptions", "()V"⟩, 47) := ⟨⟨by decide +kernel, by decide +kernel⟩, List.mem_of_getElem? (i := 856) (by decide +kernel), List.mem_of_getElem? (i := 1256) (by decide +kernel), List.mem_of_getElem? (i := 1257) (by decide +kernel)⟩
theorem lw_p60 : lw_okq (⟨"RiverDiggersModel", "allOptions", "()I"⟩, 47) := ⟨⟨by decide +kernel, by decide +kernel⟩, List.mem_of_getElem? (i := 856) (by decide +kernel), List.mem_of_getElem? (i := 1260) (by decide +kernel), List.mem_of_getElem? (i := 1261) (by decide +kernel)⟩
theorem lw_p61 : lw_okq (⟨"RiverDiggersModel", "yearAt", "(I)I"⟩, 47) := ⟨⟨by decide +kernel, by decide +kernel⟩, List.mem_of_getElem? (i := 856) (by decide +kernel), List.mem_of_getElem? (i := 1264) (by decide +kernel), List.mem_of_getElem? (i := 1265) (by decide +kernel)⟩
theorem lw_p62 : lw_okq (⟨"RiverDiggersModel", "yearOf", "(III)I"⟩, 47) := ⟨⟨by decide +kernel, by decide +kernel⟩, List.mem_of_getElem? (i := 856) (by decide +kernel), List.mem_of_getElem? (i := 1268) (by decide +kernel), List.mem_of_getElem? (i := 1269) (by decide +kernel)⟩
theorem lw_p63 : lw_okq (⟨"RiverDiggersModel", "bedBy", "(I)I"⟩, 47) := ⟨⟨by decide +kernel, by decide +kernel⟩, List.mem_of_getElem? (i := 856) (by decide +kernel), List.mem_of_getElem? (i := 1272) (by decide +kernel), List.mem_of_getElem? (i := 1273) (by decide +kernel)⟩
def lw_privs_4 : List (MethodName × Nat) := [(⟨"RiverDiggersModel", "becomes", "(II)I"⟩, 47), (⟨"RiverDiggersModel", "canBe", "(I)Z"⟩, 47), (⟨"RiverDiggersModel", "firstWrong", "(I)I"⟩, 47), (⟨"RiverDiggersModel", "goes", "(I)V"⟩, 47), (⟨"RiverDiggersModel", "silts", "()V"⟩, 47), (⟨"RiverDiggersModel", "hasBy", "(II)I"⟩, 47), (⟨"RiverDiggersModel", "marks", "()V"⟩, 47), (⟨"RiverDiggersModel", "returns", "()V"⟩, 47), (⟨"RiverDiggersModel", "isBrought", "(III)Z"⟩, 47), (⟨"RiverDiggersModel", "enters", "(II)V"⟩, 47), (⟨"RiverDiggersModel", "leaves", "(I)V"⟩, 47), (⟨"RiverDiggersModel", "findOptions", "()V"⟩, 47), (⟨"RiverDiggersModel", "allOptions", "()I"⟩, 47), (⟨"RiverDiggersModel", "yearAt", "(I)I"⟩, 47), (⟨"RiverDiggersModel", "yearOf", "(III)I"⟩, 47), (⟨"RiverDiggersModel", "bedBy", "(I)I"⟩, 47)]
theorem lw_r4 : ∀ q ∈ lw_privs_4, lw_okq q := List.forall_mem_cons.mpr ⟨lw_p48, List.forall_mem_cons.mpr ⟨lw_p49, List.forall_mem_cons.mpr ⟨lw_p50, List.forall_mem_cons.mpr ⟨lw_p51, List.forall_mem_cons.mpr ⟨lw_p52, List.forall_mem_cons.mpr ⟨lw_p53, List.forall_mem_cons.mpr ⟨lw_p54, List.forall_mem_cons.mpr ⟨lw_p55, List.forall_mem_cons.mpr ⟨lw_p56, List.forall_mem_cons.mpr ⟨lw_p57, List.forall_mem_cons.mpr ⟨lw_p58, List.forall_mem_cons.mpr ⟨lw_p59, List.forall_mem_cons.mpr ⟨lw_p60, List.forall_mem_cons.mpr ⟨lw_p61, List.forall_mem_cons.mpr ⟨lw_p62, List.forall_mem_cons.mpr ⟨lw_p63, fun _ h => absurd h List.not_mem_nil⟩⟩⟩⟩⟩⟩⟩⟩⟩⟩⟩⟩⟩⟩⟩⟩
theorem lw_p64 : lw_okq (⟨"RiverDiggersModel", "selfishYear", "()I"⟩, 47) := ⟨⟨by decide +kernel, by decide +kernel⟩, List.mem_of_getElem? (i := 856) (by decide +kernel), List.mem_of_getElem? (i := 1283) (by decide +kernel), List.mem_of_getElem? (i := 1284) (by decide +kernel)⟩
theorem lw_p65 : lw_okq (⟨"RiverDiggersModel", "secondOf", "(I)I"⟩, 47) := ⟨⟨by decide +kernel, by decide +kernel⟩, List.mem_of_getElem? (i := 856) (by decide +kernel), List.mem_of_getElem? (i := 1287) (by decide +kernel), List.mem_of_getElem? (i := 1288) (by decide +kernel)⟩
theorem lw_p66 : lw_okq (⟨"RiverDiggersModel", "lastOf", "(II)I"⟩, 47) := ⟨⟨by decide +kernel, by decide +kernel⟩, List.mem_of_getElem? (i := 856) (by decide +kernel), List.mem_of_getElem? (i := 1291) (by decide +kernel), List.mem_of_getElem? (i := 1292) (by decide +kernel)⟩
theorem lw_p67 : lw_okq (⟨"RiverDiggersModel", "breaksOf", "(I)I"⟩, 47) := ⟨⟨by decide +kernel, by decide +kernel⟩, List.mem_of_getElem? (i := 856) (by decide +kernel), List.mem_of_getElem? (i := 1299) (by decide +kernel), List.mem_of_getElem? (i := 1300) (by decide +kernel)⟩
theorem lw_p68 : lw_okq (⟨"RiverDiggersModel", "areAlike", "(II)Z"⟩, 47) := ⟨⟨by decide +kernel, by decide +kernel⟩, List.mem_of_getElem? (i := 856) (by decide +kernel), List.mem_of_getElem? (i := 1315) (by decide +kernel), List.mem_of_getElem? (i := 1316) (by decide +kernel)⟩
theorem lw_p69 : lw_okq (⟨"RiverDiggersModel", "isSo", "(I)Z"⟩, 47) := ⟨⟨by decide +kernel, by decide +kernel⟩, List.mem_of_getElem? (i := 856) (by decide +kernel), List.mem_of_getElem? (i := 1339) (by decide +kernel), List.mem_of_getElem? (i := 1340) (by decide +kernel)⟩
theorem lw_p70 : lw_okq (⟨"RiverDiggersModel", "copies", "(II)V"⟩, 47) := ⟨⟨by decide +kernel, by decide +kernel⟩, List.mem_of_getElem? (i := 856) (by decide +kernel), List.mem_of_getElem? (i := 1350) (by decide +kernel), List.mem_of_getElem? (i := 1351) (by decide +kernel)⟩
def lw_privs_5 : List (MethodName × Nat) := [(⟨"RiverDiggersModel", "selfishYear", "()I"⟩, 47), (⟨"RiverDiggersModel", "secondOf", "(I)I"⟩, 47), (⟨"RiverDiggersModel", "lastOf", "(II)I"⟩, 47), (⟨"RiverDiggersModel", "breaksOf", "(I)I"⟩, 47), (⟨"RiverDiggersModel", "areAlike", "(II)Z"⟩, 47), (⟨"RiverDiggersModel", "isSo", "(I)Z"⟩, 47), (⟨"RiverDiggersModel", "copies", "(II)V"⟩, 47)]
theorem lw_r5 : ∀ q ∈ lw_privs_5, lw_okq q := List.forall_mem_cons.mpr ⟨lw_p64, List.forall_mem_cons.mpr ⟨lw_p65, List.forall_mem_cons.mpr ⟨lw_p66, List.forall_mem_cons.mpr ⟨lw_p67, List.forall_mem_cons.mpr ⟨lw_p68, List.forall_mem_cons.mpr ⟨lw_p69, List.forall_mem_cons.mpr ⟨lw_p70, fun _ h => absurd h List.not_mem_nil⟩⟩⟩⟩⟩⟩⟩
def lw_privs : List (MethodName × Nat) := lw_privs_1 ++ (lw_privs_2 ++ (lw_privs_3 ++ (lw_privs_4 ++ (lw_privs_5))))
def lw_tbl : List Cond := k2_sels lw_privs ++ tables_1
theorem lw_privs_ok : ∀ q ∈ lw_privs, lw_okq q := by
  show ∀ q ∈ lw_privs_1 ++ (lw_privs_2 ++ (lw_privs_3 ++ (lw_privs_4 ++ (lw_privs_5)))), lw_okq q
  exact List.forall_mem_append.mpr ⟨lw_r1, List.forall_mem_append.mpr ⟨lw_r2, List.forall_mem_append.mpr ⟨lw_r3, List.forall_mem_append.mpr ⟨lw_r4, lw_r5⟩⟩⟩⟩
end
section
def RX0 : String := "RiverDiggers$Digger"
def TX0 : u_T := fun k => match k with
  | 0 => ("RiverDiggers$Digger", "flow", "LRiverDiggers$Flow;", true)
  | 1 => ("RiverDiggers$Digger", "next", "LRiverDiggers$Digger;", true)
  | _ => ("RiverDiggers$Digger", "cut", "I", false)
def tyX0 : Nat → FieldType := fun k => match k with
  | 0 => .object "RiverDiggers$Flow"
  | 1 => .object "RiverDiggers$Digger"
  | _ => .int
abbrev wsX00 : List Cond := u_ws RX0 TX0 3
theorem nmX0 : ∀ a, a < 3 → ∀ b, b < 3 → a ≠ b → (TX0 a).2.1 ≠ (TX0 b).2.1 := by decide +kernel
theorem tyX0_ok : ∀ k, k < 3 → parseFieldDescriptor (TX0 k).2.2.1 = some (tyX0 k) := by decide +kernel
abbrev cX0_init : ByteArray := prog_2_method_1_code
def yX0_init : MethodName := ⟨RX0, "<init>", "(LRiverDiggers$Land;LRiverDiggers$Digger;)V"⟩
abbrev cX0_fewest : ByteArray := prog_2_method_2_code
def yX0_fewest : MethodName := ⟨RX0, "fewest", "(LRiverDiggers$Flow;II)I"⟩
abbrev cX0_brings : ByteArray := prog_2_method_3_code
def yX0_brings : MethodName := ⟨RX0, "brings", "(III)Z"⟩
abbrev cX0_cutOf : ByteArray := prog_2_method_4_code
def yX0_cutOf : MethodName := ⟨RX0, "cutOf", "(I)I"⟩
def RX1 : String := "RiverDiggers$Draft"
def TX1 : u_T := fun k => match k with
  | 0 => ("RiverDiggers$Draft", "yards", "[I", true)
  | 1 => ("RiverDiggers$Draft", "lengths", "[I", true)
  | 2 => ("RiverDiggers$Draft", "ground", "[I", true)
  | 3 => ("RiverDiggers$Draft", "worths", "[I", true)
  | 4 => ("RiverDiggers$Draft", "wide", "I", false)
  | 5 => ("RiverDiggers$Draft", "high", "I", false)
  | 6 => ("RiverDiggers$Draft", "spring", "I", false)
  | 7 => ("RiverDiggers$Draft", "law", "I", false)
  | 8 => ("RiverDiggers$Draft", "farms", "I", false)
  | _ => ("RiverDiggers$Draft", "came", "I", false)
def tyX1 : Nat → FieldType := fun k => match k with
  | 0 => .array .int
  | 1 => .array .int
  | 2 => .array .int
  | 3 => .array .int
  | 4 => .int
  | 5 => .int
  | 6 => .int
  | 7 => .int
  | 8 => .int
  | _ => .int
abbrev wsX10 : List Cond := u_ws RX1 TX1 10
theorem nmX1 : ∀ a, a < 10 → ∀ b, b < 10 → a ≠ b → (TX1 a).2.1 ≠ (TX1 b).2.1 := by decide +kernel
theorem tyX1_ok : ∀ k, k < 10 → parseFieldDescriptor (TX1 k).2.2.1 = some (tyX1 k) := by decide +kernel
abbrev cX1_init : ByteArray := prog_3_method_1_code
def yX1_init : MethodName := ⟨RX1, "<init>", "()V"⟩
abbrev cX1_clear : ByteArray := prog_3_method_2_code
def yX1_clear : MethodName := ⟨RX1, "clear", "()V"⟩
abbrev cX1_take : ByteArray := prog_3_method_3_code
def yX1_take : MethodName := ⟨RX1, "take", "(LRiverDiggers$Tape;)I"⟩
abbrev cX1_takeLine : ByteArray := prog_3_method_4_code
def yX1_takeLine : MethodName := ⟨RX1, "takeLine", "(LRiverDiggers$Tape;)V"⟩
abbrev cX1_comesOnce : ByteArray := prog_3_method_5_code
def yX1_comesOnce : MethodName := ⟨RX1, "comesOnce", "(LRiverDiggers$Tape;I)Z"⟩
abbrev cX1_takePlain : ByteArray := prog_3_method_6_code
def yX1_takePlain : MethodName := ⟨RX1, "takePlain", "(LRiverDiggers$Tape;)V"⟩
abbrev cX1_takeRow : ByteArray := prog_3_method_7_code
def yX1_takeRow : MethodName := ⟨RX1, "takeRow", "(LRiverDiggers$Tape;)V"⟩
abbrev cX1_takeSpring : ByteArray := prog_3_method_8_code
def yX1_takeSpring : MethodName := ⟨RX1, "takeSpring", "(LRiverDiggers$Tape;)V"⟩
abbrev cX1_takeFarm : ByteArray := prog_3_method_9_code
def yX1_takeFarm : MethodName := ⟨RX1, "takeFarm", "(LRiverDiggers$Tape;)V"⟩
abbrev cX1_takeGround : ByteArray := prog_3_method_10_code
def yX1_takeGround : MethodName := ⟨RX1, "takeGround", "(LRiverDiggers$Tape;)V"⟩
abbrev cX1_takeLaw : ByteArray := prog_3_method_11_code
def yX1_takeLaw : MethodName := ⟨RX1, "takeLaw", "(LRiverDiggers$Tape;)V"⟩
abbrev cX1_takeSilt : ByteArray := prog_3_method_12_code
def yX1_takeSilt : MethodName := ⟨RX1, "takeSilt", "(LRiverDiggers$Tape;)V"⟩
abbrev cX1_isWhole : ByteArray := prog_3_method_13_code
def yX1_isWhole : MethodName := ⟨RX1, "isWhole", "()Z"⟩
abbrev cX1_settle : ByteArray := prog_3_method_14_code
def yX1_settle : MethodName := ⟨RX1, "settle", "(LRiverDiggers$Land;LRiverDiggers$Times;)V"⟩
abbrev cX1_raise : ByteArray := prog_3_method_15_code
def yX1_raise : MethodName := ⟨RX1, "raise", "([I)V"⟩
def RX2 : String := "RiverDiggers$Flow"
def TX2 : u_T := fun k => match k with
  | 0 => ("RiverDiggers$Flow", "land", "LRiverDiggers$Land;", true)
  | 1 => ("RiverDiggers$Flow", "heights", "[I", true)
  | 2 => ("RiverDiggers$Flow", "way", "[I", true)
  | 3 => ("RiverDiggers$Flow", "length", "I", false)
  | 4 => ("RiverDiggers$Flow", "bits", "I", false)
  | 5 => ("RiverDiggers$Flow", "spring", "I", false)
  | 6 => ("RiverDiggers$Flow", "law", "I", false)
  | _ => ("RiverDiggers$Flow", "silted", "Z", false)
def tyX2 : Nat → FieldType := fun k => match k with
  | 0 => .object "RiverDiggers$Land"
  | 1 => .array .int
  | 2 => .array .int
  | 3 => .int
  | 4 => .int
  | 5 => .int
  | 6 => .int
  | _ => .boolean
abbrev wsX20 : List Cond := u_ws RX2 TX2 8
theorem nmX2 : ∀ a, a < 8 → ∀ b, b < 8 → a ≠ b → (TX2 a).2.1 ≠ (TX2 b).2.1 := by decide +kernel
theorem tyX2_ok : ∀ k, k < 8 → parseFieldDescriptor (TX2 k).2.2.1 = some (tyX2 k) := by decide +kernel
abbrev cX2_init : ByteArray := prog_4_method_1_code
def yX2_init : MethodName := ⟨RX2, "<init>", "(LRiverDiggers$Land;)V"⟩
abbrev cX2_copy : ByteArray := prog_4_method_2_code
def yX2_copy : MethodName := ⟨RX2, "copy", "(LRiverDiggers$Flow;)V"⟩
abbrev cX2_trace : ByteArray := prog_4_method_3_code
def yX2_trace : MethodName := ⟨RX2, "trace", "()V"⟩
abbrev cX2_lowestNextTo : ByteArray := prog_4_method_4_code
def yX2_lowestNextTo : MethodName := ⟨RX2, "lowestNextTo", "(I)I"⟩
abbrev cX2_cuttable : ByteArray := prog_4_method_5_code
def yX2_cuttable : MethodName := ⟨RX2, "cuttable", "(I)I"⟩
abbrev cX2_refused : ByteArray := prog_4_method_6_code
def yX2_refused : MethodName := ⟨RX2, "refused", "(I)I"⟩
abbrev cX2_possibleYears : ByteArray := prog_4_method_7_code
def yX2_possibleYears : MethodName := ⟨RX2, "possibleYears", "()I"⟩
abbrev cX2_allParts : ByteArray := prog_4_method_8_code
def yX2_allParts : MethodName := ⟨RX2, "allParts", "()I"⟩
abbrev cX2_pass : ByteArray := prog_4_method_9_code
def yX2_pass : MethodName := ⟨RX2, "pass", "(I)V"⟩
abbrev cX2_carrySilt : ByteArray := prog_4_method_10_code
def yX2_carrySilt : MethodName := ⟨RX2, "carrySilt", "()V"⟩
def RX3 : String := "RiverDiggers$Land"
def TX3 : u_T := fun k => match k with
  | 0 => ("RiverDiggers$Land", "ground", "[I", true)
  | 1 => ("RiverDiggers$Land", "near", "[I", true)
  | 2 => ("RiverDiggers$Land", "wide", "I", false)
  | 3 => ("RiverDiggers$Land", "high", "I", false)
  | _ => ("RiverDiggers$Land", "farms", "I", false)
def tyX3 : Nat → FieldType := fun k => match k with
  | 0 => .array .int
  | 1 => .array .int
  | 2 => .int
  | 3 => .int
  | _ => .int
abbrev wsX30 : List Cond := u_ws RX3 TX3 5
theorem nmX3 : ∀ a, a < 5 → ∀ b, b < 5 → a ≠ b → (TX3 a).2.1 ≠ (TX3 b).2.1 := by decide +kernel
theorem tyX3_ok : ∀ k, k < 5 → parseFieldDescriptor (TX3 k).2.2.1 = some (tyX3 k) := by decide +kernel
abbrev cX3_init : ByteArray := prog_5_method_1_code
def yX3_init : MethodName := ⟨RX3, "<init>", "()V"⟩
abbrev cX3_hasCell : ByteArray := prog_5_method_2_code
def yX3_hasCell : MethodName := ⟨RX3, "hasCell", "(I)Z"⟩
abbrev cX3_hasFarm : ByteArray := prog_5_method_3_code
def yX3_hasFarm : MethodName := ⟨RX3, "hasFarm", "(I)Z"⟩
abbrev cX3_ownerOf : ByteArray := prog_5_method_4_code
def yX3_ownerOf : MethodName := ⟨RX3, "ownerOf", "(I)I"⟩
abbrev cX3_join : ByteArray := prog_5_method_5_code
def yX3_join : MethodName := ⟨RX3, "join", "()V"⟩
abbrev cX3_beside : ByteArray := prog_5_method_6_code
def yX3_beside : MethodName := ⟨RX3, "beside", "(I)I"⟩
def RX4 : String := "RiverDiggers$Outlook"
def TX4 : u_T := fun k => match k with
  | 0 => ("RiverDiggers$Outlook", "options", "[I", true)
  | 1 => ("RiverDiggers$Outlook", "counts", "[I", true)
  | 2 => ("RiverDiggers$Outlook", "steps", "[I", true)
  | 3 => ("RiverDiggers$Outlook", "years", "[I", true)
  | 4 => ("RiverDiggers$Outlook", "beds", "[I", true)
  | 5 => ("RiverDiggers$Outlook", "size", "I", false)
  | _ => ("RiverDiggers$Outlook", "ready", "Z", false)
def tyX4 : Nat → FieldType := fun k => match k with
  | 0 => .array .int
  | 1 => .array .int
  | 2 => .array .int
  | 3 => .array .int
  | 4 => .array .int
  | 5 => .int
  | _ => .boolean
abbrev wsX40 : List Cond := u_ws RX4 TX4 7
theorem nmX4 : ∀ a, a < 7 → ∀ b, b < 7 → a ≠ b → (TX4 a).2.1 ≠ (TX4 b).2.1 := by decide +kernel
theorem tyX4_ok : ∀ k, k < 7 → parseFieldDescriptor (TX4 k).2.2.1 = some (tyX4 k) := by decide +kernel
abbrev cX4_init : ByteArray := prog_6_method_1_code
def yX4_init : MethodName := ⟨RX4, "<init>", "()V"⟩
abbrev cX4_build : ByteArray := prog_6_method_2_code
def yX4_build : MethodName := ⟨RX4, "build", "(LRiverDiggers$Flow;LRiverDiggers$Flow;)V"⟩
abbrev cX4_list : ByteArray := prog_6_method_3_code
def yX4_list : MethodName := ⟨RX4, "list", "(II)V"⟩
abbrev cX4_indexOf : ByteArray := prog_6_method_4_code
def yX4_indexOf : MethodName := ⟨RX4, "indexOf", "(I)I"⟩
abbrev cX4_breakers : ByteArray := prog_6_method_5_code
def yX4_breakers : MethodName := ⟨RX4, "breakers", "(LRiverDiggers$Times;I)I"⟩
abbrev cX4_placeOf : ByteArray := prog_6_method_6_code
def yX4_placeOf : MethodName := ⟨RX4, "placeOf", "(II)I"⟩
abbrev cX4_chosen : ByteArray := prog_6_method_7_code
def yX4_chosen : MethodName := ⟨RX4, "chosen", "(LRiverDiggers$Times;II)I"⟩
def RX5 : String := "RiverDiggers$Sheets"
def TX5 : u_T := fun k => match k with
  | 0 => ("RiverDiggers$Sheets", "lanes", "[I", true)
  | 1 => ("RiverDiggers$Sheets", "sizes", "[I", true)
  | _ => ("RiverDiggers$Sheets", "values", "[I", true)
def tyX5 : Nat → FieldType := fun k => match k with
  | 0 => .array .int
  | 1 => .array .int
  | _ => .array .int
abbrev wsX50 : List Cond := u_ws RX5 TX5 3
theorem nmX5 : ∀ a, a < 3 → ∀ b, b < 3 → a ≠ b → (TX5 a).2.1 ≠ (TX5 b).2.1 := by decide +kernel
theorem tyX5_ok : ∀ k, k < 3 → parseFieldDescriptor (TX5 k).2.2.1 = some (tyX5 k) := by decide +kernel
abbrev cX5_init : ByteArray := prog_7_method_1_code
def yX5_init : MethodName := ⟨RX5, "<init>", "()V"⟩
abbrev cX5_hasSheet : ByteArray := prog_7_method_2_code
def yX5_hasSheet : MethodName := ⟨RX5, "hasSheet", "(I)Z"⟩
abbrev cX5_hasLane : ByteArray := prog_7_method_3_code
def yX5_hasLane : MethodName := ⟨RX5, "hasLane", "(I)Z"⟩
abbrev cX5_renew : ByteArray := prog_7_method_4_code
def yX5_renew : MethodName := ⟨RX5, "renew", "(III)V"⟩
abbrev cX5_takeFault : ByteArray := prog_7_method_5_code
def yX5_takeFault : MethodName := ⟨RX5, "takeFault", "(III)I"⟩
abbrev cX5_reachFault : ByteArray := prog_7_method_6_code
def yX5_reachFault : MethodName := ⟨RX5, "reachFault", "(II)I"⟩
abbrev cX5_valueAt : ByteArray := prog_7_method_7_code
def yX5_valueAt : MethodName := ⟨RX5, "valueAt", "(II)I"⟩
abbrev cX5_put : ByteArray := prog_7_method_8_code
def yX5_put : MethodName := ⟨RX5, "put", "(III)V"⟩
def RX6 : String := "RiverDiggers$Tape"
def TX6 : u_T := fun k => match k with
  | 0 => ("RiverDiggers$Tape", "bytes", "[B", true)
  | 1 => ("RiverDiggers$Tape", "length", "I", false)
  | 2 => ("RiverDiggers$Tape", "at", "I", false)
  | 3 => ("RiverDiggers$Tape", "kind", "I", false)
  | 4 => ("RiverDiggers$Tape", "start", "I", false)
  | 5 => ("RiverDiggers$Tape", "value", "I", false)
  | 6 => ("RiverDiggers$Tape", "flaw", "I", false)
  | _ => ("RiverDiggers$Tape", "place", "I", false)
def tyX6 : Nat → FieldType := fun k => match k with
  | 0 => .array .byte
  | 1 => .int
  | 2 => .int
  | 3 => .int
  | 4 => .int
  | 5 => .int
  | 6 => .int
  | _ => .int
abbrev wsX60 : List Cond := u_ws RX6 TX6 8
theorem nmX6 : ∀ a, a < 8 → ∀ b, b < 8 → a ≠ b → (TX6 a).2.1 ≠ (TX6 b).2.1 := by decide +kernel
theorem tyX6_ok : ∀ k, k < 8 → parseFieldDescriptor (TX6 k).2.2.1 = some (tyX6 k) := by decide +kernel
abbrev cX6_init : ByteArray := prog_8_method_1_code
def yX6_init : MethodName := ⟨RX6, "<init>", "()V"⟩
abbrev cX6_append : ByteArray := prog_8_method_2_code
def yX6_append : MethodName := ⟨RX6, "append", "(J)Z"⟩
abbrev cX6_rewind : ByteArray := prog_8_method_3_code
def yX6_rewind : MethodName := ⟨RX6, "rewind", "()V"⟩
abbrev cX6_fail : ByteArray := prog_8_method_4_code
def yX6_fail : MethodName := ⟨RX6, "fail", "(I)V"⟩
abbrev cX6_failBehindAll : ByteArray := prog_8_method_5_code
def yX6_failBehindAll : MethodName := ⟨RX6, "failBehindAll", "(I)V"⟩
abbrev cX6_next : ByteArray := prog_8_method_6_code
def yX6_next : MethodName := ⟨RX6, "next", "()V"⟩
abbrev cX6_isLetter : ByteArray := prog_8_method_7_code
def yX6_isLetter : MethodName := ⟨RX6, "isLetter", "(B)Z"⟩
abbrev cX6_isFigure : ByteArray := prog_8_method_8_code
def yX6_isFigure : MethodName := ⟨RX6, "isFigure", "(B)Z"⟩
abbrev cX6_says : ByteArray := prog_8_method_9_code
def yX6_says : MethodName := ⟨RX6, "says", "(Ljava/lang/String;)Z"⟩
abbrev cX6_isNumber : ByteArray := prog_8_method_10_code
def yX6_isNumber : MethodName := ⟨RX6, "isNumber", "(II)Z"⟩
abbrev cX6_nextNumber : ByteArray := prog_8_method_11_code
def yX6_nextNumber : MethodName := ⟨RX6, "nextNumber", "(II)Z"⟩
abbrev cX6_nextStop : ByteArray := prog_8_method_12_code
def yX6_nextStop : MethodName := ⟨RX6, "nextStop", "()V"⟩
def RX7 : String := "RiverDiggers$Times"
def TX7 : u_T := fun k => match k with
  | 0 => ("RiverDiggers$Times", "flow", "LRiverDiggers$Flow;", true)
  | 1 => ("RiverDiggers$Times", "worths", "[I", true)
  | 2 => ("RiverDiggers$Times", "told", "[I", true)
  | 3 => ("RiverDiggers$Times", "seen", "[I", true)
  | 4 => ("RiverDiggers$Times", "years", "I", false)
  | 5 => ("RiverDiggers$Times", "tolds", "I", false)
  | _ => ("RiverDiggers$Times", "seens", "I", false)
def tyX7 : Nat → FieldType := fun k => match k with
  | 0 => .object "RiverDiggers$Flow"
  | 1 => .array .int
  | 2 => .array .int
  | 3 => .array .int
  | 4 => .int
  | 5 => .int
  | _ => .int
abbrev wsX70 : List Cond := u_ws RX7 TX7 7
theorem nmX7 : ∀ a, a < 7 → ∀ b, b < 7 → a ≠ b → (TX7 a).2.1 ≠ (TX7 b).2.1 := by decide +kernel
theorem tyX7_ok : ∀ k, k < 7 → parseFieldDescriptor (TX7 k).2.2.1 = some (tyX7 k) := by decide +kernel
abbrev cX7_init : ByteArray := prog_9_method_1_code
def yX7_init : MethodName := ⟨RX7, "<init>", "(LRiverDiggers$Land;)V"⟩
abbrev cX7_copy : ByteArray := prog_9_method_2_code
def yX7_copy : MethodName := ⟨RX7, "copy", "(LRiverDiggers$Times;)V"⟩
abbrev cX7_gain : ByteArray := prog_9_method_3_code
def yX7_gain : MethodName := ⟨RX7, "gain", "(II)I"⟩
abbrev cX7_agrees : ByteArray := prog_9_method_4_code
def yX7_agrees : MethodName := ⟨RX7, "agrees", "(I)Z"⟩
def RX8 : String := "RiverDiggers"
def TX8 : u_T := fun k => match k with
  | 0 => ("RiverDiggers", "land", "LRiverDiggers$Land;", true)
  | 1 => ("RiverDiggers", "now", "LRiverDiggers$Times;", true)
  | 2 => ("RiverDiggers", "image0", "LRiverDiggers$Times;", true)
  | 3 => ("RiverDiggers", "image1", "LRiverDiggers$Times;", true)
  | 4 => ("RiverDiggers", "trial", "LRiverDiggers$Flow;", true)
  | 5 => ("RiverDiggers", "outlook", "LRiverDiggers$Outlook;", true)
  | 6 => ("RiverDiggers", "digger", "LRiverDiggers$Digger;", true)
  | 7 => ("RiverDiggers", "tape", "LRiverDiggers$Tape;", true)
  | 8 => ("RiverDiggers", "draft", "LRiverDiggers$Draft;", true)
  | 9 => ("RiverDiggers", "sheets", "LRiverDiggers$Sheets;", true)
  | 10 => ("RiverDiggers", "history", "[I", true)
  | 11 => ("RiverDiggers", "kept", "I", false)
  | 12 => ("RiverDiggers", "textFault", "I", false)
  | _ => ("RiverDiggers", "readFault", "I", false)
def tyX8 : Nat → FieldType := fun k => match k with
  | 0 => .object "RiverDiggers$Land"
  | 1 => .object "RiverDiggers$Times"
  | 2 => .object "RiverDiggers$Times"
  | 3 => .object "RiverDiggers$Times"
  | 4 => .object "RiverDiggers$Flow"
  | 5 => .object "RiverDiggers$Outlook"
  | 6 => .object "RiverDiggers$Digger"
  | 7 => .object "RiverDiggers$Tape"
  | 8 => .object "RiverDiggers$Draft"
  | 9 => .object "RiverDiggers$Sheets"
  | 10 => .array .int
  | 11 => .int
  | 12 => .int
  | _ => .int
abbrev wsX80 : List Cond := u_ws RX8 TX8 14
theorem nmX8 : ∀ a, a < 14 → ∀ b, b < 14 → a ≠ b → (TX8 a).2.1 ≠ (TX8 b).2.1 := by decide +kernel
theorem tyX8_ok : ∀ k, k < 14 → parseFieldDescriptor (TX8 k).2.2.1 = some (tyX8 k) := by decide +kernel
abbrev cX8_init : ByteArray := prog_1_method_1_code
def yX8_init : MethodName := ⟨RX8, "<init>", "()V"⟩
abbrev cX8_feed : ByteArray := prog_1_method_2_code
def yX8_feed : MethodName := ⟨RX8, "feed", "(J)I"⟩
abbrev cX8_end : ByteArray := prog_1_method_3_code
def yX8_end : MethodName := ⟨RX8, "end", "(I)I"⟩
abbrev cX8_text : ByteArray := prog_1_method_4_code
def yX8_text : MethodName := ⟨RX8, "text", "()I"⟩
abbrev cX8_fault : ByteArray := prog_1_method_5_code
def yX8_fault : MethodName := ⟨RX8, "fault", "()I"⟩
abbrev cX8_rule : ByteArray := prog_1_method_6_code
def yX8_rule : MethodName := ⟨RX8, "rule", "(I)I"⟩
abbrev cX8_cell : ByteArray := prog_1_method_7_code
def yX8_cell : MethodName := ⟨RX8, "cell", "(II)I"⟩
abbrev cX8_farm : ByteArray := prog_1_method_8_code
def yX8_farm : MethodName := ⟨RX8, "farm", "(II)I"⟩
abbrev cX8_bed : ByteArray := prog_1_method_9_code
def yX8_bed : MethodName := ⟨RX8, "bed", "(I)I"⟩
abbrev cX8_dam : ByteArray := prog_1_method_10_code
def yX8_dam : MethodName := ⟨RX8, "dam", "(II)I"⟩
abbrev cX8_move : ByteArray := prog_1_method_11_code
def yX8_move : MethodName := ⟨RX8, "move", "(I)I"⟩
abbrev cX8_law : ByteArray := prog_1_method_12_code
def yX8_law : MethodName := ⟨RX8, "law", "(I)I"⟩
abbrev cX8_silt : ByteArray := prog_1_method_13_code
def yX8_silt : MethodName := ⟨RX8, "silt", "(Z)I"⟩
abbrev cX8_price : ByteArray := prog_1_method_14_code
def yX8_price : MethodName := ⟨RX8, "price", "(II)I"⟩
abbrev cX8_retrace : ByteArray := prog_1_method_15_code
def yX8_retrace : MethodName := ⟨RX8, "retrace", "()V"⟩
abbrev cX8_year : ByteArray := prog_1_method_16_code
def yX8_year : MethodName := ⟨RX8, "year", "(I)I"⟩
abbrev cX8_would : ByteArray := prog_1_method_17_code
def yX8_would : MethodName := ⟨RX8, "would", "(II)I"⟩
abbrev cX8_tell : ByteArray := prog_1_method_18_code
def yX8_tell : MethodName := ⟨RX8, "tell", "(I)I"⟩
abbrev cX8_drop : ByteArray := prog_1_method_19_code
def yX8_drop : MethodName := ⟨RX8, "drop", "(I)I"⟩
abbrev cX8_judge : ByteArray := prog_1_method_20_code
def yX8_judge : MethodName := ⟨RX8, "judge", "(I)I"⟩
abbrev cX8_refusal : ByteArray := prog_1_method_21_code
def yX8_refusal : MethodName := ⟨RX8, "refusal", "(LRiverDiggers$Flow;II)I"⟩
abbrev cX8_isNumber : ByteArray := prog_1_method_22_code
def yX8_isNumber : MethodName := ⟨RX8, "isNumber", "(I)Z"⟩
abbrev cX8_option : ByteArray := prog_1_method_23_code
def yX8_option : MethodName := ⟨RX8, "option", "(II)I"⟩
abbrev cX8_numberOf : ByteArray := prog_1_method_24_code
def yX8_numberOf : MethodName := ⟨RX8, "numberOf", "(II)I"⟩
abbrev cX8_has : ByteArray := prog_1_method_25_code
def yX8_has : MethodName := ⟨RX8, "has", "(II)Z"⟩
abbrev cX8_alone : ByteArray := prog_1_method_26_code
def yX8_alone : MethodName := ⟨RX8, "alone", "(III)I"⟩
abbrev cX8_together : ByteArray := prog_1_method_27_code
def yX8_together : MethodName := ⟨RX8, "together", "(II)I"⟩
abbrev cX8_lookAhead : ByteArray := prog_1_method_28_code
def yX8_lookAhead : MethodName := ⟨RX8, "lookAhead", "()V"⟩
abbrev cX8_cutters : ByteArray := prog_1_method_29_code
def yX8_cutters : MethodName := ⟨RX8, "cutters", "(I)I"⟩
abbrev cX8_selfish : ByteArray := prog_1_method_30_code
def yX8_selfish : MethodName := ⟨RX8, "selfish", "(I)I"⟩
abbrev cX8_rests : ByteArray := prog_1_method_31_code
def yX8_rests : MethodName := ⟨RX8, "rests", "(I)I"⟩
abbrev cX8_breaks : ByteArray := prog_1_method_32_code
def yX8_breaks : MethodName := ⟨RX8, "breaks", "(I)I"⟩
abbrev cX8_stands : ByteArray := prog_1_method_33_code
def yX8_stands : MethodName := ⟨RX8, "stands", "(I)I"⟩
abbrev cX8_again : ByteArray := prog_1_method_34_code
def yX8_again : MethodName := ⟨RX8, "again", "(I)I"⟩
abbrev cX8_note : ByteArray := prog_1_method_35_code
def yX8_note : MethodName := ⟨RX8, "note", "(I)V"⟩
abbrev cX8_firstAlike : ByteArray := prog_1_method_36_code
def yX8_firstAlike : MethodName := ⟨RX8, "firstAlike", "(I)I"⟩
abbrev cX8_isAlike : ByteArray := prog_1_method_37_code
def yX8_isAlike : MethodName := ⟨RX8, "isAlike", "(I)Z"⟩
abbrev cX8_odds : ByteArray := prog_1_method_38_code
def yX8_odds : MethodName := ⟨RX8, "odds", "(II)J"⟩
abbrev cX8_commonDivisor : ByteArray := prog_1_method_39_code
def yX8_commonDivisor : MethodName := ⟨RX8, "commonDivisor", "(II)I"⟩
abbrev cX8_see : ByteArray := prog_1_method_40_code
def yX8_see : MethodName := ⟨RX8, "see", "(IZ)I"⟩
abbrev cX8_forget : ByteArray := prog_1_method_41_code
def yX8_forget : MethodName := ⟨RX8, "forget", "(I)I"⟩
abbrev cX8_fits : ByteArray := prog_1_method_42_code
def yX8_fits : MethodName := ⟨RX8, "fits", "(I)I"⟩
abbrev cX8_keep : ByteArray := prog_1_method_43_code
def yX8_keep : MethodName := ⟨RX8, "keep", "(I)I"⟩
abbrev cX8_back : ByteArray := prog_1_method_44_code
def yX8_back : MethodName := ⟨RX8, "back", "(I)I"⟩
abbrev cX8_imageOf : ByteArray := prog_1_method_45_code
def yX8_imageOf : MethodName := ⟨RX8, "imageOf", "(I)LRiverDiggers$Times;"⟩
abbrev cX8_sheet : ByteArray := prog_1_method_46_code
def yX8_sheet : MethodName := ⟨RX8, "sheet", "(III)I"⟩
abbrev cX8_lay : ByteArray := prog_1_method_47_code
def yX8_lay : MethodName := ⟨RX8, "lay", "(III)I"⟩
abbrev cX8_read : ByteArray := prog_1_method_48_code
def yX8_read : MethodName := ⟨RX8, "read", "(IIII)I"⟩
abbrev cX8_torn : ByteArray := prog_1_method_49_code
def yX8_torn : MethodName := ⟨RX8, "torn", "()I"⟩
abbrev cX8_count : ByteArray := prog_1_method_50_code
def yX8_count : MethodName := ⟨RX8, "count", "(I)I"⟩
def RX9 : String := "RiverDiggersModel"
def TX9 : u_T := fun k => match k with
  | 0 => ("RiverDiggersModel", "st", "[I", true)
  | 1 => ("RiverDiggersModel", "isKept", "[Z", true)
  | 2 => ("RiverDiggersModel", "wide", "I", false)
  | 3 => ("RiverDiggersModel", "high", "I", false)
  | 4 => ("RiverDiggersModel", "farms", "I", false)
  | 5 => ("RiverDiggersModel", "owner", "[I", true)
  | 6 => ("RiverDiggersModel", "dWide", "I", false)
  | 7 => ("RiverDiggersModel", "dHigh", "I", false)
  | 8 => ("RiverDiggersModel", "dSpring", "I", false)
  | 9 => ("RiverDiggersModel", "dFarms", "I", false)
  | 10 => ("RiverDiggersModel", "dLaw", "I", false)
  | 11 => ("RiverDiggersModel", "dSilt", "I", false)
  | 12 => ("RiverDiggersModel", "dYards", "[I", true)
  | 13 => ("RiverDiggersModel", "dWorth", "[I", true)
  | 14 => ("RiverDiggersModel", "dOwner", "[I", true)
  | 15 => ("RiverDiggersModel", "dGrounds", "[I", true)
  | 16 => ("RiverDiggersModel", "toldLines", "I", false)
  | 17 => ("RiverDiggersModel", "toldRows", "I", false)
  | 18 => ("RiverDiggersModel", "highestRow", "I", false)
  | 19 => ("RiverDiggersModel", "highestColumn", "I", false)
  | 20 => ("RiverDiggersModel", "highestCell", "I", false)
  | 21 => ("RiverDiggersModel", "highestFarm", "I", false)
  | 22 => ("RiverDiggersModel", "tape", "[I", true)
  | 23 => ("RiverDiggersModel", "taped", "I", false)
  | 24 => ("RiverDiggersModel", "pos", "I", false)
  | 25 => ("RiverDiggersModel", "from", "I", false)
  | 26 => ("RiverDiggersModel", "sort", "I", false)
  | 27 => ("RiverDiggersModel", "value", "I", false)
  | 28 => ("RiverDiggersModel", "fault", "I", false)
  | 29 => ("RiverDiggersModel", "wrongAt", "I", false)
  | 30 => ("RiverDiggersModel", "bed", "[I", true)
  | 31 => ("RiverDiggersModel", "bedMany", "I", false)
  | 32 => ("RiverDiggersModel", "bedBits", "I", false)
  | 33 => ("RiverDiggersModel", "wasHigh", "[I", true)
  | 34 => ("RiverDiggersModel", "firstHigh", "[I", true)
  | 35 => ("RiverDiggersModel", "options", "[I", true)
  | 36 => ("RiverDiggersModel", "optionMany", "[I", true)
  | 37 => ("RiverDiggersModel", "highs", "[I", true)
  | 38 => ("RiverDiggersModel", "picks", "[I", true)
  | 39 => ("RiverDiggersModel", "ownOptions", "[I", true)
  | 40 => ("RiverDiggersModel", "ownMany", "[I", true)
  | 41 => ("RiverDiggersModel", "rows", "[I", true)
  | 42 => ("RiverDiggersModel", "lanes", "[I", true)
  | 43 => ("RiverDiggersModel", "sizes", "[I", true)
  | 44 => ("RiverDiggersModel", "cells", "[I", true)
  | 45 => ("RiverDiggersModel", "torn", "I", false)
  | _ => ("RiverDiggersModel", "readHigh", "[I", true)
def tyX9 : Nat → FieldType := fun k => match k with
  | 0 => .array .int
  | 1 => .array .boolean
  | 2 => .int
  | 3 => .int
  | 4 => .int
  | 5 => .array .int
  | 6 => .int
  | 7 => .int
  | 8 => .int
  | 9 => .int
  | 10 => .int
  | 11 => .int
  | 12 => .array .int
  | 13 => .array .int
  | 14 => .array .int
  | 15 => .array .int
  | 16 => .int
  | 17 => .int
  | 18 => .int
  | 19 => .int
  | 20 => .int
  | 21 => .int
  | 22 => .array .int
  | 23 => .int
  | 24 => .int
  | 25 => .int
  | 26 => .int
  | 27 => .int
  | 28 => .int
  | 29 => .int
  | 30 => .array .int
  | 31 => .int
  | 32 => .int
  | 33 => .array .int
  | 34 => .array .int
  | 35 => .array .int
  | 36 => .array .int
  | 37 => .array .int
  | 38 => .array .int
  | 39 => .array .int
  | 40 => .array .int
  | 41 => .array .int
  | 42 => .array .int
  | 43 => .array .int
  | 44 => .array .int
  | 45 => .int
  | _ => .array .int
abbrev wsX90 : List Cond := u_ws RX9 TX9 47
theorem nmX9 : ∀ a, a < 47 → ∀ b, b < 47 → a ≠ b → (TX9 a).2.1 ≠ (TX9 b).2.1 := by decide +kernel
theorem tyX9_ok : ∀ k, k < 47 → parseFieldDescriptor (TX9 k).2.2.1 = some (tyX9 k) := by decide +kernel
abbrev cX9_init : ByteArray := prog_11_method_1_code
def yX9_init : MethodName := ⟨RX9, "<init>", "()V"⟩
abbrev cX9_in : ByteArray := prog_11_method_3_code
def yX9_in : MethodName := ⟨RX9, "in", "(JJJ)Z"⟩
abbrev cX9_flag : ByteArray := prog_11_method_4_code
def yX9_flag : MethodName := ⟨RX9, "flag", "(Z)I"⟩
abbrev cX9_firstDraft : ByteArray := prog_11_method_5_code
def yX9_firstDraft : MethodName := ⟨RX9, "firstDraft", "()V"⟩
abbrev cX9_keepDraft : ByteArray := prog_11_method_6_code
def yX9_keepDraft : MethodName := ⟨RX9, "keepDraft", "()V"⟩
abbrev cX9_feed : ByteArray := prog_11_method_7_code
def yX9_feed : MethodName := ⟨RX9, "feed", "(J)I"⟩
abbrev cX9_end : ByteArray := prog_11_method_8_code
def yX9_end : MethodName := ⟨RX9, "end", "(I)I"⟩
abbrev cX9_needs : ByteArray := prog_11_method_9_code
def yX9_needs : MethodName := ⟨RX9, "needs", "(ZI)V"⟩
abbrev cX9_look : ByteArray := prog_11_method_10_code
def yX9_look : MethodName := ⟨RX9, "look", "(I)I"⟩
abbrev cX9_is : ByteArray := prog_11_method_11_code
def yX9_is : MethodName := ⟨RX9, "is", "(IIII)Z"⟩
abbrev cX9_ends : ByteArray := prog_11_method_12_code
def yX9_ends : MethodName := ⟨RX9, "ends", "(III)Z"⟩
abbrev cX9_ruleLine : ByteArray := prog_11_method_13_code
def yX9_ruleLine : MethodName := ⟨RX9, "ruleLine", "()I"⟩
abbrev cX9_lineNow : ByteArray := prog_11_method_14_code
def yX9_lineNow : MethodName := ⟨RX9, "lineNow", "()I"⟩
abbrev cX9_next : ByteArray := prog_11_method_15_code
def yX9_next : MethodName := ⟨RX9, "next", "()V"⟩
abbrev cX9_looked : ByteArray := prog_11_method_16_code
def yX9_looked : MethodName := ⟨RX9, "looked", "(II)I"⟩
abbrev cX9_readNumber : ByteArray := prog_11_method_17_code
def yX9_readNumber : MethodName := ⟨RX9, "readNumber", "(II)I"⟩
abbrev cX9_readRow : ByteArray := prog_11_method_18_code
def yX9_readRow : MethodName := ⟨RX9, "readRow", "()V"⟩
abbrev cX9_sawCell : ByteArray := prog_11_method_19_code
def yX9_sawCell : MethodName := ⟨RX9, "sawCell", "(I)V"⟩
abbrev cX9_readGround : ByteArray := prog_11_method_20_code
def yX9_readGround : MethodName := ⟨RX9, "readGround", "()V"⟩
abbrev cX9_readLineOf : ByteArray := prog_11_method_21_code
def yX9_readLineOf : MethodName := ⟨RX9, "readLineOf", "(I)V"⟩
abbrev cX9_readLine : ByteArray := prog_11_method_22_code
def yX9_readLine : MethodName := ⟨RX9, "readLine", "()V"⟩
abbrev cX9_text : ByteArray := prog_11_method_23_code
def yX9_text : MethodName := ⟨RX9, "text", "()I"⟩
abbrev cX9_fault : ByteArray := prog_11_method_24_code
def yX9_fault : MethodName := ⟨RX9, "fault", "()I"⟩
abbrev cX9_isCell : ByteArray := prog_11_method_25_code
def yX9_isCell : MethodName := ⟨RX9, "isCell", "(I)Z"⟩
abbrev cX9_isFarm : ByteArray := prog_11_method_26_code
def yX9_isFarm : MethodName := ⟨RX9, "isFarm", "(I)Z"⟩
abbrev cX9_isYear : ByteArray := prog_11_method_27_code
def yX9_isYear : MethodName := ⟨RX9, "isYear", "(I)Z"⟩
abbrev cX9_beside : ByteArray := prog_11_method_28_code
def yX9_beside : MethodName := ⟨RX9, "beside", "(II)I"⟩
abbrev cX9_lowestBeside : ByteArray := prog_11_method_29_code
def yX9_lowestBeside : MethodName := ⟨RX9, "lowestBeside", "(I)I"⟩
abbrev cX9_findBed : ByteArray := prog_11_method_30_code
def yX9_findBed : MethodName := ⟨RX9, "findBed", "()V"⟩
abbrev cX9_bedNow : ByteArray := prog_11_method_31_code
def yX9_bedNow : MethodName := ⟨RX9, "bedNow", "()I"⟩
abbrev cX9_hasNow : ByteArray := prog_11_method_32_code
def yX9_hasNow : MethodName := ⟨RX9, "hasNow", "(I)I"⟩
abbrev cX9_isBeside : ByteArray := prog_11_method_33_code
def yX9_isBeside : MethodName := ⟨RX9, "isBeside", "(II)Z"⟩
abbrev cX9_mayCut : ByteArray := prog_11_method_34_code
def yX9_mayCut : MethodName := ⟨RX9, "mayCut", "(I)I"⟩
abbrev cX9_rule : ByteArray := prog_11_method_35_code
def yX9_rule : MethodName := ⟨RX9, "rule", "(I)I"⟩
abbrev cX9_cell : ByteArray := prog_11_method_36_code
def yX9_cell : MethodName := ⟨RX9, "cell", "(II)I"⟩
abbrev cX9_farm : ByteArray := prog_11_method_37_code
def yX9_farm : MethodName := ⟨RX9, "farm", "(II)I"⟩
abbrev cX9_bed : ByteArray := prog_11_method_38_code
def yX9_bed : MethodName := ⟨RX9, "bed", "(I)I"⟩
abbrev cX9_becomes : ByteArray := prog_11_method_39_code
def yX9_becomes : MethodName := ⟨RX9, "becomes", "(II)I"⟩
abbrev cX9_dam : ByteArray := prog_11_method_40_code
def yX9_dam : MethodName := ⟨RX9, "dam", "(II)I"⟩
abbrev cX9_move : ByteArray := prog_11_method_41_code
def yX9_move : MethodName := ⟨RX9, "move", "(I)I"⟩
abbrev cX9_law : ByteArray := prog_11_method_42_code
def yX9_law : MethodName := ⟨RX9, "law", "(I)I"⟩
abbrev cX9_silt : ByteArray := prog_11_method_43_code
def yX9_silt : MethodName := ⟨RX9, "silt", "(Z)I"⟩
abbrev cX9_price : ByteArray := prog_11_method_44_code
def yX9_price : MethodName := ⟨RX9, "price", "(II)I"⟩
abbrev cX9_marks : ByteArray := prog_11_method_45_code
def yX9_marks : MethodName := ⟨RX9, "marks", "()V"⟩
abbrev cX9_returns : ByteArray := prog_11_method_46_code
def yX9_returns : MethodName := ⟨RX9, "returns", "()V"⟩
abbrev cX9_cutOf : ByteArray := prog_11_method_47_code
def yX9_cutOf : MethodName := ⟨RX9, "cutOf", "(II)I"⟩
abbrev cX9_timesOf : ByteArray := prog_11_method_48_code
def yX9_timesOf : MethodName := ⟨RX9, "timesOf", "(I)I"⟩
abbrev cX9_firstWrong : ByteArray := prog_11_method_49_code
def yX9_firstWrong : MethodName := ⟨RX9, "firstWrong", "(I)I"⟩
abbrev cX9_canBe : ByteArray := prog_11_method_50_code
def yX9_canBe : MethodName := ⟨RX9, "canBe", "(I)Z"⟩
abbrev cX9_silts : ByteArray := prog_11_method_51_code
def yX9_silts : MethodName := ⟨RX9, "silts", "()V"⟩
abbrev cX9_goes : ByteArray := prog_11_method_52_code
def yX9_goes : MethodName := ⟨RX9, "goes", "(I)V"⟩
abbrev cX9_year : ByteArray := prog_11_method_53_code
def yX9_year : MethodName := ⟨RX9, "year", "(I)I"⟩
abbrev cX9_hasBy : ByteArray := prog_11_method_54_code
def yX9_hasBy : MethodName := ⟨RX9, "hasBy", "(II)I"⟩
abbrev cX9_bedBy : ByteArray := prog_11_method_55_code
def yX9_bedBy : MethodName := ⟨RX9, "bedBy", "(I)I"⟩
abbrev cX9_would : ByteArray := prog_11_method_56_code
def yX9_would : MethodName := ⟨RX9, "would", "(II)I"⟩
abbrev cX9_tell : ByteArray := prog_11_method_57_code
def yX9_tell : MethodName := ⟨RX9, "tell", "(I)I"⟩
abbrev cX9_drop : ByteArray := prog_11_method_58_code
def yX9_drop : MethodName := ⟨RX9, "drop", "(I)I"⟩
abbrev cX9_judge : ByteArray := prog_11_method_59_code
def yX9_judge : MethodName := ⟨RX9, "judge", "(I)I"⟩
abbrev cX9_findOptions : ByteArray := prog_11_method_60_code
def yX9_findOptions : MethodName := ⟨RX9, "findOptions", "()V"⟩
abbrev cX9_allOptions : ByteArray := prog_11_method_61_code
def yX9_allOptions : MethodName := ⟨RX9, "allOptions", "()I"⟩
abbrev cX9_yearOf : ByteArray := prog_11_method_62_code
def yX9_yearOf : MethodName := ⟨RX9, "yearOf", "(III)I"⟩
abbrev cX9_yearAt : ByteArray := prog_11_method_63_code
def yX9_yearAt : MethodName := ⟨RX9, "yearAt", "(I)I"⟩
abbrev cX9_enters : ByteArray := prog_11_method_64_code
def yX9_enters : MethodName := ⟨RX9, "enters", "(II)V"⟩
abbrev cX9_leaves : ByteArray := prog_11_method_65_code
def yX9_leaves : MethodName := ⟨RX9, "leaves", "(I)V"⟩
abbrev cX9_isBrought : ByteArray := prog_11_method_66_code
def yX9_isBrought : MethodName := ⟨RX9, "isBrought", "(III)Z"⟩
abbrev cX9_alone : ByteArray := prog_11_method_67_code
def yX9_alone : MethodName := ⟨RX9, "alone", "(III)I"⟩
abbrev cX9_cutsOf : ByteArray := prog_11_method_68_code
def yX9_cutsOf : MethodName := ⟨RX9, "cutsOf", "(I)I"⟩
abbrev cX9_together : ByteArray := prog_11_method_69_code
def yX9_together : MethodName := ⟨RX9, "together", "(II)I"⟩
abbrev cX9_lastOf : ByteArray := prog_11_method_70_code
def yX9_lastOf : MethodName := ⟨RX9, "lastOf", "(II)I"⟩
abbrev cX9_secondOf : ByteArray := prog_11_method_71_code
def yX9_secondOf : MethodName := ⟨RX9, "secondOf", "(I)I"⟩
abbrev cX9_selfishYear : ByteArray := prog_11_method_72_code
def yX9_selfishYear : MethodName := ⟨RX9, "selfishYear", "()I"⟩
abbrev cX9_selfish : ByteArray := prog_11_method_73_code
def yX9_selfish : MethodName := ⟨RX9, "selfish", "(I)I"⟩
abbrev cX9_breaksOf : ByteArray := prog_11_method_74_code
def yX9_breaksOf : MethodName := ⟨RX9, "breaksOf", "(I)I"⟩
abbrev cX9_rests : ByteArray := prog_11_method_75_code
def yX9_rests : MethodName := ⟨RX9, "rests", "(I)I"⟩
abbrev cX9_breaks : ByteArray := prog_11_method_76_code
def yX9_breaks : MethodName := ⟨RX9, "breaks", "(I)I"⟩
abbrev cX9_stands : ByteArray := prog_11_method_77_code
def yX9_stands : MethodName := ⟨RX9, "stands", "(I)I"⟩
abbrev cX9_areAlike : ByteArray := prog_11_method_78_code
def yX9_areAlike : MethodName := ⟨RX9, "areAlike", "(II)Z"⟩
abbrev cX9_again : ByteArray := prog_11_method_79_code
def yX9_again : MethodName := ⟨RX9, "again", "(I)I"⟩
abbrev cX9_common : ByteArray := prog_11_method_80_code
def yX9_common : MethodName := ⟨RX9, "common", "(JJ)J"⟩
abbrev cX9_odds : ByteArray := prog_11_method_81_code
def yX9_odds : MethodName := ⟨RX9, "odds", "(II)J"⟩
abbrev cX9_see : ByteArray := prog_11_method_82_code
def yX9_see : MethodName := ⟨RX9, "see", "(IZ)I"⟩
abbrev cX9_forget : ByteArray := prog_11_method_83_code
def yX9_forget : MethodName := ⟨RX9, "forget", "(I)I"⟩
abbrev cX9_isSo : ByteArray := prog_11_method_84_code
def yX9_isSo : MethodName := ⟨RX9, "isSo", "(I)Z"⟩
abbrev cX9_cutters : ByteArray := prog_11_method_85_code
def yX9_cutters : MethodName := ⟨RX9, "cutters", "(I)I"⟩
abbrev cX9_fits : ByteArray := prog_11_method_86_code
def yX9_fits : MethodName := ⟨RX9, "fits", "(I)I"⟩
abbrev cX9_copies : ByteArray := prog_11_method_87_code
def yX9_copies : MethodName := ⟨RX9, "copies", "(II)V"⟩
abbrev cX9_keep : ByteArray := prog_11_method_88_code
def yX9_keep : MethodName := ⟨RX9, "keep", "(I)I"⟩
abbrev cX9_back : ByteArray := prog_11_method_89_code
def yX9_back : MethodName := ⟨RX9, "back", "(I)I"⟩
abbrev cX9_isSheet : ByteArray := prog_11_method_90_code
def yX9_isSheet : MethodName := ⟨RX9, "isSheet", "(II)Z"⟩
abbrev cX9_sheet : ByteArray := prog_11_method_91_code
def yX9_sheet : MethodName := ⟨RX9, "sheet", "(III)I"⟩
abbrev cX9_lay : ByteArray := prog_11_method_92_code
def yX9_lay : MethodName := ⟨RX9, "lay", "(III)I"⟩
abbrev cX9_read : ByteArray := prog_11_method_93_code
def yX9_read : MethodName := ⟨RX9, "read", "(IIII)I"⟩
abbrev cX9_torn : ByteArray := prog_11_method_94_code
def yX9_torn : MethodName := ⟨RX9, "torn", "()I"⟩
abbrev cX9_count : ByteArray := prog_11_method_95_code
def yX9_count : MethodName := ⟨RX9, "count", "(I)I"⟩
def RJx145de : String := "java/io/Serializable"
def RJx9f9b0 : String := "java/lang/CharSequence"
def RJxb160c : String := "java/lang/Comparable"
def RJ6 : String := "java/lang/Integer"
abbrev cJ6_bitCount_0f7a4 : ByteArray := prog_12_method_49_code
def yJ6_bitCount_0f7a4 : MethodName := ⟨RJ6, "bitCount", "(I)I"⟩
def RJ0 : String := "java/lang/String"
abbrev cJ0_length_8abf5 : ByteArray := prog_13_method_54_code
def yJ0_length_8abf5 : MethodName := ⟨RJ0, "length", "()I"⟩
abbrev cJ0_charAt_5068e : ByteArray := prog_13_method_56_code
def yJ0_charAt_5068e : MethodName := ⟨RJ0, "charAt", "(I)C"⟩
abbrev cJ0_coder_7d493 : ByteArray := prog_13_method_152_code
def yJ0_coder_7d493 : MethodName := ⟨RJ0, "coder", "()B"⟩
abbrev cJ0_isLatin1_aae02 : ByteArray := prog_13_method_154_code
def yJ0_isLatin1_aae02 : MethodName := ⟨RJ0, "isLatin1", "()Z"⟩
abbrev cJ0_checkIndex_df160 : ByteArray := prog_13_method_155_code
def yJ0_checkIndex_df160 : MethodName := ⟨RJ0, "checkIndex", "(II)V"⟩
def RJ1 : String := "java/lang/StringLatin1"
abbrev cJ1_charAt_3b067 : ByteArray := prog_14_method_2_code
def yJ1_charAt_3b067 : MethodName := ⟨RJ1, "charAt", "([BI)C"⟩
def RJ2 : String := "java/lang/StringUTF16"
abbrev cJ2_getChar_3b067 : ByteArray := prog_15_method_5_code
def yJ2_getChar_3b067 : MethodName := ⟨RJ2, "getChar", "([BI)C"⟩
abbrev cJ2_length_9d52b : ByteArray := prog_15_method_6_code
def yJ2_length_9d52b : MethodName := ⟨RJ2, "length", "([B)I"⟩
abbrev cJ2_charAt_3b067 : ByteArray := prog_15_method_83_code
def yJ2_charAt_3b067 : MethodName := ⟨RJ2, "charAt", "([BI)C"⟩
abbrev cJ2_checkIndex_2214a : ByteArray := prog_15_method_91_code
def yJ2_checkIndex_2214a : MethodName := ⟨RJ2, "checkIndex", "(I[B)V"⟩
def RJ10 : String := "java/lang/System"
def RJxfd54e : String := "java/lang/constant/Constable"
def RJx3cf43 : String := "java/lang/constant/ConstantDesc"
def RJ7 : String := "java/util/Arrays"
abbrev cJ7_fill_53178 : ByteArray := prog_17_method_103_code
def yJ7_fill_53178 : MethodName := ⟨RJ7, "fill", "([II)V"⟩
def RJ3 : String := "jdk/internal/util/Preconditions"
abbrev cJ3_checkIndex_8e157 : ByteArray := prog_18_method_11_code
def yJ3_checkIndex_8e157 : MethodName := ⟨RJ3, "checkIndex", "(IILjava/util/function/BiFunction;)I"⟩
def RL : String := "RiverDiggersLaw"
abbrev cL_law : ByteArray := code
def yL_law : MethodName := ⟨RL, "law", "([I)Z"⟩
abbrev vwCl : List vw_C := [(RX0, TX0, 3), (RX1, TX1, 10), (RX2, TX2, 8), (RX3, TX3, 5), (RX4, TX4, 7), (RX5, TX5, 3), (RX6, TX6, 8), (RX7, TX7, 7), (RX8, TX8, 14), (RX9, TX9, 47)]
end
section
/-! THE WALK BY PROGRAM: an interpreter over intervals, run in the kernel; part 03 and on show that what it says holds of the machine -/
/-- an interval of ints, each by its number and 2^31 (of longs: and 2^63) -/
abbrev zi_I : Type := Nat × Nat
/-- a value: int | long | reference to a cell of the world, or null | the script | int by digits (base 26, lowest first) -/
abbrev zi_V : Type := zi_I ⊕ (zi_I ⊕ (Option Nat ⊕ (Unit ⊕ List zi_I)))
/-- a cell: row of a type | object of a class -/
abbrev zi_C : Type := (FieldType × List zi_I) ⊕ (Nat × List zi_V)
abbrev zi_L : Type := List (Nat × zi_V)
/-- how many cells there are; the cells, eight a row -/
abbrev zi_W : Type := Nat × List (List (Option zi_C))
/-- locals, stack, world, cells and slots that may still be made -/
abbrev zi_S : Type := zi_L × List zi_V × zi_W × Nat × Nat
/-- calls, and the script -/
abbrev zi_E : Type := (Nat → List zi_V → zi_W → Option (Option zi_V × zi_W)) × Option (List zi_V)
abbrev zi_F : Type := zi_E → zi_S → Option (Nat × zi_S)
/-- a method's table, sixteen places a row: nothing | the walk stops here | a step -/
abbrev zi_T : Type := List (List (Option (Option zi_F)))
abbrev zi_M : Type := MethodName × ByteArray × Nat × Option FieldType × zi_T × Nat × Nat
noncomputable section
def zi_nth {α : Type} (l : List α) : Nat → Option α := List.rec (motive := fun _ => Nat → Option α) (fun _ => none) (fun a _ ih k => Nat.casesOn (motive := fun _ => Option α) k (some a) ih) l
def zi_up {α : Type} (f : α → α) (l : List α) : Nat → List α := List.rec (motive := fun _ => Nat → List α) (fun _ => []) (fun a t ih k => Nat.casesOn (motive := fun _ => List α) k (f a :: t) (fun k => a :: ih k)) l
/-- cells by their numbers -/
def zi_wg (w : zi_W) (q : Nat) : Option zi_C := match zi_nth w.2 (q / 8) with
  | none => none
  | some r => match zi_nth r (q % 8) with
    | none => none
    | some c => c
def zi_ws (w : zi_W) (q : Nat) (c : zi_C) : zi_W := (w.1, zi_up (fun r => zi_up (fun _ => some c) r (q % 8)) w.2 (q / 8))
def zi_wp (w : zi_W) (c : zi_C) : zi_W := (w.1 + 1, zi_up (fun r => zi_up (fun _ => some c) r (w.1 % 8)) w.2 (w.1 / 8))
def zi_Z : Nat := 2147483648
def zi_ZL : Nat := 9223372036854775808
def zi_o (x : Int32) : Nat := (x.toInt + 2147483648).toNat
def zi_ol (x : Int64) : Nat := (x.toInt + 9223372036854775808).toNat
def zi_u (n : Nat) : Int32 := Int32.ofInt ((n : Int) - 2147483648)
def zi_ul (n : Nat) : Int64 := Int64.ofInt ((n : Int) - 9223372036854775808)
def zi_top : zi_I := (0, 4294967295)
def zi_topl : zi_I := (0, 18446744073709551615)
def zi_cat : zi_V → Nat
  | .inr (.inl _) => 2
  | _ => 1
def zi_dlo : List zi_I → Nat
  | [] => 0
  | r :: t => r.1 + 26 * zi_dlo t
def zi_dhi : List zi_I → Nat
  | [] => 0
  | r :: t => r.2 + 26 * zi_dhi t
/-- the interval of an int -/
def zi_iv : zi_V → Option zi_I
  | .inl r => some r
  | .inr (.inr (.inr (.inr ds))) => some (2147483648 + zi_dlo ds, 2147483648 + zi_dhi ds)
  | _ => none
def zi_lv : zi_V → Option zi_I
  | .inr (.inl r) => some r
  | _ => none
def zi_lk (t : zi_T) (pc : Nat) : Option (Option zi_F) := match zi_nth t (pc / 16) with
  | none => none
  | some r => match zi_nth r (pc % 16) with
    | none => none
    | some q => q
def zi_get (l : zi_L) (i : Nat) : Option zi_V := List.rec (motive := fun _ => Option zi_V) none (fun q _ ih => bif Nat.beq q.1 i then some q.2 else ih) l
def zi_fil (f : Nat × zi_V → Bool) (l : zi_L) : zi_L := List.rec (motive := fun _ => zi_L) [] (fun q _ ih => bif f q then q :: ih else ih) l
def zi_st1 (l : zi_L) (i : Nat) (v : zi_V) : zi_L := (i, v) :: zi_fil (fun q => not (Nat.beq q.1 i) && not (Nat.beq (q.1 + 1) i && Nat.beq (zi_cat q.2) 2)) l
def zi_st2 (l : zi_L) (i : Nat) (v : zi_V) : zi_L := (i, v) :: zi_fil (fun q => not (Nat.beq q.1 i) && (not (Nat.beq q.1 (i + 1)) && not (Nat.beq (q.1 + 1) i && Nat.beq (zi_cat q.2) 2))) l
def zi_args : Nat → List zi_V → zi_L
  | _, [] => []
  | i, v :: t => (i, v) :: zi_args (i + zi_cat v) t
def zi_wt : List zi_V → Nat
  | [] => 0
  | v :: t => zi_cat v + zi_wt t
/-- n values off the stack, the topmost last -/
def zi_pop : Nat → List zi_V → List zi_V → Option (List zi_V × List zi_V)
  | 0, st, acc => some (acc, st)
  | n + 1, v :: st, acc => zi_pop n st (v :: acc)
  | _ + 1, [], _ => none
-- numbers
def zi_one (x : zi_I) : Bool := Nat.beq x.1 x.2
def zi_sg (g : Int32 → Int32 → Int32) (x y : zi_I) : zi_I := bif zi_one x && zi_one y then (zi_o (g (zi_u x.1) (zi_u y.1)), zi_o (g (zi_u x.1) (zi_u y.1))) else zi_top
def zi_sgl (g : Int64 → Int64 → Int64) (x y : zi_I) : zi_I := bif zi_one x && zi_one y then (zi_ol (g (zi_ul x.1) (zi_ul y.1)), zi_ol (g (zi_ul x.1) (zi_ul y.1))) else zi_topl
def zi_add (x y : zi_I) : zi_I := bif Nat.ble 2147483648 (x.1 + y.1) && Nat.ble (x.2 + y.2) 6442450943 then (x.1 + y.1 - 2147483648, x.2 + y.2 - 2147483648) else zi_sg (· + ·) x y
def zi_sub (x y : zi_I) : zi_I := bif Nat.ble y.2 (x.1 + 2147483648) && Nat.ble (x.2 + 2147483648) (y.1 + 4294967295) then (x.1 + 2147483648 - y.2, x.2 + 2147483648 - y.1) else zi_sg (· - ·) x y
def zi_mul (x y : zi_I) : zi_I := bif Nat.ble 2147483648 x.1 && (Nat.ble 2147483648 y.1 && Nat.ble ((x.2 - 2147483648) * (y.2 - 2147483648)) 2147483647) then ((x.1 - 2147483648) * (y.1 - 2147483648) + 2147483648, (x.2 - 2147483648) * (y.2 - 2147483648) + 2147483648) else zi_sg (· * ·) x y
def zi_and (x y : zi_I) : zi_I := bif zi_one y && Nat.ble 2147483648 y.1 then (bif zi_one x && Nat.ble 2147483648 x.1 then (Nat.land (x.1 - 2147483648) (y.1 - 2147483648) + 2147483648, Nat.land (x.1 - 2147483648) (y.1 - 2147483648) + 2147483648) else (2147483648, y.1)) else zi_sg (· &&& ·) x y
def zi_or (x y : zi_I) : zi_I := bif zi_one y && Nat.ble 2147483648 y.1 && zi_one x && Nat.ble 2147483648 x.1 then (Nat.lor (x.1 - 2147483648) (y.1 - 2147483648) + 2147483648, Nat.lor (x.1 - 2147483648) (y.1 - 2147483648) + 2147483648) else zi_sg (· ||| ·) x y
def zi_xor (x y : zi_I) : zi_I := zi_sg (· ^^^ ·) x y
def zi_shl (x y : zi_I) : zi_I := bif zi_one y && Nat.ble 2147483648 y.1 && Nat.ble y.1 2147483679 && zi_one x && Nat.ble 2147483648 x.1 && Nat.ble (Nat.shiftLeft (x.1 - 2147483648) (y.1 - 2147483648)) 2147483647 then (Nat.shiftLeft (x.1 - 2147483648) (y.1 - 2147483648) + 2147483648, Nat.shiftLeft (x.1 - 2147483648) (y.1 - 2147483648) + 2147483648) else zi_sg (fun a b => a <<< (b &&& 31)) x y
/-- to the right: of 0 it is 0 -/
def zi_shr (x y : zi_I) : zi_I := bif Nat.beq x.1 2147483648 && Nat.beq x.2 2147483648 then x else bif zi_one y && Nat.ble 2147483648 y.1 && Nat.ble y.1 2147483679 && zi_one x && Nat.ble 2147483648 x.1 then (Nat.shiftRight (x.1 - 2147483648) (y.1 - 2147483648) + 2147483648, Nat.shiftRight (x.1 - 2147483648) (y.1 - 2147483648) + 2147483648) else zi_sg (fun a b => a >>> (b &&& 31)) x y
def zi_ushr (x y : zi_I) : zi_I := zi_sg (fun a b => (a.toUInt32 >>> (b.toUInt32 &&& Int32.toUInt32 31)).toInt32) x y
def zi_dig : zi_V → Option (List zi_I)
  | .inr (.inr (.inr (.inr ds))) => some ds
  | _ => none
def zi_divi (x y : zi_I) : zi_I := bif zi_one y && Nat.ble 2147483649 y.1 && Nat.ble 2147483648 x.1 then ((x.1 - 2147483648) / (y.1 - 2147483648) + 2147483648, (x.2 - 2147483648) / (y.1 - 2147483648) + 2147483648) else zi_sg (· / ·) x y
def zi_remi (x y : zi_I) : zi_I := bif zi_one y && Nat.ble 2147483649 y.1 && Nat.ble 2147483648 x.1 && Nat.beq ((x.1 - 2147483648) / (y.1 - 2147483648)) ((x.2 - 2147483648) / (y.1 - 2147483648)) then ((x.1 - 2147483648) % (y.1 - 2147483648) + 2147483648, (x.2 - 2147483648) % (y.1 - 2147483648) + 2147483648) else zi_sg (fun a b => a - a / b * b) x y
def zi_n0 (y : zi_I) : Bool := Nat.ble 2147483649 y.1 || Nat.ble y.2 2147483647
def zi_div (a : zi_V) (x y : zi_I) : zi_V := match zi_dig a with
  | some ds => bif zi_one y && Nat.beq y.1 2147483674 then .inr (.inr (.inr (.inr ds.tail))) else bif zi_one y && Nat.beq y.1 2147484324 then .inr (.inr (.inr (.inr ds.tail.tail))) else .inl (zi_divi x y)
  | none => .inl (zi_divi x y)
def zi_rem (a : zi_V) (x y : zi_I) : zi_V := match zi_dig a with
  | some (r :: _) => bif zi_one y && Nat.beq y.1 2147483674 then .inl (2147483648 + r.1, 2147483648 + r.2) else .inl (zi_remi x y)
  | _ => .inl (zi_remi x y)
-- tests: nothing where the intervals don't tell
def zi_lt (x y : zi_I) : Option Bool := bif Nat.blt x.2 y.1 then some true else bif Nat.ble y.2 x.1 then some false else none
def zi_le (x y : zi_I) : Option Bool := bif Nat.ble x.2 y.1 then some true else bif Nat.blt y.2 x.1 then some false else none
def zi_eq (x y : zi_I) : Option Bool := bif zi_one x && (zi_one y && Nat.beq x.1 y.1) then some true else bif Nat.blt x.2 y.1 || Nat.blt y.2 x.1 then some false else none
def zi_not : Option Bool → Option Bool
  | some b => some (!b)
  | none => none
def zi_cmpl (x y : zi_I) : zi_I := bif Nat.blt x.2 y.1 then (2147483647, 2147483647) else bif Nat.blt y.2 x.1 then (2147483649, 2147483649) else bif zi_one x && (zi_one y && Nat.beq x.1 y.1) then (2147483648, 2147483648) else bif Nat.ble y.2 x.1 then (2147483648, 2147483649) else bif Nat.ble x.2 y.1 then (2147483647, 2147483648) else (2147483647, 2147483649)
-- the steps
def zi_push (v : zi_V) (nx : Nat) : zi_F := fun _ s => match s with
  | (lc, sk, r) => some (nx, (lc, v :: sk, r))
/-- of which kind a value is: int, long, reference -/
def zi_kd : zi_V → Nat
  | .inl _ => 0
  | .inr (.inl _) => 1
  | .inr (.inr (.inl _)) => 2
  | .inr (.inr (.inr (.inl _))) => 2
  | .inr (.inr (.inr (.inr _))) => 0
def zi_load (kd i nx : Nat) : zi_F := fun _ s => match s with
  | (lc, sk, r) => match zi_get lc i with
    | some v => bif Nat.beq (zi_kd v) kd then some (nx, (lc, v :: sk, r)) else none
    | none => none
def zi_store (kd i nx : Nat) : zi_F := fun _ s => match s with
  | (lc, v :: sk, r) => bif Nat.beq (zi_kd v) kd then some (nx, (zi_st1 lc i v, sk, r)) else none
  | _ => none
def zi_storel (i nx : Nat) : zi_F := fun _ s => match s with
  | (lc, v :: sk, r) => bif Nat.beq (zi_kd v) 1 then some (nx, (zi_st2 lc i v, sk, r)) else none
  | _ => none
def zi_inc (i : Nat) (k : zi_I) (nx : Nat) : zi_F := fun _ s => match s with
  | (lc, sk, r) => match zi_get lc i with
    | some v => match zi_iv v with
      | some x => some (nx, (zi_st1 lc i (.inl (zi_add x k)), sk, r))
      | none => none
    | none => none
def zi_bin (f : zi_I → zi_I → zi_I) (nx : Nat) : zi_F := fun _ s => match s with
  | (lc, b :: a :: sk, r) => match zi_iv a with
    | some x => match zi_iv b with
      | some y => some (nx, (lc, .inl (f x y) :: sk, r))
      | none => none
    | none => none
  | _ => none
/-- division and rest: not by 0 -/
def zi_dv (f : zi_V → zi_I → zi_I → zi_V) (nx : Nat) : zi_F := fun _ s => match s with
  | (lc, b :: a :: sk, r) => match zi_iv a with
    | some x => match zi_iv b with
      | some y => bif zi_n0 y then some (nx, (lc, f a x y :: sk, r)) else none
      | none => none
    | none => none
  | _ => none
def zi_binl (f : zi_I → zi_I → zi_I) (nx : Nat) : zi_F := fun _ s => match s with
  | (lc, b :: a :: sk, r) => match zi_lv a with
    | some x => match zi_lv b with
      | some y => some (nx, (lc, .inr (.inl (f x y)) :: sk, r))
      | none => none
    | none => none
  | _ => none
/-- a long's shift -/
def zi_shfl (f : zi_I → zi_I → zi_I) (nx : Nat) : zi_F := fun _ s => match s with
  | (lc, b :: a :: sk, r) => match zi_lv a with
    | some x => match zi_iv b with
      | some y => some (nx, (lc, .inr (.inl (f x y)) :: sk, r))
      | none => none
    | none => none
  | _ => none
def zi_lcmp (nx : Nat) : zi_F := fun _ s => match s with
  | (lc, b :: a :: sk, r) => match zi_lv a with
    | some x => match zi_lv b with
      | some y => some (nx, (lc, .inl (zi_cmpl x y) :: sk, r))
      | none => none
    | none => none
  | _ => none
def zi_i2l (nx : Nat) : zi_F := fun _ s => match s with
  | (lc, a :: sk, r) => match zi_iv a with
    | some x => some (nx, (lc, .inr (.inl (x.1 + 9223372034707292160, x.2 + 9223372034707292160)) :: sk, r))
    | none => none
  | _ => none
def zi_l2if (x : zi_I) : zi_I := bif zi_one x then (zi_o (zi_ul x.1).toInt32, zi_o (zi_ul x.1).toInt32) else zi_top
def zi_l2i (nx : Nat) : zi_F := fun _ s => match s with
  | (lc, a :: sk, r) => match zi_lv a with
    | some x => some (nx, (lc, .inl (zi_l2if x) :: sk, r))
    | none => none
  | _ => none
def zi_i2bf (x : zi_I) : zi_I := bif zi_one x then (zi_o (zi_u x.1).toInt8.toInt32, zi_o (zi_u x.1).toInt8.toInt32) else (2147483520, 2147483775)
def zi_i2sf (x : zi_I) : zi_I := bif zi_one x then (zi_o (zi_u x.1).toInt16.toInt32, zi_o (zi_u x.1).toInt16.toInt32) else (2147450880, 2147516415)
def zi_un (f : zi_I → zi_I) (nx : Nat) : zi_F := fun _ s => match s with
  | (lc, a :: sk, r) => match zi_iv a with
    | some x => some (nx, (lc, .inl (f x) :: sk, r))
    | none => none
  | _ => none
def zi_if (t : zi_I → zi_I → Option Bool) (tg nx : Nat) : zi_F := fun _ s => match s with
  | (lc, a :: sk, r) => match zi_iv a with
    | some x => match t x (2147483648, 2147483648) with
      | some b => some (bif b then tg else nx, (lc, sk, r))
      | none => none
    | none => none
  | _ => none
def zi_ic (t : zi_I → zi_I → Option Bool) (tg nx : Nat) : zi_F := fun _ s => match s with
  | (lc, b :: a :: sk, r) => match zi_iv a with
    | some x => match zi_iv b with
      | some y => match t x y with
        | some b => some (bif b then tg else nx, (lc, sk, r))
        | none => none
      | none => none
    | none => none
  | _ => none
def zi_go (tg : Nat) : zi_F := fun _ s => some (tg, s)
def zi_null (tn tr : Nat) : zi_F := fun _ s => match s with
  | (lc, .inr (.inr (.inl none)) :: sk, r) => some (tn, (lc, sk, r))
  | (lc, .inr (.inr (.inl (some _))) :: sk, r) => some (tr, (lc, sk, r))
  | _ => none
/-- lo: the lowest case and 2^31 -/
def zi_tsw (lo hi : Nat) (ts : List Nat) (df : Nat) : zi_F := fun _ s => match s with
  | (lc, a :: sk, r) => match zi_iv a with
    | some x => bif Nat.blt x.2 lo || Nat.blt hi x.1 then some (df, (lc, sk, r)) else bif zi_one x && (Nat.ble lo x.1 && Nat.ble x.1 hi) then (match zi_nth ts (x.1 - lo) with
        | some t => some (t, (lc, sk, r))
        | none => none) else none
    | none => none
  | _ => none
def zi_dup (nx : Nat) : zi_F := fun _ s => match s with
  | (lc, a :: sk, r) => bif Nat.beq (zi_cat a) 1 then some (nx, (lc, a :: a :: sk, r)) else none
  | _ => none
def zi_dup2 (nx : Nat) : zi_F := fun _ s => match s with
  | (lc, a :: b :: sk, r) => bif Nat.beq (zi_cat a) 1 && Nat.beq (zi_cat b) 1 then some (nx, (lc, a :: b :: a :: b :: sk, r)) else none
  | _ => none
def zi_popp (nx : Nat) : zi_F := fun _ s => match s with
  | (lc, a :: sk, r) => bif Nat.beq (zi_cat a) 1 then some (nx, (lc, sk, r)) else none
  | _ => none
def zi_getf (ci k nx : Nat) : zi_F := fun _ s => match s with
  | (lc, .inr (.inr (.inl (some q))) :: sk, w, r) => match zi_wg w q with
    | some (.inr (c, vs)) => bif Nat.beq c ci then (match zi_nth vs k with
        | some v => some (nx, (lc, v :: sk, w, r))
        | none => none) else none
    | _ => none
  | _ => none
/-- may the value lie in a field of that type -/
def zi_fit (ty : FieldType) (v : zi_V) : Bool := match ty, v with
  | .int, .inl _ => true
  | .boolean, .inl r => Nat.ble 2147483648 r.1 && Nat.ble r.2 2147483649
  | .object _, .inr (.inr (.inl _)) => true
  | .array _, .inr (.inr (.inl _)) => true
  | _, _ => false
def zi_putf (ci k : Nat) (ty : FieldType) (nx : Nat) : zi_F := fun _ s => match s with
  | (lc, v :: .inr (.inr (.inl (some q))) :: sk, w, r) => match zi_wg w q with
    | some (.inr (c, vs)) => bif Nat.beq c ci && (zi_fit ty v && Nat.blt k vs.length) then some (nx, (lc, sk, zi_ws w q (.inr (c, zi_up (fun _ => v) vs k)), r)) else none
    | _ => none
  | _ => none
def zi_ald (ty : FieldType) (nx : Nat) : zi_F := fun _ s => match s with
  | (lc, i :: .inr (.inr (.inl (some q))) :: sk, w, r) => match zi_iv i with
    | some x => match zi_wg w q with
      | some (.inl (t, l)) => bif zi_one x && (Nat.ble 2147483648 x.1 && decide (t = ty)) then (match zi_nth l (x.1 - 2147483648) with
          | some v => some (nx, (lc, .inl v :: sk, w, r))
          | none => none) else none
      | _ => none
    | none => none
  | _ => none
def zi_afit (ty : FieldType) (r : zi_I) : Bool := match ty with
  | .int => true
  | .boolean => Nat.ble 2147483648 r.1 && Nat.ble r.2 2147483649
  | .byte => Nat.ble 2147483520 r.1 && Nat.ble r.2 2147483775
  | _ => false
def zi_ast (ty : FieldType) (nx : Nat) : zi_F := fun _ s => match s with
  | (lc, v :: i :: .inr (.inr (.inl (some q))) :: sk, w, r) => match zi_iv v with
    | some y => match zi_iv i with
      | some x => match zi_wg w q with
        | some (.inl (t, l)) => bif zi_one x && (Nat.ble 2147483648 x.1 && (decide (t = ty) && (zi_afit ty y && Nat.blt (x.1 - 2147483648) l.length))) then some (nx, (lc, sk, zi_ws w q (.inl (t, zi_up (fun _ => y) l (x.1 - 2147483648))), r)) else none
        | _ => none
      | none => none
    | none => none
  | _ => none
/-- a cell of the script -/
def zi_sld (nx : Nat) : zi_F := fun E s => match s with
  | (lc, i :: .inr (.inr (.inr (.inl _))) :: sk, r) => match zi_iv i with
    | some x => match E.2 with
      | some l => bif zi_one x && Nat.ble 2147483648 x.1 then (match zi_nth l (x.1 - 2147483648) with
          | some v => some (nx, (lc, v :: sk, r))
          | none => none) else none
      | none => none
    | none => none
  | _ => none
def zi_slen (nx : Nat) : zi_F := fun E s => match s with
  | (lc, .inr (.inr (.inr (.inl _))) :: sk, r) => match E.2 with
    | some l => some (nx, (lc, .inl (l.length + 2147483648, l.length + 2147483648) :: sk, r))
    | none => none
  | _ => none
def zi_alen (nx : Nat) : zi_F := fun _ s => match s with
  | (lc, .inr (.inr (.inl (some q))) :: sk, w, r) => match zi_wg w q with
    | some (.inl (_, l)) => bif Nat.ble l.length 2147483647 then some (nx, (lc, .inl (l.length + 2147483648, l.length + 2147483648) :: sk, w, r)) else none
    | _ => none
  | _ => none
def zi_newa (ty : FieldType) (nx : Nat) : zi_F := fun _ s => match s with
  | (lc, n :: sk, w, rc, rs) => match zi_iv n with
    | some x => bif zi_one x && (Nat.ble 2147483648 x.1 && (Nat.ble x.1 2147493648 && (Nat.ble 1 rc && Nat.ble (x.1 - 2147483648) rs))) then some (nx, (lc, .inr (.inr (.inl (some w.1))) :: sk, zi_wp w (.inl (ty, List.replicate (x.1 - 2147483648) (2147483648, 2147483648))), rc - 1, rs - (x.1 - 2147483648))) else none
    | none => none
  | _ => none
def zi_new (ci N : Nat) (vs : List zi_V) (nx : Nat) : zi_F := fun _ s => match s with
  | (lc, sk, w, rc, rs) => bif Nat.ble 1 rc && Nat.ble N rs then some (nx, (lc, .inr (.inr (.inl (some w.1))) :: sk, zi_wp w (.inr (ci, vs)), rc - 1, rs - N)) else none
/-- Object's own constructor -/
def zi_obj (nx : Nat) : zi_F := fun _ s => match s with
  | (lc, .inr (.inr (.inl (some _))) :: sk, r) => bif Nat.ble (zi_wt sk) 20 then some (nx, (lc, sk, r)) else none
  | _ => none
/-- a call: which method, how many values it takes, its class's number (of a static one: none), its cells and slots -/
def zi_inv (j n : Nat) (ci : Option Nat) (mc ms nx : Nat) : zi_F := fun E s => match s with
  | (lc, sk, w, rc, rs) => match zi_pop n sk [] with
    | some (as, rest) => bif Nat.ble (zi_wt rest) 20 && (Nat.ble mc rc && Nat.ble ms rs) then
        (bif (match ci with
            | none => true
            | some c => match as with
              | .inr (.inr (.inl (some q))) :: _ => (match zi_wg w q with
                | some (.inr (c', _)) => Nat.beq c' c
                | _ => false)
              | _ => false) then
          (match E.1 j as w with
            | some (v, w') => some (nx, (lc, v.toList ++ rest, w', rc - mc, rs - ms))
            | none => none) else none) else none
    | none => none
def zi_cpyl : List zi_I → List zi_I → Nat → Nat → Nat → List zi_I
  | a, b, sp, dp, n => b.take dp ++ (a.drop sp).take n ++ b.drop (dp + n)
def zi_copy (nx : Nat) : zi_F := fun _ s => match s with
  | (lc, n :: dp :: .inr (.inr (.inl (some q1))) :: sp :: .inr (.inr (.inl (some q0))) :: sk, w, r) => match zi_iv n with
    | some xn => match zi_iv dp with
      | some xd => match zi_iv sp with
        | some xs => match zi_wg w q0 with
          | some (.inl (.int, a)) => match zi_wg w q1 with
            | some (.inl (.int, b)) => bif zi_one xn && (zi_one xd && (zi_one xs && (Nat.ble 2147483648 xn.1 && (Nat.ble 2147483648 xd.1 && (Nat.ble 2147483648 xs.1 && (Nat.ble (xs.1 - 2147483648 + (xn.1 - 2147483648)) a.length && (Nat.ble (xd.1 - 2147483648 + (xn.1 - 2147483648)) b.length && Nat.ble (zi_wt sk) 20))))))) then some (nx, (lc, sk, zi_ws w q1 (.inl (.int, zi_cpyl a b (xs.1 - 2147483648) (xd.1 - 2147483648) (xn.1 - 2147483648))), r)) else none
            | _ => none
          | _ => none
        | none => none
      | none => none
    | none => none
  | _ => none
/-- what a method answers, by its type -/
def zi_fin (ret : Option FieldType) (sk : List zi_V) : Option (Option zi_V) := match ret, sk with
  | none, [] => some none
  | some .int, [v] => (match zi_iv v with
    | some r => some (some (.inl r))
    | none => none)
  | some .boolean, [.inl r] => bif Nat.ble 2147483648 r.1 && Nat.ble r.2 2147483649 then some (some (.inl r)) else none
  | some .long, [.inr (.inl r)] => some (some (.inr (.inl r)))
  | some (.object _), [.inr (.inr (.inl q))] => some (some (.inr (.inr (.inl q))))
  | _, _ => none
/-- one behind another -/
def zi_seq (f : zi_F) (pc2 : Nat) (g : zi_F) : zi_F := fun E s => match f E s with
  | none => none
  | some r => bif Nat.beq r.1 pc2 then g E r.2 else none
abbrev zi_RT : Type := zi_T → Option (List zi_V) → Nat → Nat → zi_S → Option (Nat × zi_S)
def zi_cal (mt : Nat → Option zi_M) (run : zi_RT) (d j : Nat) (as : List zi_V) (w : zi_W) : Option (Option zi_V × zi_W) := match d with
  | 0 => none
  | d' + 1 => match mt j with
    | none => none
    | some (_, _, mL, ret, t', mc, ms) => bif Nat.ble (zi_wt as) mL then (match run t' none d' 0 (zi_args 0 as, [], w, mc, ms) with
      | none => none
      | some (_, _, sk, w', _) => match zi_fin ret sk with
        | none => none
        | some v => some (v, w')) else none
def zi_stp (mt : Nat → Option zi_M) (run : zi_RT) (t : zi_T) (sc : Option (List zi_V)) (d pc : Nat) (s : zi_S) : Option (Nat × zi_S) := match zi_lk t pc with
  | none => none
  | some none => some (pc, s)
  | some (some f) => match f (zi_cal mt run d, sc) s with
    | none => none
    | some (pc', s') => run t sc d pc' s'
/-- n blocks at most, d calls one in another -/
def zi_run (mt : Nat → Option zi_M) (n : Nat) : zi_RT := Nat.rec (motive := fun _ => zi_RT) (fun _ _ _ _ _ => none) (fun _ ih => zi_stp mt ih) n
def zi_ne (x y : zi_I) : Option Bool := zi_not (zi_eq x y)
def zi_ge (x y : zi_I) : Option Bool := zi_not (zi_lt x y)
def zi_gt (x y : zi_I) : Option Bool := zi_not (zi_le x y)
def zi_ladd (x y : zi_I) : zi_I := zi_sgl (· + ·) x y
def zi_land (x y : zi_I) : zi_I := zi_sgl (· &&& ·) x y
def zi_lor (x y : zi_I) : zi_I := zi_sgl (· ||| ·) x y
def zi_ldiv (x y : zi_I) : zi_I := zi_sgl (· / ·) x y
def zi_lrem (x y : zi_I) : zi_I := zi_sgl (fun a b => a - a / b * b) x y
def zi_sgs (g : Int64 → Int32 → Int64) (x y : zi_I) : zi_I := bif zi_one x && zi_one y then (zi_ol (g (zi_ul x.1) (zi_u y.1)), zi_ol (g (zi_ul x.1) (zi_u y.1))) else zi_topl
def zi_lshl (x y : zi_I) : zi_I := zi_sgs (fun a b => a <<< (b.toInt64 &&& 63)) x y
def zi_lshr (x y : zi_I) : zi_I := zi_sgs (fun a b => a >>> (b.toInt64 &&& 63)) x y
def zi_n0l (y : zi_I) : Bool := Nat.ble 9223372036854775809 y.1 || Nat.ble y.2 9223372036854775807
def zi_dvl (f : zi_I → zi_I → zi_I) (nx : Nat) : zi_F := fun _ s => match s with
  | (lc, b :: a :: sk, r) => match zi_lv a with
    | some x => match zi_lv b with
      | some y => bif zi_n0l y then some (nx, (lc, .inr (.inl (f x y)) :: sk, r)) else none
      | none => none
    | none => none
  | _ => none
end
end
section
/-! what the walk's values mean, and that its numbers are the machine's -/
def zi_dg : List zi_I → Nat → Prop
  | [], n => n = 0
  | r :: t, n => r.1 ≤ n % 26 ∧ n % 26 ≤ r.2 ∧ zi_dg t (n / 26)
def zi_in (r : zi_I) (n : Nat) : Prop := r.1 ≤ n ∧ n ≤ r.2
def zi_g (b : Nat) (ads : List Nat) : zi_V → Value → Prop
  | .inl r, v => ∃ x : Int32, v = .int x ∧ zi_in r (zi_o x)
  | .inr (.inl r), v => ∃ x : Int64, v = .long x ∧ zi_in r (zi_ol x)
  | .inr (.inr (.inl none)), v => v = .null
  | .inr (.inr (.inl (some k))), v => ∃ a, ads[k]? = some a ∧ v = .ref a
  | .inr (.inr (.inr (.inl _))), v => v = .ref b
  | .inr (.inr (.inr (.inr ds))), v => ∃ x : Int32, v = .int x ∧ 2147483648 ≤ zi_o x ∧ zi_dg ds (zi_o x - 2147483648)
def zi_a2 {α β : Type} (r : α → β → Prop) : List α → List β → Prop
  | [], [] => True
  | a :: as, b :: bs => r a b ∧ zi_a2 r as bs
  | _, _ => False
theorem zi_a2.cons {α β : Type} {r : α → β → Prop} {a : α} {as : List α} {bs : List β} (h : zi_a2 r (a :: as) bs) : ∃ b bs', bs = b :: bs' ∧ r a b ∧ zi_a2 r as bs' := by
  cases bs with
  | nil => exact h.elim
  | cons b bs' => exact ⟨b, bs', rfl, h.1, h.2⟩
theorem zi_a2.nil {α β : Type} {r : α → β → Prop} {bs : List β} (h : zi_a2 r ([] : List α) bs) : bs = [] := by
  cases bs with
  | nil => rfl
  | cons b bs' => exact h.elim
theorem zi_a2.len {α β : Type} {r : α → β → Prop} : ∀ {as : List α} {bs : List β}, zi_a2 r as bs → as.length = bs.length
  | [], [], _ => rfl
  | [], _ :: _, h => h.elim
  | _ :: _, [], h => h.elim
  | _ :: as, _ :: bs, h => by rw [List.length_cons, List.length_cons, zi_a2.len h.2]
theorem zi_a2.get {α β : Type} {r : α → β → Prop} : ∀ {as : List α} {bs : List β} {k : Nat} {a : α}, zi_a2 r as bs → as[k]? = some a → ∃ b, bs[k]? = some b ∧ r a b
  | [], _, _, _, _, h => by simp at h
  | _ :: _, [], _, _, h, _ => h.elim
  | a :: as, b :: bs, 0, x, h, q => by
    simp at q
    subst q
    exact ⟨b, rfl, h.1⟩
  | _ :: as, _ :: bs, k + 1, x, h, q => by
    simp at q
    obtain ⟨y, h1, h2⟩ := zi_a2.get h.2 q
    exact ⟨y, by simpa using h1, h2⟩
theorem zi_a2.set {α β : Type} {r : α → β → Prop} : ∀ {as : List α} {bs : List β} (k : Nat) {a : α} {b : β}, zi_a2 r as bs → r a b → zi_a2 r (as.set k a) (bs.set k b)
  | [], [], _, _, _, h, _ => h
  | [], _ :: _, _, _, _, h, _ => h.elim
  | _ :: _, [], _, _, _, h, _ => h.elim
  | _ :: _, _ :: _, 0, _, _, h, q => ⟨q, h.2⟩
  | _ :: _, _ :: _, k + 1, _, _, h, q => ⟨h.1, zi_a2.set k h.2 q⟩
theorem zi_a2.app {α β : Type} {r : α → β → Prop} : ∀ {as : List α} {bs : List β} {as' : List α} {bs' : List β}, zi_a2 r as bs → zi_a2 r as' bs' → zi_a2 r (as ++ as') (bs ++ bs')
  | [], [], _, _, _, q => q
  | [], _ :: _, _, _, h, _ => h.elim
  | _ :: _, [], _, _, h, _ => h.elim
  | _ :: _, _ :: _, _, _, h, q => ⟨h.1, zi_a2.app h.2 q⟩
theorem zi_a2.mono {α β : Type} {r r' : α → β → Prop} (hr : ∀ a b, r a b → r' a b) : ∀ {as : List α} {bs : List β}, zi_a2 r as bs → zi_a2 r' as bs
  | [], [], _ => trivial
  | [], _ :: _, h => h.elim
  | _ :: _, [], h => h.elim
  | _ :: _, _ :: _, h => ⟨hr _ _ h.1, zi_a2.mono hr h.2⟩
theorem zi_a2.filter {α β : Type} {r : α → β → Prop} {f : α → Bool} {g : β → Bool} (hr : ∀ a b, r a b → f a = g b) : ∀ {as : List α} {bs : List β}, zi_a2 r as bs → zi_a2 r (as.filter f) (bs.filter g)
  | [], [], _ => trivial
  | [], _ :: _, h => h.elim
  | _ :: _, [], h => h.elim
  | a :: as, b :: bs, h => by
    have e := hr a b h.1
    have t := zi_a2.filter hr h.2
    rw [List.filter_cons, List.filter_cons, ← e]
    split
    · exact ⟨h.1, t⟩
    · exact t
theorem zi_g.mono {b : Nat} {ads ads' : List Nat} (ha : ∀ (k a : Nat), ads[k]? = some a → ads'[k]? = some a) : ∀ (v : zi_V) (x : Value), zi_g b ads v x → zi_g b ads' v x
  | .inl _, _, h => h
  | .inr (.inl _), _, h => h
  | .inr (.inr (.inl none)), _, h => h
  | .inr (.inr (.inl (some _))), _, h => by
    obtain ⟨a, h1, h2⟩ := h
    exact ⟨a, ha _ _ h1, h2⟩
  | .inr (.inr (.inr (.inl _))), _, h => h
  | .inr (.inr (.inr (.inr _))), _, h => h
theorem zi_g.cat {b : Nat} {ads : List Nat} : ∀ (v : zi_V) (x : Value), zi_g b ads v x → x.category = zi_cat v
  | .inl _, _, h => by obtain ⟨x, rfl, _⟩ := h; rfl
  | .inr (.inl _), _, h => by obtain ⟨x, rfl, _⟩ := h; rfl
  | .inr (.inr (.inl none)), _, h => by cases h; rfl
  | .inr (.inr (.inl (some _))), _, h => by obtain ⟨x, _, rfl⟩ := h; rfl
  | .inr (.inr (.inr (.inl _))), _, h => by cases h; rfl
  | .inr (.inr (.inr (.inr _))), _, h => by obtain ⟨x, rfl, _⟩ := h; rfl
theorem zi_g.kd0 {b : Nat} {ads : List Nat} : ∀ (v : zi_V) (x : Value), zi_g b ads v x → zi_kd v = 0 → ∃ i : Int32, x = .int i
  | .inl _, _, h, _ => by obtain ⟨x, rfl, _⟩ := h; exact ⟨x, rfl⟩
  | .inr (.inl _), _, _, q => by cases q
  | .inr (.inr (.inl _)), _, _, q => by cases q
  | .inr (.inr (.inr (.inl _))), _, _, q => by cases q
  | .inr (.inr (.inr (.inr _))), _, h, _ => by obtain ⟨x, rfl, _⟩ := h; exact ⟨x, rfl⟩
theorem zi_g.kd1 {b : Nat} {ads : List Nat} : ∀ (v : zi_V) (x : Value), zi_g b ads v x → zi_kd v = 1 → ∃ i : Int64, x = .long i
  | .inl _, _, _, q => by cases q
  | .inr (.inl _), _, h, _ => by obtain ⟨x, rfl, _⟩ := h; exact ⟨x, rfl⟩
  | .inr (.inr (.inl _)), _, _, q => by cases q
  | .inr (.inr (.inr (.inl _))), _, _, q => by cases q
  | .inr (.inr (.inr (.inr _))), _, _, q => by cases q
theorem zi_g.kd2 {b : Nat} {ads : List Nat} : ∀ (v : zi_V) (x : Value), zi_g b ads v x → zi_kd v = 2 → x = .null ∨ ∃ a, x = .ref a
  | .inl _, _, _, q => by cases q
  | .inr (.inl _), _, _, q => by cases q
  | .inr (.inr (.inl none)), _, h, _ => Or.inl h
  | .inr (.inr (.inl (some _))), _, h, _ => by obtain ⟨x, _, rfl⟩ := h; exact Or.inr ⟨x, rfl⟩
  | .inr (.inr (.inr (.inl _))), _, h, _ => Or.inr ⟨_, h⟩
  | .inr (.inr (.inr (.inr _))), _, _, q => by cases q
-- numbers
theorem zi_oe (x : Int32) : (zi_o x : Int) = x.toInt + 2147483648 := by
  have h := x.le_toInt
  unfold zi_o
  omega
theorem zi_ob (x : Int32) : zi_o x ≤ 4294967295 := by
  have h := x.toInt_lt
  have q := zi_oe x
  omega
theorem zi_ole (x : Int64) : (zi_ol x : Int) = x.toInt + 9223372036854775808 := by
  have h := x.le_toInt
  unfold zi_ol
  omega
theorem zi_olb (x : Int64) : zi_ol x ≤ 18446744073709551615 := by
  have h := x.toInt_lt
  have q := zi_ole x
  omega
theorem zi_uo (x : Int32) : zi_u (zi_o x) = x := by
  unfold zi_u
  rw [zi_oe, show x.toInt + 2147483648 - 2147483648 = x.toInt by omega, Int32.ofInt_toInt]
theorem zi_ulo (x : Int64) : zi_ul (zi_ol x) = x := by
  unfold zi_ul
  rw [zi_ole, show x.toInt + 9223372036854775808 - 9223372036854775808 = x.toInt by omega, Int64.ofInt_toInt]
theorem zi_one_eq {r : zi_I} {n : Nat} (h : zi_one r = true) (h1 : zi_in r n) : r.1 = n := by
  have := Nat.eq_of_beq_eq_true h
  unfold zi_in at h1
  omega
theorem zi_one_eq' {r : zi_I} {n : Nat} (h : zi_one r = true) (h1 : zi_in r n) : r.2 = n := by
  have := Nat.eq_of_beq_eq_true h
  unfold zi_in at h1
  omega
theorem zi_top_in (x : Int32) : zi_in zi_top (zi_o x) := ⟨Nat.zero_le _, zi_ob x⟩
theorem zi_topl_in (x : Int64) : zi_in zi_topl (zi_ol x) := ⟨Nat.zero_le _, zi_olb x⟩
theorem zi_sg_ok {g : Int32 → Int32 → Int32} {a b : zi_I} {x y : Int32} (ha : zi_in a (zi_o x)) (hb : zi_in b (zi_o y)) : zi_in (zi_sg g a b) (zi_o (g x y)) := by
  unfold zi_sg
  cases h : (zi_one a && zi_one b) with
  | false => exact zi_top_in _
  | true =>
    obtain ⟨h1, h2⟩ := Bool.and_eq_true_iff.mp h
    rw [zi_one_eq h1 ha, zi_one_eq h2 hb, zi_uo, zi_uo]
    exact ⟨Nat.le_refl _, Nat.le_refl _⟩
theorem zi_sgl_ok {g : Int64 → Int64 → Int64} {a b : zi_I} {x y : Int64} (ha : zi_in a (zi_ol x)) (hb : zi_in b (zi_ol y)) : zi_in (zi_sgl g a b) (zi_ol (g x y)) := by
  unfold zi_sgl
  cases h : (zi_one a && zi_one b) with
  | false => exact zi_topl_in _
  | true =>
    obtain ⟨h1, h2⟩ := Bool.and_eq_true_iff.mp h
    rw [zi_one_eq h1 ha, zi_one_eq h2 hb, zi_ulo, zi_ulo]
    exact ⟨Nat.le_refl _, Nat.le_refl _⟩
theorem zi_sgs_ok {g : Int64 → Int32 → Int64} {a b : zi_I} {x : Int64} {y : Int32} (ha : zi_in a (zi_ol x)) (hb : zi_in b (zi_o y)) : zi_in (zi_sgs g a b) (zi_ol (g x y)) := by
  unfold zi_sgs
  cases h : (zi_one a && zi_one b) with
  | false => exact zi_topl_in _
  | true =>
    obtain ⟨h1, h2⟩ := Bool.and_eq_true_iff.mp h
    rw [zi_one_eq h1 ha, zi_one_eq h2 hb, zi_ulo, zi_uo]
    exact ⟨Nat.le_refl _, Nat.le_refl _⟩
theorem zi_bm {n : Int} (h1 : -2147483648 ≤ n) (h2 : n ≤ 2147483647) : n.bmod (2 ^ 32) = n := Int.bmod_eq_of_le (by omega) (by omega)
theorem zi_add_ok {a b : zi_I} {x y : Int32} (ha : zi_in a (zi_o x)) (hb : zi_in b (zi_o y)) : zi_in (zi_add a b) (zi_o (x + y)) := by
  unfold zi_add
  cases h : (Nat.ble 2147483648 (a.1 + b.1) && Nat.ble (a.2 + b.2) 6442450943) with
  | false => exact zi_sg_ok ha hb
  | true =>
    obtain ⟨h1, h2⟩ := Bool.and_eq_true_iff.mp h
    have h1 := Nat.le_of_ble_eq_true h1
    have h2 := Nat.le_of_ble_eq_true h2
    have e1 := zi_oe x
    have e2 := zi_oe y
    have e3 := zi_oe (x + y)
    unfold zi_in at ha hb
    rw [Int32.toInt_add, zi_bm (by omega) (by omega)] at e3
    show _ ≤ _ ∧ _ ≤ _
    dsimp only [cond_true]
    omega
theorem zi_sub_ok {a b : zi_I} {x y : Int32} (ha : zi_in a (zi_o x)) (hb : zi_in b (zi_o y)) : zi_in (zi_sub a b) (zi_o (x - y)) := by
  unfold zi_sub
  cases h : (Nat.ble b.2 (a.1 + 2147483648) && Nat.ble (a.2 + 2147483648) (b.1 + 4294967295)) with
  | false => exact zi_sg_ok (g := (· - ·)) ha hb
  | true =>
    obtain ⟨h1, h2⟩ := Bool.and_eq_true_iff.mp h
    have h1 := Nat.le_of_ble_eq_true h1
    have h2 := Nat.le_of_ble_eq_true h2
    have e1 := zi_oe x
    have e2 := zi_oe y
    have e3 := zi_oe (x - y)
    unfold zi_in at ha hb
    rw [Int32.toInt_sub, zi_bm (by omega) (by omega)] at e3
    show _ ≤ _ ∧ _ ≤ _
    dsimp only [cond_true]
    omega
theorem zi_mul_ok {a b : zi_I} {x y : Int32} (ha : zi_in a (zi_o x)) (hb : zi_in b (zi_o y)) : zi_in (zi_mul a b) (zi_o (x * y)) := by
  unfold zi_mul
  cases h : (Nat.ble 2147483648 a.1 && (Nat.ble 2147483648 b.1 && Nat.ble ((a.2 - 2147483648) * (b.2 - 2147483648)) 2147483647)) with
  | false => exact zi_sg_ok (g := (· * ·)) ha hb
  | true =>
    obtain ⟨h1, h2⟩ := Bool.and_eq_true_iff.mp h
    obtain ⟨h2, h3⟩ := Bool.and_eq_true_iff.mp h2
    have h1 := Nat.le_of_ble_eq_true h1
    have h2 := Nat.le_of_ble_eq_true h2
    have h3 := Nat.le_of_ble_eq_true h3
    have e1 := zi_oe x
    have e2 := zi_oe y
    have e3 := zi_oe (x * y)
    unfold zi_in at ha hb
    obtain ⟨u, hu⟩ : ∃ u : Nat, zi_o x = u + 2147483648 := ⟨zi_o x - 2147483648, by omega⟩
    obtain ⟨v, hv⟩ : ∃ v : Nat, zi_o y = v + 2147483648 := ⟨zi_o y - 2147483648, by omega⟩
    have ex : x.toInt = (u : Int) := by omega
    have ey : y.toInt = (v : Int) := by omega
    have m1 : u * v ≤ (a.2 - 2147483648) * (b.2 - 2147483648) := Nat.mul_le_mul (by omega) (by omega)
    have m2 : (a.1 - 2147483648) * (b.1 - 2147483648) ≤ u * v := Nat.mul_le_mul (by omega) (by omega)
    have em : x.toInt * y.toInt = ((u * v : Nat) : Int) := by rw [ex, ey]; exact (Int.natCast_mul u v).symm
    rw [Int32.toInt_mul, em, zi_bm (by omega) (by omega)] at e3
    show _ ≤ _ ∧ _ ≤ _
    dsimp only [cond_true]
    omega
theorem zi_shr0 (y : Int32) : (0 : Int32) >>> y = 0 := by
  apply Int32.toBitVec_inj.mp
  simp
theorem zi_dg_hull : ∀ (ds : List zi_I) (n : Nat), zi_dg ds n → zi_dlo ds ≤ n ∧ n ≤ zi_dhi ds
  | [], n, h => by cases (show n = 0 from h); exact ⟨Nat.le_refl _, Nat.le_refl _⟩
  | r :: t, n, h => by
    have q := zi_dg_hull t (n / 26) h.2.2
    have h1 := h.1
    have h2 := h.2.1
    show r.1 + 26 * zi_dlo t ≤ n ∧ n ≤ r.2 + 26 * zi_dhi t
    omega
theorem zi_iv_ok {b : Nat} {ads : List Nat} : ∀ (v : zi_V) {r : zi_I} {x : Value}, zi_iv v = some r → zi_g b ads v x → ∃ i : Int32, x = .int i ∧ zi_in r (zi_o i)
  | .inl _, r, x, h, q => by cases h; exact q
  | .inr (.inl _), _, _, h, _ => by cases h
  | .inr (.inr (.inl _)), _, _, h, _ => by cases h
  | .inr (.inr (.inr (.inl _))), _, _, h, _ => by cases h
  | .inr (.inr (.inr (.inr ds))), r, x, h, q => by
    cases h
    obtain ⟨i, rfl, h1, h2⟩ := q
    have h3 := zi_dg_hull _ _ h2
    refine ⟨i, rfl, ?_⟩
    show _ ≤ _ ∧ _ ≤ _
    dsimp only
    omega
theorem zi_lv_ok {b : Nat} {ads : List Nat} : ∀ (v : zi_V) {r : zi_I} {x : Value}, zi_lv v = some r → zi_g b ads v x → ∃ i : Int64, x = .long i ∧ zi_in r (zi_ol i)
  | .inl _, _, _, h, _ => by cases h
  | .inr (.inl _), r, x, h, q => by cases h; exact q
  | .inr (.inr _), _, _, h, _ => by cases h
theorem zi_n0_ok {b : zi_I} {y : Int32} (h : zi_n0 b = true) (hb : zi_in b (zi_o y)) : ¬ y = 0 := by
  intro q
  subst q
  have e : zi_o 0 = 2147483648 := by decide
  rw [e] at hb
  unfold zi_in at hb
  rcases Bool.or_eq_true_iff.mp h with h | h
  · have := Nat.le_of_ble_eq_true h; omega
  · have := Nat.le_of_ble_eq_true h; omega
theorem zi_n0l_ok {b : zi_I} {y : Int64} (h : zi_n0l b = true) (hb : zi_in b (zi_ol y)) : ¬ y = 0 := by
  intro q
  subst q
  have e : zi_ol 0 = 9223372036854775808 := by decide
  rw [e] at hb
  unfold zi_in at hb
  rcases Bool.or_eq_true_iff.mp h with h | h
  · have := Nat.le_of_ble_eq_true h; omega
  · have := Nat.le_of_ble_eq_true h; omega
/-- of a number that isn't below 0 by one above 0 -/
theorem zi_quo {x y : Int32} {u v : Nat} (hx : x.toInt = (u : Int)) (hy : y.toInt = (v : Int)) (hv : 0 < v) : (x / y).toInt = ((u / v : Nat) : Int) := by
  have hb := x.toInt_lt
  rw [Int32.toInt_div, hx, hy, ← Int.ofNat_tdiv]
  have h1 : u / v ≤ u := Nat.div_le_self u v
  generalize u / v = q at h1 ⊢
  exact zi_bm (by omega) (by omega)
theorem zi_mod {x y : Int32} {u v : Nat} (hx : x.toInt = (u : Int)) (hy : y.toInt = (v : Int)) (hv : 0 < v) : (x - x / y * y).toInt = ((u % v : Nat) : Int) := by
  have hq := zi_quo hx hy hv
  have hb := x.toInt_lt
  have h0 := Nat.div_add_mod u v
  have h1 := Nat.mod_le u v
  have h2 : u / v * v ≤ u := Nat.div_mul_le_self u v
  have e : (x / y * y).toInt = ((u / v * v : Nat) : Int) := by
    rw [Int32.toInt_mul, hq, hy, ← Int.natCast_mul]
    exact zi_bm (by omega) (by omega)
  rw [Int32.toInt_sub, e, hx]
  have h3 : (u : Int) - ((u / v * v : Nat) : Int) = ((u % v : Nat) : Int) := by
    have : u / v * v = v * (u / v) := Nat.mul_comm _ _
    omega
  rw [h3]
  exact zi_bm (by omega) (by omega)
theorem zi_divi_ok {a b : zi_I} {x y : Int32} (ha : zi_in a (zi_o x)) (hb : zi_in b (zi_o y)) : zi_in (zi_divi a b) (zi_o (x / y)) := by
  unfold zi_divi
  cases h : (zi_one b && Nat.ble 2147483649 b.1 && Nat.ble 2147483648 a.1) with
  | false => exact zi_sg_ok (g := (· / ·)) ha hb
  | true =>
    obtain ⟨h1, h3⟩ := Bool.and_eq_true_iff.mp h
    obtain ⟨h1, h2⟩ := Bool.and_eq_true_iff.mp h1
    have h2 := Nat.le_of_ble_eq_true h2
    have h3 := Nat.le_of_ble_eq_true h3
    have eb := zi_one_eq h1 hb
    have e1 := zi_oe x
    have e2 := zi_oe y
    have e3 := zi_oe (x / y)
    unfold zi_in at ha hb
    obtain ⟨u, hu⟩ : ∃ u : Nat, zi_o x = u + 2147483648 := ⟨zi_o x - 2147483648, by omega⟩
    obtain ⟨v, hv⟩ : ∃ v : Nat, zi_o y = v + 2147483648 := ⟨zi_o y - 2147483648, by omega⟩
    rw [zi_quo (u := u) (v := v) (by omega) (by omega) (by omega)] at e3
    have m1 : (a.1 - 2147483648) / v ≤ u / v := Nat.div_le_div_right (by omega)
    have m2 : u / v ≤ (a.2 - 2147483648) / v := Nat.div_le_div_right (by omega)
    have ev : b.1 - 2147483648 = v := by omega
    show _ ≤ _ ∧ _ ≤ _
    dsimp only [cond_true]
    rw [ev]
    omega
set_option maxRecDepth 100000 in
theorem zi_remi_ok {a b : zi_I} {x y : Int32} (ha : zi_in a (zi_o x)) (hb : zi_in b (zi_o y)) : zi_in (zi_remi a b) (zi_o (x - x / y * y)) := by
  unfold zi_remi
  cases h : (zi_one b && Nat.ble 2147483649 b.1 && Nat.ble 2147483648 a.1 && Nat.beq ((a.1 - 2147483648) / (b.1 - 2147483648)) ((a.2 - 2147483648) / (b.1 - 2147483648))) with
  | false => exact zi_sg_ok (g := fun a b => a - a / b * b) ha hb
  | true =>
    obtain ⟨h1, h4⟩ := Bool.and_eq_true_iff.mp h
    obtain ⟨h1, h3⟩ := Bool.and_eq_true_iff.mp h1
    obtain ⟨h1, h2⟩ := Bool.and_eq_true_iff.mp h1
    have h2 := Nat.le_of_ble_eq_true h2
    have h3 := Nat.le_of_ble_eq_true h3
    have h4 := Nat.eq_of_beq_eq_true h4
    have eb := zi_one_eq h1 hb
    have e1 := zi_oe x
    have e2 := zi_oe y
    have e3 := zi_oe (x - x / y * y)
    unfold zi_in at ha hb
    obtain ⟨u, hu⟩ : ∃ u : Nat, zi_o x = u + 2147483648 := ⟨zi_o x - 2147483648, by omega⟩
    obtain ⟨v, hv⟩ : ∃ v : Nat, zi_o y = v + 2147483648 := ⟨zi_o y - 2147483648, by omega⟩
    rw [zi_mod (u := u) (v := v) (by omega) (by omega) (by omega)] at e3
    have ev : b.1 - 2147483648 = v := by omega
    rw [ev] at h4
    have m1 : (a.1 - 2147483648) / v ≤ u / v := Nat.div_le_div_right (by omega)
    have m2 : u / v ≤ (a.2 - 2147483648) / v := Nat.div_le_div_right (by omega)
    have d1 := Nat.div_add_mod (a.1 - 2147483648) v
    have d2 := Nat.div_add_mod (a.2 - 2147483648) v
    have d3 := Nat.div_add_mod u v
    have e4 : (a.1 - 2147483648) / v = u / v := Nat.le_antisymm m1 (by rw [h4]; exact m2)
    have e5 : (a.2 - 2147483648) / v = u / v := h4.symm.trans e4
    rw [e4] at d1
    rw [e5] at d2
    show _ ≤ _ ∧ _ ≤ _
    dsimp only [cond_true]
    rw [ev]
    have k1 : (a.1 - 2147483648) % v ≤ u % v := by omega
    have k2 : u % v ≤ (a.2 - 2147483648) % v := by omega
    have e6 : zi_o (x - x / y * y) = u % v + 2147483648 := by omega
    rw [e6]
    exact ⟨Nat.add_le_add_right k1 _, Nat.add_le_add_right k2 _⟩
theorem zi_dg_tail {ds : List zi_I} {n : Nat} (h : zi_dg ds n) : zi_dg ds.tail (n / 26) := by
  cases ds with
  | nil => cases (show n = 0 from h); rfl
  | cons r t => exact h.2.2
theorem zi_dig_eq : ∀ {a : zi_V} {ds : List zi_I}, zi_dig a = some ds → a = .inr (.inr (.inr (.inr ds)))
  | .inl _, _, h => by cases h
  | .inr (.inl _), _, h => by cases h
  | .inr (.inr (.inl _)), _, h => by cases h
  | .inr (.inr (.inr (.inl _))), _, h => by cases h
  | .inr (.inr (.inr (.inr _))), _, h => by cases h; rfl
theorem zi_div_ok {b : Nat} {ads : List Nat} {a : zi_V} {xa yb : zi_I} {x y : Int32} (hg : zi_g b ads a (.int x)) (ha : zi_in xa (zi_o x)) (hb : zi_in yb (zi_o y)) : zi_g b ads (zi_div a xa yb) (.int (x / y)) := by
  have alt : zi_g b ads (.inl (zi_divi xa yb)) (.int (x / y)) := ⟨_, rfl, zi_divi_ok ha hb⟩
  have main : ∀ (ds : List zi_I) (k : Nat), zi_dig a = some ds → 0 < k → zi_one yb = true → yb.1 = k + 2147483648 → 2147483648 ≤ zi_o (x / y) ∧ zi_o (x / y) - 2147483648 = (zi_o x - 2147483648) / k := by
    intro ds k hd hk h1 h2
    rw [zi_dig_eq hd] at hg
    obtain ⟨i, hi, g1, g2⟩ := hg
    cases hi
    have eb := zi_one_eq h1 hb
    have e1 := zi_oe x
    have e2 := zi_oe y
    have e3 := zi_oe (x / y)
    obtain ⟨u, hu⟩ : ∃ u : Nat, zi_o x = u + 2147483648 := ⟨zi_o x - 2147483648, by omega⟩
    rw [zi_quo (u := u) (v := k) (by omega) (by omega) hk] at e3
    have e4 : zi_o x - 2147483648 = u := by omega
    rw [e4]
    generalize u / k = q at e3 ⊢
    omega
  unfold zi_div
  split
  · rename_i ds hd
    cases h : (zi_one yb && Nat.beq yb.1 2147483674) with
    | true =>
      obtain ⟨h1, h2⟩ := Bool.and_eq_true_iff.mp h
      have h2 := Nat.eq_of_beq_eq_true h2
      obtain ⟨m1, m2⟩ := main ds 26 hd (by omega) h1 (by omega)
      rw [zi_dig_eq hd] at hg
      obtain ⟨i, hi, g1, g2⟩ := hg
      cases hi
      refine ⟨_, rfl, m1, ?_⟩
      rw [m2]
      exact zi_dg_tail g2
    | false =>
      cases h' : (zi_one yb && Nat.beq yb.1 2147484324) with
      | true =>
        obtain ⟨h1, h2⟩ := Bool.and_eq_true_iff.mp h'
        have h2 := Nat.eq_of_beq_eq_true h2
        obtain ⟨m1, m2⟩ := main ds 676 hd (by omega) h1 (by omega)
        rw [zi_dig_eq hd] at hg
        obtain ⟨i, hi, g1, g2⟩ := hg
        cases hi
        refine ⟨_, rfl, m1, ?_⟩
        rw [m2, show (676 : Nat) = 26 * 26 from rfl, ← Nat.div_div_eq_div_mul]
        exact zi_dg_tail (zi_dg_tail g2)
      | false => exact alt
  · exact alt
theorem zi_rem_ok {b : Nat} {ads : List Nat} {a : zi_V} {xa yb : zi_I} {x y : Int32} (hg : zi_g b ads a (.int x)) (ha : zi_in xa (zi_o x)) (hb : zi_in yb (zi_o y)) : zi_g b ads (zi_rem a xa yb) (.int (x - x / y * y)) := by
  have alt : zi_g b ads (.inl (zi_remi xa yb)) (.int (x - x / y * y)) := ⟨_, rfl, zi_remi_ok ha hb⟩
  unfold zi_rem
  split
  · rename_i r t hd
    cases h : (zi_one yb && Nat.beq yb.1 2147483674) with
    | true =>
      obtain ⟨h1, h2⟩ := Bool.and_eq_true_iff.mp h
      have h2 := Nat.eq_of_beq_eq_true h2
      rw [zi_dig_eq hd] at hg
      obtain ⟨i, hi, g1, g2⟩ := hg
      cases hi
      have eb := zi_one_eq h1 hb
      have e1 := zi_oe x
      have e2 := zi_oe y
      have e3 := zi_oe (x - x / y * y)
      obtain ⟨u, hu⟩ : ∃ u : Nat, zi_o x = u + 2147483648 := ⟨zi_o x - 2147483648, by omega⟩
      rw [zi_mod (u := u) (v := 26) (by omega) (by omega) (by omega)] at e3
      have e4 : zi_o x - 2147483648 = u := by omega
      rw [e4] at g2
      have g3 := g2.1
      have g4 := g2.2.1
      refine ⟨_, rfl, ?_⟩
      show _ ≤ _ ∧ _ ≤ _
      dsimp only
      omega
    | false => exact alt
  · exact alt
theorem zi_lt_ok {a b : zi_I} {x y : Int32} {t : Bool} (ha : zi_in a (zi_o x)) (hb : zi_in b (zi_o y)) (h : zi_lt a b = some t) : t = decide (x < y) := by
  have e1 := zi_oe x
  have e2 := zi_oe y
  unfold zi_in at ha hb
  unfold zi_lt at h
  cases h1 : Nat.blt a.2 b.1 with
  | true =>
    rw [h1] at h
    cases h
    have := Nat.le_of_ble_eq_true h1
    exact (decide_eq_true (Int32.lt_iff_toInt_lt.mpr (by omega))).symm
  | false =>
    rw [h1] at h
    cases h2 : Nat.ble b.2 a.1 with
    | true =>
      rw [h2] at h
      cases h
      have := Nat.le_of_ble_eq_true h2
      exact (decide_eq_false (fun q => by have := Int32.lt_iff_toInt_lt.mp q; omega)).symm
    | false => rw [h2] at h; cases h
theorem zi_le_ok {a b : zi_I} {x y : Int32} {t : Bool} (ha : zi_in a (zi_o x)) (hb : zi_in b (zi_o y)) (h : zi_le a b = some t) : t = decide (x ≤ y) := by
  have e1 := zi_oe x
  have e2 := zi_oe y
  unfold zi_in at ha hb
  unfold zi_le at h
  cases h1 : Nat.ble a.2 b.1 with
  | true =>
    rw [h1] at h
    cases h
    have := Nat.le_of_ble_eq_true h1
    exact (decide_eq_true (Int32.le_iff_toInt_le.mpr (by omega))).symm
  | false =>
    rw [h1] at h
    cases h2 : Nat.blt b.2 a.1 with
    | true =>
      rw [h2] at h
      cases h
      have := Nat.le_of_ble_eq_true h2
      exact (decide_eq_false (fun q => by have := Int32.le_iff_toInt_le.mp q; omega)).symm
    | false => rw [h2] at h; cases h
theorem zi_eq_ok {a b : zi_I} {x y : Int32} {t : Bool} (ha : zi_in a (zi_o x)) (hb : zi_in b (zi_o y)) (h : zi_eq a b = some t) : t = decide (x = y) := by
  have e1 := zi_oe x
  have e2 := zi_oe y
  unfold zi_eq at h
  cases h1 : (zi_one a && (zi_one b && Nat.beq a.1 b.1)) with
  | true =>
    rw [h1] at h
    cases h
    obtain ⟨q1, q2⟩ := Bool.and_eq_true_iff.mp h1
    obtain ⟨q2, q3⟩ := Bool.and_eq_true_iff.mp q2
    have q3 := Nat.eq_of_beq_eq_true q3
    have q1 := zi_one_eq q1 ha
    have q2 := zi_one_eq q2 hb
    exact (decide_eq_true (Int32.toInt_inj.mp (by omega))).symm
  | false =>
    rw [h1] at h
    unfold zi_in at ha hb
    cases h2 : (Nat.blt a.2 b.1 || Nat.blt b.2 a.1) with
    | true =>
      rw [h2] at h
      cases h
      refine (decide_eq_false (fun q => ?_)).symm
      subst q
      rcases Bool.or_eq_true_iff.mp h2 with q | q
      · have := Nat.le_of_ble_eq_true q; omega
      · have := Nat.le_of_ble_eq_true q; omega
    | false => rw [h2] at h; cases h
theorem zi_not_ok {o : Option Bool} {t : Bool} (h : zi_not o = some t) : ∃ u, o = some u ∧ t = !u := by
  cases o with
  | none => cases h
  | some u => cases h; exact ⟨u, rfl, rfl⟩
theorem zi_cmpl_ok {a b : zi_I} {x y : Int64} (ha : zi_in a (zi_ol x)) (hb : zi_in b (zi_ol y)) : zi_in (zi_cmpl a b) (zi_o (lg_cmp x y)) := by
  have e1 := zi_ole x
  have e2 := zi_ole y
  have c1 : zi_o (-1) = 2147483647 := by decide
  have c2 : zi_o 0 = 2147483648 := by decide
  have c3 : zi_o 1 = 2147483649 := by decide
  have hlt : x < y ↔ x.toInt < y.toInt := Int64.lt_iff_toInt_lt
  have hgt : x > y ↔ y.toInt < x.toInt := Int64.lt_iff_toInt_lt
  have heq : x = y ↔ x.toInt = y.toInt := ⟨fun h => by rw [h], fun h => Int64.toInt_inj.mp h⟩
  have main : ((zi_o (lg_cmp x y) = 2147483647 ∧ x.toInt < y.toInt) ∨ (zi_o (lg_cmp x y) = 2147483648 ∧ x.toInt = y.toInt)) ∨ (zi_o (lg_cmp x y) = 2147483649 ∧ y.toInt < x.toInt) := by
    unfold lg_cmp
    split
    · rename_i h; exact Or.inr ⟨c3, hgt.mp h⟩
    · rename_i h
      split
      · rename_i h'; exact Or.inl (Or.inr ⟨c2, heq.mp h'⟩)
      · rename_i h'
        refine Or.inl (Or.inl ⟨c1, ?_⟩)
        have n1 : ¬ y.toInt < x.toInt := fun q => h (hgt.mpr q)
        have n2 : ¬ x.toInt = y.toInt := fun q => h' (heq.mpr q)
        omega
  unfold zi_cmpl
  have ha' := ha
  have hb' := hb
  unfold zi_in at ha hb
  cases h1 : Nat.blt a.2 b.1 with
  | true => have := Nat.le_of_ble_eq_true h1; show _ ≤ _ ∧ _ ≤ _; dsimp only [cond_true]; omega
  | false =>
    cases h2 : Nat.blt b.2 a.1 with
    | true => have := Nat.le_of_ble_eq_true h2; show _ ≤ _ ∧ _ ≤ _; dsimp only [cond_true, cond_false]; omega
    | false =>
      cases h3 : (zi_one a && (zi_one b && Nat.beq a.1 b.1)) with
      | true =>
        obtain ⟨q1, q2⟩ := Bool.and_eq_true_iff.mp h3
        obtain ⟨q2, q3⟩ := Bool.and_eq_true_iff.mp q2
        have q3 := Nat.eq_of_beq_eq_true q3
        have q1 := zi_one_eq q1 ha'
        have q2 := zi_one_eq q2 hb'
        show _ ≤ _ ∧ _ ≤ _
        dsimp only [cond_true, cond_false]
        omega
      | false =>
        cases h4 : Nat.ble b.2 a.1 with
        | true => have := Nat.le_of_ble_eq_true h4; show _ ≤ _ ∧ _ ≤ _; dsimp only [cond_true, cond_false]; omega
        | false =>
          cases h5 : Nat.ble a.2 b.1 with
          | true => have := Nat.le_of_ble_eq_true h5; show _ ≤ _ ∧ _ ≤ _; dsimp only [cond_true, cond_false]; omega
          | false => show _ ≤ _ ∧ _ ≤ _; dsimp only [cond_false]; omega
theorem zi_l2i_ok {a : zi_I} {x : Int64} (ha : zi_in a (zi_ol x)) : zi_in (zi_l2if a) (zi_o x.toInt32) := by
  unfold zi_l2if
  cases h : zi_one a with
  | false => exact zi_top_in _
  | true => rw [zi_one_eq h ha, zi_ulo]; exact ⟨Nat.le_refl _, Nat.le_refl _⟩
theorem zi_i2b_ok {a : zi_I} {x : Int32} (ha : zi_in a (zi_o x)) : zi_in (zi_i2bf a) (zi_o x.toInt8.toInt32) := by
  unfold zi_i2bf
  cases h : zi_one a with
  | false =>
    have e := zi_oe x.toInt8.toInt32
    rw [Int8.toInt_toInt32] at e
    have h1 := x.toInt8.le_toInt
    have h2 := x.toInt8.toInt_lt
    show _ ≤ _ ∧ _ ≤ _
    dsimp only [cond_false]
    omega
  | true => rw [zi_one_eq h ha, zi_uo]; exact ⟨Nat.le_refl _, Nat.le_refl _⟩
theorem zi_i2s_ok {a : zi_I} {x : Int32} (ha : zi_in a (zi_o x)) : zi_in (zi_i2sf a) (zi_o x.toInt16.toInt32) := by
  unfold zi_i2sf
  cases h : zi_one a with
  | false =>
    have e := zi_oe x.toInt16.toInt32
    rw [Int16.toInt_toInt32] at e
    have h1 := x.toInt16.le_toInt
    have h2 := x.toInt16.toInt_lt
    show _ ≤ _ ∧ _ ≤ _
    dsimp only [cond_false]
    omega
  | true => rw [zi_one_eq h ha, zi_uo]; exact ⟨Nat.le_refl _, Nat.le_refl _⟩
theorem zi_i2l_ok {a : zi_I} {x : Int32} (ha : zi_in a (zi_o x)) : zi_in (a.1 + 9223372034707292160, a.2 + 9223372034707292160) (zi_ol x.toInt64) := by
  have e := zi_ole x.toInt64
  rw [Int32.toInt_toInt64] at e
  have e1 := zi_oe x
  unfold zi_in at ha
  show _ ≤ _ ∧ _ ≤ _
  dsimp only
  omega
theorem zi_nn {x : Int32} {u : Nat} (h : zi_o x = u + 2147483648) : x.toBitVec.toNat = u ∧ u < 2147483648 := by
  have e := zi_oe x
  have hb := zi_ob x
  have e2 : x.toInt = x.toBitVec.toInt := rfl
  have e3 := BitVec.toInt_eq_toNat_cond x.toBitVec
  have e4 := x.toBitVec.isLt
  rw [e2, e3] at e
  split at e <;> omega
theorem zi_ofnn {z : Int32} {v : Nat} (h : z.toBitVec.toNat = v) (hv : v < 2147483648) : zi_o z = v + 2147483648 := by
  have e := zi_oe z
  have e2 : z.toInt = z.toBitVec.toInt := rfl
  have e3 := BitVec.toInt_eq_toNat_cond z.toBitVec
  rw [e2, e3, h] at e
  split at e <;> omega
theorem zi_and_ok {a b : zi_I} {x y : Int32} (ha : zi_in a (zi_o x)) (hb : zi_in b (zi_o y)) : zi_in (zi_and a b) (zi_o (x &&& y)) := by
  unfold zi_and
  cases h : (zi_one b && Nat.ble 2147483648 b.1) with
  | false => exact zi_sg_ok (g := (· &&& ·)) ha hb
  | true =>
    obtain ⟨h1, h2⟩ := Bool.and_eq_true_iff.mp h
    have h2 := Nat.le_of_ble_eq_true h2
    have eb := zi_one_eq h1 hb
    obtain ⟨v, hv⟩ : ∃ v : Nat, v = b.1 - 2147483648 := ⟨_, rfl⟩
    obtain ⟨n1, n2⟩ := zi_nn (x := y) (u := v) (by omega)
    have hand : (x &&& y).toBitVec.toNat = x.toBitVec.toNat &&& v := by
      rw [Int32.toBitVec_and, BitVec.toNat_and, n1]
    have hle : x.toBitVec.toNat &&& v ≤ v := Nat.and_le_right
    have hres := zi_ofnn hand (by omega)
    cases h' : (zi_one a && Nat.ble 2147483648 a.1) with
    | false =>
      show _ ≤ _ ∧ _ ≤ _
      dsimp only [cond_true, cond_false]
      omega
    | true =>
      obtain ⟨g1, g2⟩ := Bool.and_eq_true_iff.mp h'
      have g2 := Nat.le_of_ble_eq_true g2
      have ea := zi_one_eq g1 ha
      obtain ⟨u, hu⟩ : ∃ u : Nat, u = a.1 - 2147483648 := ⟨_, rfl⟩
      obtain ⟨m1, m2⟩ := zi_nn (x := x) (u := u) (by omega)
      rw [m1] at hres
      rw [hres, ← hu, ← hv]
      exact ⟨Nat.le_refl _, Nat.le_refl _⟩
theorem zi_or_ok {a b : zi_I} {x y : Int32} (ha : zi_in a (zi_o x)) (hb : zi_in b (zi_o y)) : zi_in (zi_or a b) (zi_o (x ||| y)) := by
  unfold zi_or
  cases h : (zi_one b && Nat.ble 2147483648 b.1 && zi_one a && Nat.ble 2147483648 a.1) with
  | false => exact zi_sg_ok (g := (· ||| ·)) ha hb
  | true =>
    obtain ⟨h1, g2⟩ := Bool.and_eq_true_iff.mp h
    obtain ⟨h1, g1⟩ := Bool.and_eq_true_iff.mp h1
    obtain ⟨h1, h2⟩ := Bool.and_eq_true_iff.mp h1
    have h2 := Nat.le_of_ble_eq_true h2
    have eb := zi_one_eq h1 hb
    obtain ⟨v, hv⟩ : ∃ v : Nat, v = b.1 - 2147483648 := ⟨_, rfl⟩
    obtain ⟨n1, n2⟩ := zi_nn (x := y) (u := v) (by omega)
    have g2 := Nat.le_of_ble_eq_true g2
    have ea := zi_one_eq g1 ha
    obtain ⟨u, hu⟩ : ∃ u : Nat, u = a.1 - 2147483648 := ⟨_, rfl⟩
    obtain ⟨m1, m2⟩ := zi_nn (x := x) (u := u) (by omega)
    have hor : (x ||| y).toBitVec.toNat = u ||| v := by
      rw [Int32.toBitVec_or, BitVec.toNat_or, n1, m1]
    have hlt : u ||| v < 2 ^ 31 := Nat.or_lt_two_pow (by omega) (by omega)
    have hres := zi_ofnn hor (by omega)
    rw [hres, ← hu, ← hv]
    exact ⟨Nat.le_refl _, Nat.le_refl _⟩
theorem zi_k31 : ∀ k : Nat, k < 32 → ((zi_u (k + 2147483648) &&& 31).toBitVec.smod 32).toNat = k := by decide
theorem zi_y31 {y : Int32} {k : Nat} (h : zi_o y = k + 2147483648) (hk : k < 32) : ((y &&& 31).toBitVec.smod 32).toNat = k := by
  have e := zi_uo y
  rw [h] at e
  rw [← e]
  exact zi_k31 k hk
theorem zi_shr_ok {a b : zi_I} {x y : Int32} (ha : zi_in a (zi_o x)) (hb : zi_in b (zi_o y)) : zi_in (zi_shr a b) (zi_o (x >>> (y &&& 31))) := by
  unfold zi_shr
  cases h : (Nat.beq a.1 2147483648 && Nat.beq a.2 2147483648) with
  | true =>
    obtain ⟨h1, h2⟩ := Bool.and_eq_true_iff.mp h
    have h1 := Nat.eq_of_beq_eq_true h1
    have h2 := Nat.eq_of_beq_eq_true h2
    have e1 := zi_oe x
    have hx : x = 0 := by
      apply Int32.toInt_inj.mp
      unfold zi_in at ha
      show x.toInt = 0
      omega
    subst hx
    rw [zi_shr0]
    exact ha
  | false =>
    cases h' : (zi_one b && Nat.ble 2147483648 b.1 && Nat.ble b.1 2147483679 && zi_one a && Nat.ble 2147483648 a.1) with
    | false => exact zi_sg_ok (g := fun a b => a >>> (b &&& 31)) ha hb
    | true =>
      obtain ⟨h1, h5⟩ := Bool.and_eq_true_iff.mp h'
      obtain ⟨h1, h4⟩ := Bool.and_eq_true_iff.mp h1
      obtain ⟨h1, h3⟩ := Bool.and_eq_true_iff.mp h1
      obtain ⟨h1, h2⟩ := Bool.and_eq_true_iff.mp h1
      have h2 := Nat.le_of_ble_eq_true h2
      have h3 := Nat.le_of_ble_eq_true h3
      have h5 := Nat.le_of_ble_eq_true h5
      have eb := zi_one_eq h1 hb
      have ea := zi_one_eq h4 ha
      obtain ⟨k, hk⟩ : ∃ k : Nat, k = b.1 - 2147483648 := ⟨_, rfl⟩
      obtain ⟨u, hu⟩ : ∃ u : Nat, u = a.1 - 2147483648 := ⟨_, rfl⟩
      have ek := zi_y31 (y := y) (k := k) (by omega) (by omega)
      have e1 := zi_oe x
      have e2 := zi_oe (x >>> (y &&& 31))
      have e3 : (x >>> (y &&& 31)).toInt = x.toInt >>> k := by
        show (BitVec.sshiftRight' x.toBitVec ((y &&& 31).toBitVec.smod 32)).toInt = _
        rw [BitVec.sshiftRight', ek, BitVec.toInt_sshiftRight]
        rfl
      have e4 : x.toInt = (u : Int) := by omega
      have e5 : ((u : Int) >>> k) = ((u >>> k : Nat) : Int) := rfl
      rw [e3, e4, e5] at e2
      rw [← hk, ← hu]
      have e6 : zi_o (x >>> (y &&& 31)) = Nat.shiftRight u k + 2147483648 := by
        show _ = (u >>> k) + 2147483648
        generalize u >>> k = w at e2
        omega
      rw [e6]
      exact ⟨Nat.le_refl _, Nat.le_refl _⟩
theorem zi_shl_ok {a b : zi_I} {x y : Int32} (ha : zi_in a (zi_o x)) (hb : zi_in b (zi_o y)) : zi_in (zi_shl a b) (zi_o (x <<< (y &&& 31))) := by
  unfold zi_shl
  cases h' : (zi_one b && Nat.ble 2147483648 b.1 && Nat.ble b.1 2147483679 && zi_one a && Nat.ble 2147483648 a.1 && Nat.ble (Nat.shiftLeft (a.1 - 2147483648) (b.1 - 2147483648)) 2147483647) with
  | false => exact zi_sg_ok (g := fun a b => a <<< (b &&& 31)) ha hb
  | true =>
    obtain ⟨h1, h6⟩ := Bool.and_eq_true_iff.mp h'
    obtain ⟨h1, h5⟩ := Bool.and_eq_true_iff.mp h1
    obtain ⟨h1, h4⟩ := Bool.and_eq_true_iff.mp h1
    obtain ⟨h1, h3⟩ := Bool.and_eq_true_iff.mp h1
    obtain ⟨h1, h2⟩ := Bool.and_eq_true_iff.mp h1
    have h2 := Nat.le_of_ble_eq_true h2
    have h3 := Nat.le_of_ble_eq_true h3
    have h5 := Nat.le_of_ble_eq_true h5
    have h6 := Nat.le_of_ble_eq_true h6
    have eb := zi_one_eq h1 hb
    have ea := zi_one_eq h4 ha
    obtain ⟨k, hk⟩ : ∃ k : Nat, k = b.1 - 2147483648 := ⟨_, rfl⟩
    obtain ⟨u, hu⟩ : ∃ u : Nat, u = a.1 - 2147483648 := ⟨_, rfl⟩
    rw [← hk, ← hu] at h6
    have ek := zi_y31 (y := y) (k := k) (by omega) (by omega)
    obtain ⟨m1, m2⟩ := zi_nn (x := x) (u := u) (by omega)
    have h6' : u <<< k ≤ 2147483647 := h6
    have e3 : (x <<< (y &&& 31)).toBitVec.toNat = u <<< k := by
      show (x.toBitVec <<< ((y &&& 31).toBitVec.smod 32)).toNat = _
      rw [BitVec.shiftLeft_eq', ek, BitVec.toNat_shiftLeft, m1]
      exact Nat.mod_eq_of_lt (by omega)
    have hres := zi_ofnn e3 (by omega)
    rw [hres, ← hk, ← hu]
    exact ⟨Nat.le_refl _, Nat.le_refl _⟩
end
section
/-! each step of the walk is the machine's -/
def zi_isN : Cond → Bool
  | .methodLinkNest .. => true
  | _ => false
def zi_G : List Cond := lw_tbl.filter goodWord
theorem zi_inG {w : Cond} (h : w ∈ lw_tbl) (hg : goodWord w = true) : w ∈ zi_G := List.mem_filter.mpr ⟨h, hg⟩
theorem zi_G_good : GoodIn zi_G zi_G := fun _ h => ⟨h, good_of_word (List.mem_filter.mp h).2⟩
def zi_NW (U : State) : Prop := ∀ w ∈ lw_tbl, zi_isN w = true → va_Nw w U
theorem zi_NW.same {u U : State} (h : u.vm = U.vm) (q : zi_NW u) : zi_NW U := by
  intro w hw hn
  have q1 := q w hw hn
  cases w with
  | methodLinkNest a i x hh => exact va_Nw.same rfl h q1
  | _ => cases hn
theorem zi_NW.warm {s U : State} (hW : s.WarmedH U.vm) (q : zi_NW s) : zi_NW U := by
  intro w hw hn
  have q1 := q w hw hn
  cases w with
  | methodLinkNest a i x hh => exact va_Nw.warmM hW q1
  | _ => cases hn
def zi_cg (b : Nat) (ads : List Nat) (tys : List (ClassId × FieldType)) : zi_C → Nat × va_E → Prop
  | .inl (ty, l), q => ∃ (cA : ClassId) (f : Nat → Int32) (t0 : Nat), q.2 = .inl (cA, l.length, .inl f) ∧ tys[t0]? = some (cA, ty) ∧ ∀ (j : Nat) (r : zi_I), l[j]? = some r → zi_in r (zi_o (f j))
  | .inr (ci, vs), q => ∃ fs : List Value, q.2 = .inr (ci, fs) ∧ zi_a2 (zi_g b ads) vs fs
theorem zi_cg.mono {b : Nat} {ads ads' : List Nat} {tys tys' : List (ClassId × FieldType)} (ha : ∀ (k a : Nat), ads[k]? = some a → ads'[k]? = some a) (ht : ∀ (k : Nat) (q : ClassId × FieldType), tys[k]? = some q → tys'[k]? = some q) : ∀ (v : zi_C) (q : Nat × va_E), zi_cg b ads tys v q → zi_cg b ads' tys' v q
  | .inl (ty, l), q, h => by
    obtain ⟨cA, f, t0, h1, h2, h3⟩ := h
    exact ⟨cA, f, t0, h1, ht _ _ h2, h3⟩
  | .inr (ci, vs), q, h => by
    obtain ⟨fs, h1, h2⟩ := h
    exact ⟨fs, h1, h2.mono (zi_g.mono ha)⟩
theorem zi_nth_eq {α : Type} : ∀ (l : List α) (k : Nat), zi_nth l k = l[k]?
  | [], _ => by simp [zi_nth]
  | _ :: _, 0 => rfl
  | _ :: t, k + 1 => (zi_nth_eq t k).trans (by simp)
theorem zi_nth_up {α : Type} (f : α → α) : ∀ (l : List α) (k j : Nat), zi_nth (zi_up f l k) j = if j = k then (zi_nth l k).map f else zi_nth l j
  | [], k, j => by
    show (none : Option α) = if j = k then (none : Option α).map f else none
    split <;> rfl
  | a :: t, 0, 0 => rfl
  | a :: t, 0, j + 1 => rfl
  | a :: t, k + 1, 0 => rfl
  | a :: t, k + 1, j + 1 => by
    show zi_nth (zi_up f t k) j = if j + 1 = k + 1 then (zi_nth t k).map f else zi_nth t j
    rw [zi_nth_up f t k j]
    split
    · rename_i h; rw [if_pos (by omega)]
    · rename_i h; rw [if_neg (by omega)]
theorem zi_up_set {α : Type} (v : α) : ∀ (l : List α) (k : Nat), zi_up (fun _ => v) l k = l.set k v
  | [], _ => rfl
  | _ :: _, 0 => rfl
  | a :: t, k + 1 => by
    show a :: zi_up (fun _ => v) t k = a :: t.set k v
    rw [zi_up_set v t k]
theorem zi_fil_eq (f : Nat × zi_V → Bool) : ∀ (l : zi_L), zi_fil f l = l.filter f
  | [] => rfl
  | q :: t => by
    show (bif f q then q :: zi_fil f t else zi_fil f t) = (q :: t).filter f
    rw [List.filter_cons, zi_fil_eq f t]
    cases f q <;> rfl
/-- a cell that was put down: it, or what was there -/
theorem zi_put_at {n n' : Nat} {u : List (List (Option zi_C))} {q : Nat} {c : zi_C} {q' : Nat} {x : zi_C} (h : zi_wg (n', zi_up (fun r => zi_up (fun _ => some c) r (q % 8)) u (q / 8)) q' = some x) : (q' = q ∧ x = c) ∨ (¬ q' = q ∧ zi_wg (n, u) q' = some x) := by
  unfold zi_wg at h ⊢
  dsimp only at h ⊢
  rw [zi_nth_up] at h
  by_cases e : q' / 8 = q / 8
  · rw [if_pos e] at h
    rw [e]
    cases h1 : zi_nth u (q / 8) with
    | none => rw [h1] at h; cases h
    | some r =>
      rw [h1] at h
      dsimp only [Option.map] at h ⊢
      rw [zi_nth_up] at h
      by_cases e2 : q' % 8 = q % 8
      · rw [if_pos e2] at h
        have e3 : q' = q := by omega
        cases h2 : zi_nth r (q % 8) with
        | none => rw [h2] at h; cases h
        | some o =>
          rw [h2] at h
          dsimp only [Option.map] at h
          exact Or.inl ⟨e3, (Option.some.inj h).symm⟩
      · rw [if_neg e2] at h
        exact Or.inr ⟨fun z => e2 (by rw [z]), h⟩
  · rw [if_neg e] at h
    exact Or.inr ⟨fun z => e (by rw [z]), h⟩
def zi_wr (b : Nat) (ads : List Nat) (tys : List (ClassId × FieldType)) (w : zi_W) (ws : va_W) : Prop := w.1 = ws.length ∧ ∀ (q : Nat) (c : zi_C), zi_wg w q = some c → ∃ e, ws[q]? = some e ∧ zi_cg b ads tys c e
theorem zi_wr.mono {b : Nat} {ads ads' : List Nat} {tys tys' : List (ClassId × FieldType)} {w : zi_W} {ws : va_W} (ha : ∀ (k a : Nat), ads[k]? = some a → ads'[k]? = some a) (ht : ∀ (k : Nat) (q : ClassId × FieldType), tys[k]? = some q → tys'[k]? = some q) (h : zi_wr b ads tys w ws) : zi_wr b ads' tys' w ws := by
  refine ⟨h.1, fun q c hq => ?_⟩
  obtain ⟨e, h1, h2⟩ := h.2 q c hq
  exact ⟨e, h1, zi_cg.mono ha ht _ _ h2⟩
theorem zi_wr.at {b : Nat} {ads : List Nat} {tys : List (ClassId × FieldType)} {w : zi_W} {ws : va_W} {q : Nat} {c : zi_C} {e : Nat × va_E} (h : zi_wr b ads tys w ws) (h1 : zi_wg w q = some c) (h2 : ws[q]? = some e) : zi_cg b ads tys c e := by
  obtain ⟨e', h3, h4⟩ := h.2 q c h1
  rw [h2] at h3
  cases h3
  exact h4
theorem zi_wr.set {b : Nat} {ads : List Nat} {tys : List (ClassId × FieldType)} {w : zi_W} {ws : va_W} {q : Nat} {c : zi_C} {e e0 : Nat × va_E} (h : zi_wr b ads tys w ws) (h0 : ws[q]? = some e0) (h1 : zi_cg b ads tys c e) : zi_wr b ads tys (zi_ws w q c) (ws.set q e) := by
  refine ⟨by rw [List.length_set]; exact h.1, fun q' x hx => ?_⟩
  have hlt := (List.getElem?_eq_some_iff.mp h0).1
  rw [List.getElem?_set]
  rcases zi_put_at (n := w.1) hx with ⟨rfl, rfl⟩ | ⟨hne, hx⟩
  · rw [if_pos rfl, if_pos hlt]; exact ⟨e, rfl, h1⟩
  · rw [if_neg (fun z => hne z.symm)]
    exact h.2 q' x hx
theorem zi_wr.push {b : Nat} {ads : List Nat} {tys : List (ClassId × FieldType)} {w : zi_W} {ws : va_W} {c : zi_C} {e : Nat × va_E} (h : zi_wr b ads tys w ws) (h1 : zi_cg b ads tys c e) : zi_wr b ads tys (zi_wp w c) (ws ++ [e]) := by
  refine ⟨by show w.1 + 1 = _; rw [List.length_append, h.1]; rfl, fun q' x hx => ?_⟩
  rcases zi_put_at (n := w.1) hx with ⟨rfl, rfl⟩ | ⟨-, hx⟩
  · exact ⟨e, by rw [h.1]; simp, h1⟩
  · obtain ⟨e', h3, h4⟩ := h.2 q' x hx
    exact ⟨e', by rw [List.getElem?_append_left (List.getElem?_eq_some_iff.mp h3).1]; exact h3, h4⟩
/-- the world of the walk and that of the machine -/
def zi_RW (R : Room) (s : State) (D : va_G) (A : Nat → Prop) (b : Nat) (a0 : List Nat) (w : zi_W × Nat × Nat) (ws : va_W) (tys : List (ClassId × FieldType)) (H : Heap) (locs : List Loc) (cells slots : Nat) : Prop :=
  zi_wr b (ws.map (·.1)) tys w.1 ws ∧ va_P D vwCl ws H ∧ va_D A ws ∧ va_K D vwCl tys s ∧ va_S A s.heap H locs ∧ cells + w.2.1 ≤ R.cells ∧ slots + w.2.2 ≤ R.slots ∧ ∀ (k a : Nat), a0[k]? = some a → (ws.map (·.1))[k]? = some a
def zi_lr (b : Nat) (ads : List Nat) (p : Nat × zi_V) (q : Nat × Value) : Prop := p.1 = q.1 ∧ zi_g b ads p.2 q.2
def zi_R (R : Room) (s : State) (nL : Nat) (D : va_G) (A : Nat → Prop) (b : Nat) (a0 : List Nat) (st : zi_S) (H : Heap) (locs : List Loc) (cells slots : Nat) (ls : Array Slot) (sk : List Value) : Prop :=
  ∃ (ws : va_W) (tys : List (ClassId × FieldType)) (lv : List (Nat × Value)), lv_has ls nL lv ∧ zi_a2 (zi_lr b (ws.map (·.1))) st.1 lv ∧ zi_a2 (zi_g b (ws.map (·.1))) st.2.1 sk ∧ zi_RW R s D A b a0 st.2.2 ws tys H locs cells slots
def zi_rv (b : Nat) (ads : List Nat) : Option zi_V → Option Value → Prop
  | none, o => o = none
  | some a, o => ∃ x, o = some x ∧ zi_g b ads a x
def zi_B (D : va_G) (ws : va_W) (tys : List (ClassId × FieldType)) (sz : Nat) : State → Prop := fun U => U.heap.size = sz ∧ va_P D vwCl ws U.heap ∧ va_K D vwCl tys U ∧ va_D (fun _ => True) ws ∧ zi_NW U
def zi_QB (b : Nat) (D : va_G) (w' : zi_W) (v : Option zi_V) (ws : va_W) (sz : Nat) (vv : Option Value) (t : State) : Prop :=
  ∃ (ws' : va_W) (tys' : List (ClassId × FieldType)), zi_rv b (ws'.map (·.1)) v vv ∧ zi_wr b (ws'.map (·.1)) tys' w' ws' ∧ (∀ (k a : Nat), (ws.map (·.1))[k]? = some a → (ws'.map (·.1))[k]? = some a) ∧ va_P D vwCl ws' t.heap ∧ va_K D vwCl tys' t ∧ va_D (va_A ws sz) ws'
def zi_Q (b : Nat) (D : va_G) (w' : zi_W) (v : Option zi_V) (ws : va_W) (sz : Nat) : Array Value → State → Outcome → State → Prop := fun _ st oc t =>
  (∃ vv : Option Value, oc = .returned vv ∧ zi_QB b D w' v ws sz vv t) ∧ va_F (va_A ws sz) st t
abbrev zi_rm (d mc ms : Nat) : Room := { frames := d + 1, cells := mc, slots := ms, locals := 60 * d + 60 }
/-- a method's contract, as the walk has it -/
def zi_Met (l : Launch) (d : Nat) (M : zi_M) (as : List zi_V) (w : zi_W) (v : Option zi_V) (w' : zi_W) : Prop :=
  ∀ (b : Nat) (D : va_G) (vs : List Value) (ws : va_W) (tys : List (ClassId × FieldType)) (sz : Nat), zi_a2 (zi_g b (ws.map (·.1))) as vs → zi_wr b (ws.map (·.1)) tys w ws →
    Met l M.1 (Cond.code M.1 M.2.1 M.2.2.1 M.2.2.2.1 :: zi_G) (zi_rm d M.2.2.2.2.2.1 M.2.2.2.2.2.2) (va_Pc vs (zi_B D ws tys sz)) (zi_Q b D w' v ws sz) M.2.2.2.2.2.1 M.2.2.2.2.2.2 (va_A ws sz)
def zi_EO (mt : Nat → Option zi_M) (l : Launch) (E : Nat → List zi_V → zi_W → Option (Option zi_V × zi_W)) (d : Nat) : Prop :=
  ∀ (j : Nat) (M : zi_M) (as : List zi_V) (w : zi_W) (v : Option zi_V) (w' : zi_W), mt j = some M → E j as w = some (v, w') → ∃ d', d = d' + 1 ∧ zi_Met l d' M as w v w'
def zi_SC (s : State) (A : Nat → Prop) (b : Nat) : Option (List zi_V) → Prop
  | none => True
  | some sc => ∃ xs : Nat → Int32, va_X b sc.length xs s s.heap ∧ b < s.heap.size ∧ ¬ A b ∧ sc.length < 2147483648 ∧ ∀ (j : Nat) (v : zi_V) (ads : List Nat), sc[j]? = some v → zi_g b ads v (.int (xs j))
def zi_X (p : Program) (R : Room) (s : State) (m : MethodId) (args : Array Value) (meth : Method) (c : Code) (y : MethodName) (cc : ByteArray) (nL : Nat) (A : Nat → Prop) (b : Nat) (sc : Option (List zi_V)) (d : Nat) : Prop :=
  p.tables.exec = Jvm.exec ∧ c.code = cc ∧ c.maxLocals = nL ∧ s.vm.findClass y.cls = some m.cls ∧ (∀ w ∈ zi_G, w.before args s = true) ∧ zi_NW s ∧ (∀ q, s.heap.size ≤ q → A q) ∧ (d + 1 ≤ R.frames ∧ 60 * d + 60 ≤ R.locals) ∧ (y.name = "<init>" → meth.name = "<init>") ∧ zi_SC s A b sc
def zi_ok (mt : Nat → Option zi_M) (y : MethodName) (cc : ByteArray) (nL pc : Nat) (f : zi_F) : Prop :=
  ∀ (p : Program) (l : Launch) (e : Env) (R : Room) (s : State) (m : MethodId) (args : Array Value) (below : List Frame) (meth : Method) (c : Code) (D : va_G) (A : Nat → Prop) (b d : Nat) (a0 : List Nat) (E : zi_E), zi_X p R s m args meth c y cc nL A b E.2 d → zi_EO mt l E.1 d →
    ∀ (st : zi_S) (pc' : Nat) (st' : zi_S), f E st = some (pc', st') → ∀ (Q : State → Prop) (H : Heap) (locs : List Loc) (cells slots : Nat) (ls : Array Slot) (sk : List Value), zi_R R s nL D A b a0 st H locs cells slots ls sk →
      (∀ (H' : Heap) (locs' : List Loc) (cells' slots' : Nat) (ls' : Array Slot) (sk' : List Value), zi_R R s nL D A b a0 st' H' locs' cells' slots' ls' sk' → W p l e R s m args below meth c H' locs' cells' slots' Q (F0 m pc' ls' sk')) →
      W p l e R s m args below meth c H locs cells slots Q (F0 m pc ls sk)
theorem zi_beq (a b : Nat) : Nat.beq a b = (a == b) := by
  rw [Bool.eq_iff_iff]
  simp
theorem zi_get_ok {b : Nat} {ads : List Nat} {ls : Array Slot} {i : Nat} {v : zi_V} : ∀ {lc : zi_L} {lv : List (Nat × Value)}, zi_get lc i = some v → zi_a2 (zi_lr b ads) lc lv → (∀ q ∈ lv, ls[q.1]? = some (.val q.2)) → ∃ x, ls[i]? = some (.val x) ∧ zi_g b ads v x ∧ (i, x) ∈ lv
  | [], _, h, _, _ => by cases h
  | q :: t, lv, h, hr, hl => by
    obtain ⟨u, t', rfl, h1, h2⟩ := hr.cons
    change (bif Nat.beq q.1 i then some q.2 else zi_get t i) = some v at h
    cases hb : Nat.beq q.1 i with
    | true =>
      rw [hb] at h
      cases h
      have e := Nat.eq_of_beq_eq_true hb
      have h3 := hl u List.mem_cons_self
      obtain ⟨e1, e2⟩ := h1
      obtain ⟨u1, u2⟩ := u
      dsimp only at e1 e2 h3
      have e3 : u1 = i := e1.symm.trans e
      subst e3
      exact ⟨u2, h3, e2, List.mem_cons_self⟩
    | false =>
      rw [hb] at h
      obtain ⟨x, g1, g2, g3⟩ := zi_get_ok h h2 (fun q hq => hl q (List.mem_cons_of_mem _ hq))
      exact ⟨x, g1, g2, List.mem_cons_of_mem _ g3⟩
theorem zi_st1_ok {b : Nat} {ads : List Nat} {lc : zi_L} {lv : List (Nat × Value)} {i : Nat} {v : zi_V} {x : Value} (h : zi_a2 (zi_lr b ads) lc lv) (hx : zi_g b ads v x) : zi_a2 (zi_lr b ads) (zi_st1 lc i v) ((i, x) :: lv.filter (fun q => !(q.1 == i) && !(q.1 + 1 == i && q.2.category == 2))) := by
  unfold zi_st1
  rw [zi_fil_eq]
  refine ⟨⟨rfl, hx⟩, h.filter (fun p q hr => ?_)⟩
  obtain ⟨h1, h2⟩ := hr
  rw [zi_g.cat _ _ h2, h1]
  simp only [zi_beq]
theorem zi_st2_ok {b : Nat} {ads : List Nat} {lc : zi_L} {lv : List (Nat × Value)} {i : Nat} {v : zi_V} {x : Value} (h : zi_a2 (zi_lr b ads) lc lv) (hx : zi_g b ads v x) : zi_a2 (zi_lr b ads) (zi_st2 lc i v) ((i, x) :: lv.filter (fun q => !(q.1 == i) && (!(q.1 == i + 1) && !(q.1 + 1 == i && q.2.category == 2)))) := by
  unfold zi_st2
  rw [zi_fil_eq]
  refine ⟨⟨rfl, hx⟩, h.filter (fun p q hr => ?_)⟩
  obtain ⟨h1, h2⟩ := hr
  rw [zi_g.cat _ _ h2, h1]
  simp only [zi_beq]
def zi_K : Nat → Value → Prop
  | 0, x => ∃ i : Int32, x = .int i
  | 1, x => ∃ i : Int64, x = .long i
  | 2, x => x = .null ∨ ∃ a, x = .ref a
  | _, _ => True
theorem zi_g.kd {b : Nat} {ads : List Nat} {v : zi_V} {x : Value} {k : Nat} (h : zi_g b ads v x) (hk : zi_kd v = k) : zi_K k x := by
  match k, hk with
  | 0, hk => exact zi_g.kd0 _ _ h hk
  | 1, hk => exact zi_g.kd1 _ _ h hk
  | 2, hk => exact zi_g.kd2 _ _ h hk
  | _ + 3, _ => trivial
section Rows
variable {mt : Nat → Option zi_M} {y : MethodName} {cc : ByteArray} {nL pc nx : Nat}
/-- rows of the kit, as one kind: what lies on top comes of what lay there -/
def zi_row (cc : ByteArray) (pc nx : Nat) (pre post : List Value) : Prop :=
  ∀ (p : Program) (l : Launch) (e : Env) (R : Room) (s : State) (m : MethodId) (args : Array Value) (below : List Frame) (meth : Method) (c : Code) (H : Heap) (locs : List Loc) (cells slots : Nat) (Q : State → Prop) (ls : Array Slot) (rest : List Value), p.tables.exec = Jvm.exec → c.code = cc →
    W p l e R s m args below meth c H locs cells slots Q (F0 m nx ls (post ++ rest)) → W p l e R s m args below meth c H locs cells slots Q (F0 m pc ls (pre ++ rest))
theorem zi_push_ok {v : zi_V} {x : Value} (hv : ∀ b ads, zi_g b ads v x) (hr : zi_row cc pc nx [] [x]) : zi_ok mt y cc nL pc (zi_push v nx) := by
  intro p l e R s m args below meth c D A b d a0 E X hE st pc' st' hf Q H locs cells slots ls sk hR k
  obtain ⟨lc, stk, r⟩ := st
  obtain ⟨ws, tys, lv, hl, hlv, hsk, hw⟩ := hR
  cases hf
  exact hr p l e R s m args below meth c H locs cells slots Q ls sk X.1 X.2.1 (k _ _ _ _ _ _ ⟨ws, tys, lv, hl, hlv, ⟨hv _ _, hsk⟩, hw⟩)
theorem zi_load_ok {kd i : Nat} (hr : ∀ (p : Program) (l : Launch) (e : Env) (R : Room) (s : State) (m : MethodId) (args : Array Value) (below : List Frame) (meth : Method) (c : Code) (H : Heap) (locs : List Loc) (cells slots : Nat) (Q : State → Prop) (ls : Array Slot) (rest : List Value) (x : Value), p.tables.exec = Jvm.exec → c.code = cc → zi_K kd x → ls[i]? = some (.val x) →
    W p l e R s m args below meth c H locs cells slots Q (F0 m nx ls (x :: rest)) → W p l e R s m args below meth c H locs cells slots Q (F0 m pc ls rest)) : zi_ok mt y cc nL pc (zi_load kd i nx) := by
  intro p l e R s m args below meth c D A b d a0 E X hE st pc' st' hf Q H locs cells slots ls sk hR k
  obtain ⟨lc, stk, r⟩ := st
  obtain ⟨ws, tys, lv, hl, hlv, hsk, hw⟩ := hR
  unfold zi_load at hf
  dsimp only at hf
  cases hg : zi_get lc i with
  | none => rw [hg] at hf; cases hf
  | some v =>
    rw [hg] at hf
    dsimp only at hf
    cases hk : Nat.beq (zi_kd v) kd with
    | false => rw [hk] at hf; cases hf
    | true =>
      rw [hk] at hf
      cases hf
      obtain ⟨x, h1, h2, -⟩ := zi_get_ok hg hlv hl.2.2
      exact hr p l e R s m args below meth c H locs cells slots Q ls sk x X.1 X.2.1 (h2.kd (Nat.eq_of_beq_eq_true hk)) h1 (k _ _ _ _ _ _ ⟨ws, tys, lv, hl, hlv, ⟨h2, hsk⟩, hw⟩)
theorem zi_store_ok {kd i : Nat} (hi : i < nL) (hr : ∀ (p : Program) (l : Launch) (e : Env) (R : Room) (s : State) (m : MethodId) (args : Array Value) (below : List Frame) (meth : Method) (c : Code) (H : Heap) (locs : List Loc) (cells slots : Nat) (Q : State → Prop) (ls : Array Slot) (rest : List Value) (x : Value) (lv : List (Nat × Value)), p.tables.exec = Jvm.exec → c.code = cc → zi_K kd x → lv_has ls nL lv →
    (∀ ls' : Array Slot, lv_has ls' nL ((i, x) :: lv.filter (fun q => !(q.1 == i) && !(q.1 + 1 == i && q.2.category == 2))) → W p l e R s m args below meth c H locs cells slots Q (F0 m nx ls' rest)) → W p l e R s m args below meth c H locs cells slots Q (F0 m pc ls (x :: rest))) : zi_ok mt y cc nL pc (zi_store kd i nx) := by
  intro p l e R s m args below meth c D A b d a0 E X hE st pc' st' hf Q H locs cells slots ls sk hR k
  obtain ⟨lc, stk, r⟩ := st
  obtain ⟨ws, tys, lv, hl, hlv, hsk, hw⟩ := hR
  unfold zi_store at hf
  match stk, hf, hsk with
  | [], hf, _ => cases hf
  | v :: t, hf, hsk =>
    dsimp only at hf
    cases hk : Nat.beq (zi_kd v) kd with
    | false => rw [hk] at hf; cases hf
    | true =>
      rw [hk] at hf
      cases hf
      obtain ⟨x, t', rfl, h2, hs1⟩ := hsk.cons
      exact hr p l e R s m args below meth c H locs cells slots Q ls t' x lv X.1 X.2.1 (h2.kd (Nat.eq_of_beq_eq_true hk)) hl (fun ls' hl' => k _ _ _ _ _ _ ⟨ws, tys, _, hl', zi_st1_ok hlv h2, hs1, hw⟩)
theorem zi_storel_ok {i : Nat} (hr : ∀ (p : Program) (l : Launch) (e : Env) (R : Room) (s : State) (m : MethodId) (args : Array Value) (below : List Frame) (meth : Method) (c : Code) (H : Heap) (locs : List Loc) (cells slots : Nat) (Q : State → Prop) (ls : Array Slot) (rest : List Value) (x : Int64) (lv : List (Nat × Value)), p.tables.exec = Jvm.exec → c.code = cc → lv_has ls nL lv →
    (∀ ls' : Array Slot, lv_has ls' nL ((i, .long x) :: lv.filter (fun q => !(q.1 == i) && (!(q.1 == i + 1) && !(q.1 + 1 == i && q.2.category == 2)))) → W p l e R s m args below meth c H locs cells slots Q (F0 m nx ls' rest)) → W p l e R s m args below meth c H locs cells slots Q (F0 m pc ls (.long x :: rest))) : zi_ok mt y cc nL pc (zi_storel i nx) := by
  intro p l e R s m args below meth c D A b d a0 E X hE st pc' st' hf Q H locs cells slots ls sk hR k
  obtain ⟨lc, stk, r⟩ := st
  obtain ⟨ws, tys, lv, hl, hlv, hsk, hw⟩ := hR
  unfold zi_storel at hf
  match stk, hf, hsk with
  | [], hf, _ => cases hf
  | v :: t, hf, hsk =>
    dsimp only at hf
    cases hk : Nat.beq (zi_kd v) 1 with
    | false => rw [hk] at hf; cases hf
    | true =>
      rw [hk] at hf
      cases hf
      obtain ⟨x, t', rfl, h2, hs1⟩ := hsk.cons
      obtain ⟨i, rfl⟩ := zi_g.kd1 _ _ h2 (Nat.eq_of_beq_eq_true hk)
      exact hr p l e R s m args below meth c H locs cells slots Q ls t' i lv X.1 X.2.1 hl (fun ls' hl' => k _ _ _ _ _ _ ⟨ws, tys, _, hl', zi_st2_ok hlv h2, hs1, hw⟩)
theorem zi_inc_ok {i : Nat} {n : Int} {kk : zi_I} (hi : i < nL) (hk : zi_in kk (zi_o (Int32.ofInt n))) (hd : decode cc pc = .ok (.iinc i n, 3)) (hn : pc + 3 = nx) : zi_ok mt y cc nL pc (zi_inc i kk nx) := by
  subst hn
  intro p l e R s m args below meth c D A b d a0 E X hE st pc' st' hf Q H locs cells slots ls sk hR k
  obtain ⟨lc, stk, r⟩ := st
  obtain ⟨ws, tys, lv, hl, hlv, hsk, hw⟩ := hR
  unfold zi_inc at hf
  dsimp only at hf
  cases hg : zi_get lc i with
  | none => rw [hg] at hf; cases hf
  | some v =>
    rw [hg] at hf
    dsimp only at hf
    cases hv : zi_iv v with
    | none => rw [hv] at hf; cases hf
    | some x =>
      rw [hv] at hf
      cases hf
      obtain ⟨z, h1, h2, h3⟩ := zi_get_ok hg hlv hl.2.2
      obtain ⟨j, rfl, hj⟩ := zi_iv_ok _ hv h2
      obtain ⟨q, hq⟩ := List.getElem?_of_mem h3
      exact lv_iinc (v := j + Int32.ofInt n) (k := q) X.1 X.2.1 hd hl hq rfl hi rfl (fun ls' hl' => k _ _ _ _ _ _ ⟨ws, tys, _, hl', zi_st1_ok hlv ⟨_, rfl, zi_add_ok hj hk⟩, hsk, hw⟩)
theorem zi_bin_ok {f : zi_I → zi_I → zi_I} {g : Int32 → Int32 → Int32} (hf0 : ∀ {a b : zi_I} {x y : Int32}, zi_in a (zi_o x) → zi_in b (zi_o y) → zi_in (f a b) (zi_o (g x y))) (hr : ∀ x y : Int32, zi_row cc pc nx [.int y, .int x] [.int (g x y)]) : zi_ok mt y cc nL pc (zi_bin f nx) := by
  intro p l e R s m args below meth c D A b d a0 E X hE st pc' st' hf Q H locs cells slots ls sk hR k
  obtain ⟨lc, stk, r⟩ := st
  obtain ⟨ws, tys, lv, hl, hlv, hsk, hw⟩ := hR
  unfold zi_bin at hf
  match stk, hf, hsk with
  | [], hf, _ => cases hf
  | [_], hf, _ => cases hf
  | v2 :: v1 :: t, hf, hsk =>
    dsimp only at hf
    cases h1 : zi_iv v1 with
    | none => rw [h1] at hf; cases hf
    | some a1 =>
      rw [h1] at hf
      dsimp only at hf
      cases h2 : zi_iv v2 with
      | none => rw [h2] at hf; cases hf
      | some a2 =>
        rw [h2] at hf
        cases hf
        obtain ⟨z2, t2, rfl, g2, hs1⟩ := hsk.cons
        obtain ⟨z1, t1, rfl, g1, hs2⟩ := hs1.cons
        obtain ⟨i1, rfl, j1⟩ := zi_iv_ok _ h1 g1
        obtain ⟨i2, rfl, j2⟩ := zi_iv_ok _ h2 g2
        exact hr i1 i2 p l e R s m args below meth c H locs cells slots Q ls t1 X.1 X.2.1 (k _ _ _ _ _ _ ⟨ws, tys, lv, hl, hlv, ⟨⟨_, rfl, hf0 j1 j2⟩, hs2⟩, hw⟩)
theorem zi_dv_ok {f : zi_V → zi_I → zi_I → zi_V} {g : Int32 → Int32 → Int32} (hf0 : ∀ {b : Nat} {ads : List Nat} {a : zi_V} {xa yb : zi_I} {x y : Int32}, zi_g b ads a (.int x) → zi_in xa (zi_o x) → zi_in yb (zi_o y) → zi_g b ads (f a xa yb) (.int (g x y))) (hr : ∀ x y : Int32, ¬ y = 0 → zi_row cc pc nx [.int y, .int x] [.int (g x y)]) : zi_ok mt y cc nL pc (zi_dv f nx) := by
  intro p l e R s m args below meth c D A b d a0 E X hE st pc' st' hf Q H locs cells slots ls sk hR k
  obtain ⟨lc, stk, r⟩ := st
  obtain ⟨ws, tys, lv, hl, hlv, hsk, hw⟩ := hR
  unfold zi_dv at hf
  match stk, hf, hsk with
  | [], hf, _ => cases hf
  | [_], hf, _ => cases hf
  | v2 :: v1 :: t, hf, hsk =>
    dsimp only at hf
    cases h1 : zi_iv v1 with
    | none => rw [h1] at hf; cases hf
    | some a1 =>
      rw [h1] at hf
      dsimp only at hf
      cases h2 : zi_iv v2 with
      | none => rw [h2] at hf; cases hf
      | some a2 =>
        rw [h2] at hf
        dsimp only at hf
        cases h3 : zi_n0 a2 with
        | false => rw [h3] at hf; cases hf
        | true =>
          rw [h3] at hf
          cases hf
          obtain ⟨z2, t2, rfl, g2, hs1⟩ := hsk.cons
          obtain ⟨z1, t1, rfl, g1, hs2⟩ := hs1.cons
          obtain ⟨i1, rfl, j1⟩ := zi_iv_ok _ h1 g1
          obtain ⟨i2, rfl, j2⟩ := zi_iv_ok _ h2 g2
          exact hr i1 i2 (zi_n0_ok h3 j2) p l e R s m args below meth c H locs cells slots Q ls t1 X.1 X.2.1 (k _ _ _ _ _ _ ⟨ws, tys, lv, hl, hlv, ⟨hf0 g1 j1 j2, hs2⟩, hw⟩)
theorem zi_binl_ok {f : zi_I → zi_I → zi_I} {g : Int64 → Int64 → Int64} (hf0 : ∀ {a b : zi_I} {x y : Int64}, zi_in a (zi_ol x) → zi_in b (zi_ol y) → zi_in (f a b) (zi_ol (g x y))) (hr : ∀ x y : Int64, zi_row cc pc nx [.long y, .long x] [.long (g x y)]) : zi_ok mt y cc nL pc (zi_binl f nx) := by
  intro p l e R s m args below meth c D A b d a0 E X hE st pc' st' hf Q H locs cells slots ls sk hR k
  obtain ⟨lc, stk, r⟩ := st
  obtain ⟨ws, tys, lv, hl, hlv, hsk, hw⟩ := hR
  unfold zi_binl at hf
  match stk, hf, hsk with
  | [], hf, _ => cases hf
  | [_], hf, _ => cases hf
  | v2 :: v1 :: t, hf, hsk =>
    dsimp only at hf
    cases h1 : zi_lv v1 with
    | none => rw [h1] at hf; cases hf
    | some a1 =>
      rw [h1] at hf
      dsimp only at hf
      cases h2 : zi_lv v2 with
      | none => rw [h2] at hf; cases hf
      | some a2 =>
        rw [h2] at hf
        cases hf
        obtain ⟨z2, t2, rfl, g2, hs1⟩ := hsk.cons
        obtain ⟨z1, t1, rfl, g1, hs2⟩ := hs1.cons
        obtain ⟨i1, rfl, j1⟩ := zi_lv_ok _ h1 g1
        obtain ⟨i2, rfl, j2⟩ := zi_lv_ok _ h2 g2
        exact hr i1 i2 p l e R s m args below meth c H locs cells slots Q ls t1 X.1 X.2.1 (k _ _ _ _ _ _ ⟨ws, tys, lv, hl, hlv, ⟨⟨_, rfl, hf0 j1 j2⟩, hs2⟩, hw⟩)
theorem zi_dvl_ok {f : zi_I → zi_I → zi_I} {g : Int64 → Int64 → Int64} (hf0 : ∀ {a b : zi_I} {x y : Int64}, zi_in a (zi_ol x) → zi_in b (zi_ol y) → zi_in (f a b) (zi_ol (g x y))) (hr : ∀ x y : Int64, ¬ y = 0 → zi_row cc pc nx [.long y, .long x] [.long (g x y)]) : zi_ok mt y cc nL pc (zi_dvl f nx) := by
  intro p l e R s m args below meth c D A b d a0 E X hE st pc' st' hf Q H locs cells slots ls sk hR k
  obtain ⟨lc, stk, r⟩ := st
  obtain ⟨ws, tys, lv, hl, hlv, hsk, hw⟩ := hR
  unfold zi_dvl at hf
  match stk, hf, hsk with
  | [], hf, _ => cases hf
  | [_], hf, _ => cases hf
  | v2 :: v1 :: t, hf, hsk =>
    dsimp only at hf
    cases h1 : zi_lv v1 with
    | none => rw [h1] at hf; cases hf
    | some a1 =>
      rw [h1] at hf
      dsimp only at hf
      cases h2 : zi_lv v2 with
      | none => rw [h2] at hf; cases hf
      | some a2 =>
        rw [h2] at hf
        dsimp only at hf
        cases h3 : zi_n0l a2 with
        | false => rw [h3] at hf; cases hf
        | true =>
          rw [h3] at hf
          cases hf
          obtain ⟨z2, t2, rfl, g2, hs1⟩ := hsk.cons
          obtain ⟨z1, t1, rfl, g1, hs2⟩ := hs1.cons
          obtain ⟨i1, rfl, j1⟩ := zi_lv_ok _ h1 g1
          obtain ⟨i2, rfl, j2⟩ := zi_lv_ok _ h2 g2
          exact hr i1 i2 (zi_n0l_ok h3 j2) p l e R s m args below meth c H locs cells slots Q ls t1 X.1 X.2.1 (k _ _ _ _ _ _ ⟨ws, tys, lv, hl, hlv, ⟨⟨_, rfl, hf0 j1 j2⟩, hs2⟩, hw⟩)
theorem zi_shfl_ok {f : zi_I → zi_I → zi_I} {g : Int64 → Int32 → Int64} (hf0 : ∀ {a b : zi_I} {x : Int64} {y : Int32}, zi_in a (zi_ol x) → zi_in b (zi_o y) → zi_in (f a b) (zi_ol (g x y))) (hr : ∀ (x : Int64) (y : Int32), zi_row cc pc nx [.int y, .long x] [.long (g x y)]) : zi_ok mt y cc nL pc (zi_shfl f nx) := by
  intro p l e R s m args below meth c D A b d a0 E X hE st pc' st' hf Q H locs cells slots ls sk hR k
  obtain ⟨lc, stk, r⟩ := st
  obtain ⟨ws, tys, lv, hl, hlv, hsk, hw⟩ := hR
  unfold zi_shfl at hf
  match stk, hf, hsk with
  | [], hf, _ => cases hf
  | [_], hf, _ => cases hf
  | v2 :: v1 :: t, hf, hsk =>
    dsimp only at hf
    cases h1 : zi_lv v1 with
    | none => rw [h1] at hf; cases hf
    | some a1 =>
      rw [h1] at hf
      dsimp only at hf
      cases h2 : zi_iv v2 with
      | none => rw [h2] at hf; cases hf
      | some a2 =>
        rw [h2] at hf
        cases hf
        obtain ⟨z2, t2, rfl, g2, hs1⟩ := hsk.cons
        obtain ⟨z1, t1, rfl, g1, hs2⟩ := hs1.cons
        obtain ⟨i1, rfl, j1⟩ := zi_lv_ok _ h1 g1
        obtain ⟨i2, rfl, j2⟩ := zi_iv_ok _ h2 g2
        exact hr i1 i2 p l e R s m args below meth c H locs cells slots Q ls t1 X.1 X.2.1 (k _ _ _ _ _ _ ⟨ws, tys, lv, hl, hlv, ⟨⟨_, rfl, hf0 j1 j2⟩, hs2⟩, hw⟩)
theorem zi_lcmp_ok (hd : decode cc pc = .ok (.lcmp, 1)) (hn : pc + 1 = nx) : zi_ok mt y cc nL pc (zi_lcmp nx) := by
  subst hn
  intro p l e R s m args below meth c D A b d a0 E X hE st pc' st' hf Q H locs cells slots ls sk hR k
  obtain ⟨lc, stk, r⟩ := st
  obtain ⟨ws, tys, lv, hl, hlv, hsk, hw⟩ := hR
  unfold zi_lcmp at hf
  match stk, hf, hsk with
  | [], hf, _ => cases hf
  | [_], hf, _ => cases hf
  | v2 :: v1 :: t, hf, hsk =>
    dsimp only at hf
    cases h1 : zi_lv v1 with
    | none => rw [h1] at hf; cases hf
    | some a1 =>
      rw [h1] at hf
      dsimp only at hf
      cases h2 : zi_lv v2 with
      | none => rw [h2] at hf; cases hf
      | some a2 =>
        rw [h2] at hf
        cases hf
        obtain ⟨z2, t2, rfl, g2, hs1⟩ := hsk.cons
        obtain ⟨z1, t1, rfl, g1, hs2⟩ := hs1.cons
        obtain ⟨i1, rfl, j1⟩ := zi_lv_ok _ h1 g1
        obtain ⟨i2, rfl, j2⟩ := zi_lv_ok _ h2 g2
        exact W.lcmp X.1 X.2.1 hd (k _ _ _ _ _ _ ⟨ws, tys, lv, hl, hlv, ⟨⟨_, rfl, zi_cmpl_ok j1 j2⟩, hs2⟩, hw⟩)
theorem zi_i2l_ok' (hd : decode cc pc = .ok (.i2l, 1)) (hn : pc + 1 = nx) : zi_ok mt y cc nL pc (zi_i2l nx) := by
  subst hn
  intro p l e R s m args below meth c D A b d a0 E X hE st pc' st' hf Q H locs cells slots ls sk hR k
  obtain ⟨lc, stk, r⟩ := st
  obtain ⟨ws, tys, lv, hl, hlv, hsk, hw⟩ := hR
  unfold zi_i2l at hf
  match stk, hf, hsk with
  | [], hf, _ => cases hf
  | v1 :: t, hf, hsk =>
    dsimp only at hf
    cases h1 : zi_iv v1 with
    | none => rw [h1] at hf; cases hf
    | some a1 =>
      rw [h1] at hf
      cases hf
      obtain ⟨z1, t1, rfl, g1, hs1⟩ := hsk.cons
      obtain ⟨i1, rfl, j1⟩ := zi_iv_ok _ h1 g1
      exact lv_i2l X.1 X.2.1 hd rfl (k _ _ _ _ _ _ ⟨ws, tys, lv, hl, hlv, ⟨⟨_, rfl, zi_i2l_ok j1⟩, hs1⟩, hw⟩)
theorem zi_l2i_ok' (hd : decode cc pc = .ok (.l2i, 1)) (hn : pc + 1 = nx) : zi_ok mt y cc nL pc (zi_l2i nx) := by
  subst hn
  intro p l e R s m args below meth c D A b d a0 E X hE st pc' st' hf Q H locs cells slots ls sk hR k
  obtain ⟨lc, stk, r⟩ := st
  obtain ⟨ws, tys, lv, hl, hlv, hsk, hw⟩ := hR
  unfold zi_l2i at hf
  match stk, hf, hsk with
  | [], hf, _ => cases hf
  | v1 :: t, hf, hsk =>
    dsimp only at hf
    cases h1 : zi_lv v1 with
    | none => rw [h1] at hf; cases hf
    | some a1 =>
      rw [h1] at hf
      cases hf
      obtain ⟨z1, t1, rfl, g1, hs1⟩ := hsk.cons
      obtain ⟨i1, rfl, j1⟩ := zi_lv_ok _ h1 g1
      exact lv_l2i X.1 X.2.1 hd rfl (k _ _ _ _ _ _ ⟨ws, tys, lv, hl, hlv, ⟨⟨_, rfl, zi_l2i_ok j1⟩, hs1⟩, hw⟩)
theorem zi_un_ok {f : zi_I → zi_I} {g : Int32 → Int32} (hf0 : ∀ {a : zi_I} {x : Int32}, zi_in a (zi_o x) → zi_in (f a) (zi_o (g x))) (hr : ∀ x : Int32, zi_row cc pc nx [.int x] [.int (g x)]) : zi_ok mt y cc nL pc (zi_un f nx) := by
  intro p l e R s m args below meth c D A b d a0 E X hE st pc' st' hf Q H locs cells slots ls sk hR k
  obtain ⟨lc, stk, r⟩ := st
  obtain ⟨ws, tys, lv, hl, hlv, hsk, hw⟩ := hR
  unfold zi_un at hf
  match stk, hf, hsk with
  | [], hf, _ => cases hf
  | v1 :: t, hf, hsk =>
    dsimp only at hf
    cases h1 : zi_iv v1 with
    | none => rw [h1] at hf; cases hf
    | some a1 =>
      rw [h1] at hf
      cases hf
      obtain ⟨z1, t1, rfl, g1, hs1⟩ := hsk.cons
      obtain ⟨i1, rfl, j1⟩ := zi_iv_ok _ h1 g1
      exact hr i1 p l e R s m args below meth c H locs cells slots Q ls t1 X.1 X.2.1 (k _ _ _ _ _ _ ⟨ws, tys, lv, hl, hlv, ⟨⟨_, rfl, hf0 j1⟩, hs1⟩, hw⟩)
/-- a branch of one number -/
theorem zi_if_ok {t : zi_I → zi_I → Option Bool} {tg : Nat} {g : Int32 → Prop} (hdec : ∀ x, Decidable (g x)) (ht : ∀ {a : zi_I} {x : Int32} {q : Bool}, zi_in a (zi_o x) → t a (2147483648, 2147483648) = some q → (q = true ↔ g x))
    (hr : ∀ (p : Program) (l : Launch) (e : Env) (R : Room) (s : State) (m : MethodId) (args : Array Value) (below : List Frame) (meth : Method) (c : Code) (H : Heap) (locs : List Loc) (cells slots : Nat) (Q : State → Prop) (ls : Array Slot) (rest : List Value) (x : Int32), p.tables.exec = Jvm.exec → c.code = cc →
      (g x → W p l e R s m args below meth c H locs cells slots Q (F0 m tg ls rest)) → (¬ g x → W p l e R s m args below meth c H locs cells slots Q (F0 m nx ls rest)) → W p l e R s m args below meth c H locs cells slots Q (F0 m pc ls (.int x :: rest))) : zi_ok mt y cc nL pc (zi_if t tg nx) := by
  intro p l e R s m args below meth c D A b d a0 E X hE st pc' st' hf Q H locs cells slots ls sk hR k
  obtain ⟨lc, stk, r⟩ := st
  obtain ⟨ws, tys, lv, hl, hlv, hsk, hw⟩ := hR
  unfold zi_if at hf
  match stk, hf, hsk with
  | [], hf, _ => cases hf
  | v1 :: t', hf, hsk =>
    dsimp only at hf
    cases h1 : zi_iv v1 with
    | none => rw [h1] at hf; cases hf
    | some a1 =>
      rw [h1] at hf
      dsimp only at hf
      cases h2 : t a1 (2147483648, 2147483648) with
      | none => rw [h2] at hf; cases hf
      | some q =>
        rw [h2] at hf
        obtain ⟨z1, t1, rfl, g1, hs1⟩ := hsk.cons
        obtain ⟨i1, rfl, j1⟩ := zi_iv_ok _ h1 g1
        have hq := ht j1 h2
        cases q with
        | true => cases hf; exact hr p l e R s m args below meth c H locs cells slots Q ls t1 i1 X.1 X.2.1 (fun _ => k _ _ _ _ _ _ ⟨ws, tys, lv, hl, hlv, hs1, hw⟩) (fun n => absurd (hq.mp rfl) n)
        | false => cases hf; exact hr p l e R s m args below meth c H locs cells slots Q ls t1 i1 X.1 X.2.1 (fun n => by cases hq.mpr n) (fun _ => k _ _ _ _ _ _ ⟨ws, tys, lv, hl, hlv, hs1, hw⟩)
/-- a branch of two numbers -/
theorem zi_ic_ok {t : zi_I → zi_I → Option Bool} {tg : Nat} {g : Int32 → Int32 → Prop} (ht : ∀ {a b : zi_I} {x y : Int32} {q : Bool}, zi_in a (zi_o x) → zi_in b (zi_o y) → t a b = some q → (q = true ↔ g x y))
    (hr : ∀ (p : Program) (l : Launch) (e : Env) (R : Room) (s : State) (m : MethodId) (args : Array Value) (below : List Frame) (meth : Method) (c : Code) (H : Heap) (locs : List Loc) (cells slots : Nat) (Q : State → Prop) (ls : Array Slot) (rest : List Value) (x y : Int32), p.tables.exec = Jvm.exec → c.code = cc →
      (g x y → W p l e R s m args below meth c H locs cells slots Q (F0 m tg ls rest)) → (¬ g x y → W p l e R s m args below meth c H locs cells slots Q (F0 m nx ls rest)) → W p l e R s m args below meth c H locs cells slots Q (F0 m pc ls (.int y :: .int x :: rest))) : zi_ok mt y cc nL pc (zi_ic t tg nx) := by
  intro p l e R s m args below meth c D A b d a0 E X hE st pc' st' hf Q H locs cells slots ls sk hR k
  obtain ⟨lc, stk, r⟩ := st
  obtain ⟨ws, tys, lv, hl, hlv, hsk, hw⟩ := hR
  unfold zi_ic at hf
  match stk, hf, hsk with
  | [], hf, _ => cases hf
  | [_], hf, _ => cases hf
  | v2 :: v1 :: t', hf, hsk =>
    dsimp only at hf
    cases h1 : zi_iv v1 with
    | none => rw [h1] at hf; cases hf
    | some a1 =>
      rw [h1] at hf
      dsimp only at hf
      cases h2 : zi_iv v2 with
      | none => rw [h2] at hf; cases hf
      | some a2 =>
        rw [h2] at hf
        dsimp only at hf
        cases h3 : t a1 a2 with
        | none => rw [h3] at hf; cases hf
        | some q =>
          rw [h3] at hf
          obtain ⟨z2, t2, rfl, g2, hs1⟩ := hsk.cons
          obtain ⟨z1, t1, rfl, g1, hs2⟩ := hs1.cons
          obtain ⟨i1, rfl, j1⟩ := zi_iv_ok _ h1 g1
          obtain ⟨i2, rfl, j2⟩ := zi_iv_ok _ h2 g2
          have hq := ht j1 j2 h3
          cases q with
          | true => cases hf; exact hr p l e R s m args below meth c H locs cells slots Q ls t1 i1 i2 X.1 X.2.1 (fun _ => k _ _ _ _ _ _ ⟨ws, tys, lv, hl, hlv, hs2, hw⟩) (fun n => absurd (hq.mp rfl) n)
          | false => cases hf; exact hr p l e R s m args below meth c H locs cells slots Q ls t1 i1 i2 X.1 X.2.1 (fun n => by cases hq.mpr n) (fun _ => k _ _ _ _ _ _ ⟨ws, tys, lv, hl, hlv, hs2, hw⟩)
theorem zi_go_ok {off : Int} {tg : Nat} (hd : decode cc pc = .ok (.goto off, 3)) (ht : (pc : Int) + off = (tg : Int)) : zi_ok mt y cc nL pc (zi_go tg) := by
  intro p l e R s m args below meth c D A b d a0 E X hE st pc' st' hf Q H locs cells slots ls sk hR k
  cases hf
  exact lv_goto X.1 X.2.1 hd ht (k _ _ _ _ _ _ hR)
theorem zi_ifnull_ok {off : Int} {tg : Nat} (hd : decode cc pc = .ok (.ifnull off, 3)) (ht : (pc : Int) + off = (tg : Int)) (hn : pc + 3 = nx) : zi_ok mt y cc nL pc (zi_null tg nx) := by
  subst hn
  intro p l e R s m args below meth c D A b d a0 E X hE st pc' st' hf Q H locs cells slots ls sk hR k
  obtain ⟨lc, stk, r⟩ := st
  obtain ⟨ws, tys, lv, hl, hlv, hsk, hw⟩ := hR
  unfold zi_null at hf
  match stk, hf, hsk with
  | .inr (.inr (.inl none)) :: t, hf, hsk =>
    cases hf
    obtain ⟨z1, t1, rfl, g1, hs1⟩ := hsk.cons
    cases (show z1 = .null from g1)
    exact lv_ifnullN X.1 X.2.1 hd ht (k _ _ _ _ _ _ ⟨ws, tys, lv, hl, hlv, hs1, hw⟩)
  | .inr (.inr (.inl (some q))) :: t, hf, hsk =>
    cases hf
    obtain ⟨z1, t1, rfl, ⟨a, -, rfl⟩, hs1⟩ := hsk.cons
    exact lv_ifnull X.1 X.2.1 hd (k _ _ _ _ _ _ ⟨ws, tys, lv, hl, hlv, hs1, hw⟩)
  | [], hf, _ => cases hf
  | .inl _ :: _, hf, _ => cases hf
  | .inr (.inl _) :: _, hf, _ => cases hf
  | .inr (.inr (.inr _)) :: _, hf, _ => cases hf
theorem zi_ifnonnull_ok {off : Int} {tg : Nat} (hd : decode cc pc = .ok (.ifnonnull off, 3)) (ht : (pc : Int) + off = (tg : Int)) (hn : pc + 3 = nx) : zi_ok mt y cc nL pc (zi_null nx tg) := by
  subst hn
  intro p l e R s m args below meth c D A b d a0 E X hE st pc' st' hf Q H locs cells slots ls sk hR k
  obtain ⟨lc, stk, r⟩ := st
  obtain ⟨ws, tys, lv, hl, hlv, hsk, hw⟩ := hR
  unfold zi_null at hf
  match stk, hf, hsk with
  | .inr (.inr (.inl none)) :: t, hf, hsk =>
    cases hf
    obtain ⟨z1, t1, rfl, g1, hs1⟩ := hsk.cons
    cases (show z1 = .null from g1)
    exact lv_ifnonnullN X.1 X.2.1 hd (k _ _ _ _ _ _ ⟨ws, tys, lv, hl, hlv, hs1, hw⟩)
  | .inr (.inr (.inl (some q))) :: t, hf, hsk =>
    cases hf
    obtain ⟨z1, t1, rfl, ⟨a, -, rfl⟩, hs1⟩ := hsk.cons
    exact lv_ifnonnull X.1 X.2.1 hd ht (k _ _ _ _ _ _ ⟨ws, tys, lv, hl, hlv, hs1, hw⟩)
  | [], hf, _ => cases hf
  | .inl _ :: _, hf, _ => cases hf
  | .inr (.inl _) :: _, hf, _ => cases hf
  | .inr (.inr (.inr _)) :: _, hf, _ => cases hf
theorem zi_tsw_ok {dflt lo hi : Int} {offs : Array Int} {len lo' hi' df : Nat} {ts : List Nat} (hd : decode cc pc = .ok (.tableswitch dflt lo hi offs, len)) (h1 : lo + 2147483648 = (lo' : Int)) (h2 : hi + 2147483648 = (hi' : Int)) (h3 : (pc : Int) + dflt = (df : Int)) (h4 : offs.toList.map (fun o => (pc : Int) + o) = ts.map (fun (t : Nat) => (t : Int))) : zi_ok mt y cc nL pc (zi_tsw lo' hi' ts df) := by
  intro p l e R s m args below meth c D A b d a0 E X hE st pc' st' hf Q H locs cells slots ls sk hR k
  obtain ⟨lc, stk, r⟩ := st
  obtain ⟨ws, tys, lv, hl, hlv, hsk, hw⟩ := hR
  unfold zi_tsw at hf
  match stk, hf, hsk with
  | [], hf, _ => cases hf
  | v1 :: t', hf, hsk =>
    dsimp only at hf
    cases g1 : zi_iv v1 with
    | none => rw [g1] at hf; cases hf
    | some x =>
      rw [g1] at hf
      dsimp only at hf
      obtain ⟨z1, t1, rfl, g2, hs1⟩ := hsk.cons
      obtain ⟨i1, rfl, j1⟩ := zi_iv_ok _ g1 g2
      have e1 := zi_oe i1
      cases g3 : (Nat.blt x.2 lo' || Nat.blt hi' x.1) with
      | true =>
        rw [g3] at hf
        cases hf
        unfold zi_in at j1
        refine lv_tableOut X.1 X.2.1 hd ?_ h3 (k _ _ _ _ _ _ ⟨ws, tys, lv, hl, hlv, hs1, hw⟩)
        rcases Bool.or_eq_true_iff.mp g3 with q | q
        · have := Nat.le_of_ble_eq_true q; left; omega
        · have := Nat.le_of_ble_eq_true q; right; omega
      | false =>
        rw [g3] at hf
        dsimp only [cond_false] at hf
        cases g4 : (zi_one x && (Nat.ble lo' x.1 && Nat.ble x.1 hi')) with
        | false => rw [g4] at hf; cases hf
        | true =>
          rw [g4] at hf
          dsimp only [cond_true] at hf
          obtain ⟨q1, q2⟩ := Bool.and_eq_true_iff.mp g4
          obtain ⟨q2, q3⟩ := Bool.and_eq_true_iff.mp q2
          have q2 := Nat.le_of_ble_eq_true q2
          have q3 := Nat.le_of_ble_eq_true q3
          have q4 := zi_one_eq q1 j1
          rw [zi_nth_eq] at hf
          cases g5 : ts[x.1 - lo']? with
          | none => rw [g5] at hf; cases hf
          | some t =>
            rw [g5] at hf
            have e2 : (i1.toInt - lo).toNat = x.1 - lo' := by omega
            have h5 : (offs.toList.map (fun o => (pc : Int) + o))[x.1 - lo']? = some (t : Int) := by rw [h4, List.getElem?_map, g5]; rfl
            rw [List.getElem?_map] at h5
            cases h6 : offs.toList[x.1 - lo']? with
            | none => rw [h6] at h5; cases h5
            | some o =>
              rw [h6] at h5
              have h7 : (pc : Int) + o = (t : Int) := Option.some.inj h5
              cases hf
              exact lv_tableIn (off := o) X.1 X.2.1 hd (by omega) (by omega) (by rw [e2, ← Array.getElem?_toList]; exact h6) h7 (k _ _ _ _ _ _ ⟨ws, tys, lv, hl, hlv, hs1, hw⟩)
theorem zi_dup_ok (hd : decode cc pc = .ok (.dup, 1)) (hn : pc + 1 = nx) : zi_ok mt y cc nL pc (zi_dup nx) := by
  subst hn
  intro p l e R s m args below meth c D A b d a0 E X hE st pc' st' hf Q H locs cells slots ls sk hR k
  obtain ⟨lc, stk, r⟩ := st
  obtain ⟨ws, tys, lv, hl, hlv, hsk, hw⟩ := hR
  unfold zi_dup at hf
  match stk, hf, hsk with
  | [], hf, _ => cases hf
  | v1 :: t', hf, hsk =>
    dsimp only at hf
    cases g1 : Nat.beq (zi_cat v1) 1 with
    | false => rw [g1] at hf; cases hf
    | true =>
      rw [g1] at hf
      cases hf
      obtain ⟨z1, t1, rfl, g2, hs1⟩ := hsk.cons
      exact lv_dup X.1 X.2.1 hd ((zi_g.cat _ _ g2).trans (Nat.eq_of_beq_eq_true g1)) (k _ _ _ _ _ _ ⟨ws, tys, lv, hl, hlv, ⟨g2, g2, hs1⟩, hw⟩)
theorem zi_dup2_ok (hd : decode cc pc = .ok (.dup2, 1)) (hn : pc + 1 = nx) : zi_ok mt y cc nL pc (zi_dup2 nx) := by
  subst hn
  intro p l e R s m args below meth c D A b d a0 E X hE st pc' st' hf Q H locs cells slots ls sk hR k
  obtain ⟨lc, stk, r⟩ := st
  obtain ⟨ws, tys, lv, hl, hlv, hsk, hw⟩ := hR
  unfold zi_dup2 at hf
  match stk, hf, hsk with
  | [], hf, _ => cases hf
  | [_], hf, _ => cases hf
  | v1 :: v2 :: t', hf, hsk =>
    dsimp only at hf
    cases g1 : (Nat.beq (zi_cat v1) 1 && Nat.beq (zi_cat v2) 1) with
    | false => rw [g1] at hf; cases hf
    | true =>
      rw [g1] at hf
      cases hf
      obtain ⟨q1, q2⟩ := Bool.and_eq_true_iff.mp g1
      obtain ⟨z1, t1, rfl, g2, hs1⟩ := hsk.cons
      obtain ⟨z2, t2, rfl, g3, hs2⟩ := hs1.cons
      exact lv_dup2_11 X.1 X.2.1 hd ((zi_g.cat _ _ g2).trans (Nat.eq_of_beq_eq_true q1)) ((zi_g.cat _ _ g3).trans (Nat.eq_of_beq_eq_true q2)) (k _ _ _ _ _ _ ⟨ws, tys, lv, hl, hlv, ⟨g2, g3, g2, g3, hs2⟩, hw⟩)
theorem zi_popp_ok (hd : decode cc pc = .ok (.pop, 1)) (hn : pc + 1 = nx) : zi_ok mt y cc nL pc (zi_popp nx) := by
  subst hn
  intro p l e R s m args below meth c D A b d a0 E X hE st pc' st' hf Q H locs cells slots ls sk hR k
  obtain ⟨lc, stk, r⟩ := st
  obtain ⟨ws, tys, lv, hl, hlv, hsk, hw⟩ := hR
  unfold zi_popp at hf
  match stk, hf, hsk with
  | [], hf, _ => cases hf
  | v1 :: t', hf, hsk =>
    dsimp only at hf
    cases g1 : Nat.beq (zi_cat v1) 1 with
    | false => rw [g1] at hf; cases hf
    | true =>
      rw [g1] at hf
      cases hf
      obtain ⟨z1, t1, rfl, g2, hs1⟩ := hsk.cons
      exact lv_pop X.1 X.2.1 hd ((zi_g.cat _ _ g2).trans (Nat.eq_of_beq_eq_true g1)) (k _ _ _ _ _ _ ⟨ws, tys, lv, hl, hlv, hs1, hw⟩)
end Rows
end
section
/-! steps that read and write cells -/
section Heap
variable {mt : Nat → Option zi_M} {y : MethodName} {cc : ByteArray} {nL pc nx : Nat}
def zi_cls (ci : Nat) (C : String) (T : u_T) (N : Nat) (ty0 : Nat → FieldType) : Prop :=
  vwCl[ci]? = some (C, T, N) ∧ (∀ w ∈ u_ws C T N, w ∈ zi_G) ∧ (∀ k, k < N → parseFieldDescriptor (T k).2.2.1 = some (ty0 k)) ∧ ∀ a, a < N → ∀ b, b < N → a ≠ b → (T a).2.1 ≠ (T b).2.1
theorem zi_ads {ws : va_W} {q a : Nat} (h : (ws.map (·.1))[q]? = some a) : ∃ e, ws[q]? = some (a, e) := by
  rw [List.getElem?_map] at h
  cases h1 : ws[q]? with
  | none => rw [h1] at h; cases h
  | some x => rw [h1] at h; cases h; exact ⟨x.2, rfl⟩
theorem zi_ads_set {ws : va_W} {q a : Nat} {e e' : va_E} (h : ws[q]? = some (a, e)) : (ws.set q (a, e')).map (·.1) = ws.map (·.1) := by
  apply List.ext_getElem?
  intro i
  rw [List.getElem?_map, List.getElem?_map, List.getElem?_set]
  split
  · rename_i hi
    subst hi
    have hlt := (List.getElem?_eq_some_iff.mp h).1
    rw [if_pos hlt, h]
    rfl
  · rfl
theorem zi_ads_app {ws : va_W} {x : Nat × va_E} {k a : Nat} (h : (ws.map (·.1))[k]? = some a) : ((ws ++ [x]).map (·.1))[k]? = some a := by
  rw [List.map_append, List.getElem?_append_left (List.getElem?_eq_some_iff.mp h).1]
  exact h
theorem zi_a2.at {α β : Type} {r : α → β → Prop} {as : List α} {bs : List β} {k : Nat} {a : α} {b : β} (h : zi_a2 r as bs) (h1 : as[k]? = some a) (h2 : bs[k]? = some b) : r a b := by
  obtain ⟨b', h3, h4⟩ := h.get h1
  rw [h2] at h3
  cases h3
  exact h4
theorem zi_getf_ok {ci k idx N : Nat} {C : String} {T : u_T} {ty0 : Nat → FieldType} (hc : zi_cls ci C T N ty0) (hk : k < N) (hl : Cond.fieldLink y.cls idx (T k).1 (T k).2.1 (T k).2.2.1 ∈ zi_G) (hd : decode cc pc = .ok (.getfield idx, 3)) (hn : pc + 3 = nx) : zi_ok mt y cc nL pc (zi_getf ci k nx) := by
  subst hn
  intro p l e R s m args below meth c D A b d a0 E X hE st pc' st' hf Q H locs cells slots ls sk hR kk
  obtain ⟨lc, stk, w, r⟩ := st
  obtain ⟨ws, tys, lv, hlv0, hlv, hsk, hw⟩ := hR
  unfold zi_getf at hf
  match stk, hf, hsk with
  | .inr (.inr (.inl (some q))) :: t, hf, hsk =>
    dsimp only at hf
    cases h1 : zi_wg w q with
    | none => rw [h1] at hf; cases hf
    | some cell =>
      rw [h1] at hf
      match cell, h1, hf with
      | .inl _, _, hf => cases hf
      | .inr (c', vs), h1, hf =>
        dsimp only at hf
        cases h2 : Nat.beq c' ci with
        | false => rw [h2] at hf; cases hf
        | true =>
          rw [h2] at hf
          dsimp only [cond_true] at hf
          have h2 := Nat.eq_of_beq_eq_true h2
          rw [zi_nth_eq] at hf
          cases h3 : vs[k]? with
          | none => rw [h3] at hf; cases hf
          | some v =>
            rw [h3] at hf
            cases hf
            obtain ⟨z1, t1, rfl, ⟨a, ha, rfl⟩, hs1⟩ := hsk.cons
            obtain ⟨en, he⟩ := zi_ads ha
            obtain ⟨fs, e1, e2⟩ := zi_wr.at hw.1 h1 he
            dsimp only at e1
            rw [h2] at e1
            subst e1
            obtain ⟨x, hx, gx⟩ := e2.get h3
            exact va_get X.1 X.2.1 X.2.2.2.2.1 hc.2.1 X.2.2.2.1 hw.2.2.2.1 hw.2.1 q he hc.1 k hk (X.2.2.2.2.1 _ hl) (fun _ h => h) hx hd (kk _ _ _ _ _ _ ⟨ws, tys, lv, hlv0, hlv, ⟨gx, hs1⟩, hw⟩)
  | [], hf, _ => cases hf
  | .inl _ :: _, hf, _ => cases hf
  | .inr (.inl _) :: _, hf, _ => cases hf
  | .inr (.inr (.inl none)) :: _, hf, _ => cases hf
  | .inr (.inr (.inr _)) :: _, hf, _ => cases hf
theorem zi_fit_ok {ty : FieldType} {v : zi_V} {b : Nat} {ads : List Nat} {x : Value} (h : zi_fit ty v = true) (hg : zi_g b ads v x) : narrow ty x = x ∧ fits ty x = true := by
  unfold zi_fit at h
  split at h
  · obtain ⟨i, rfl, _⟩ := hg; exact ⟨rfl, rfl⟩
  · rename_i r
    obtain ⟨i, rfl, hi⟩ := hg
    obtain ⟨q1, q2⟩ := Bool.and_eq_true_iff.mp h
    have q1 := Nat.le_of_ble_eq_true q1
    have q2 := Nat.le_of_ble_eq_true q2
    have e := zi_oe i
    unfold zi_in at hi
    have h01 : i = 0 ∨ i = 1 := by
      rcases (show i.toInt = 0 ∨ i.toInt = 1 by omega) with h | h
      · exact Or.inl (Int32.toInt_inj.mp h)
      · exact Or.inr (Int32.toInt_inj.mp h)
    rcases h01 with rfl | rfl
    · exact ⟨by decide, by decide⟩
    · exact ⟨by decide, by decide⟩
  · rename_i o
    cases o with
    | none => cases (show x = .null from hg); exact ⟨rfl, rfl⟩
    | some q => obtain ⟨a, _, rfl⟩ := hg; exact ⟨rfl, rfl⟩
  · rename_i o
    cases o with
    | none => cases (show x = .null from hg); exact ⟨rfl, rfl⟩
    | some q => obtain ⟨a, _, rfl⟩ := hg; exact ⟨rfl, rfl⟩
  · cases h
theorem zi_putf_ok {ci k idx N : Nat} {C : String} {T : u_T} {ty0 : Nat → FieldType} {ty : FieldType} (hc : zi_cls ci C T N ty0) (hk : k < N) (hty : parseFieldDescriptor (T k).2.2.1 = some ty) (hfin : (T k).2.2.2 = false ∨ ((T k).2.2.2 = true ∧ y.name = "<init>" ∧ (T k).1 = y.cls)) (hl : Cond.fieldLink y.cls idx (T k).1 (T k).2.1 (T k).2.2.1 ∈ zi_G) (hd : decode cc pc = .ok (.putfield idx, 3)) (hn : pc + 3 = nx) : zi_ok mt y cc nL pc (zi_putf ci k ty nx) := by
  subst hn
  intro p l e R s m args below meth c D A b d a0 E X hE st pc' st' hf Q H locs cells slots ls sk hR kk
  obtain ⟨lc, stk, w, r⟩ := st
  obtain ⟨ws, tys, lv, hlv0, hlv, hsk, hw⟩ := hR
  unfold zi_putf at hf
  match stk, hf, hsk with
  | v :: .inr (.inr (.inl (some q))) :: t, hf, hsk =>
    dsimp only at hf
    cases h1 : zi_wg w q with
    | none => rw [h1] at hf; cases hf
    | some cell =>
      rw [h1] at hf
      match cell, h1, hf with
      | .inl _, _, hf => cases hf
      | .inr (c', vs), h1, hf =>
        dsimp only at hf
        cases h2 : (Nat.beq c' ci && (zi_fit ty v && Nat.blt k vs.length)) with
        | false => rw [h2] at hf; cases hf
        | true =>
          rw [h2] at hf
          cases hf
          obtain ⟨q1, q2⟩ := Bool.and_eq_true_iff.mp h2
          obtain ⟨q2, q3⟩ := Bool.and_eq_true_iff.mp q2
          have q1 := Nat.eq_of_beq_eq_true q1
          have q3 : k < vs.length := Nat.le_of_ble_eq_true q3
          subst q1
          obtain ⟨z2, t2, rfl, g2, hs1⟩ := hsk.cons
          obtain ⟨z1, t1, rfl, ⟨a, ha, rfl⟩, hs2⟩ := hs1.cons
          obtain ⟨en, he⟩ := zi_ads ha
          obtain ⟨fs, e1, e2⟩ := zi_wr.at hw.1 h1 he
          dsimp only at e1
          subst e1
          obtain ⟨f1, f2⟩ := zi_fit_ok q2 g2
          obtain ⟨w1, w2, w3, w4, w5, w6, w7, w8⟩ := hw
          have hfl : k < fs.length := by rw [← e2.len]; exact q3
          have fin : ∀ (H1 : Heap) (locs1 : List Loc), va_P D vwCl (ws.set q (a, .inr (c', fs.set k z2))) H1 → va_D A (ws.set q (a, .inr (c', fs.set k z2))) → va_S A s.heap H1 locs1 → W p l e R s m args below meth c H1 locs1 cells slots Q (F0 m (pc + 3) ls t1) := by
            intro H1 locs1 hP hD hS
            have ea := zi_ads_set (e' := .inr (c', fs.set k z2)) he
            refine kk _ _ _ _ _ _ ⟨_, tys, lv, hlv0, by rw [ea]; exact hlv, by rw [ea]; exact hs2, ?_, hP, hD, w4, hS, w6, w7, by rw [ea]; exact w8⟩
            rw [ea]
            rw [zi_up_set]
            exact zi_wr.set w1 he ⟨_, rfl, e2.set k g2⟩
          rcases hfin with hfin | ⟨hfin, hin, hdc⟩
          · exact va_put X.1 X.2.1 X.2.2.2.2.1 hc.2.1 ty0 hc.2.2.1 hc.2.2.2 X.2.2.2.1 w4 w2 w3 w5 q he hc.1 k hk (X.2.2.2.2.1 _ hl) (fun _ h => h) hfin hty f1 f2 hfl hd fin
          · exact va_putF X.1 X.2.1 X.2.2.2.2.1 hc.2.1 ty0 hc.2.2.1 hc.2.2.2 X.2.2.2.1 w4 w2 w3 w5 q he hc.1 k hk (X.2.2.2.2.1 _ hl) (fun _ h => h) hfin (X.2.2.2.2.2.2.2.2.1 hin) hdc hty f1 f2 hfl hd fin
  | [], hf, _ => cases hf
  | [_], hf, _ => cases hf
  | _ :: .inl _ :: _, hf, _ => cases hf
  | _ :: .inr (.inl _) :: _, hf, _ => cases hf
  | _ :: .inr (.inr (.inl none)) :: _, hf, _ => cases hf
  | _ :: .inr (.inr (.inr _)) :: _, hf, _ => cases hf
theorem zi_clamp {i : Int32} {n : Nat} (h : zi_o i = n + 2147483648) : i.toNatClampNeg = n := by
  have e := zi_oe i
  show i.toInt.toNat = n
  omega
theorem zi_vin {i : Int32} {n N : Nat} (h : zi_o i = n + 2147483648) (hn : n < N) : vp_in i N := by
  have e := zi_oe i
  unfold vp_in
  rw [zi_clamp h]
  intro q
  rcases q with q | q
  · have := Int32.lt_iff_toInt_lt.mp q
    have e0 : (0 : Int32).toInt = 0 := rfl
    omega
  · omega
theorem zi_ald_ok {ty : FieldType} {ins : Instr} (hn : pc + 1 = nx) (hd : decode cc pc = .ok (ins, 1)) (hi : (ty = .int ∧ ins = .iaload) ∨ (ty = .byte ∧ ins = .baload) ∨ (ty = .boolean ∧ ins = .baload)) : zi_ok mt y cc nL pc (zi_ald ty nx) := by
  subst hn
  intro p l e R s m args below meth c D A b d a0 E X hE st pc' st' hf Q H locs cells slots ls sk hR kk
  obtain ⟨lc, stk, w, r⟩ := st
  obtain ⟨ws, tys, lv, hlv0, hlv, hsk, hw⟩ := hR
  unfold zi_ald at hf
  match stk, hf, hsk with
  | v :: .inr (.inr (.inl (some q))) :: t, hf, hsk =>
    dsimp only at hf
    cases h0 : zi_iv v with
    | none => rw [h0] at hf; cases hf
    | some x =>
      rw [h0] at hf
      dsimp only at hf
      cases h1 : zi_wg w q with
      | none => rw [h1] at hf; cases hf
      | some cell =>
        rw [h1] at hf
        match cell, h1, hf with
        | .inr _, _, hf => cases hf
        | .inl (t', l'), h1, hf =>
          dsimp only at hf
          cases h2 : (zi_one x && (Nat.ble 2147483648 x.1 && decide (t' = ty))) with
          | false => rw [h2] at hf; cases hf
          | true =>
            rw [h2] at hf
            dsimp only [cond_true] at hf
            obtain ⟨q1, q2⟩ := Bool.and_eq_true_iff.mp h2
            obtain ⟨q2, q3⟩ := Bool.and_eq_true_iff.mp q2
            have q2 := Nat.le_of_ble_eq_true q2
            have q3 := of_decide_eq_true q3
            rw [zi_nth_eq] at hf
            cases h3 : l'[x.1 - 2147483648]? with
            | none => rw [h3] at hf; cases hf
            | some v' =>
              rw [h3] at hf
              cases hf
              obtain ⟨z2, t2, rfl, g2, hs1⟩ := hsk.cons
              obtain ⟨z1, t1, rfl, ⟨a, ha, rfl⟩, hs2⟩ := hs1.cons
              obtain ⟨i, rfl, hi'⟩ := zi_iv_ok _ h0 g2
              have ei := zi_one_eq q1 hi'
              obtain ⟨en, he⟩ := zi_ads ha
              obtain ⟨cA, f, t0, e1, e2, e3⟩ := zi_wr.at hw.1 h1 he
              dsimp only at e1
              subst e1
              rw [q3] at e2
              obtain ⟨n, hnn⟩ : ∃ n : Nat, n = x.1 - 2147483648 := ⟨_, rfl⟩
              rw [← hnn] at h3
              have ein : zi_o i = n + 2147483648 := by omega
              have hlt := (List.getElem?_eq_some_iff.mp h3).1
              have hv := zi_vin ein hlt
              have hcl := zi_clamp ein
              have fin : W p l e R s m args below meth c H locs cells slots Q (F0 m (pc + 1) ls (.int (f i.toNatClampNeg) :: t1)) := kk _ _ _ _ _ _ ⟨ws, tys, lv, hlv0, hlv, ⟨⟨_, rfl, by rw [hcl]; exact e3 _ _ h3⟩, hs2⟩, hw⟩
              rcases hi with ⟨rfl, rfl⟩ | ⟨rfl, rfl⟩ | ⟨rfl, rfl⟩
              · exact va_iald X.1 X.2.1 hw.2.2.2.1 hw.2.1 q t0 he e2 hv hd fin
              · exact va_bald X.1 X.2.1 hw.2.2.2.1 hw.2.1 q t0 he e2 hv hd fin
              · exact va_zald X.1 X.2.1 hw.2.2.2.1 hw.2.1 q t0 he e2 hv hd fin
  | [], hf, _ => cases hf
  | [_], hf, _ => cases hf
  | _ :: .inl _ :: _, hf, _ => cases hf
  | _ :: .inr (.inl _) :: _, hf, _ => cases hf
  | _ :: .inr (.inr (.inl none)) :: _, hf, _ => cases hf
  | _ :: .inr (.inr (.inr _)) :: _, hf, _ => cases hf
theorem zi_nar {ty : FieldType} {r : zi_I} {x : Int32} (h : zi_afit ty r = true) (hx : zi_in r (zi_o x)) : (ty = .byte → vp_nar .byte x = x) ∧ (ty = .boolean → vp_nar .boolean x = x) := by
  have e := zi_oe x
  unfold zi_in at hx
  constructor
  · intro q
    subst q
    obtain ⟨q1, q2⟩ := Bool.and_eq_true_iff.mp (show (Nat.ble 2147483520 r.1 && Nat.ble r.2 2147483775) = true from h)
    have q1 := Nat.le_of_ble_eq_true q1
    have q2 := Nat.le_of_ble_eq_true q2
    show x.toInt8.toInt32 = x
    apply Int32.toInt_inj.mp
    rw [Int8.toInt_toInt32, Int32.toInt_toInt8]
    exact Int.bmod_eq_of_le (by omega) (by omega)
  · intro q
    subst q
    obtain ⟨q1, q2⟩ := Bool.and_eq_true_iff.mp (show (Nat.ble 2147483648 r.1 && Nat.ble r.2 2147483649) = true from h)
    have q1 := Nat.le_of_ble_eq_true q1
    have q2 := Nat.le_of_ble_eq_true q2
    have h01 : x = 0 ∨ x = 1 := by
      rcases (show x.toInt = 0 ∨ x.toInt = 1 by omega) with h | h
      · exact Or.inl (Int32.toInt_inj.mp h)
      · exact Or.inr (Int32.toInt_inj.mp h)
    rcases h01 with rfl | rfl
    · decide
    · decide
theorem zi_upd {l : List zi_I} {f : Nat → Int32} {n : Nat} {r : zi_I} {x : Int32} (h : ∀ (j : Nat) (r : zi_I), l[j]? = some r → zi_in r (zi_o (f j))) (hx : zi_in r (zi_o x)) : ∀ (j : Nat) (q : zi_I), (l.set n r)[j]? = some q → zi_in q (zi_o (upd f n x j)) := by
  intro j q hq
  unfold upd
  rw [List.getElem?_set] at hq
  split at hq
  · rename_i e
    subst e
    split at hq
    · cases hq; rw [if_pos rfl]; exact hx
    · cases hq
  · rename_i e
    rw [if_neg (fun z => e z.symm)]
    exact h j q hq
theorem zi_ast_ok {ty : FieldType} {ins : Instr} (hn : pc + 1 = nx) (hd : decode cc pc = .ok (ins, 1)) (hi : (ty = .int ∧ ins = .iastore) ∨ (ty = .byte ∧ ins = .bastore) ∨ (ty = .boolean ∧ ins = .bastore)) : zi_ok mt y cc nL pc (zi_ast ty nx) := by
  subst hn
  intro p l e R s m args below meth c D A b d a0 E X hE st pc' st' hf Q H locs cells slots ls sk hR kk
  obtain ⟨lc, stk, w, r⟩ := st
  obtain ⟨ws, tys, lv, hlv0, hlv, hsk, hw⟩ := hR
  unfold zi_ast at hf
  match stk, hf, hsk with
  | v :: vi :: .inr (.inr (.inl (some q))) :: t, hf, hsk =>
    dsimp only at hf
    cases h00 : zi_iv v with
    | none => rw [h00] at hf; cases hf
    | some yv =>
    rw [h00] at hf
    dsimp only at hf
    cases h0 : zi_iv vi with
    | none => rw [h0] at hf; cases hf
    | some x =>
      rw [h0] at hf
      dsimp only at hf
      cases h1 : zi_wg w q with
      | none => rw [h1] at hf; cases hf
      | some cell =>
        rw [h1] at hf
        match cell, h1, hf with
        | .inr _, _, hf => cases hf
        | .inl (t', l'), h1, hf =>
          dsimp only at hf
          cases h2 : (zi_one x && (Nat.ble 2147483648 x.1 && (decide (t' = ty) && (zi_afit ty yv && Nat.blt (x.1 - 2147483648) l'.length)))) with
          | false => rw [h2] at hf; cases hf
          | true =>
            rw [h2] at hf
            cases hf
            obtain ⟨q1, q2⟩ := Bool.and_eq_true_iff.mp h2
            obtain ⟨q2, q3⟩ := Bool.and_eq_true_iff.mp q2
            obtain ⟨q3, q4⟩ := Bool.and_eq_true_iff.mp q3
            obtain ⟨q4, q5⟩ := Bool.and_eq_true_iff.mp q4
            have q2 := Nat.le_of_ble_eq_true q2
            have q5 : x.1 - 2147483648 < l'.length := Nat.le_of_ble_eq_true q5
            have q3 := of_decide_eq_true q3
            obtain ⟨z3, t3, rfl, g3, hs0⟩ := hsk.cons
            obtain ⟨z2, t2, rfl, g2, hs1⟩ := hs0.cons
            obtain ⟨z1, t1, rfl, ⟨a, ha, rfl⟩, hs2⟩ := hs1.cons
            obtain ⟨i, rfl, hi'⟩ := zi_iv_ok _ h0 g2
            obtain ⟨vx, rfl, hvx⟩ := zi_iv_ok _ h00 g3
            have ei := zi_one_eq q1 hi'
            obtain ⟨en, he⟩ := zi_ads ha
            obtain ⟨cA, f, t0, e1, e2, e3⟩ := zi_wr.at hw.1 h1 he
            dsimp only at e1
            subst e1
            have e2' := e2
            rw [q3] at e2'
            obtain ⟨n, hnn⟩ : ∃ n : Nat, n = x.1 - 2147483648 := ⟨_, rfl⟩
            rw [← hnn] at q5 kk
            have ein : zi_o i = n + 2147483648 := by omega
            have hv := zi_vin ein q5
            have hcl := zi_clamp ein
            obtain ⟨w1, w2, w3, w4, w5, w6, w7, w8⟩ := hw
            have fin : ∀ (H1 : Heap) (locs1 : List Loc), va_P D vwCl (ws.set q (a, .inl (cA, l'.length, .inl (upd f i.toNatClampNeg vx)))) H1 → va_D A (ws.set q (a, .inl (cA, l'.length, .inl (upd f i.toNatClampNeg vx)))) → va_S A s.heap H1 locs1 → W p l e R s m args below meth c H1 locs1 cells slots Q (F0 m (pc + 1) ls t1) := by
              intro H1 locs1 hP hD hS
              have ea := zi_ads_set (e' := .inl (cA, l'.length, .inl (upd f i.toNatClampNeg vx))) he
              refine kk _ _ _ _ _ _ ⟨_, tys, lv, hlv0, by rw [ea]; exact hlv, by rw [ea]; exact hs2, ?_, hP, hD, w4, hS, w6, w7, by rw [ea]; exact w8⟩
              rw [ea, hcl]
              rw [zi_up_set]
              exact zi_wr.set w1 he ⟨cA, upd f n vx, t0, by rw [List.length_set], e2, zi_upd e3 hvx⟩
            have hna := zi_nar q4 hvx
            rcases hi with ⟨rfl, rfl⟩ | ⟨rfl, rfl⟩ | ⟨rfl, rfl⟩
            · exact va_iast X.1 X.2.1 w4 w2 w3 w5 q t0 he e2' hv hd fin
            · exact va_bast X.1 X.2.1 w4 w2 w3 w5 q t0 he e2' hv hd (by rw [hna.1 rfl]; exact fin)
            · exact va_zast X.1 X.2.1 w4 w2 w3 w5 q t0 he e2' hv hd (by rw [hna.2 rfl]; exact fin)
  | [], hf, _ => cases hf
  | [_], hf, _ => cases hf
  | [_, _], hf, _ => cases hf
  | _ :: _ :: .inl _ :: _, hf, _ => cases hf
  | _ :: _ :: .inr (.inl _) :: _, hf, _ => cases hf
  | _ :: _ :: .inr (.inr (.inl none)) :: _, hf, _ => cases hf
  | _ :: _ :: .inr (.inr (.inr _)) :: _, hf, _ => cases hf
theorem zi_sld_ok (hn : pc + 1 = nx) (hd : decode cc pc = .ok (.iaload, 1)) : zi_ok mt y cc nL pc (zi_sld nx) := by
  subst hn
  intro p l e R s m args below meth c D A b d a0 E X hE st pc' st' hf Q H locs cells slots ls sk hR kk
  obtain ⟨lc, stk, r⟩ := st
  obtain ⟨ws, tys, lv, hlv0, hlv, hsk, hw⟩ := hR
  unfold zi_sld at hf
  match stk, hf, hsk with
  | v :: .inr (.inr (.inr (.inl u))) :: t, hf, hsk =>
    dsimp only at hf
    cases h0 : zi_iv v with
    | none => rw [h0] at hf; cases hf
    | some x =>
      rw [h0] at hf
      dsimp only at hf
      cases h1 : E.2 with
      | none => rw [h1] at hf; cases hf
      | some sc =>
        rw [h1] at hf
        dsimp only at hf
        cases h2 : (zi_one x && Nat.ble 2147483648 x.1) with
        | false => rw [h2] at hf; cases hf
        | true =>
          rw [h2] at hf
          dsimp only [cond_true] at hf
          obtain ⟨q1, q2⟩ := Bool.and_eq_true_iff.mp h2
          have q2 := Nat.le_of_ble_eq_true q2
          rw [zi_nth_eq] at hf
          cases h3 : sc[x.1 - 2147483648]? with
          | none => rw [h3] at hf; cases hf
          | some v' =>
            rw [h3] at hf
            cases hf
            obtain ⟨z2, t2, rfl, g2, hs1⟩ := hsk.cons
            obtain ⟨z1, t1, rfl, g1, hs2⟩ := hs1.cons
            cases (show z1 = .ref b from g1)
            obtain ⟨i, rfl, hi'⟩ := zi_iv_ok _ h0 g2
            have ei := zi_one_eq q1 hi'
            obtain ⟨n, hnn⟩ : ∃ n : Nat, n = x.1 - 2147483648 := ⟨_, rfl⟩
            rw [← hnn] at h3
            have ein : zi_o i = n + 2147483648 := by omega
            have hlt := (List.getElem?_eq_some_iff.mp h3).1
            have hS := X.2.2.2.2.2.2.2.2.2
            rw [h1] at hS
            obtain ⟨xs, s1, s2, s3, s4, s5⟩ := hS
            exact va_sld X.1 X.2.1 s1 s2 s3 hw.2.2.2.2.1 (zi_vin ein hlt) hd (by
              rw [zi_clamp ein]
              exact kk _ _ _ _ _ _ ⟨ws, tys, lv, hlv0, hlv, ⟨s5 _ _ _ h3, hs2⟩, hw⟩)
  | [], hf, _ => cases hf
  | [_], hf, _ => cases hf
  | _ :: .inl _ :: _, hf, _ => cases hf
  | _ :: .inr (.inl _) :: _, hf, _ => cases hf
  | _ :: .inr (.inr (.inl _)) :: _, hf, _ => cases hf
  | _ :: .inr (.inr (.inr (.inr _))) :: _, hf, _ => cases hf
theorem zi_ofN {n : Nat} (h : n < 2147483648) : zi_o (Int32.ofNat n) = n + 2147483648 := by
  have e := zi_oe (Int32.ofNat n)
  have e2 : (Int32.ofNat n).toInt = (n : Int) := nI_toInt (by omega)
  omega
theorem zi_slen_ok (hn : pc + 1 = nx) (hd : decode cc pc = .ok (.arraylength, 1)) : zi_ok mt y cc nL pc (zi_slen nx) := by
  subst hn
  intro p l e R s m args below meth c D A b d a0 E X hE st pc' st' hf Q H locs cells slots ls sk hR kk
  obtain ⟨lc, stk, r⟩ := st
  obtain ⟨ws, tys, lv, hlv0, hlv, hsk, hw⟩ := hR
  unfold zi_slen at hf
  match stk, hf, hsk with
  | .inr (.inr (.inr (.inl u))) :: t, hf, hsk =>
    dsimp only at hf
    cases h1 : E.2 with
    | none => rw [h1] at hf; cases hf
    | some sc =>
      rw [h1] at hf
      cases hf
      obtain ⟨z1, t1, rfl, g1, hs2⟩ := hsk.cons
      cases (show z1 = .ref b from g1)
      have hS := X.2.2.2.2.2.2.2.2.2
      rw [h1] at hS
      obtain ⟨xs, s1, s2, s3, s4, s5⟩ := hS
      exact va_slen X.1 X.2.1 s1 s2 s3 hw.2.2.2.2.1 hd (kk _ _ _ _ _ _ ⟨ws, tys, lv, hlv0, hlv, ⟨⟨_, rfl, by rw [zi_ofN s4]; exact ⟨Nat.le_refl _, Nat.le_refl _⟩⟩, hs2⟩, hw⟩)
  | [], hf, _ => cases hf
  | .inl _ :: _, hf, _ => cases hf
  | .inr (.inl _) :: _, hf, _ => cases hf
  | .inr (.inr (.inl _)) :: _, hf, _ => cases hf
  | .inr (.inr (.inr (.inr _))) :: _, hf, _ => cases hf
theorem zi_alen_ok (hn : pc + 1 = nx) (hd : decode cc pc = .ok (.arraylength, 1)) : zi_ok mt y cc nL pc (zi_alen nx) := by
  subst hn
  intro p l e R s m args below meth c D A b d a0 E X hE st pc' st' hf Q H locs cells slots ls sk hR kk
  obtain ⟨lc, stk, w, r⟩ := st
  obtain ⟨ws, tys, lv, hlv0, hlv, hsk, hw⟩ := hR
  unfold zi_alen at hf
  match stk, hf, hsk with
  | .inr (.inr (.inl (some q))) :: t, hf, hsk =>
    dsimp only at hf
    cases h1 : zi_wg w q with
    | none => rw [h1] at hf; cases hf
    | some cell =>
      rw [h1] at hf
      match cell, h1, hf with
      | .inr _, _, hf => cases hf
      | .inl (t', l'), h1, hf =>
        dsimp only at hf
        cases h2 : Nat.ble l'.length 2147483647 with
        | false => rw [h2] at hf; cases hf
        | true =>
          rw [h2] at hf
          cases hf
          have h2 := Nat.le_of_ble_eq_true h2
          obtain ⟨z1, t1, rfl, ⟨a, ha, rfl⟩, hs2⟩ := hsk.cons
          obtain ⟨en, he⟩ := zi_ads ha
          obtain ⟨cA, f, t0, e1, e2, e3⟩ := zi_wr.at hw.1 h1 he
          dsimp only at e1
          subst e1
          exact va_alen X.1 X.2.1 hw.2.2.2.1 hw.2.1 q t0 he e2 rfl hd (kk _ _ _ _ _ _ ⟨ws, tys, lv, hlv0, hlv, ⟨⟨_, rfl, by rw [zi_ofN (by omega)]; exact ⟨Nat.le_refl _, Nat.le_refl _⟩⟩, hs2⟩, hw⟩)
  | [], hf, _ => cases hf
  | .inl _ :: _, hf, _ => cases hf
  | .inr (.inl _) :: _, hf, _ => cases hf
  | .inr (.inr (.inl none)) :: _, hf, _ => cases hf
  | .inr (.inr (.inr _)) :: _, hf, _ => cases hf
end Heap
end
section
/-! steps that make cells, and calls -/
section Make
variable {mt : Nat → Option zi_M} {y : MethodName} {cc : ByteArray} {nL pc nx : Nat}
theorem zi_o0 : zi_o 0 = 2147483648 := by decide
theorem zi_last {ws : va_W} {x : Nat × va_E} {n : Nat} (h : n = ws.length) : ((ws ++ [x]).map (·.1))[n]? = some x.1 := by
  subst h
  rw [List.map_append, List.getElem?_append_right (by simp)]
  simp
theorem zi_newa_ok {ty : FieldType} {atype : ArrayType} (hty : newarray.typeOf atype = ty) (hi : ty = .int ∨ ty = .byte ∨ ty = .boolean) (hw0 : Cond.arrayClass ty ∈ zi_G) (hd : decode cc pc = .ok (.newarray atype, 2)) (hn : pc + 2 = nx) : zi_ok mt y cc nL pc (zi_newa ty nx) := by
  subst hn
  intro p l e R s m args below meth c D A b d a0 E X hE st pc' st' hf Q H locs cells slots ls sk hR kk
  obtain ⟨lc, stk, w, rc, rs⟩ := st
  obtain ⟨ws, tys, lv, hlv0, hlv, hsk, hw⟩ := hR
  unfold zi_newa at hf
  match stk, hf, hsk with
  | [], hf, _ => cases hf
  | v :: t, hf, hsk =>
    dsimp only at hf
    cases h0 : zi_iv v with
    | none => rw [h0] at hf; cases hf
    | some x =>
      rw [h0] at hf
      dsimp only at hf
      cases h2 : (zi_one x && (Nat.ble 2147483648 x.1 && (Nat.ble x.1 2147493648 && (Nat.ble 1 rc && Nat.ble (x.1 - 2147483648) rs)))) with
      | false => rw [h2] at hf; cases hf
      | true =>
        rw [h2] at hf
        cases hf
        obtain ⟨q1, q2⟩ := Bool.and_eq_true_iff.mp h2
        obtain ⟨q2, q3⟩ := Bool.and_eq_true_iff.mp q2
        obtain ⟨q3, q4⟩ := Bool.and_eq_true_iff.mp q3
        obtain ⟨q4, q5⟩ := Bool.and_eq_true_iff.mp q4
        have q2 := Nat.le_of_ble_eq_true q2
        have q3 := Nat.le_of_ble_eq_true q3
        have q4 := Nat.le_of_ble_eq_true q4
        have q5 := Nat.le_of_ble_eq_true q5
        obtain ⟨z1, t1, rfl, g1, hs1⟩ := hsk.cons
        obtain ⟨i, rfl, hi'⟩ := zi_iv_ok _ h0 g1
        have ei := zi_one_eq q1 hi'
        obtain ⟨n, hnn⟩ : ∃ n : Nat, n = x.1 - 2147483648 := ⟨_, rfl⟩
        rw [← hnn] at kk q5
        have ein : zi_o i = n + 2147483648 := by omega
        have e := zi_oe i
        obtain ⟨w1, w2, w3, w4, w5, w6, w7, w8⟩ := hw
        dsimp only at w1 w6 w7
        have hdef : ∀ cA : ClassId, vp_cell cA (n, .inl (fun _ => (0 : Int32))) = arrV cA n (fun _ => defaultValue ty) := by
          intro cA
          rcases hi with rfl | rfl | rfl <;> rfl
        have hby : n * componentBytes ty ≤ 536870912 := by
          have hc : componentBytes ty ≤ 8 := by rcases hi with rfl | rfl | rfl <;> decide
          exact Nat.le_trans (Nat.mul_le_mul_left n hc) (by omega)
        refine va_newa (a0 := (n, .inl (fun _ => 0))) X.1 X.2.1 (by rw [hty]; exact X.2.2.2.2.1 _ hw0) hty w4 w2 w3 w5 X.2.2.2.2.2.2.1 hdef ?_ (zi_clamp ein) hby (by omega) (by omega) hd ?_
        · intro q
          have := Int32.lt_iff_toInt_lt.mp q
          have e0 : (0 : Int32).toInt = 0 := rfl
          omega
        · intro q cA H1 hK hP hD hS
          have ext : ∀ (k a : Nat), (ws.map (·.1))[k]? = some a → ((ws ++ [(q, Sum.inl (cA, n, Sum.inl fun _ => (0 : Int32)))] : va_W).map (·.1))[k]? = some a := fun k a h => zi_ads_app h
          refine kk _ _ _ _ _ _ ⟨_, _, lv, hlv0, hlv.mono (fun p q h => ⟨h.1, zi_g.mono ext _ _ h.2⟩), ⟨⟨q, zi_last w1.1, rfl⟩, hs1.mono (zi_g.mono ext)⟩, ?_, hP, hD, hK, hS, by dsimp only; omega, by dsimp only; omega, fun k a h => ext k a (w8 k a h)⟩
          refine (w1.mono ext (fun k q h => ?_)).push ⟨cA, fun _ => 0, tys.length, by rw [List.length_replicate], by simp, ?_⟩
          · rw [List.getElem?_append_left (List.getElem?_eq_some_iff.mp h).1]; exact h
          · intro j r hr
            rw [List.getElem?_replicate] at hr
            split at hr
            · cases hr; rw [zi_o0]; exact ⟨Nat.le_refl _, Nat.le_refl _⟩
            · cases hr
theorem zi_new_ok {ci N idx : Nat} {C : String} {T : u_T} {ty0 : Nat → FieldType} {vs : List zi_V} (hc : zi_cls ci C T N ty0) (hl : Cond.classLink y.cls idx C ∈ zi_G) (hin : Cond.instantiable C N ∈ zi_G) (hini : Cond.initialized C ∈ zi_G) (fs : List Value) (hfs : ∀ j, j < N → defaultValue (ty0 j) = vp_V fs j) (hv : ∀ (b : Nat) (ads : List Nat), zi_a2 (zi_g b ads) vs fs) (hd : decode cc pc = .ok (.new idx, 3)) (hn : pc + 3 = nx) : zi_ok mt y cc nL pc (zi_new ci N vs nx) := by
  subst hn
  intro p l e R s m args below meth c D A b d a0 E X hE st pc' st' hf Q H locs cells slots ls sk hR kk
  obtain ⟨lc, stk, w, rc, rs⟩ := st
  obtain ⟨ws, tys, lv, hlv0, hlv, hsk, hw⟩ := hR
  unfold zi_new at hf
  dsimp only at hf
  cases h2 : (Nat.ble 1 rc && Nat.ble N rs) with
  | false => rw [h2] at hf; cases hf
  | true =>
    rw [h2] at hf
    cases hf
    obtain ⟨q1, q2⟩ := Bool.and_eq_true_iff.mp h2
    have q1 := Nat.le_of_ble_eq_true q1
    have q2 := Nat.le_of_ble_eq_true q2
    obtain ⟨w1, w2, w3, w4, w5, w6, w7, w8⟩ := hw
    dsimp only at w1 w6 w7
    refine va_new X.1 X.2.1 X.2.2.2.2.1 hc.2.1 ty0 hc.2.2.1 X.2.2.2.1 (X.2.2.2.2.1 _ hl) (X.2.2.2.2.1 _ hin) (X.2.2.2.2.1 _ hini) w4 w2 w3 w5 X.2.2.2.2.2.2.1 hc.1 hfs (by omega) (by omega) hd ?_
    intro q H1 hP hD hS
    have ext : ∀ (k a : Nat), (ws.map (·.1))[k]? = some a → ((ws ++ [(q, Sum.inr (ci, fs))] : va_W).map (·.1))[k]? = some a := fun k a h => zi_ads_app h
    refine kk _ _ _ _ _ _ ⟨_, tys, lv, hlv0, hlv.mono (fun p q h => ⟨h.1, zi_g.mono ext _ _ h.2⟩), ⟨⟨q, zi_last w1.1, rfl⟩, hsk.mono (zi_g.mono ext)⟩, ?_, hP, hD, w4, hS, by dsimp only; omega, by dsimp only; omega, fun k a h => ext k a (w8 k a h)⟩
    exact (w1.mono ext (fun k q h => h)).push ⟨fs, rfl, hv _ _⟩
theorem zi_wt_ok {b : Nat} {ads : List Nat} : ∀ {as : List zi_V} {vs : List Value}, zi_a2 (zi_g b ads) as vs → (vs.map fun v => v.category).sum = zi_wt as
  | [], [], _ => rfl
  | [], _ :: _, h => h.elim
  | _ :: _, [], h => h.elim
  | a :: as, v :: vs, h => by
    rw [List.map_cons, List.sum_cons, zi_wt_ok h.2, zi_g.cat _ _ h.1]
    rfl
theorem zi_obj_ok {idx : Nat} (hl : Cond.methodLink y.cls idx Lib.objectInit ∈ zi_G) (h1 : Cond.instanceMethod Lib.objectInit ∈ zi_G) (h2 : Cond.code Lib.objectInit ⟨#[0xb1]⟩ 1 none ∈ zi_G) (hd : decode cc pc = .ok (.invokespecial idx, 3)) (hn : pc + 3 = nx) : zi_ok mt y cc nL pc (zi_obj nx) := by
  subst hn
  intro p l e R s m args below meth c D A b d a0 E X hE st pc' st' hf Q H locs cells slots ls sk hR kk
  obtain ⟨lc, stk, r⟩ := st
  obtain ⟨ws, tys, lv, hlv0, hlv, hsk, hw⟩ := hR
  unfold zi_obj at hf
  match stk, hf, hsk with
  | .inr (.inr (.inl (some q))) :: t, hf, hsk =>
    dsimp only at hf
    cases h3 : Nat.ble (zi_wt t) 20 with
    | false => rw [h3] at hf; cases hf
    | true =>
      rw [h3] at hf
      cases hf
      have h3 := Nat.le_of_ble_eq_true h3
      obtain ⟨z1, t1, rfl, ⟨a, ha, rfl⟩, hs1⟩ := hsk.cons
      have hx := X.2.2.2.2.2.2.2.1
      have hwt := zi_wt_ok hs1
      refine W.objInit (a := a) (rest := t1) X.1 X.2.1 X.2.2.2.1 (X.2.2.2.2.1 _ hl) (X.2.2.2.2.1 _ h1) (X.2.2.2.2.1 _ h2) rfl (hlv0.1.trans X.2.2.1.symm) rfl hd (by omega) ?_ (kk _ _ _ _ _ _ ⟨ws, tys, lv, hlv0, hlv, hs1, hw⟩)
      rw [hwt]
      show 2 * 0 + _ + 12 ≤ _
      omega
  | [], hf, _ => cases hf
  | .inl _ :: _, hf, _ => cases hf
  | .inr (.inl _) :: _, hf, _ => cases hf
  | .inr (.inr (.inl none)) :: _, hf, _ => cases hf
  | .inr (.inr (.inr _)) :: _, hf, _ => cases hf
theorem zi_cpy_len {a b : List zi_I} {sp dp n : Nat} (h1 : sp + n ≤ a.length) (h2 : dp + n ≤ b.length) : (zi_cpyl a b sp dp n).length = b.length := by
  unfold zi_cpyl
  rw [List.length_append, List.length_append, List.length_take, List.length_take, List.length_drop, List.length_drop]
  omega
theorem zi_cpy_ok {a b : List zi_I} {f g : Nat → Int32} {sp dp n : Nat} (h1 : sp + n ≤ a.length) (h2 : dp + n ≤ b.length) (ha : ∀ (j : Nat) (r : zi_I), a[j]? = some r → zi_in r (zi_o (f j))) (hb : ∀ (j : Nat) (r : zi_I), b[j]? = some r → zi_in r (zi_o (g j))) : ∀ (j : Nat) (r : zi_I), (zi_cpyl a b sp dp n)[j]? = some r → zi_in r (zi_o (va_cpy f g sp dp n j)) := by
  intro j r hr
  unfold zi_cpyl at hr
  dsimp only at hr
  unfold va_cpy
  have l1 : (List.take dp b).length = dp := by rw [List.length_take]; omega
  have l2 : (List.take n (List.drop sp a)).length = n := by rw [List.length_take, List.length_drop]; omega
  rcases Nat.lt_or_ge j dp with q | q
  · rw [List.append_assoc, List.getElem?_append_left (by omega), List.getElem?_take, if_pos q] at hr
    rw [if_neg (by omega)]
    exact hb _ _ hr
  · rcases Nat.lt_or_ge j (dp + n) with q2 | q2
    · rw [List.append_assoc, List.getElem?_append_right (by omega), l1, List.getElem?_append_left (by omega), List.getElem?_take, if_pos (by omega), List.getElem?_drop] at hr
      rw [if_pos ⟨q, q2⟩]
      exact ha _ _ hr
    · rw [List.getElem?_append_right (by rw [List.length_append]; omega), List.length_append, l1, l2, List.getElem?_drop] at hr
      rw [if_neg (by omega)]
      have e : dp + n + (j - (dp + n)) = j := by omega
      rw [e] at hr
      exact hb _ _ hr
theorem zi_nneg {i : Int32} {n : Nat} (h : zi_o i = n + 2147483648) : ¬ i < 0 := by
  intro q
  have e := zi_oe i
  have := Int32.lt_iff_toInt_lt.mp q
  have e0 : (0 : Int32).toInt = 0 := rfl
  omega
theorem zi_copy_ok {idx : Nat} (hl : Cond.methodLink y.cls idx arraycopyName ∈ zi_G) (h1 : Cond.native arraycopyName ∈ zi_G) (h2 : Cond.static arraycopyName ∈ zi_G) (h3 : Cond.initialized "java/lang/System" ∈ zi_G) (hd : decode cc pc = .ok (.invokestatic idx, 3)) (hn : pc + 3 = nx) : zi_ok mt y cc nL pc (zi_copy nx) := by
  subst hn
  intro p l e R s m args below meth c D A b d a0 E X hE st pc' st' hf Q H locs cells slots ls sk hR kk
  obtain ⟨lc, stk, w, r⟩ := st
  obtain ⟨ws, tys, lv, hlv0, hlv, hsk, hw⟩ := hR
  unfold zi_copy at hf
  split at hf
  · rename_i lc2 vn vd q1 vp q0 t w2 r2 heq
    cases heq
    split at hf
    · rename_i xn hxn
      split at hf
      · rename_i xd hxd
        split at hf
        · rename_i xs hxs
          split at hf
          · rename_i la hla
            split at hf
            · rename_i lb hlb
              cases h9 : (zi_one xn && (zi_one xd && (zi_one xs && (Nat.ble 2147483648 xn.1 && (Nat.ble 2147483648 xd.1 && (Nat.ble 2147483648 xs.1 && (Nat.ble (xs.1 - 2147483648 + (xn.1 - 2147483648)) la.length && (Nat.ble (xd.1 - 2147483648 + (xn.1 - 2147483648)) lb.length && Nat.ble (zi_wt t) 20)))))))) with
              | false => rw [h9] at hf; cases hf
              | true =>
                rw [h9] at hf
                cases hf
                obtain ⟨c1, h9⟩ := Bool.and_eq_true_iff.mp h9
                obtain ⟨c2, h9⟩ := Bool.and_eq_true_iff.mp h9
                obtain ⟨c3, h9⟩ := Bool.and_eq_true_iff.mp h9
                obtain ⟨c4, h9⟩ := Bool.and_eq_true_iff.mp h9
                obtain ⟨c5, h9⟩ := Bool.and_eq_true_iff.mp h9
                obtain ⟨c6, h9⟩ := Bool.and_eq_true_iff.mp h9
                obtain ⟨c7, h9⟩ := Bool.and_eq_true_iff.mp h9
                obtain ⟨c8, c9⟩ := Bool.and_eq_true_iff.mp h9
                have c4 := Nat.le_of_ble_eq_true c4
                have c5 := Nat.le_of_ble_eq_true c5
                have c6 := Nat.le_of_ble_eq_true c6
                have c7 := Nat.le_of_ble_eq_true c7
                have c8 := Nat.le_of_ble_eq_true c8
                have c9 := Nat.le_of_ble_eq_true c9
                obtain ⟨z5, t5, rfl, g5, hs5⟩ := hsk.cons
                obtain ⟨z4, t4, rfl, g4, hs4⟩ := hs5.cons
                obtain ⟨z3, t3, rfl, ⟨ad1, ha1, rfl⟩, hs3⟩ := hs4.cons
                obtain ⟨z2, t2, rfl, g2, hs2⟩ := hs3.cons
                obtain ⟨z1, t1, rfl, ⟨ad0, ha0, rfl⟩, hs1⟩ := hs2.cons
                obtain ⟨n, rfl, jn⟩ := zi_iv_ok _ hxn g5
                obtain ⟨dp, rfl, jd⟩ := zi_iv_ok _ hxd g4
                obtain ⟨sp, rfl, js⟩ := zi_iv_ok _ hxs g2
                have en := zi_one_eq c1 jn
                have ed := zi_one_eq c2 jd
                have es := zi_one_eq c3 js
                obtain ⟨n', hn'⟩ : ∃ n' : Nat, n' = xn.1 - 2147483648 := ⟨_, rfl⟩
                obtain ⟨d', hd'⟩ : ∃ d' : Nat, d' = xd.1 - 2147483648 := ⟨_, rfl⟩
                obtain ⟨s', hs'⟩ : ∃ s' : Nat, s' = xs.1 - 2147483648 := ⟨_, rfl⟩
                rw [← hn', ← hd', ← hs'] at kk
                rw [← hn', ← hs'] at c7
                rw [← hn', ← hd'] at c8
                have fn : zi_o n = n' + 2147483648 := by omega
                have fd : zi_o dp = d' + 2147483648 := by omega
                have fs : zi_o sp = s' + 2147483648 := by omega
                obtain ⟨w1, w2, w3, w4, w5, w6, w7, w8⟩ := hw
                dsimp only at w1 w6 w7
                obtain ⟨e1, he1⟩ := zi_ads ha1
                obtain ⟨e0, he0⟩ := zi_ads ha0
                obtain ⟨cA0, f0, t0, u1, u2, u3⟩ := zi_wr.at w1 hla he0
                obtain ⟨cA1, f1, t1', u4, u5, u6⟩ := zi_wr.at w1 hlb he1
                dsimp only at u1 u4
                subst u1
                subst u4
                have hx := X.2.2.2.2.2.2.2.1
                have hwt := zi_wt_ok hs1
                have hnf : nativeFrameWords "java/lang/System" "arraycopy" 5 = 7 := by decide
                refine va_copyi (ty := .int) X.1 X.2.1 (X.2.2.1.trans hlv0.1.symm) X.2.2.2.1 (X.2.2.2.2.1 _ hl) (X.2.2.2.2.1 _ h1) (X.2.2.2.2.1 _ h2) (X.2.2.2.2.1 _ h3) w4 w2 w3 w5 q0 q1 t0 t1' he0 he1 u2 u5 rfl (zi_nneg fs) (zi_nneg fd) (zi_nneg fn) (by rw [zi_clamp fs, zi_clamp fn]; exact c7) (by rw [zi_clamp fd, zi_clamp fn]; exact c8) (fun _ _ => rfl) (by omega) (by rw [hwt, hnf]; omega) hd ?_
                rw [zi_clamp fs, zi_clamp fd, zi_clamp fn]
                intro H1 locs1 hP hD hS
                have ea := zi_ads_set (e' := .inl (cA1, lb.length, .inl (va_cpy f0 f1 s' d' n'))) he1
                refine kk _ _ _ _ _ _ ⟨_, tys, lv, hlv0, by rw [ea]; exact hlv, by rw [ea]; exact hs1, ?_, hP, hD, w4, hS, w6, w7, by rw [ea]; exact w8⟩
                rw [ea]
                exact zi_wr.set w1 he1 ⟨cA1, _, t1', by rw [zi_cpy_len c7 c8], u5, zi_cpy_ok c7 c8 u3 u6⟩
            · cases hf
          · cases hf
        · cases hf
      · cases hf
    · cases hf
  · cases hf
theorem zi_pop_ok : ∀ (n : Nat) {sk acc as rest : List zi_V}, zi_pop n sk acc = some (as, rest) → ∃ px : List zi_V, sk = px ++ rest ∧ as = px.reverse ++ acc ∧ px.length = n
  | 0, sk, acc, as, rest, h => by cases h; exact ⟨[], rfl, rfl, rfl⟩
  | n + 1, [], acc, as, rest, h => by cases h
  | n + 1, v :: sk, acc, as, rest, h => by
    obtain ⟨px, h1, h2, h3⟩ := zi_pop_ok n (show zi_pop n sk (v :: acc) = some (as, rest) from h)
    exact ⟨v :: px, by rw [h1]; rfl, by rw [h2]; simp, by rw [List.length_cons, h3]⟩
theorem zi_a2.split {α β : Type} {r : α → β → Prop} : ∀ {as as' : List α} {bs : List β}, zi_a2 r (as ++ as') bs → ∃ b1 b2, bs = b1 ++ b2 ∧ zi_a2 r as b1 ∧ zi_a2 r as' b2
  | [], as', bs, h => ⟨[], bs, rfl, trivial, h⟩
  | a :: as, as', bs, h => by
    obtain ⟨b, bs', rfl, h1, h2⟩ := zi_a2.cons h
    obtain ⟨b1, b2, rfl, h3, h4⟩ := zi_a2.split h2
    exact ⟨b :: b1, b2, rfl, ⟨h1, h3⟩, h4⟩
theorem zi_a2.rev {α β : Type} {r : α → β → Prop} : ∀ {as : List α} {bs : List β}, zi_a2 r as bs → zi_a2 r as.reverse bs.reverse
  | [], [], _ => trivial
  | [], _ :: _, h => h.elim
  | _ :: _, [], h => h.elim
  | a :: as, b :: bs, h => by
    rw [List.reverse_cons, List.reverse_cons]
    exact (zi_a2.rev h.2).app ⟨h.1, trivial⟩
def zi_rec (s : State) (H : Heap) (vs : List Value) : Option Nat → Prop
  | none => True
  | some c0 => ∃ r : vw_C, vwCl[c0]? = some r ∧ ∃ (a : Nat) (As : List Value) (cell : Cell), vs = .ref a :: As ∧ H[a]? = some cell ∧ cell.vm.isStatics = false ∧ s.vm.findClass r.1 = some cell.cls
/-- what a call's row gives -/
def zi_gives (p : Program) (l : Launch) (e : Env) (R : Room) (s : State) (m : MethodId) (args : Array Value) (below : List Frame) (meth : Method) (c : Code) (T : State) (locs : List Loc) (cells slots : Nat) (Post : Pt → Array Value → Option Value → Pt → Prop) (vs rest : List Value) (pc : Nat) (ls : Array Slot) : Prop :=
  ∃ (v : Option Value) (vm₁ : Vm) (B : Pt), s.WarmedH vm₁ ∧ Stand p l e R s m args below meth c B.U B.locs B.cells B.slots ∧ Post ⟨T.setVm vm₁, locs, cells, slots⟩ vs.toArray v B ∧
    ∀ target, Steps p.tables e below (B.U.setTop (F0 m (pc + 3) ls (v.toList ++ rest))) target → Steps p.tables e below (T.setTop (F0 m pc ls (vs.reverse ++ rest))) target
theorem zi_inv_core {j n mc ms mL : Nat} {y' : MethodName} {cc' : ByteArray} {ret' : Option FieldType} {t' : zi_T} {ci : Option Nat} (hm : mt j = some (y', cc', mL, ret', t', mc, ms)) (hcode : Cond.code y' cc' mL ret' ∈ zi_G) (hini : Cond.initialized y'.cls ∈ zi_G) (hmL : mL ≤ 19) (hci : ∀ c0, ci = some c0 → ∃ r : vw_C, vwCl[c0]? = some r)
    (hcall : ∀ (p : Program) (l : Launch) (e : Env) (R : Room) (s : State) (m : MethodId) (args : Array Value) (below : List Frame) (meth : Method) (c : Code) (A : Nat → Prop) (b d : Nat) (sc : Option (List zi_V)), zi_X p R s m args meth c y cc nL A b sc d → ∀ (T : State) (locs : List Loc) (cells slots : Nat), Stand p l e R s m args below meth c T locs cells slots →
      ∀ (Pre : Pt → Array Value → Prop) (Post : Pt → Array Value → Option Value → Pt → Prop), Back l R p e below s args y' 3 30 Pre Post → ∀ (ls : Array Slot) (vs rest : List Value), ls.size = c.maxLocals → vs.length = n → zi_rec s T.heap vs ci → (rest.map fun v => v.category).sum ≤ 20 → (∀ vm₁, s.WarmedH vm₁ → Pre ⟨T.setVm vm₁, locs, cells, slots⟩ vs.toArray) →
      zi_gives p l e R s m args below meth c T locs cells slots Post vs rest pc ls) (hn : pc + 3 = nx) : zi_ok mt y cc nL pc (zi_inv j n ci mc ms nx) := by
  subst hn
  intro p l e R s m args below meth c D A b d a0 E X hE st pc' st' hf Q H locs cells slots ls sk hR kk
  obtain ⟨lc, stk, w, rc, rs⟩ := st
  obtain ⟨ws, tys, lv, hlv0, hlv, hsk, hw⟩ := hR
  unfold zi_inv at hf
  dsimp only at hf
  cases h1 : zi_pop n stk [] with
  | none => rw [h1] at hf; cases hf
  | some ar =>
  obtain ⟨as, rest⟩ := ar
  rw [h1] at hf
  dsimp only at hf
  cases h2 : (Nat.ble (zi_wt rest) 20 && (Nat.ble mc rc && Nat.ble ms rs)) with
  | false => rw [h2] at hf; cases hf
  | true =>
  rw [h2] at hf
  dsimp only [cond_true] at hf
  obtain ⟨q1, q2⟩ := Bool.and_eq_true_iff.mp h2
  obtain ⟨q2, q3⟩ := Bool.and_eq_true_iff.mp q2
  have q1 := Nat.le_of_ble_eq_true q1
  have q2 := Nat.le_of_ble_eq_true q2
  have q3 := Nat.le_of_ble_eq_true q3
  obtain ⟨px, e1, e2, e3⟩ := zi_pop_ok n h1
  rw [List.append_nil] at e2
  subst e1
  subst e2
  obtain ⟨k1, k2, rfl, a1, a2⟩ := zi_a2.split hsk
  obtain ⟨w1, w2, w3, w4, w5, w6, w7, w8⟩ := hw
  dsimp only at w1 w6 w7
  have hvs := a1.rev
  obtain ⟨vs, hvse⟩ : ∃ vs : List Value, vs = k1.reverse := ⟨_, rfl⟩
  rw [← hvse] at hvs
  have hk1 : k1 = vs.reverse := by rw [hvse, List.reverse_reverse]
  subst hk1
  have hrec : zi_rec s H vs ci ∧ ∃ (v : Option zi_V) (w' : zi_W), E.1 j px.reverse w = some (v, w') ∧ pc' = pc + 3 ∧ st' = (lc, v.toList ++ rest, w', rc - mc, rs - ms) := by
    match ci, hci, hf with
    | none, _, hf =>
      dsimp only [cond_true] at hf
      cases h3 : E.1 j px.reverse w with
      | none => rw [h3] at hf; cases hf
      | some vw => obtain ⟨v, w'⟩ := vw; rw [h3] at hf; cases hf; exact ⟨trivial, v, w', rfl, rfl, rfl⟩
    | some c0, hci, hf =>
      dsimp only at hf
      split at hf
      · rename_i q tl heq
        split at hf
        · rename_i c' fv hcell
          cases hcond : Nat.beq c' c0 with
          | false => rw [hcond] at hf; cases hf
          | true =>
            rw [hcond] at hf
            dsimp only [cond_true] at hf
            have hcc := Nat.eq_of_beq_eq_true hcond
            obtain ⟨rr, hrr⟩ := hci _ rfl
            have hvs' := hvs
            rw [heq] at hvs'
            obtain ⟨z1, t1, ev, ⟨a, ha, e0⟩, hs1⟩ := hvs'.cons
            obtain ⟨en, he⟩ := zi_ads ha
            obtain ⟨fs, u1, u2⟩ := zi_wr.at w1 hcell he
            dsimp only at u1
            rw [u1, hcc] at he
            obtain ⟨cell, f1, f2, f3⟩ := va_recv w4 w2 hrr he
            rw [e0] at ev
            refine ⟨⟨rr, hrr, a, t1, cell, ev, f1, f2, f3⟩, ?_⟩
            cases h3 : E.1 j px.reverse w with
            | none => rw [h3] at hf; cases hf
            | some vw => obtain ⟨v, w'⟩ := vw; rw [h3] at hf; cases hf; exact ⟨v, w', rfl, rfl, rfl⟩
        · cases hf
      · cases hf
  obtain ⟨hrec, v, w', hev, rfl, rfl⟩ := hrec
  obtain ⟨d', rfl, hMet⟩ := hE j _ _ _ _ _ hm hev
  have hM := hMet b D vs ws tys H.size hvs w1
  have hx := X.2.2.2.2.2.2.2.1
  have hF : ∀ q, va_A ws H.size q → A q := by
    intro q hq
    rcases hq with ⟨k, en, hk⟩ | hq
    · exact w3.2 k _ hk
    · exact X.2.2.2.2.2.2.1 q (Nat.le_trans w5.1 hq)
  have hblind : FrameBlind (va_Pc vs (zi_B D ws tys H.size)) := by
    intro aa U g mk q
    obtain ⟨r1, r2, r3, r4, r5, r6⟩ := q
    exact ⟨r1, r2, r3, va_K.moved (u := U) (U := U.calling g mk aa) (Vm.Alike.refl U.vm) r4, r5, zi_NW.same (u := U) rfl r6⟩
  intro T hT XS
  have hK : Back l R p e below s args y' 3 30 (PreOf R mc ms (va_Pc vs (zi_B D ws tys H.size))) (PostOf (zi_Q b D w' v ws H.size) mc ms (va_A ws H.size)) := back_of (bytes := cc') (maxL := mL) (ret := ret') hM hblind rfl rfl (by show d' + 1 + 1 ≤ _; omega) (by show 30 + (mL + 11) + (60 * d' + 60) ≤ _; omega) (pay_in X.2.2.2.2.1 (fun w hw => (List.mem_cons.mp hw).elim (fun h => by rw [h]; exact zi_G_good _ hcode) (fun h => zi_G_good _ h))) List.mem_cons_self (pay_in X.2.2.2.2.1 zi_G_good _ hini)
  obtain ⟨vv, vm₁, ⟨U', l2, c2, s2⟩, hW₁, X', ⟨g', mk, t, L, o1, o2, hq, o3, hL, o4, o5⟩, st⟩ := hcall p l e R s m args below meth c A b (d' + 1) E.2 X T locs cells slots XS _ _ hK ls vs k2 (hlv0.1.trans X.2.2.1.symm) (by rw [← hvs.len, List.length_reverse]; exact e3) (by rw [hT]; exact hrec) (by rw [zi_wt_ok a2]; exact q1) (fun vm₁ hW₁ => ⟨by show cells + mc ≤ _; omega, by show slots + ms ≤ _; omega, rfl, by show (T.setVm vm₁).heap.size = _; rw [show (T.setVm vm₁).heap = H from hT], by rw [show (T.setVm vm₁).heap = H from hT]; exact w2, va_K.moved (Vm.Alike.trans (Vm.Alike.refl _) (show s.vm.Alike (T.setVm vm₁).vm from State.WarmedH.alike hW₁)) w4, w3.weaken (fun _ _ _ _ => trivial), zi_NW.warm (U := T.setVm vm₁) hW₁ X.2.2.2.2.2.1⟩)
  dsimp only [Pt.U, Pt.locs, Pt.cells, Pt.slots] at X' o1 o2 o3 o4 o5 st
  subst o3
  subst o4
  subst o5
  obtain ⟨⟨vv', hvv, ws', tys', b1, b2, b3, b4, b5, b6⟩, hz, hk⟩ := hq
  cases hvv
  have hh0 : ((T.setVm vm₁).calling g' mk vs.toArray).heap = H := hT
  rw [hh0] at hz hk
  have fin : zi_R R s nL D A b a0 (lc, v.toList ++ rest, w', rc - mc, rs - ms) U'.heap (locs ++ L) (cells + mc) (slots + ms) ls (vv.toList ++ k2) := by
    refine ⟨ws', tys', lv, hlv0, hlv.mono (fun p q h => ⟨h.1, zi_g.mono b3 _ _ h.2⟩), ?_, b2, by rw [o1]; exact b4, b6.weaken (fun k q _ h => hF q.1 h), va_K.moved (show t.vm.Alike s.vm from (by rw [← o2]; exact X'.warmed.alike.symm)) b5, ?_, by dsimp only; omega, by dsimp only; omega, fun k a h => b3 k a (w8 k a h)⟩
    · refine zi_a2.app ?_ (a2.mono (zi_g.mono b3))
      cases v with
      | none => cases (show vv = none from b1); exact trivial
      | some a => obtain ⟨x, rfl, hx⟩ := b1; exact ⟨hx, trivial⟩
    · refine ⟨Nat.le_trans w5.1 (by rw [o1]; exact hz), fun q z1 z2 => ?_, fun q hq => ?_⟩
      · rw [o1, hk q (Nat.lt_of_lt_of_le z1 w5.1) (fun z => z2 (hF q z))]
        exact w5.2.1 q z1 z2
      · rcases List.mem_append.mp hq with h | h
        · exact w5.2.2 q h
        · exact hF _ (hL q h)
  obtain ⟨t2, r1, r2⟩ := kk _ _ _ _ _ _ fin U' rfl X'
  exact ⟨t2, st t2 r1, r2⟩
end Make
end
section
/-! calls of each kind, and the whole walk -/
section Kinds
variable {mt : Nat → Option zi_M} {y : MethodName} {cc : ByteArray} {nL pc nx : Nat}
/-- what is known of a method that is called: n values beside the receiver -/
def zi_mf (mt : Nat → Option zi_M) (j n : Nat) (y' : MethodName) (cc' : ByteArray) (mL : Nat) (ret' : Option FieldType) (mc ms : Nat) : Prop :=
  (∃ t', mt j = some (y', cc', mL, ret', t', mc, ms)) ∧ Cond.code y' cc' mL ret' ∈ zi_G ∧ Cond.initialized y'.cls ∈ zi_G ∧ (y'.cls ≠ "java/lang/invoke/MethodHandle" ∧ y'.cls ≠ "java/lang/invoke/VarHandle") ∧ (parseMethodDescriptor y'.desc).map (fun d => d.parameters.length) = some n ∧ mL ≤ 19
theorem zi_mf.len {j n : Nat} {y' : MethodName} {cc' : ByteArray} {mL : Nat} {ret' : Option FieldType} {mc ms : Nat} (h : zi_mf mt j n y' cc' mL ret' mc ms) {k : Nat} (hk : k = n) : ∀ sig, parseMethodDescriptor y'.desc = some sig → k = sig.parameters.length := by
  intro sig hs
  have h1 := h.2.2.2.2.1
  rw [hs] at h1
  exact hk.trans (Option.some.inj h1).symm
def zi_lnk (y y' : MethodName) (idx : Nat) : Prop := Cond.methodLink y.cls idx y' ∈ zi_G ∨ ∃ host, Cond.methodLinkNest y.cls idx y' host ∈ lw_tbl
theorem zi_invV_ok {j n mc ms mL idx c0 N : Nat} {y' : MethodName} {cc' : ByteArray} {ret' : Option FieldType} {C : String} {T0 : u_T} {ty0 : Nat → FieldType} (hm : zi_mf mt j n y' cc' mL ret' mc ms) (hc : zi_cls c0 C T0 N ty0) (hin : Cond.instanceMethod y' ∈ zi_G) (hse : Cond.selects C y' y' ∈ zi_G) (hl : zi_lnk y y' idx) (hd : decode cc pc = .ok (.invokevirtual idx, 3)) (hn : pc + 3 = nx) : zi_ok mt y cc nL pc (zi_inv j (n + 1) (some c0) mc ms nx) := by
  obtain ⟨t', ht'⟩ := hm.1
  refine zi_inv_core ht' hm.2.1 hm.2.2.1 hm.2.2.2.2.2 (fun c1 h => by cases h; exact ⟨_, hc.1⟩) ?_ hn
  intro p l e R s m args below meth c A b d sc X T locs cells slots XS Pre Post hK ls vs rest hls hnn hrec hsum hpre
  obtain ⟨r, hr, a, As, cell, rfl, c1, c2, c3⟩ := hrec
  cases hr.symm.trans hc.1
  have hts := X.2.2.2.2.1
  rcases hl with hl | ⟨host, hl⟩
  · obtain ⟨v, vm₁, B, h1, h2, h3, h4⟩ := callV XS X.1 (C := C) (bytes := cc') (maxL := mL) (ret := ret') X.2.2.2.1 (hts _ hl) (hts _ hin) (hts _ hse) (hts _ hm.2.1) hm.2.2.2.1 hK c1 c2 c3 (g := F0 m pc ls ((Value.ref a :: As).reverse ++ rest)) rfl hls (argsL := As) (rest := rest) (hm.len (Nat.succ.inj hnn)) (by simp) (by show 2 * 0 + _ ≤ 30; omega) (by rw [X.2.1]; exact hd) hpre
    exact ⟨v, vm₁, B, h1, h2, h3, h4⟩
  · obtain ⟨v, vm₁, B, h1, h2, h3, h4⟩ := va_callVN XS X.1 (C := C) (bytes := cc') (maxL := mL) (ret := ret') X.2.2.2.1 (va_Nw.use rfl (X.2.2.2.2.2.1 _ hl rfl)) (hts _ hin) (hts _ hse) (hts _ hm.2.1) hm.2.2.2.1 hK c1 c2 c3 (g := F0 m pc ls ((Value.ref a :: As).reverse ++ rest)) rfl hls (argsL := As) (rest := rest) (hm.len (Nat.succ.inj hnn)) (by simp) (by show 2 * 0 + _ ≤ 30; omega) (by rw [X.2.1]; exact hd) hpre
    exact ⟨v, vm₁, B, h1, h2, h3, h4⟩
theorem zi_invI_ok {j n mc ms mL idx c0 N : Nat} {y' : MethodName} {cc' : ByteArray} {C : String} {T0 : u_T} {ty0 : Nat → FieldType} (hm : zi_mf mt j n y' cc' mL none mc ms) (hc : zi_cls c0 C T0 N ty0) (hin : Cond.instanceMethod y' ∈ zi_G) (hy : y'.name = "<init>") (hl : zi_lnk y y' idx) (hd : decode cc pc = .ok (.invokespecial idx, 3)) (hn : pc + 3 = nx) : zi_ok mt y cc nL pc (zi_inv j (n + 1) (some c0) mc ms nx) := by
  obtain ⟨t', ht'⟩ := hm.1
  refine zi_inv_core ht' hm.2.1 hm.2.2.1 hm.2.2.2.2.2 (fun c1 h => by cases h; exact ⟨_, hc.1⟩) ?_ hn
  intro p l e R s m args below meth c A b d sc X T locs cells slots XS Pre Post hK ls vs rest hls hnn hrec hsum hpre
  obtain ⟨r, hr, a, As, cell, rfl, c1, c2, c3⟩ := hrec
  have hts := X.2.2.2.2.1
  rcases hl with hl | ⟨host, hl⟩
  · obtain ⟨v, vm₁, B, h1, h2, h3, h4⟩ := callI XS X.1 (bytes := cc') (maxL := mL) X.2.2.2.1 hy (hts _ hl) (hts _ hin) (hts _ hm.2.1) hm.2.2.2.1 hK (g := F0 m pc ls ((Value.ref a :: As).reverse ++ rest)) rfl hls (a := a) (argsL := As) (rest := rest) (hm.len (Nat.succ.inj hnn)) (by simp) (by show 2 * 0 + _ ≤ 30; omega) (by rw [X.2.1]; exact hd) hpre
    exact ⟨v, vm₁, B, h1, h2, h3, h4⟩
  · obtain ⟨v, vm₁, B, h1, h2, h3, h4⟩ := va_callIN XS X.1 (bytes := cc') (maxL := mL) X.2.2.2.1 hy (va_Nw.use rfl (X.2.2.2.2.2.1 _ hl rfl)) (hts _ hin) (hts _ hm.2.1) hm.2.2.2.1 hK (g := F0 m pc ls ((Value.ref a :: As).reverse ++ rest)) rfl hls (a := a) (argsL := As) (rest := rest) (hm.len (Nat.succ.inj hnn)) (by simp) (by show 2 * 0 + _ ≤ 30; omega) (by rw [X.2.1]; exact hd) hpre
    exact ⟨v, vm₁, B, h1, h2, h3, h4⟩
theorem zi_invS_ok {j n mc ms mL idx : Nat} {y' : MethodName} {cc' : ByteArray} {ret' : Option FieldType} (hm : zi_mf mt j n y' cc' mL ret' mc ms) (hst : Cond.static y' ∈ zi_G) (hl : zi_lnk y y' idx) (hd : decode cc pc = .ok (.invokestatic idx, 3)) (hn : pc + 3 = nx) : zi_ok mt y cc nL pc (zi_inv j n none mc ms nx) := by
  obtain ⟨t', ht'⟩ := hm.1
  refine zi_inv_core ht' hm.2.1 hm.2.2.1 hm.2.2.2.2.2 (fun c1 h => by cases h) ?_ hn
  intro p l e R s m args below meth c A b d sc X T locs cells slots XS Pre Post hK ls vs rest hls hnn hrec hsum hpre
  have hts := X.2.2.2.2.1
  rcases hl with hl | ⟨host, hl⟩
  · obtain ⟨v, vm₁, B, h1, h2, h3, h4⟩ := callS XS X.1 (bytes := cc') (maxL := mL) (ret := ret') X.2.2.2.1 (hts _ hl) (hts _ hst) (hts _ hm.2.2.1) (hts _ hm.2.1) hm.2.2.2.1 hK (g := F0 m pc ls (vs.reverse ++ rest)) rfl hls (argsL := vs) (rest := rest) (hm.len hnn) rfl (by show 2 * 0 + _ ≤ 30; omega) (by rw [X.2.1]; exact hd) hpre
    exact ⟨v, vm₁, B, h1, h2, h3, h4⟩
  · obtain ⟨v, vm₁, B, h1, h2, h3, h4⟩ := va_callSN XS X.1 (bytes := cc') (maxL := mL) (ret := ret') X.2.2.2.1 (va_Nw.use rfl (X.2.2.2.2.2.1 _ hl rfl)) (hts _ hst) (hts _ hm.2.2.1) (hts _ hm.2.1) hm.2.2.2.1 hK (g := F0 m pc ls (vs.reverse ++ rest)) rfl hls (argsL := vs) (rest := rest) (hm.len hnn) rfl (by show 2 * 0 + _ ≤ 30; omega) (by rw [X.2.1]; exact hd) hpre
    exact ⟨v, vm₁, B, h1, h2, h3, h4⟩
end Kinds
def zi_rop : Option FieldType → Instr
  | none => .return_
  | some .long => .lreturn
  | some (.object _) => .areturn
  | some (.array _) => .areturn
  | some _ => .ireturn
def zi_tb (mt : Nat → Option zi_M) (y : MethodName) (cc : ByteArray) (nL : Nat) (t : zi_T) : Prop := ∀ (pc : Nat) (f : zi_F), zi_lk t pc = some (some f) → zi_ok mt y cc nL pc f
def zi_mok (mt : Nat → Option zi_M) (M : zi_M) : Prop := zi_tb mt M.1 M.2.1 M.2.2.1 M.2.2.2.2.1 ∧ (∀ pc, zi_lk M.2.2.2.2.1 pc = some none → decode M.2.1 pc = .ok (zi_rop M.2.2.2.1, 1)) ∧ plainName M.1.cls = true
theorem zi_cat12 (v : zi_V) : zi_cat v = 1 ∨ zi_cat v = 2 := by
  unfold zi_cat
  split
  · exact Or.inr rfl
  · exact Or.inl rfl
theorem zi_sl_len {b : Nat} {ads : List Nat} : ∀ {as : List zi_V} {vs : List Value}, zi_a2 (zi_g b ads) as vs → (lg_sl vs).length = zi_wt as
  | [], [], _ => rfl
  | [], _ :: _, h => h.elim
  | _ :: _, [], h => h.elim
  | a :: as, v :: vs, h => by
    have e := zi_g.cat _ _ h.1
    have t := zi_sl_len h.2
    unfold lg_sl at t ⊢
    rw [List.flatMap_cons, List.length_append, t]
    show _ = zi_cat a + zi_wt as
    rcases zi_cat12 a with q | q
    · rw [if_neg (by omega), q]; rfl
    · rw [if_pos (by omega), q]; rfl
theorem zi_args_ok {b : Nat} {ads : List Nat} : ∀ {as : List zi_V} {vs : List Value} (i : Nat), zi_a2 (zi_g b ads) as vs → zi_a2 (zi_lr b ads) (zi_args i as) (lv_args i vs)
  | [], [], _, _ => trivial
  | [], _ :: _, _, h => h.elim
  | _ :: _, [], _, h => h.elim
  | a :: as, v :: vs, i, h => by
    have e := zi_g.cat _ _ h.1
    unfold zi_args lv_args
    refine ⟨⟨rfl, h.1⟩, ?_⟩
    rcases zi_cat12 a with q | q
    · rw [if_neg (by omega), q]; exact zi_args_ok _ h.2
    · rw [if_pos (by omega), q]; exact zi_args_ok _ h.2
/-- what n steps of the walk say of the machine -/
def zi_RO (mt : Nat → Option zi_M) (n : Nat) : Prop := ∀ (t : zi_T) (sc : Option (List zi_V)) (d pc : Nat) (st : zi_S) (pc' : Nat) (st' : zi_S), zi_run mt n t sc d pc st = some (pc', st') → zi_lk t pc' = some none ∧
  ∀ (y : MethodName) (cc : ByteArray) (nL : Nat), zi_tb mt y cc nL t → ∀ (p : Program) (l : Launch) (e : Env) (R : Room) (s : State) (m : MethodId) (args : Array Value) (below : List Frame) (meth : Method) (c : Code) (D : va_G) (A : Nat → Prop) (b : Nat) (a0 : List Nat), zi_X p R s m args meth c y cc nL A b sc d →
    ∀ (Q : State → Prop) (H : Heap) (locs : List Loc) (cells slots : Nat) (ls : Array Slot) (sk : List Value), zi_R R s nL D A b a0 st H locs cells slots ls sk →
      (∀ (H' : Heap) (locs' : List Loc) (cells' slots' : Nat) (ls' : Array Slot) (sk' : List Value), zi_R R s nL D A b a0 st' H' locs' cells' slots' ls' sk' → W p l e R s m args below meth c H' locs' cells' slots' Q (F0 m pc' ls' sk')) →
      W p l e R s m args below meth c H locs cells slots Q (F0 m pc ls sk)
set_option maxHeartbeats 4000000 in
theorem zi_met {mt : Nat → Option zi_M} {n d pc' : Nat} {l : Launch} {y' : MethodName} {cc' : ByteArray} {mL mc ms rc rs : Nat} {ret' : Option FieldType} {t' : zi_T} {as : List zi_V} {w w' : zi_W} {v : Option zi_V} {lc : zi_L} {skf : List zi_V} (hI : zi_RO mt n) (hM : zi_mok mt (y', cc', mL, ret', t', mc, ms)) (hwt : zi_wt as ≤ mL) (hrun : zi_run mt n t' none d 0 (zi_args 0 as, [], w, mc, ms) = some (pc', lc, skf, w', rc, rs)) (hfin : zi_fin ret' skf = some v) : zi_Met l d (y', cc', mL, ret', t', mc, ms) as w v w' := by
  intro b D vs ws tys sz hvs hw
  obtain ⟨hstop, hgo⟩ := hI _ _ _ _ _ _ _ hrun
  have hdg := hM.2.1 _ hstop
  dsimp only at hdg
  refine Met.ofW (cc := cc') (maxL := mL) (ret := ret') hM.2.2 rfl ?_
  intro p e s m args below meth c s₁ B hml hv
  obtain ⟨rfl, rfl, hP, hK, hD, hN⟩ := hv
  have hts := atoms_spec (ws := Cond.code y' cc' mL ret' :: zi_G) B.pre
  have X : zi_X p (zi_rm d mc ms) s m vs.toArray meth c y' cc' mL (va_A ws s.heap.size) b none d := ⟨B.exec, B.bytes, hml, findClass_of_methodNamed B.named, fun w hw => hts w (List.mem_cons_of_mem _ hw), hN, fun q h => Or.inr h, ⟨Nat.le_refl _, Nat.le_refl _⟩, fun h => (name_of_methodNamed B.named B.method).1.trans h, trivial⟩
  have hl := lv_entry vs (n := mL) (by rw [zi_sl_len hvs]; exact hwt)
  rw [lg_entry_eq]
  generalize (lg_sl vs ++ List.replicate (mL - (lg_sl vs).length) Slot.unset).toArray = ls at hl ⊢
  refine hgo y' cc' mL hM.1 p l e (zi_rm d mc ms) s m vs.toArray below meth c D (va_A ws s.heap.size) b (ws.map (·.1)) X _ s.heap [] 0 0 ls [] ⟨ws, tys, lv_args 0 vs, hl, zi_args_ok 0 hvs, trivial, hw, hP, hD.self, hK, va_S.rf, by show 0 + mc ≤ mc; omega, by show 0 + ms ≤ ms; omega, fun _ _ h => h⟩ ?_
  intro H' locs' cells' slots' ls' sk' hR
  obtain ⟨ws', tys', lv', -, -, hsk, w1, w2, w3, w4, w5, w6, w7, w8⟩ := hR
  dsimp only at hsk w1 w6 w7
  have w6 : cells' + rc ≤ mc := w6
  have w7 : slots' + rs ≤ ms := w7
  refine W.widen (k := mc) (n := ms) (by omega) (by omega) ?_
  have hq : ∀ vv, zi_rv b (ws'.map (·.1)) v vv → ∀ t : State, t.heap = H' → s.WarmedH t.vm → zi_Q b D w' v ws s.heap.size vs.toArray s (.returned vv) t := fun vv hrv t ht hW => ⟨⟨vv, rfl, ws', tys', hrv, w1, w8, by rw [ht]; exact w2, va_K.moved hW.alike w4, w3⟩, w5.F ht⟩
  have hlk := B.notSynchronized
  have hrt := B.returns
  unfold zi_fin at hfin
  split at hfin
  · cases hfin
    cases hsk.nil
    exact W.vret B.exec B.bytes hrt (fun t ht hW => hq none rfl t ht hW) w5.2.2 hdg hlk
  · rename_i v0
    cases hv0 : zi_iv v0 with
    | none => rw [hv0] at hfin; cases hfin
    | some r =>
      rw [hv0] at hfin
      cases hfin
      obtain ⟨z, t1, rfl, g, hs1⟩ := hsk.cons
      cases hs1.nil
      obtain ⟨i, rfl, hi⟩ := zi_iv_ok _ hv0 g
      exact W.iret B.exec B.bytes hrt (fun t ht hW => hq _ ⟨_, rfl, i, rfl, hi⟩ t ht hW) w5.2.2 hdg hlk
  · rename_i r
    cases hb : (Nat.ble 2147483648 r.1 && Nat.ble r.2 2147483649) with
    | false => rw [hb] at hfin; cases hfin
    | true =>
      rw [hb] at hfin
      cases hfin
      obtain ⟨z, t1, rfl, g, hs1⟩ := hsk.cons
      cases hs1.nil
      obtain ⟨i, rfl, hi⟩ := id g
      have hnf := (zi_fit_ok (ty := .boolean) (v := .inl r) hb g).1
      exact W.zret B.exec B.bytes hrt hnf (fun t ht hW => hq _ ⟨_, rfl, i, rfl, hi⟩ t ht hW) w5.2.2 hdg hlk
  · cases hfin
    obtain ⟨z, t1, rfl, g, hs1⟩ := hsk.cons
    cases hs1.nil
    obtain ⟨i, rfl, hi⟩ := g
    exact W.lret B.exec B.bytes hrt (fun t ht hW => hq _ ⟨_, rfl, i, rfl, hi⟩ t ht hW) w5.2.2 hdg hlk
  · rename_i cn q
    cases hfin
    obtain ⟨z, t1, rfl, g, hs1⟩ := hsk.cons
    cases hs1.nil
    exact W.aret B.exec B.bytes hrt (Or.inl ⟨cn, rfl⟩) (zi_g.kd2 _ _ g rfl) (fun t ht hW => hq _ ⟨_, rfl, g⟩ t ht hW) w5.2.2 hdg hlk
  · cases hfin
theorem zi_run_ok {mt : Nat → Option zi_M} (hmt : ∀ (j : Nat) (M : zi_M), mt j = some M → zi_mok mt M) : ∀ n, zi_RO mt n
  | 0 => by
    intro t sc d pc st pc' st' h
    cases h
  | n + 1 => by
    intro t sc d pc st pc' st' h
    have ih := zi_run_ok hmt n
    change zi_stp mt (zi_run mt n) t sc d pc st = some (pc', st') at h
    unfold zi_stp at h
    cases h1 : zi_lk t pc with
    | none => rw [h1] at h; cases h
    | some o =>
      rw [h1] at h
      cases o with
      | none =>
        cases h
        exact ⟨h1, fun y cc nL _ p l e R s m args below meth c D A b a0 _ Q H locs cells slots ls sk hR kk => kk _ _ _ _ _ _ hR⟩
      | some f =>
        dsimp only at h
        split at h
        · cases h
        · rename_i pc1 st1 hf
          obtain ⟨hs, hgo⟩ := ih _ _ _ _ _ _ _ h
          refine ⟨hs, fun y cc nL ht p l e R s m args below meth c D A b a0 X Q H locs cells slots ls sk hR kk => ?_⟩
          refine ht pc f h1 p l e R s m args below meth c D A b d a0 _ X ?_ st pc1 st1 hf Q H locs cells slots ls sk hR (fun H' locs' cells' slots' ls' sk' hR' => hgo y cc nL ht p l e R s m args below meth c D A b a0 X Q H' locs' cells' slots' ls' sk' hR' kk)
          intro j M as w v w' hj hE
          dsimp only at hE
          unfold zi_cal at hE
          cases d with
          | zero => cases hE
          | succ d' =>
            dsimp only at hE
            rw [hj] at hE
            obtain ⟨y', cc', mL, ret', t', mc, ms⟩ := M
            dsimp only at hE
            cases hw : Nat.ble (zi_wt as) mL with
            | false => rw [hw] at hE; cases hE
            | true =>
              rw [hw] at hE
              dsimp only [cond_true] at hE
              split at hE
              · cases hE
              · rename_i pcf lc skf wf r2 hrun
                obtain ⟨rc, rs⟩ := r2
                split at hE
                · cases hE
                · rename_i vf hfin
                  cases hE
                  exact ⟨d', rfl, zi_met ih (hmt j _ hj) (Nat.le_of_ble_eq_true hw) hrun hfin⟩
end
section
/-! an instruction, a row: the step that stands in the table, out of what the bytes decode to -/
section Ins
variable {mt : Nat → Option zi_M} {y : MethodName} {cc : ByteArray} {nL pc nx : Nat}
theorem zr_aload_n {k : Fin 4} {i : Nat} (hd : decode cc pc = .ok (.aload_n k, 1)) (hi : (k : Nat) = i) (hn : pc + 1 = nx) : zi_ok mt y cc nL pc (zi_load 2 i nx) := by
  subst hn
  refine zi_load_ok (fun p l e R s m args below meth c H locs cells slots Q ls rest x hx hb hk hl k => ?_)
  rcases hk with rfl | ⟨a, rfl⟩
  · exact lv_aload_nN hx hb hd hi hl k
  · exact lv_aload_n hx hb hd hi hl k
theorem zr_aload {i : Nat} (hd : decode cc pc = .ok (.aload i, 2)) (hn : pc + 2 = nx) : zi_ok mt y cc nL pc (zi_load 2 i nx) := by
  subst hn
  refine zi_load_ok (fun p l e R s m args below meth c H locs cells slots Q ls rest x hx hb hk hl k => ?_)
  rcases hk with rfl | ⟨a, rfl⟩
  · exact lv_aloadN hx hb hd hl k
  · exact lv_aload hx hb hd hl k
theorem zr_iload_n {k : Fin 4} {i : Nat} (hd : decode cc pc = .ok (.iload_n k, 1)) (hi : (k : Nat) = i) (hn : pc + 1 = nx) : zi_ok mt y cc nL pc (zi_load 0 i nx) := by
  subst hn
  refine zi_load_ok (fun p l e R s m args below meth c H locs cells slots Q ls rest x hx hb hk hl k => ?_)
  obtain ⟨a, rfl⟩ := hk
  exact lv_iload_n hx hb hd hi hl k
theorem zr_iload {i : Nat} (hd : decode cc pc = .ok (.iload i, 2)) (hn : pc + 2 = nx) : zi_ok mt y cc nL pc (zi_load 0 i nx) := by
  subst hn
  refine zi_load_ok (fun p l e R s m args below meth c H locs cells slots Q ls rest x hx hb hk hl k => ?_)
  obtain ⟨a, rfl⟩ := hk
  exact lv_iload hx hb hd hl k
theorem zr_lload_n {k : Fin 4} {i : Nat} (hd : decode cc pc = .ok (.lload_n k, 1)) (hi : (k : Nat) = i) (hn : pc + 1 = nx) : zi_ok mt y cc nL pc (zi_load 1 i nx) := by
  subst hn
  refine zi_load_ok (fun p l e R s m args below meth c H locs cells slots Q ls rest x hx hb hk hl k => ?_)
  obtain ⟨a, rfl⟩ := hk
  exact lv_lload_n hx hb hd hi hl k
theorem zr_lload {i : Nat} (hd : decode cc pc = .ok (.lload i, 2)) (hn : pc + 2 = nx) : zi_ok mt y cc nL pc (zi_load 1 i nx) := by
  subst hn
  refine zi_load_ok (fun p l e R s m args below meth c H locs cells slots Q ls rest x hx hb hk hl k => ?_)
  obtain ⟨a, rfl⟩ := hk
  exact lv_lload hx hb hd hl k
theorem zr_istore_n {k : Fin 4} {i : Nat} (hd : decode cc pc = .ok (.istore_n k, 1)) (hi : (k : Nat) = i) (hb0 : i < nL) (hn : pc + 1 = nx) : zi_ok mt y cc nL pc (zi_store 0 i nx) := by
  subst hn
  refine zi_store_ok hb0 (fun p l e R s m args below meth c H locs cells slots Q ls rest x lv hx hb hk hl k => ?_)
  obtain ⟨a, rfl⟩ := hk
  exact lv_istore_n hx hb hd hi hl hb0 rfl k
theorem zr_istore {i : Nat} (hd : decode cc pc = .ok (.istore i, 2)) (hb0 : i < nL) (hn : pc + 2 = nx) : zi_ok mt y cc nL pc (zi_store 0 i nx) := by
  subst hn
  refine zi_store_ok hb0 (fun p l e R s m args below meth c H locs cells slots Q ls rest x lv hx hb hk hl k => ?_)
  obtain ⟨a, rfl⟩ := hk
  exact lv_istore hx hb hd hl hb0 rfl k
theorem zr_astore_n {k : Fin 4} {i : Nat} (hd : decode cc pc = .ok (.astore_n k, 1)) (hi : (k : Nat) = i) (hb0 : i < nL) (hn : pc + 1 = nx) : zi_ok mt y cc nL pc (zi_store 2 i nx) := by
  subst hn
  refine zi_store_ok hb0 (fun p l e R s m args below meth c H locs cells slots Q ls rest x lv hx hb hk hl k => ?_)
  rcases hk with rfl | ⟨a, rfl⟩
  · exact lv_astore_nN hx hb hd hi hl hb0 rfl k
  · exact lv_astore_n hx hb hd hi hl hb0 rfl k
theorem zr_astore {i : Nat} (hd : decode cc pc = .ok (.astore i, 2)) (hb0 : i < nL) (hn : pc + 2 = nx) : zi_ok mt y cc nL pc (zi_store 2 i nx) := by
  subst hn
  refine zi_store_ok hb0 (fun p l e R s m args below meth c H locs cells slots Q ls rest x lv hx hb hk hl k => ?_)
  rcases hk with rfl | ⟨a, rfl⟩
  · exact lv_astoreN hx hb hd hl hb0 rfl k
  · exact lv_astore hx hb hd hl hb0 rfl k
theorem zr_lstore {i : Nat} (hd : decode cc pc = .ok (.lstore i, 2)) (hb0 : i + 1 < nL) (hn : pc + 2 = nx) : zi_ok mt y cc nL pc (zi_storel i nx) := by
  subst hn
  exact zi_storel_ok (fun p l e R s m args below meth c H locs cells slots Q ls rest x lv hx hb hl k => lv_lstore hx hb hd hl hb0 rfl k)
theorem zr_lstore_n {k : Fin 4} {i : Nat} (hd : decode cc pc = .ok (.lstore_n k, 1)) (hi : (k : Nat) = i) (hb0 : i + 1 < nL) (hn : pc + 1 = nx) : zi_ok mt y cc nL pc (zi_storel i nx) := by
  subst hn
  exact zi_storel_ok (fun p l e R s m args below meth c H locs cells slots Q ls rest x lv hx hb hl k => lv_lstore_n hx hb hd hi hl hb0 rfl k)
theorem zr_pt {n : Nat} : zi_in (n, n) n := ⟨Nat.le_refl _, Nat.le_refl _⟩
theorem zr_iconst {n : Int} {a : Nat} (hd : decode cc pc = .ok (.iconst n, 1)) (hv : zi_o (Int32.ofInt n) = a) (hn : pc + 1 = nx) : zi_ok mt y cc nL pc (zi_push (.inl (a, a)) nx) := by
  subst hn
  subst hv
  exact zi_push_ok (x := .int (Int32.ofInt n)) (fun _ _ => ⟨_, rfl, zr_pt⟩) (fun p l e R s m args below meth c H locs cells slots Q ls rest hx hb k => lv_iconst hx hb hd rfl k)
theorem zr_bipush {n : Int} {a : Nat} (hd : decode cc pc = .ok (.bipush n, 2)) (hv : zi_o (Int8.ofInt n).toInt32 = a) (hn : pc + 2 = nx) : zi_ok mt y cc nL pc (zi_push (.inl (a, a)) nx) := by
  subst hn
  subst hv
  exact zi_push_ok (x := .int (Int8.ofInt n).toInt32) (fun _ _ => ⟨_, rfl, zr_pt⟩) (fun p l e R s m args below meth c H locs cells slots Q ls rest hx hb k => lv_bipush hx hb hd rfl k)
theorem zr_sipush {n : Int} {a : Nat} (hd : decode cc pc = .ok (.sipush n, 3)) (hv : zi_o (Int16.ofInt n).toInt32 = a) (hn : pc + 3 = nx) : zi_ok mt y cc nL pc (zi_push (.inl (a, a)) nx) := by
  subst hn
  subst hv
  exact zi_push_ok (x := .int (Int16.ofInt n).toInt32) (fun _ _ => ⟨_, rfl, zr_pt⟩) (fun p l e R s m args below meth c H locs cells slots Q ls rest hx hb k => lv_sipush hx hb hd rfl k)
theorem zr_lconst {n : Fin 2} {a : Nat} (hd : decode cc pc = .ok (.lconst n, 1)) (hv : zi_ol (Int64.ofNat (n : Nat)) = a) (hn : pc + 1 = nx) : zi_ok mt y cc nL pc (zi_push (.inr (.inl (a, a))) nx) := by
  subst hn
  subst hv
  exact zi_push_ok (x := .long (Int64.ofNat (n : Nat))) (fun _ _ => ⟨_, rfl, zr_pt⟩) (fun p l e R s m args below meth c H locs cells slots Q ls rest hx hb k => lv_lconst hx hb hd rfl k)
theorem zr_null (hd : decode cc pc = .ok (.aconst_null, 1)) (hn : pc + 1 = nx) : zi_ok mt y cc nL pc (zi_push (.inr (.inr (.inl none))) nx) := by
  subst hn
  exact zi_push_ok (x := .null) (fun _ _ => rfl) (fun p l e R s m args below meth c H locs cells slots Q ls rest hx hb k => lv_null hx hb hd k)
/-- constants of the pool -/
theorem zr_pool {v : zi_V} {x : Value} (hv : ∀ b ads, zi_g b ads v x) (hr : ∀ (p : Program) (l : Launch) (e : Env) (R : Room) (s : State) (m : MethodId) (args : Array Value) (below : List Frame) (meth : Method) (c : Code) (H : Heap) (locs : List Loc) (cells slots : Nat) (Q : State → Prop) (ls : Array Slot) (rest : List Value), p.tables.exec = Jvm.exec → c.code = cc → s.vm.findClass y.cls = some m.cls → (∀ w ∈ zi_G, w.before args s = true) →
    W p l e R s m args below meth c H locs cells slots Q (F0 m nx ls (x :: rest)) → W p l e R s m args below meth c H locs cells slots Q (F0 m pc ls rest)) : zi_ok mt y cc nL pc (zi_push v nx) := by
  intro p l e R s m args below meth c D A b d a0 E X hE st pc' st' hf Q H locs cells slots ls sk hR k
  obtain ⟨lc, stk, r⟩ := st
  obtain ⟨ws, tys, lv, hl, hlv, hsk, hw⟩ := hR
  cases hf
  exact hr p l e R s m args below meth c H locs cells slots Q ls sk X.1 X.2.1 X.2.2.2.1 X.2.2.2.2.1 (k _ _ _ _ _ _ ⟨ws, tys, lv, hl, hlv, ⟨hv _ _, hsk⟩, hw⟩)
theorem zr_ldc {i a : Nat} {v : Int32} (hl : Cond.constant y.cls i v ∈ zi_G) (hd : decode cc pc = .ok (.ldc i, 2)) (hv : zi_o v = a) (hn : pc + 2 = nx) : zi_ok mt y cc nL pc (zi_push (.inl (a, a)) nx) := by
  subst hn
  subst hv
  exact zr_pool (x := .int v) (fun _ _ => ⟨_, rfl, zr_pt⟩) (fun p l e R s m args below meth c H locs cells slots Q ls rest hx hb ho ht k => lv_ldc hx hb ho (ht _ hl) hd k)
theorem zr_ldc_w {i a : Nat} {v : Int32} (hl : Cond.constant y.cls i v ∈ zi_G) (hd : decode cc pc = .ok (.ldc_w i, 3)) (hv : zi_o v = a) (hn : pc + 3 = nx) : zi_ok mt y cc nL pc (zi_push (.inl (a, a)) nx) := by
  subst hn
  subst hv
  exact zr_pool (x := .int v) (fun _ _ => ⟨_, rfl, zr_pt⟩) (fun p l e R s m args below meth c H locs cells slots Q ls rest hx hb ho ht k => lv_ldcw hx hb ho (ht _ hl) hd k)
theorem zr_ldc2 {i a : Nat} {v : Int64} (hl : Cond.constantLong y.cls i v ∈ zi_G) (hd : decode cc pc = .ok (.ldc2_w i, 3)) (hv : zi_ol v = a) (hn : pc + 3 = nx) : zi_ok mt y cc nL pc (zi_push (.inr (.inl (a, a))) nx) := by
  subst hn
  subst hv
  exact zr_pool (x := .long v) (fun _ _ => ⟨_, rfl, zr_pt⟩) (fun p l e R s m args below meth c H locs cells slots Q ls rest hx hb ho ht k => lv_ldc2 hx hb ho (ht _ hl) hd k)
theorem zr_iinc {i a : Nat} {n : Int} (hd : decode cc pc = .ok (.iinc i n, 3)) (hi : i < nL) (hv : zi_o (Int32.ofInt n) = a) (hn : pc + 3 = nx) : zi_ok mt y cc nL pc (zi_inc i (a, a) nx) := zi_inc_ok hi (by rw [hv]; exact zr_pt) hd hn
theorem zr_iadd (hd : decode cc pc = .ok (.iadd, 1)) (hn : pc + 1 = nx) : zi_ok mt y cc nL pc (zi_bin zi_add nx) := by
  subst hn
  exact zi_bin_ok zi_add_ok (fun x y p l e R s m args below meth c H locs cells slots Q ls rest hx hb k => lv_iadd hx hb hd k)
theorem zr_isub (hd : decode cc pc = .ok (.isub, 1)) (hn : pc + 1 = nx) : zi_ok mt y cc nL pc (zi_bin zi_sub nx) := by
  subst hn
  exact zi_bin_ok zi_sub_ok (fun x y p l e R s m args below meth c H locs cells slots Q ls rest hx hb k => lv_isub hx hb hd k)
theorem zr_imul (hd : decode cc pc = .ok (.imul, 1)) (hn : pc + 1 = nx) : zi_ok mt y cc nL pc (zi_bin zi_mul nx) := by
  subst hn
  exact zi_bin_ok zi_mul_ok (fun x y p l e R s m args below meth c H locs cells slots Q ls rest hx hb k => lv_imul hx hb hd k)
theorem zr_iand (hd : decode cc pc = .ok (.iand, 1)) (hn : pc + 1 = nx) : zi_ok mt y cc nL pc (zi_bin zi_and nx) := by
  subst hn
  exact zi_bin_ok (g := (· &&& ·)) zi_and_ok (fun x y p l e R s m args below meth c H locs cells slots Q ls rest hx hb k => lv_iand hx hb hd k)
theorem zr_ior (hd : decode cc pc = .ok (.ior, 1)) (hn : pc + 1 = nx) : zi_ok mt y cc nL pc (zi_bin zi_or nx) := by
  subst hn
  exact zi_bin_ok (g := (· ||| ·)) zi_or_ok (fun x y p l e R s m args below meth c H locs cells slots Q ls rest hx hb k => lv_ior hx hb hd k)
theorem zr_ixor (hd : decode cc pc = .ok (.ixor, 1)) (hn : pc + 1 = nx) : zi_ok mt y cc nL pc (zi_bin zi_xor nx) := by
  subst hn
  exact zi_bin_ok (g := (· ^^^ ·)) zi_sg_ok (fun x y p l e R s m args below meth c H locs cells slots Q ls rest hx hb k => lv_ixor hx hb hd k)
theorem zr_ishl (hd : decode cc pc = .ok (.ishl, 1)) (hn : pc + 1 = nx) : zi_ok mt y cc nL pc (zi_bin zi_shl nx) := by
  subst hn
  exact zi_bin_ok (g := fun a b => a <<< (b &&& 31)) zi_shl_ok (fun x y p l e R s m args below meth c H locs cells slots Q ls rest hx hb k => lv_ishl hx hb hd k)
theorem zr_ishr (hd : decode cc pc = .ok (.ishr, 1)) (hn : pc + 1 = nx) : zi_ok mt y cc nL pc (zi_bin zi_shr nx) := by
  subst hn
  exact zi_bin_ok (g := fun a b => a >>> (b &&& 31)) zi_shr_ok (fun x y p l e R s m args below meth c H locs cells slots Q ls rest hx hb k => lv_ishr hx hb hd k)
theorem zr_iushr (hd : decode cc pc = .ok (.iushr, 1)) (hn : pc + 1 = nx) : zi_ok mt y cc nL pc (zi_bin zi_ushr nx) := by
  subst hn
  exact zi_bin_ok (g := fun a b => (a.toUInt32 >>> (b.toUInt32 &&& Int32.toUInt32 31)).toInt32) zi_sg_ok (fun x y p l e R s m args below meth c H locs cells slots Q ls rest hx hb k => lv_iushr hx hb hd rfl k)
theorem zr_idiv (hd : decode cc pc = .ok (.idiv, 1)) (hn : pc + 1 = nx) : zi_ok mt y cc nL pc (zi_dv zi_div nx) := by
  subst hn
  exact zi_dv_ok zi_div_ok (fun x y h p l e R s m args below meth c H locs cells slots Q ls rest hx hb k => lv_idiv hx hb hd h k)
theorem zr_irem (hd : decode cc pc = .ok (.irem, 1)) (hn : pc + 1 = nx) : zi_ok mt y cc nL pc (zi_dv zi_rem nx) := by
  subst hn
  exact zi_dv_ok zi_rem_ok (fun x y h p l e R s m args below meth c H locs cells slots Q ls rest hx hb k => lv_irem hx hb hd h k)
theorem zr_ladd (hd : decode cc pc = .ok (.ladd, 1)) (hn : pc + 1 = nx) : zi_ok mt y cc nL pc (zi_binl zi_ladd nx) := by
  subst hn
  exact zi_binl_ok (g := (· + ·)) zi_sgl_ok (fun x y p l e R s m args below meth c H locs cells slots Q ls rest hx hb k => lv_ladd hx hb hd k)
theorem zr_land (hd : decode cc pc = .ok (.land, 1)) (hn : pc + 1 = nx) : zi_ok mt y cc nL pc (zi_binl zi_land nx) := by
  subst hn
  exact zi_binl_ok (g := (· &&& ·)) zi_sgl_ok (fun x y p l e R s m args below meth c H locs cells slots Q ls rest hx hb k => lv_land hx hb hd k)
theorem zr_lor (hd : decode cc pc = .ok (.lor, 1)) (hn : pc + 1 = nx) : zi_ok mt y cc nL pc (zi_binl zi_lor nx) := by
  subst hn
  exact zi_binl_ok (g := (· ||| ·)) zi_sgl_ok (fun x y p l e R s m args below meth c H locs cells slots Q ls rest hx hb k => lv_lor hx hb hd k)
theorem zr_ldiv (hd : decode cc pc = .ok (.ldiv, 1)) (hn : pc + 1 = nx) : zi_ok mt y cc nL pc (zi_dvl zi_ldiv nx) := by
  subst hn
  exact zi_dvl_ok (g := (· / ·)) zi_sgl_ok (fun x y h p l e R s m args below meth c H locs cells slots Q ls rest hx hb k => lv_ldiv hx hb hd h k)
theorem zr_lrem (hd : decode cc pc = .ok (.lrem, 1)) (hn : pc + 1 = nx) : zi_ok mt y cc nL pc (zi_dvl zi_lrem nx) := by
  subst hn
  exact zi_dvl_ok (g := fun a b => a - a / b * b) zi_sgl_ok (fun x y h p l e R s m args below meth c H locs cells slots Q ls rest hx hb k => lv_lrem hx hb hd h k)
theorem zr_lshl (hd : decode cc pc = .ok (.lshl, 1)) (hn : pc + 1 = nx) : zi_ok mt y cc nL pc (zi_shfl zi_lshl nx) := by
  subst hn
  exact zi_shfl_ok (g := fun a b => a <<< (b.toInt64 &&& 63)) zi_sgs_ok (fun x y p l e R s m args below meth c H locs cells slots Q ls rest hx hb k => lv_lshl hx hb hd rfl k)
theorem zr_lshr (hd : decode cc pc = .ok (.lshr, 1)) (hn : pc + 1 = nx) : zi_ok mt y cc nL pc (zi_shfl zi_lshr nx) := by
  subst hn
  exact zi_shfl_ok (g := fun a b => a >>> (b.toInt64 &&& 63)) zi_sgs_ok (fun x y p l e R s m args below meth c H locs cells slots Q ls rest hx hb k => lv_lshr hx hb hd rfl k)
theorem zr_i2b (hd : decode cc pc = .ok (.i2b, 1)) (hn : pc + 1 = nx) : zi_ok mt y cc nL pc (zi_un zi_i2bf nx) := by
  subst hn
  exact zi_un_ok (g := fun x => x.toInt8.toInt32) zi_i2b_ok (fun x p l e R s m args below meth c H locs cells slots Q ls rest hx hb k => lv_i2b hx hb hd rfl k)
theorem zr_i2s (hd : decode cc pc = .ok (.i2s, 1)) (hn : pc + 1 = nx) : zi_ok mt y cc nL pc (zi_un zi_i2sf nx) := by
  subst hn
  exact zi_un_ok (g := fun x => x.toInt16.toInt32) zi_i2s_ok (fun x p l e R s m args below meth c H locs cells slots Q ls rest hx hb k => lv_i2s hx hb hd rfl k)
-- branches
theorem zr_z {x : Int32} : zi_in (2147483648, 2147483648) (zi_o 0) := by rw [zi_o0]; exact zr_pt
theorem zr_dec {P : Prop} [Decidable P] {t : Bool} (h : t = decide P) : t = true ↔ P := by rw [h]; exact decide_eq_true_iff
theorem zr_decn {P : Prop} [Decidable P] {t : Bool} (h : t = !decide P) : t = true ↔ ¬ P := by rw [h, Bool.not_eq_true', decide_eq_false_iff_not]
theorem zr_if_eq {off : Int} {tg : Nat} (hd : decode cc pc = .ok (.ifCond .eq off, 3)) (ht : (pc : Int) + off = (tg : Int)) (hn : pc + 3 = nx) : zi_ok mt y cc nL pc (zi_if zi_eq tg nx) := by
  subst hn
  exact zi_if_ok (g := fun x => x = 0) (fun x => inferInstance) (fun ha h => zr_dec (zi_eq_ok ha (zr_z (x := 0)) h)) (fun p l e R s m args below meth c H locs cells slots Q ls rest x hx hb k1 k2 => lv_if_eq hx hb hd ht k1 k2)
theorem zr_if_ne {off : Int} {tg : Nat} (hd : decode cc pc = .ok (.ifCond .ne off, 3)) (ht : (pc : Int) + off = (tg : Int)) (hn : pc + 3 = nx) : zi_ok mt y cc nL pc (zi_if zi_ne tg nx) := by
  subst hn
  refine zi_if_ok (g := fun x => ¬ x = 0) (fun x => inferInstance) (fun ha h => ?_) (fun p l e R s m args below meth c H locs cells slots Q ls rest x hx hb k1 k2 => lv_if_ne hx hb hd ht k1 (fun h => k2 (fun n => n h)))
  obtain ⟨u, h1, h2⟩ := zi_not_ok h
  exact zr_decn (by rw [h2, zi_eq_ok ha (zr_z (x := 0)) h1])
theorem zr_if_lt {off : Int} {tg : Nat} (hd : decode cc pc = .ok (.ifCond .lt off, 3)) (ht : (pc : Int) + off = (tg : Int)) (hn : pc + 3 = nx) : zi_ok mt y cc nL pc (zi_if zi_lt tg nx) := by
  subst hn
  exact zi_if_ok (g := fun x => x < 0) (fun x => inferInstance) (fun ha h => zr_dec (zi_lt_ok ha (zr_z (x := 0)) h)) (fun p l e R s m args below meth c H locs cells slots Q ls rest x hx hb k1 k2 => lv_if_lt hx hb hd ht k1 k2)
theorem zr_if_ge {off : Int} {tg : Nat} (hd : decode cc pc = .ok (.ifCond .ge off, 3)) (ht : (pc : Int) + off = (tg : Int)) (hn : pc + 3 = nx) : zi_ok mt y cc nL pc (zi_if zi_ge tg nx) := by
  subst hn
  refine zi_if_ok (g := fun x => 0 ≤ x) (fun x => inferInstance) (fun ha h => ?_) (fun p l e R s m args below meth c H locs cells slots Q ls rest x hx hb k1 k2 => lv_if_ge hx hb hd ht k1 k2)
  obtain ⟨u, h1, h2⟩ := zi_not_ok h
  exact (zr_decn (by rw [h2, zi_lt_ok ha (zr_z (x := 0)) h1])).trans Int32.not_lt
theorem zr_if_le {off : Int} {tg : Nat} (hd : decode cc pc = .ok (.ifCond .le off, 3)) (ht : (pc : Int) + off = (tg : Int)) (hn : pc + 3 = nx) : zi_ok mt y cc nL pc (zi_if zi_le tg nx) := by
  subst hn
  exact zi_if_ok (g := fun x => x ≤ 0) (fun x => inferInstance) (fun ha h => zr_dec (zi_le_ok ha (zr_z (x := 0)) h)) (fun p l e R s m args below meth c H locs cells slots Q ls rest x hx hb k1 k2 => lv_if_le hx hb hd ht k1 k2)
theorem zr_if_gt {off : Int} {tg : Nat} (hd : decode cc pc = .ok (.ifCond .gt off, 3)) (ht : (pc : Int) + off = (tg : Int)) (hn : pc + 3 = nx) : zi_ok mt y cc nL pc (zi_if zi_gt tg nx) := by
  subst hn
  refine zi_if_ok (g := fun x => 0 < x) (fun x => inferInstance) (fun ha h => ?_) (fun p l e R s m args below meth c H locs cells slots Q ls rest x hx hb k1 k2 => lv_if_gt hx hb hd ht k1 k2)
  obtain ⟨u, h1, h2⟩ := zi_not_ok h
  exact (zr_decn (by rw [h2, zi_le_ok ha (zr_z (x := 0)) h1])).trans Int32.not_le
theorem zr_ic_eq {off : Int} {tg : Nat} (hd : decode cc pc = .ok (.if_icmp .eq off, 3)) (ht : (pc : Int) + off = (tg : Int)) (hn : pc + 3 = nx) : zi_ok mt y cc nL pc (zi_ic zi_eq tg nx) := by
  subst hn
  exact zi_ic_ok (g := fun x y => x = y) (fun ha hb h => zr_dec (zi_eq_ok ha hb h)) (fun p l e R s m args below meth c H locs cells slots Q ls rest x y hx hb k1 k2 => lv_icmp_eq hx hb hd ht k1 k2)
theorem zr_ic_ne {off : Int} {tg : Nat} (hd : decode cc pc = .ok (.if_icmp .ne off, 3)) (ht : (pc : Int) + off = (tg : Int)) (hn : pc + 3 = nx) : zi_ok mt y cc nL pc (zi_ic zi_ne tg nx) := by
  subst hn
  refine zi_ic_ok (g := fun x y => ¬ x = y) (fun ha hb h => ?_) (fun p l e R s m args below meth c H locs cells slots Q ls rest x y hx hb k1 k2 => lv_icmp_ne hx hb hd ht k1 (fun h => k2 (fun n => n h)))
  obtain ⟨u, h1, h2⟩ := zi_not_ok h
  exact zr_decn (by rw [h2, zi_eq_ok ha hb h1])
theorem zr_ic_lt {off : Int} {tg : Nat} (hd : decode cc pc = .ok (.if_icmp .lt off, 3)) (ht : (pc : Int) + off = (tg : Int)) (hn : pc + 3 = nx) : zi_ok mt y cc nL pc (zi_ic zi_lt tg nx) := by
  subst hn
  exact zi_ic_ok (g := fun x y => x < y) (fun ha hb h => zr_dec (zi_lt_ok ha hb h)) (fun p l e R s m args below meth c H locs cells slots Q ls rest x y hx hb k1 k2 => lv_icmp_lt hx hb hd ht k1 k2)
theorem zr_ic_ge {off : Int} {tg : Nat} (hd : decode cc pc = .ok (.if_icmp .ge off, 3)) (ht : (pc : Int) + off = (tg : Int)) (hn : pc + 3 = nx) : zi_ok mt y cc nL pc (zi_ic zi_ge tg nx) := by
  subst hn
  refine zi_ic_ok (g := fun x y => y ≤ x) (fun ha hb h => ?_) (fun p l e R s m args below meth c H locs cells slots Q ls rest x y hx hb k1 k2 => lv_icmp_ge hx hb hd ht k1 k2)
  obtain ⟨u, h1, h2⟩ := zi_not_ok h
  exact (zr_decn (by rw [h2, zi_lt_ok ha hb h1])).trans Int32.not_lt
theorem zr_ic_le {off : Int} {tg : Nat} (hd : decode cc pc = .ok (.if_icmp .le off, 3)) (ht : (pc : Int) + off = (tg : Int)) (hn : pc + 3 = nx) : zi_ok mt y cc nL pc (zi_ic zi_le tg nx) := by
  subst hn
  exact zi_ic_ok (g := fun x y => x ≤ y) (fun ha hb h => zr_dec (zi_le_ok ha hb h)) (fun p l e R s m args below meth c H locs cells slots Q ls rest x y hx hb k1 k2 => lv_icmp_le hx hb hd ht k1 k2)
theorem zr_ic_gt {off : Int} {tg : Nat} (hd : decode cc pc = .ok (.if_icmp .gt off, 3)) (ht : (pc : Int) + off = (tg : Int)) (hn : pc + 3 = nx) : zi_ok mt y cc nL pc (zi_ic zi_gt tg nx) := by
  subst hn
  refine zi_ic_ok (g := fun x y => y < x) (fun ha hb h => ?_) (fun p l e R s m args below meth c H locs cells slots Q ls rest x y hx hb k1 k2 => lv_icmp_gt hx hb hd ht k1 k2)
  obtain ⟨u, h1, h2⟩ := zi_not_ok h
  exact (zr_decn (by rw [h2, zi_le_ok ha hb h1])).trans Int32.not_le
end Ins
/-- two steps, one behind the other -/
theorem zq_ok {mt : Nat → Option zi_M} {y : MethodName} {cc : ByteArray} {nL pc pc2 : Nat} {f g : zi_F} (hf : zi_ok mt y cc nL pc f) (hg : zi_ok mt y cc nL pc2 g) : zi_ok mt y cc nL pc (zi_seq f pc2 g) := by
  intro p l e R s m args below meth c D A b d a0 E X hE st pc' st' h Q H locs cells slots ls sk hR k
  unfold zi_seq at h
  cases h1 : f E st with
  | none => rw [h1] at h; cases h
  | some r =>
    rw [h1] at h
    dsimp only at h
    obtain ⟨pc1, st1⟩ := r
    cases h2 : Nat.beq pc1 pc2 with
    | false => rw [h2] at h; cases h
    | true =>
      rw [h2] at h
      have h2 := Nat.eq_of_beq_eq_true h2
      refine hf p l e R s m args below meth c D A b d a0 E X hE st pc1 st1 h1 Q H locs cells slots ls sk hR (fun H' locs' cells' slots' ls' sk' hR' => ?_)
      rw [h2]
      exact hg p l e R s m args below meth c D A b d a0 E X hE st1 pc' st' h Q H' locs' cells' slots' ls' sk' hR' k
-- a table's rows
def zi_oks (mt : Nat → Option zi_M) (y : MethodName) (cc : ByteArray) (nL : Nat) (ret : Option FieldType) : Nat → List (Option (Option zi_F)) → Prop
  | _, [] => True
  | pc, none :: r => zi_oks mt y cc nL ret (pc + 1) r
  | pc, some none :: r => decode cc pc = .ok (zi_rop ret, 1) ∧ zi_oks mt y cc nL ret (pc + 1) r
  | pc, some (some f) :: r => zi_ok mt y cc nL pc f ∧ zi_oks mt y cc nL ret (pc + 1) r
def zi_okt (mt : Nat → Option zi_M) (y : MethodName) (cc : ByteArray) (nL : Nat) (ret : Option FieldType) : Nat → zi_T → Prop
  | _, [] => True
  | b, r :: t => zi_oks mt y cc nL ret b r ∧ zi_okt mt y cc nL ret (b + 16) t
section Tab
variable {mt : Nat → Option zi_M} {y : MethodName} {cc : ByteArray} {nL : Nat} {ret : Option FieldType}
theorem zo_z {pc : Nat} : zi_oks mt y cc nL ret pc [] := trivial
theorem zo_n {pc : Nat} {r : List (Option (Option zi_F))} (h : zi_oks mt y cc nL ret (pc + 1) r) : zi_oks mt y cc nL ret pc (none :: r) := h
theorem zo_s {pc : Nat} {r : List (Option (Option zi_F))} (hd : decode cc pc = .ok (zi_rop ret, 1)) (h : zi_oks mt y cc nL ret (pc + 1) r) : zi_oks mt y cc nL ret pc (some none :: r) := ⟨hd, h⟩
theorem zo_c {pc : Nat} {f : zi_F} {r : List (Option (Option zi_F))} (hf : zi_ok mt y cc nL pc f) (h : zi_oks mt y cc nL ret (pc + 1) r) : zi_oks mt y cc nL ret pc (some (some f) :: r) := ⟨hf, h⟩
theorem zo_tz {b : Nat} : zi_okt mt y cc nL ret b [] := trivial
theorem zo_t {b : Nat} {r : List (Option (Option zi_F))} {t : zi_T} (h : zi_oks mt y cc nL ret b r) (ht : zi_okt mt y cc nL ret (b + 16) t) : zi_okt mt y cc nL ret b (r :: t) := ⟨h, ht⟩
theorem zi_oks_at : ∀ {r : List (Option (Option zi_F))} {b k : Nat} {q : Option zi_F}, zi_oks mt y cc nL ret b r → r[k]? = some (some q) → (q = none → decode cc (b + k) = .ok (zi_rop ret, 1)) ∧ ∀ f, q = some f → zi_ok mt y cc nL (b + k) f
  | [], _, _, _, _, h => by simp at h
  | none :: r, b, 0, q, h, e => by simp at e
  | none :: r, b, k + 1, q, h, e => by
    have t := zi_oks_at (b := b + 1) (k := k) (show zi_oks mt y cc nL ret (b + 1) r from h) (by simpa using e)
    rw [show b + (k + 1) = b + 1 + k by omega]
    exact t
  | some none :: r, b, 0, q, h, e => by
    have e : (none : Option zi_F) = q := by simpa using e
    subst e
    exact ⟨fun _ => h.1, fun f hf => by cases hf⟩
  | some (some g) :: r, b, 0, q, h, e => by
    have e : some g = q := by simpa using e
    subst e
    exact ⟨(fun q => by cases q), fun f hf => by cases hf; exact h.1⟩
  | some none :: r, b, k + 1, q, h, e => by
    have t := zi_oks_at (b := b + 1) (k := k) h.2 (by simpa using e)
    rw [show b + (k + 1) = b + 1 + k by omega]
    exact t
  | some (some g) :: r, b, k + 1, q, h, e => by
    have t := zi_oks_at (b := b + 1) (k := k) h.2 (by simpa using e)
    rw [show b + (k + 1) = b + 1 + k by omega]
    exact t
theorem zi_okt_at : ∀ {t : zi_T} {b k : Nat} {r : List (Option (Option zi_F))}, zi_okt mt y cc nL ret b t → t[k]? = some r → zi_oks mt y cc nL ret (b + 16 * k) r
  | [], _, _, _, _, h => by simp at h
  | r0 :: t, b, 0, r, h, e => by
    have e : r0 = r := by simpa using e
    subst e
    exact h.1
  | r0 :: t, b, k + 1, r, h, e => by
    have q := zi_okt_at (b := b + 16) (k := k) h.2 (by simpa using e)
    rw [show b + 16 * (k + 1) = b + 16 + 16 * k by omega]
    exact q
theorem zi_tab {t : zi_T} (h : zi_okt mt y cc nL ret 0 t) : zi_tb mt y cc nL t ∧ ∀ pc, zi_lk t pc = some none → decode cc pc = .ok (zi_rop ret, 1) := by
  have main : ∀ (pc : Nat) (q : Option zi_F), zi_lk t pc = some q → (q = none → decode cc pc = .ok (zi_rop ret, 1)) ∧ ∀ f, q = some f → zi_ok mt y cc nL pc f := by
    intro pc q hq
    unfold zi_lk at hq
    rw [zi_nth_eq] at hq
    cases h1 : t[pc / 16]? with
    | none => rw [h1] at hq; cases hq
    | some r =>
      rw [h1] at hq
      dsimp only at hq
      rw [zi_nth_eq] at hq
      cases h2 : r[pc % 16]? with
      | none => rw [h2] at hq; cases hq
      | some o =>
        rw [h2] at hq
        dsimp only at hq
        subst hq
        have h3 := zi_oks_at (zi_okt_at h h1) h2
        rw [show 0 + 16 * (pc / 16) + pc % 16 = pc by omega] at h3
        exact h3
  exact ⟨fun pc f h => (main pc _ h).2 f rfl, fun pc h => (main pc _ h).1 rfl⟩
end Tab
-- a list of methods
def zi_pm (P : zi_M → Prop) : List (Option zi_M) → Prop
  | [] => True
  | none :: t => zi_pm P t
  | some M :: t => P M ∧ zi_pm P t
def zi_pms (P : zi_M → Prop) : List (List (Option zi_M)) → Prop
  | [] => True
  | r :: t => zi_pm P r ∧ zi_pms P t
theorem zp_z {P : zi_M → Prop} : zi_pm P [] := trivial
theorem zp_n {P : zi_M → Prop} {t : List (Option zi_M)} (h : zi_pm P t) : zi_pm P (none :: t) := h
theorem zp_c {P : zi_M → Prop} {M : zi_M} {t : List (Option zi_M)} (hM : P M) (h : zi_pm P t) : zi_pm P (some M :: t) := ⟨hM, h⟩
theorem zp_tz {P : zi_M → Prop} : zi_pms P [] := trivial
theorem zp_t {P : zi_M → Prop} {r : List (Option zi_M)} {t : List (List (Option zi_M))} (h : zi_pm P r) (ht : zi_pms P t) : zi_pms P (r :: t) := ⟨h, ht⟩
theorem zi_pm_at {P : zi_M → Prop} : ∀ {l : List (Option zi_M)} {k : Nat} {M : zi_M}, zi_pm P l → l[k]? = some (some M) → P M
  | [], _, _, _, h => by simp at h
  | none :: t, 0, _, _, h => by simp at h
  | none :: t, k + 1, M, h, e => zi_pm_at (k := k) (show zi_pm P t from h) (by simpa using e)
  | some N :: t, 0, M, h, e => by
    have e : N = M := by simpa using e
    subst e
    exact h.1
  | some N :: t, k + 1, M, h, e => zi_pm_at (k := k) h.2 (by simpa using e)
theorem zi_pms_at {P : zi_M → Prop} : ∀ {l : List (List (Option zi_M))} {k : Nat} {r : List (Option zi_M)}, zi_pms P l → l[k]? = some r → zi_pm P r
  | [], _, _, _, h => by simp at h
  | q :: t, 0, r, h, e => by
    have e : q = r := by simpa using e
    subst e
    exact h.1
  | q :: t, k + 1, r, h, e => zi_pms_at (k := k) h.2 (by simpa using e)
noncomputable def zi_mtl (l : List (List (Option zi_M))) (j : Nat) : Option zi_M := match zi_nth l (j / 16) with
  | none => none
  | some r => match zi_nth r (j % 16) with
    | none => none
    | some q => q
theorem zi_mtl_ok {P : zi_M → Prop} {l : List (List (Option zi_M))} (h : zi_pms P l) (j : Nat) (M : zi_M) (hj : zi_mtl l j = some M) : P M := by
  unfold zi_mtl at hj
  rw [zi_nth_eq] at hj
  cases h1 : l[j / 16]? with
  | none => rw [h1] at hj; cases hj
  | some r =>
    rw [h1] at hj
    dsimp only at hj
    rw [zi_nth_eq] at hj
    cases h2 : r[j % 16]? with
    | none => rw [h2] at hj; cases hj
    | some q =>
      rw [h2] at hj
      dsimp only at hj
      subst hj
      exact zi_pm_at (zi_pms_at h h1) h2
theorem za_n {α β : Type} {r : α → β → Prop} : zi_a2 r [] [] := trivial
theorem za_c {α β : Type} {r : α → β → Prop} {a : α} {b : β} {as : List α} {bs : List β} (h : r a b) (t : zi_a2 r as bs) : zi_a2 r (a :: as) (b :: bs) := ⟨h, t⟩
theorem za_i0 {b : Nat} {ads : List Nat} : zi_g b ads (.inl (2147483648, 2147483648)) (.int 0) := ⟨0, rfl, by rw [zi_o0]; exact zr_pt⟩
theorem za_nl {b : Nat} {ads : List Nat} : zi_g b ads (.inr (.inr (.inl none))) .null := rfl
end
section
/-! THE PURE WALK: values as the machine has them, cells by numbers (a reference .ref (q + 1) is cell q; .ref 0 the script); a row of ints is a function. Nothing is made. -/
abbrev ci_C : Type := (FieldType × Nat × (Nat → Int32)) ⊕ (Nat × List Value)
abbrev ci_W : Type := Nat → Option ci_C
abbrev ci_L : Type := List (Nat × Value)
abbrev ci_S : Type := ci_L × List Value × ci_W
abbrev ci_F : Type := ci_S → Option (Nat × ci_S)
def ci_t (b : Nat) (ads : List Nat) : Value → Value
  | .ref 0 => .ref b
  | .ref (k + 1) => .ref (ads.getD k 0)
  | v => v
theorem ci_t_cat (b : Nat) (ads : List Nat) (v : Value) : (ci_t b ads v).category = v.category := by
  cases v with
  | ref k => cases k <;> rfl
  | _ => rfl
def ci_set (w : ci_W) (q : Nat) (c : ci_C) : ci_W := fun q' => if q' = q then some c else w q'
def ci_get : ci_L → Nat → Option Value
  | [], _ => none
  | q :: t, i => bif Nat.beq q.1 i then some q.2 else ci_get t i
def ci_st1 (l : ci_L) (i : Nat) (v : Value) : ci_L := (i, v) :: l.filter (fun q => !(q.1 == i) && !(q.1 + 1 == i && q.2.category == 2))
def ci_st2 (l : ci_L) (i : Nat) (v : Value) : ci_L := (i, v) :: l.filter (fun q => !(q.1 == i) && (!(q.1 == i + 1) && !(q.1 + 1 == i && q.2.category == 2)))
def ci_kd : Value → Nat
  | .int _ => 0
  | .long _ => 1
  | .ref _ => 2
  | .null => 2
  | _ => 3
def ci_push (v : Value) (nx : Nat) : ci_F := fun s => match s with
  | (lc, sk, w) => some (nx, lc, v :: sk, w)
def ci_load (kd i nx : Nat) : ci_F := fun s => match s with
  | (lc, sk, w) => match ci_get lc i with
    | some v => bif Nat.beq (ci_kd v) kd then some (nx, lc, v :: sk, w) else none
    | none => none
def ci_store (kd i nx : Nat) : ci_F := fun s => match s with
  | (lc, v :: sk, w) => bif Nat.beq (ci_kd v) kd then some (nx, ci_st1 lc i v, sk, w) else none
  | _ => none
def ci_storel (i nx : Nat) : ci_F := fun s => match s with
  | (lc, .long x :: sk, w) => some (nx, ci_st2 lc i (.long x), sk, w)
  | _ => none
def ci_inc (i : Nat) (n : Int) (nx : Nat) : ci_F := fun s => match s with
  | (lc, sk, w) => match ci_get lc i with
    | some (.int x) => some (nx, ci_st1 lc i (.int (x + Int32.ofInt n)), sk, w)
    | _ => none
def ci_bin (g : Int32 → Int32 → Int32) (nx : Nat) : ci_F := fun s => match s with
  | (lc, .int y :: .int x :: sk, w) => some (nx, lc, .int (g x y) :: sk, w)
  | _ => none
def ci_dv (g : Int32 → Int32 → Int32) (nx : Nat) : ci_F := fun s => match s with
  | (lc, .int y :: .int x :: sk, w) => if y = 0 then none else some (nx, lc, .int (g x y) :: sk, w)
  | _ => none
def ci_binl (g : Int64 → Int64 → Int64) (nx : Nat) : ci_F := fun s => match s with
  | (lc, .long y :: .long x :: sk, w) => some (nx, lc, .long (g x y) :: sk, w)
  | _ => none
def ci_dvl (g : Int64 → Int64 → Int64) (nx : Nat) : ci_F := fun s => match s with
  | (lc, .long y :: .long x :: sk, w) => if y = 0 then none else some (nx, lc, .long (g x y) :: sk, w)
  | _ => none
def ci_shfl (g : Int64 → Int32 → Int64) (nx : Nat) : ci_F := fun s => match s with
  | (lc, .int y :: .long x :: sk, w) => some (nx, lc, .long (g x y) :: sk, w)
  | _ => none
def ci_lcmp (nx : Nat) : ci_F := fun s => match s with
  | (lc, .long y :: .long x :: sk, w) => some (nx, lc, .int (lg_cmp x y) :: sk, w)
  | _ => none
def ci_i2l (nx : Nat) : ci_F := fun s => match s with
  | (lc, .int x :: sk, w) => some (nx, lc, .long x.toInt64 :: sk, w)
  | _ => none
def ci_l2i (nx : Nat) : ci_F := fun s => match s with
  | (lc, .long x :: sk, w) => some (nx, lc, .int x.toInt32 :: sk, w)
  | _ => none
def ci_un (g : Int32 → Int32) (nx : Nat) : ci_F := fun s => match s with
  | (lc, .int x :: sk, w) => some (nx, lc, .int (g x) :: sk, w)
  | _ => none
def ci_if (g : Int32 → Bool) (tg nx : Nat) : ci_F := fun s => match s with
  | (lc, .int x :: sk, w) => some (bif g x then tg else nx, lc, sk, w)
  | _ => none
def ci_ic (g : Int32 → Int32 → Bool) (tg nx : Nat) : ci_F := fun s => match s with
  | (lc, .int y :: .int x :: sk, w) => some (bif g x y then tg else nx, lc, sk, w)
  | _ => none
def ci_go (tg : Nat) : ci_F := fun s => some (tg, s)
def ci_null (tn tr : Nat) : ci_F := fun s => match s with
  | (lc, .null :: sk, w) => some (tn, lc, sk, w)
  | (lc, .ref _ :: sk, w) => some (tr, lc, sk, w)
  | _ => none
def ci_tsw (lo hi : Int) (ts : List Nat) (df : Nat) : ci_F := fun s => match s with
  | (lc, .int x :: sk, w) => if x.toInt < lo ∨ hi < x.toInt then some (df, lc, sk, w) else (match ts[(x.toInt - lo).toNat]? with
      | some t => some (t, lc, sk, w)
      | none => none)
  | _ => none
def ci_dup (nx : Nat) : ci_F := fun s => match s with
  | (lc, a :: sk, w) => bif Nat.beq a.category 1 then some (nx, lc, a :: a :: sk, w) else none
  | _ => none
def ci_dup2 (nx : Nat) : ci_F := fun s => match s with
  | (lc, a :: b :: sk, w) => bif Nat.beq a.category 1 && Nat.beq b.category 1 then some (nx, lc, a :: b :: a :: b :: sk, w) else none
  | _ => none
def ci_popp (nx : Nat) : ci_F := fun s => match s with
  | (lc, a :: sk, w) => bif Nat.beq a.category 1 then some (nx, lc, sk, w) else none
  | _ => none
def ci_getf (ci k nx : Nat) : ci_F := fun s => match s with
  | (lc, .ref (q + 1) :: sk, w) => match w q with
    | some (.inr (c, vs)) => bif Nat.beq c ci then (match vs[k]? with
        | some v => some (nx, lc, v :: sk, w)
        | none => none) else none
    | _ => none
  | _ => none
def ci_fit (ty : FieldType) (v : Value) : Bool := match ty, v with
  | .int, .int _ => true
  | .boolean, .int x => x == 0 || x == 1
  | .object _, .ref _ => true
  | .object _, .null => true
  | .array _, .ref _ => true
  | .array _, .null => true
  | _, _ => false
def ci_putf (ci k : Nat) (ty : FieldType) (nx : Nat) : ci_F := fun s => match s with
  | (lc, v :: .ref (q + 1) :: sk, w) => match w q with
    | some (.inr (c, vs)) => bif Nat.beq c ci && (ci_fit ty v && Nat.blt k vs.length) then some (nx, lc, sk, ci_set w q (.inr (c, vs.set k v))) else none
    | _ => none
  | _ => none
def ci_at (i : Int32) (n : Nat) : Prop := 0 ≤ i.toInt ∧ i.toInt < (n : Int)
def ci_ald (ty : FieldType) (nx : Nat) : ci_F := fun s => match s with
  | (lc, .int i :: .ref (q + 1) :: sk, w) => match w q with
    | some (.inl (t, n, f)) => if t = ty ∧ 0 ≤ i.toInt ∧ i.toInt < (n : Int) then some (nx, lc, .int (f i.toInt.toNat) :: sk, w) else none
    | _ => none
  | _ => none
def ci_afit (ty : FieldType) (x : Int32) : Bool := match ty with
  | .int => true
  | .boolean => x == 0 || x == 1
  | .byte => decide (-128 ≤ x.toInt ∧ x.toInt ≤ 127)
  | _ => false
def ci_ast (ty : FieldType) (nx : Nat) : ci_F := fun s => match s with
  | (lc, .int x :: .int i :: .ref (q + 1) :: sk, w) => match w q with
    | some (.inl (t, n, f)) => if t = ty ∧ 0 ≤ i.toInt ∧ i.toInt < (n : Int) ∧ ci_afit ty x = true then some (nx, lc, sk, ci_set w q (.inl (t, n, upd f i.toInt.toNat x))) else none
    | _ => none
  | _ => none
def ci_alen (nx : Nat) : ci_F := fun s => match s with
  | (lc, .ref (q + 1) :: sk, w) => match w q with
    | some (.inl (_, n, _)) => some (nx, lc, .int (Int32.ofNat n) :: sk, w)
    | _ => none
  | _ => none
def ci_copy (nx : Nat) : ci_F := fun s => match s with
  | (lc, .int n :: .int dp :: .ref (q1 + 1) :: .int sp :: .ref (q0 + 1) :: sk, w) => match w q0 with
    | some (.inl (t0, n0, f)) => match w q1 with
      | some (.inl (t1, n1, g)) => if t0 = .int ∧ t1 = .int ∧ 0 ≤ n.toInt ∧ 0 ≤ dp.toInt ∧ 0 ≤ sp.toInt ∧ sp.toInt + n.toInt ≤ (n0 : Int) ∧ dp.toInt + n.toInt ≤ (n1 : Int) ∧ (sk.map fun v => v.category).sum ≤ 20 then some (nx, lc, sk, ci_set w q1 (.inl (t1, n1, va_cpy f g sp.toInt.toNat dp.toInt.toNat n.toInt.toNat))) else none
      | _ => none
    | _ => none
  | _ => none
def ci_seq (f : ci_F) (pc2 : Nat) (g : ci_F) : ci_F := fun s => match f s with
  | none => none
  | some r => bif Nat.beq r.1 pc2 then g r.2 else none
/-- cells of the pure world and of the machine's -/
def ci_cg (b : Nat) (ads : List Nat) (tys : List (ClassId × FieldType)) : ci_C → Nat × va_E → Prop
  | .inl (ty, n, f), q => ∃ (cA : ClassId) (t0 : Nat), q.2 = .inl (cA, n, .inl f) ∧ tys[t0]? = some (cA, ty)
  | .inr (ci, vs), q => q.2 = .inr (ci, vs.map (ci_t b ads))
def ci_wr (b : Nat) (ads : List Nat) (tys : List (ClassId × FieldType)) (w : ci_W) (ws : va_W) : Prop := ws.map (·.1) = ads ∧ ∀ (q : Nat) (c : ci_C), w q = some c → ∃ e, ws[q]? = some e ∧ ci_cg b ads tys c e
def ci_RW (s : State) (D : va_G) (A : Nat → Prop) (b : Nat) (ads : List Nat) (w : ci_W) (ws : va_W) (tys : List (ClassId × FieldType)) (H : Heap) (locs : List Loc) : Prop :=
  ci_wr b ads tys w ws ∧ va_P D vwCl ws H ∧ va_D A ws ∧ va_K D vwCl tys s ∧ va_S A s.heap H locs
def ci_R (s : State) (nL : Nat) (D : va_G) (A : Nat → Prop) (b : Nat) (ads : List Nat) (tys : List (ClassId × FieldType)) (st : ci_S) (H : Heap) (locs : List Loc) (ls : Array Slot) (sk : List Value) : Prop :=
  ∃ (ws : va_W), lv_has ls nL (st.1.map (fun q => (q.1, ci_t b ads q.2))) ∧ sk = st.2.1.map (ci_t b ads) ∧ ci_RW s D A b ads st.2.2 ws tys H locs
/-- what holds within a frame -/
def ci_X (p : Program) (R : Room) (s : State) (m : MethodId) (args : Array Value) (meth : Method) (c : Code) (y : MethodName) (cc : ByteArray) (nL : Nat) (A : Nat → Prop) (d : Nat) : Prop := zi_X p R s m args meth c y cc nL A 0 none d
def ci_ok (y : MethodName) (cc : ByteArray) (nL pc : Nat) (f : ci_F) : Prop :=
  ∀ (p : Program) (l : Launch) (e : Env) (R : Room) (s : State) (m : MethodId) (args : Array Value) (below : List Frame) (meth : Method) (c : Code) (D : va_G) (A : Nat → Prop) (b d : Nat) (ads : List Nat) (tys : List (ClassId × FieldType)), ci_X p R s m args meth c y cc nL A d →
    ∀ (st : ci_S) (pc' : Nat) (st' : ci_S), f st = some (pc', st') → ∀ (Q : State → Prop) (H : Heap) (locs : List Loc) (cells slots : Nat) (ls : Array Slot) (sk : List Value), ci_R s nL D A b ads tys st H locs ls sk →
      (∀ (H' : Heap) (locs' : List Loc) (ls' : Array Slot) (sk' : List Value), ci_R s nL D A b ads tys st' H' locs' ls' sk' → W p l e R s m args below meth c H' locs' cells slots Q (F0 m pc' ls' sk')) →
      W p l e R s m args below meth c H locs cells slots Q (F0 m pc ls sk)
theorem ci_get_ok {i : Nat} {v : Value} : ∀ {l : ci_L}, ci_get l i = some v → (i, v) ∈ l
  | [], h => by cases h
  | q :: t, h => by
    unfold ci_get at h
    cases hb : Nat.beq q.1 i with
    | true =>
      rw [hb] at h
      cases h
      have e := Nat.eq_of_beq_eq_true hb
      obtain ⟨q1, q2⟩ := q
      dsimp only at e
      subst e
      exact List.mem_cons_self
    | false => rw [hb] at h; exact List.mem_cons_of_mem _ (ci_get_ok h)
theorem ci_st1_map (b : Nat) (ads : List Nat) (l : ci_L) (i : Nat) (v : Value) : (ci_st1 l i v).map (fun q => (q.1, ci_t b ads q.2)) = (i, ci_t b ads v) :: (l.map (fun q => (q.1, ci_t b ads q.2))).filter (fun q => !(q.1 == i) && !(q.1 + 1 == i && q.2.category == 2)) := by
  unfold ci_st1
  rw [List.map_cons, List.filter_map]
  simp only [Function.comp_def, ci_t_cat]
theorem ci_st2_map (b : Nat) (ads : List Nat) (l : ci_L) (i : Nat) (v : Value) : (ci_st2 l i v).map (fun q => (q.1, ci_t b ads q.2)) = (i, ci_t b ads v) :: (l.map (fun q => (q.1, ci_t b ads q.2))).filter (fun q => !(q.1 == i) && (!(q.1 == i + 1) && !(q.1 + 1 == i && q.2.category == 2))) := by
  unfold ci_st2
  rw [List.map_cons, List.filter_map]
  simp only [Function.comp_def, ci_t_cat]
theorem ci_wr.set {b : Nat} {ads : List Nat} {tys : List (ClassId × FieldType)} {w : ci_W} {ws : va_W} {q a : Nat} {c : ci_C} {e e0 : va_E} (h : ci_wr b ads tys w ws) (h0 : ws[q]? = some (a, e0)) (h1 : ci_cg b ads tys c (a, e)) : ci_wr b ads tys (ci_set w q c) (ws.set q (a, e)) := by
  refine ⟨by rw [zi_ads_set h0]; exact h.1, fun q' x hx => ?_⟩
  have hlt := (List.getElem?_eq_some_iff.mp h0).1
  rw [List.getElem?_set]
  unfold ci_set at hx
  by_cases e1 : q' = q
  · rw [if_pos e1] at hx
    cases hx
    rw [if_pos e1.symm, if_pos hlt]
    exact ⟨_, rfl, h1⟩
  · rw [if_neg e1] at hx
    rw [if_neg (fun z => e1 z.symm)]
    exact h.2 q' x hx
theorem ci_wr.ref {b : Nat} {ads : List Nat} {tys : List (ClassId × FieldType)} {w : ci_W} {ws : va_W} {q : Nat} {c : ci_C} (h : ci_wr b ads tys w ws) (h1 : w q = some c) : ∃ (a : Nat) (e : va_E), ws[q]? = some (a, e) ∧ ci_cg b ads tys c (a, e) ∧ ci_t b ads (.ref (q + 1)) = .ref a := by
  obtain ⟨⟨a, e⟩, h2, h3⟩ := h.2 q c h1
  refine ⟨a, e, h2, h3, ?_⟩
  show Value.ref (ads.getD q 0) = .ref a
  rw [← h.1, List.getD_eq_getElem?_getD, List.getElem?_map, h2]
  rfl
section CRows
variable {y : MethodName} {cc : ByteArray} {nL pc nx : Nat}
theorem ci_push_ok {v : Value} (hv : ∀ b ads, ci_t b ads v = v) (hr : zi_row cc pc nx [] [v]) : ci_ok y cc nL pc (ci_push v nx) := by
  intro p l e R s m args below meth c D A b d ads tys X st pc' st' hf Q H locs cells slots ls sk hR k
  obtain ⟨lc, stk, w⟩ := st
  obtain ⟨ws, hl, rfl, hw⟩ := hR
  cases hf
  exact hr p l e R s m args below meth c H locs cells slots Q ls _ X.1 X.2.1 (k _ _ _ _ ⟨ws, hl, by rw [List.map_cons, hv]; rfl, hw⟩)
theorem ci_load_ok {kd i : Nat} (hr : ∀ (p : Program) (l : Launch) (e : Env) (R : Room) (s : State) (m : MethodId) (args : Array Value) (below : List Frame) (meth : Method) (c : Code) (H : Heap) (locs : List Loc) (cells slots : Nat) (Q : State → Prop) (ls : Array Slot) (rest : List Value) (x : Value), p.tables.exec = Jvm.exec → c.code = cc → ci_kd x = kd → ls[i]? = some (.val x) →
    W p l e R s m args below meth c H locs cells slots Q (F0 m nx ls (x :: rest)) → W p l e R s m args below meth c H locs cells slots Q (F0 m pc ls rest)) : ci_ok y cc nL pc (ci_load kd i nx) := by
  intro p l e R s m args below meth c D A b d ads tys X st pc' st' hf Q H locs cells slots ls sk hR k
  obtain ⟨lc, stk, w⟩ := st
  obtain ⟨ws, hl, rfl, hw⟩ := hR
  unfold ci_load at hf
  dsimp only at hf
  cases hg : ci_get lc i with
  | none => rw [hg] at hf; cases hf
  | some v =>
    rw [hg] at hf
    dsimp only at hf
    cases hk : Nat.beq (ci_kd v) kd with
    | false => rw [hk] at hf; cases hf
    | true =>
      rw [hk] at hf
      cases hf
      have hm := ci_get_ok hg
      have hk' : ci_kd (ci_t b ads v) = kd := by
        rw [← Nat.eq_of_beq_eq_true hk]
        cases v with
        | ref q => cases q <;> rfl
        | _ => rfl
      exact hr p l e R s m args below meth c H locs cells slots Q ls _ (ci_t b ads v) X.1 X.2.1 hk' (hl.2.2 (i, ci_t b ads v) (List.mem_map.mpr ⟨(i, v), hm, rfl⟩)) (k _ _ _ _ ⟨ws, hl, rfl, hw⟩)
theorem ci_store_ok {kd i : Nat} (hr : ∀ (p : Program) (l : Launch) (e : Env) (R : Room) (s : State) (m : MethodId) (args : Array Value) (below : List Frame) (meth : Method) (c : Code) (H : Heap) (locs : List Loc) (cells slots : Nat) (Q : State → Prop) (ls : Array Slot) (rest : List Value) (x : Value) (lv : List (Nat × Value)), p.tables.exec = Jvm.exec → c.code = cc → ci_kd x = kd → lv_has ls nL lv →
    (∀ ls' : Array Slot, lv_has ls' nL ((i, x) :: lv.filter (fun q => !(q.1 == i) && !(q.1 + 1 == i && q.2.category == 2))) → W p l e R s m args below meth c H locs cells slots Q (F0 m nx ls' rest)) → W p l e R s m args below meth c H locs cells slots Q (F0 m pc ls (x :: rest))) : ci_ok y cc nL pc (ci_store kd i nx) := by
  intro p l e R s m args below meth c D A b d ads tys X st pc' st' hf Q H locs cells slots ls sk hR k
  obtain ⟨lc, stk, w⟩ := st
  obtain ⟨ws, hl, rfl, hw⟩ := hR
  unfold ci_store at hf
  match stk, hf with
  | [], hf => cases hf
  | v :: t, hf =>
    dsimp only at hf
    cases hk : Nat.beq (ci_kd v) kd with
    | false => rw [hk] at hf; cases hf
    | true =>
      rw [hk] at hf
      cases hf
      have hk' : ci_kd (ci_t b ads v) = kd := by
        rw [← Nat.eq_of_beq_eq_true hk]
        cases v with
        | ref q => cases q <;> rfl
        | _ => rfl
      exact hr p l e R s m args below meth c H locs cells slots Q ls _ (ci_t b ads v) _ X.1 X.2.1 hk' hl (fun ls' hl' => k _ _ _ _ ⟨ws, by rw [ci_st1_map]; exact hl', rfl, hw⟩)
theorem ci_storel_ok {i : Nat} (hr : ∀ (p : Program) (l : Launch) (e : Env) (R : Room) (s : State) (m : MethodId) (args : Array Value) (below : List Frame) (meth : Method) (c : Code) (H : Heap) (locs : List Loc) (cells slots : Nat) (Q : State → Prop) (ls : Array Slot) (rest : List Value) (x : Int64) (lv : List (Nat × Value)), p.tables.exec = Jvm.exec → c.code = cc → lv_has ls nL lv →
    (∀ ls' : Array Slot, lv_has ls' nL ((i, .long x) :: lv.filter (fun q => !(q.1 == i) && (!(q.1 == i + 1) && !(q.1 + 1 == i && q.2.category == 2)))) → W p l e R s m args below meth c H locs cells slots Q (F0 m nx ls' rest)) → W p l e R s m args below meth c H locs cells slots Q (F0 m pc ls (.long x :: rest))) : ci_ok y cc nL pc (ci_storel i nx) := by
  intro p l e R s m args below meth c D A b d ads tys X st pc' st' hf Q H locs cells slots ls sk hR k
  obtain ⟨lc, stk, w⟩ := st
  obtain ⟨ws, hl, rfl, hw⟩ := hR
  unfold ci_storel at hf
  split at hf
  · rename_i lc2 x t w2 heq
    cases heq
    cases hf
    exact hr p l e R s m args below meth c H locs cells slots Q ls _ x _ X.1 X.2.1 hl (fun ls' hl' => k _ _ _ _ ⟨ws, by rw [ci_st2_map]; exact hl', rfl, hw⟩)
  · cases hf
theorem ci_inc_ok {i : Nat} {n : Int} (hi : i < nL) (hd : decode cc pc = .ok (.iinc i n, 3)) (hn : pc + 3 = nx) : ci_ok y cc nL pc (ci_inc i n nx) := by
  subst hn
  intro p l e R s m args below meth c D A b d ads tys X st pc' st' hf Q H locs cells slots ls sk hR k
  obtain ⟨lc, stk, w⟩ := st
  obtain ⟨ws, hl, rfl, hw⟩ := hR
  unfold ci_inc at hf
  dsimp only at hf
  split at hf
  · rename_i x hg
    cases hf
    have hm := ci_get_ok hg
    have hm' : (i, Value.int x) ∈ lc.map (fun q => (q.1, ci_t b ads q.2)) := List.mem_map.mpr ⟨(i, .int x), hm, rfl⟩
    obtain ⟨q, hq⟩ := List.getElem?_of_mem hm'
    exact lv_iinc (v := x + Int32.ofInt n) (k := q) X.1 X.2.1 hd hl hq rfl hi rfl (fun ls' hl' => k _ _ _ _ ⟨ws, by rw [ci_st1_map]; exact hl', rfl, hw⟩)
  · cases hf
/-- steps on the stack alone -/
theorem ci_stk_ok {f : ci_F} (hf0 : ∀ (lc : ci_L) (sk : List Value) (w : ci_W) (r : Nat × ci_S), f (lc, sk, w) = some r → ∃ (pre post rest : List Value) (pc' : Nat), sk = pre ++ rest ∧ r = (pc', lc, post ++ rest, w) ∧ (∀ b ads, pre.map (ci_t b ads) = pre ∧ post.map (ci_t b ads) = post) ∧ zi_row cc pc pc' pre post) : ci_ok y cc nL pc f := by
  intro p l e R s m args below meth c D A b d ads tys X st pc' st' hf Q H locs cells slots ls sk hR k
  obtain ⟨lc, stk, w⟩ := st
  obtain ⟨ws, hl, rfl, hw⟩ := hR
  obtain ⟨pre, post, rest, pc1, h1, h2, h3, h4⟩ := hf0 _ _ _ _ hf
  cases h2
  subst h1
  obtain ⟨g1, g2⟩ := h3 b ads
  dsimp only
  rw [List.map_append, g1]
  exact h4 p l e R s m args below meth c H locs cells slots Q ls _ X.1 X.2.1 (k _ _ _ _ ⟨ws, hl, by show _ = List.map _ (post ++ rest); rw [List.map_append, g2], hw⟩)
end CRows
end
section
/-! an instruction, a row, of the pure walk -/
section CIns
variable {y : MethodName} {cc : ByteArray} {nL pc nx : Nat}
theorem cr_aload_n {k : Fin 4} {i : Nat} (hd : decode cc pc = .ok (.aload_n k, 1)) (hi : (k : Nat) = i) (hn : pc + 1 = nx) : ci_ok y cc nL pc (ci_load 2 i nx) := by
  subst hn
  refine ci_load_ok (fun p l e R s m args below meth c H locs cells slots Q ls rest x hx hb hk hl k => ?_)
  cases x with
  | ref a => exact lv_aload_n hx hb hd hi hl k
  | null => exact lv_aload_nN hx hb hd hi hl k
  | _ => cases hk
theorem cr_aload {i : Nat} (hd : decode cc pc = .ok (.aload i, 2)) (hn : pc + 2 = nx) : ci_ok y cc nL pc (ci_load 2 i nx) := by
  subst hn
  refine ci_load_ok (fun p l e R s m args below meth c H locs cells slots Q ls rest x hx hb hk hl k => ?_)
  cases x with
  | ref a => exact lv_aload hx hb hd hl k
  | null => exact lv_aloadN hx hb hd hl k
  | _ => cases hk
theorem cr_iload_n {k : Fin 4} {i : Nat} (hd : decode cc pc = .ok (.iload_n k, 1)) (hi : (k : Nat) = i) (hn : pc + 1 = nx) : ci_ok y cc nL pc (ci_load 0 i nx) := by
  subst hn
  refine ci_load_ok (fun p l e R s m args below meth c H locs cells slots Q ls rest x hx hb hk hl k => ?_)
  cases x with
  | int a => exact lv_iload_n hx hb hd hi hl k
  | _ => cases hk
theorem cr_iload {i : Nat} (hd : decode cc pc = .ok (.iload i, 2)) (hn : pc + 2 = nx) : ci_ok y cc nL pc (ci_load 0 i nx) := by
  subst hn
  refine ci_load_ok (fun p l e R s m args below meth c H locs cells slots Q ls rest x hx hb hk hl k => ?_)
  cases x with
  | int a => exact lv_iload hx hb hd hl k
  | _ => cases hk
theorem cr_lload_n {k : Fin 4} {i : Nat} (hd : decode cc pc = .ok (.lload_n k, 1)) (hi : (k : Nat) = i) (hn : pc + 1 = nx) : ci_ok y cc nL pc (ci_load 1 i nx) := by
  subst hn
  refine ci_load_ok (fun p l e R s m args below meth c H locs cells slots Q ls rest x hx hb hk hl k => ?_)
  cases x with
  | long a => exact lv_lload_n hx hb hd hi hl k
  | _ => cases hk
theorem cr_lload {i : Nat} (hd : decode cc pc = .ok (.lload i, 2)) (hn : pc + 2 = nx) : ci_ok y cc nL pc (ci_load 1 i nx) := by
  subst hn
  refine ci_load_ok (fun p l e R s m args below meth c H locs cells slots Q ls rest x hx hb hk hl k => ?_)
  cases x with
  | long a => exact lv_lload hx hb hd hl k
  | _ => cases hk
theorem cr_istore_n {k : Fin 4} {i : Nat} (hd : decode cc pc = .ok (.istore_n k, 1)) (hi : (k : Nat) = i) (hb0 : i < nL) (hn : pc + 1 = nx) : ci_ok y cc nL pc (ci_store 0 i nx) := by
  subst hn
  refine ci_store_ok (fun p l e R s m args below meth c H locs cells slots Q ls rest x lv hx hb hk hl k => ?_)
  cases x with
  | int a => exact lv_istore_n hx hb hd hi hl hb0 rfl k
  | _ => cases hk
theorem cr_istore {i : Nat} (hd : decode cc pc = .ok (.istore i, 2)) (hb0 : i < nL) (hn : pc + 2 = nx) : ci_ok y cc nL pc (ci_store 0 i nx) := by
  subst hn
  refine ci_store_ok (fun p l e R s m args below meth c H locs cells slots Q ls rest x lv hx hb hk hl k => ?_)
  cases x with
  | int a => exact lv_istore hx hb hd hl hb0 rfl k
  | _ => cases hk
theorem cr_astore_n {k : Fin 4} {i : Nat} (hd : decode cc pc = .ok (.astore_n k, 1)) (hi : (k : Nat) = i) (hb0 : i < nL) (hn : pc + 1 = nx) : ci_ok y cc nL pc (ci_store 2 i nx) := by
  subst hn
  refine ci_store_ok (fun p l e R s m args below meth c H locs cells slots Q ls rest x lv hx hb hk hl k => ?_)
  cases x with
  | ref a => exact lv_astore_n hx hb hd hi hl hb0 rfl k
  | null => exact lv_astore_nN hx hb hd hi hl hb0 rfl k
  | _ => cases hk
theorem cr_astore {i : Nat} (hd : decode cc pc = .ok (.astore i, 2)) (hb0 : i < nL) (hn : pc + 2 = nx) : ci_ok y cc nL pc (ci_store 2 i nx) := by
  subst hn
  refine ci_store_ok (fun p l e R s m args below meth c H locs cells slots Q ls rest x lv hx hb hk hl k => ?_)
  cases x with
  | ref a => exact lv_astore hx hb hd hl hb0 rfl k
  | null => exact lv_astoreN hx hb hd hl hb0 rfl k
  | _ => cases hk
theorem cr_lstore {i : Nat} (hd : decode cc pc = .ok (.lstore i, 2)) (hb0 : i + 1 < nL) (hn : pc + 2 = nx) : ci_ok y cc nL pc (ci_storel i nx) := by
  subst hn
  exact ci_storel_ok (fun p l e R s m args below meth c H locs cells slots Q ls rest x lv hx hb hl k => lv_lstore hx hb hd hl hb0 rfl k)
theorem cr_lstore_n {k : Fin 4} {i : Nat} (hd : decode cc pc = .ok (.lstore_n k, 1)) (hi : (k : Nat) = i) (hb0 : i + 1 < nL) (hn : pc + 1 = nx) : ci_ok y cc nL pc (ci_storel i nx) := by
  subst hn
  exact ci_storel_ok (fun p l e R s m args below meth c H locs cells slots Q ls rest x lv hx hb hl k => lv_lstore_n hx hb hd hi hl hb0 rfl k)
theorem cr_iconst {n : Int} (hd : decode cc pc = .ok (.iconst n, 1)) (hn : pc + 1 = nx) : ci_ok y cc nL pc (ci_push (.int (Int32.ofInt n)) nx) := by
  subst hn
  exact ci_push_ok (fun _ _ => rfl) (fun p l e R s m args below meth c H locs cells slots Q ls rest hx hb k => lv_iconst hx hb hd rfl k)
theorem cr_bipush {n : Int} {v : Int32} (hd : decode cc pc = .ok (.bipush n, 2)) (hv : (Int8.ofInt n).toInt32 = v) (hn : pc + 2 = nx) : ci_ok y cc nL pc (ci_push (.int v) nx) := by
  subst hn
  exact ci_push_ok (fun _ _ => rfl) (fun p l e R s m args below meth c H locs cells slots Q ls rest hx hb k => lv_bipush hx hb hd hv k)
theorem cr_sipush {n : Int} {v : Int32} (hd : decode cc pc = .ok (.sipush n, 3)) (hv : (Int16.ofInt n).toInt32 = v) (hn : pc + 3 = nx) : ci_ok y cc nL pc (ci_push (.int v) nx) := by
  subst hn
  exact ci_push_ok (fun _ _ => rfl) (fun p l e R s m args below meth c H locs cells slots Q ls rest hx hb k => lv_sipush hx hb hd hv k)
theorem cr_lconst {n : Fin 2} {v : Int64} (hd : decode cc pc = .ok (.lconst n, 1)) (hv : Int64.ofNat (n : Nat) = v) (hn : pc + 1 = nx) : ci_ok y cc nL pc (ci_push (.long v) nx) := by
  subst hn
  exact ci_push_ok (fun _ _ => rfl) (fun p l e R s m args below meth c H locs cells slots Q ls rest hx hb k => lv_lconst hx hb hd hv k)
theorem cr_null (hd : decode cc pc = .ok (.aconst_null, 1)) (hn : pc + 1 = nx) : ci_ok y cc nL pc (ci_push .null nx) := by
  subst hn
  exact ci_push_ok (fun _ _ => rfl) (fun p l e R s m args below meth c H locs cells slots Q ls rest hx hb k => lv_null hx hb hd k)
theorem cr_pool {v : Value} (hv : ∀ b ads, ci_t b ads v = v) (hr : ∀ (p : Program) (l : Launch) (e : Env) (R : Room) (s : State) (m : MethodId) (args : Array Value) (below : List Frame) (meth : Method) (c : Code) (H : Heap) (locs : List Loc) (cells slots : Nat) (Q : State → Prop) (ls : Array Slot) (rest : List Value), p.tables.exec = Jvm.exec → c.code = cc → s.vm.findClass y.cls = some m.cls → (∀ w ∈ zi_G, w.before args s = true) →
    W p l e R s m args below meth c H locs cells slots Q (F0 m nx ls (v :: rest)) → W p l e R s m args below meth c H locs cells slots Q (F0 m pc ls rest)) : ci_ok y cc nL pc (ci_push v nx) := by
  intro p l e R s m args below meth c D A b d ads tys X st pc' st' hf Q H locs cells slots ls sk hR k
  obtain ⟨lc, stk, w⟩ := st
  obtain ⟨ws, hl, rfl, hw⟩ := hR
  cases hf
  exact hr p l e R s m args below meth c H locs cells slots Q ls _ X.1 X.2.1 X.2.2.2.1 X.2.2.2.2.1 (k _ _ _ _ ⟨ws, hl, by show _ = List.map _ (v :: stk); rw [List.map_cons, hv], hw⟩)
theorem cr_ldc_w {i : Nat} {v : Int32} (hl : Cond.constant y.cls i v ∈ zi_G) (hd : decode cc pc = .ok (.ldc_w i, 3)) (hn : pc + 3 = nx) : ci_ok y cc nL pc (ci_push (.int v) nx) := by
  subst hn
  exact cr_pool (fun _ _ => rfl) (fun p l e R s m args below meth c H locs cells slots Q ls rest hx hb ho ht k => lv_ldcw hx hb ho (ht _ hl) hd k)
theorem cr_ldc2 {i : Nat} {v : Int64} (hl : Cond.constantLong y.cls i v ∈ zi_G) (hd : decode cc pc = .ok (.ldc2_w i, 3)) (hn : pc + 3 = nx) : ci_ok y cc nL pc (ci_push (.long v) nx) := by
  subst hn
  exact cr_pool (fun _ _ => rfl) (fun p l e R s m args below meth c H locs cells slots Q ls rest hx hb ho ht k => lv_ldc2 hx hb ho (ht _ hl) hd k)
/-- two ints, one int -/
theorem cr_bin {g : Int32 → Int32 → Int32} (hr : ∀ x y : Int32, zi_row cc pc nx [.int y, .int x] [.int (g x y)]) : ci_ok y cc nL pc (ci_bin g nx) := by
  refine ci_stk_ok (fun lc sk w r h => ?_)
  unfold ci_bin at h
  split at h
  · rename_i lc2 y2 x2 t w2 heq
    cases heq
    cases h
    exact ⟨[.int y2, .int x2], [.int (g x2 y2)], t, nx, rfl, rfl, fun _ _ => ⟨rfl, rfl⟩, hr x2 y2⟩
  · cases h
theorem cr_dv {g : Int32 → Int32 → Int32} (hr : ∀ x y : Int32, ¬ y = 0 → zi_row cc pc nx [.int y, .int x] [.int (g x y)]) : ci_ok y cc nL pc (ci_dv g nx) := by
  refine ci_stk_ok (fun lc sk w r h => ?_)
  unfold ci_dv at h
  split at h
  · rename_i lc2 y2 x2 t w2 heq
    cases heq
    split at h
    · cases h
    · rename_i h0
      cases h
      exact ⟨[.int y2, .int x2], [.int (g x2 y2)], t, nx, rfl, rfl, fun _ _ => ⟨rfl, rfl⟩, hr x2 y2 h0⟩
  · cases h
theorem cr_binl {g : Int64 → Int64 → Int64} (hr : ∀ x y : Int64, zi_row cc pc nx [.long y, .long x] [.long (g x y)]) : ci_ok y cc nL pc (ci_binl g nx) := by
  refine ci_stk_ok (fun lc sk w r h => ?_)
  unfold ci_binl at h
  split at h
  · rename_i lc2 y2 x2 t w2 heq
    cases heq
    cases h
    exact ⟨[.long y2, .long x2], [.long (g x2 y2)], t, nx, rfl, rfl, fun _ _ => ⟨rfl, rfl⟩, hr x2 y2⟩
  · cases h
theorem cr_dvl {g : Int64 → Int64 → Int64} (hr : ∀ x y : Int64, ¬ y = 0 → zi_row cc pc nx [.long y, .long x] [.long (g x y)]) : ci_ok y cc nL pc (ci_dvl g nx) := by
  refine ci_stk_ok (fun lc sk w r h => ?_)
  unfold ci_dvl at h
  split at h
  · rename_i lc2 y2 x2 t w2 heq
    cases heq
    split at h
    · cases h
    · rename_i h0
      cases h
      exact ⟨[.long y2, .long x2], [.long (g x2 y2)], t, nx, rfl, rfl, fun _ _ => ⟨rfl, rfl⟩, hr x2 y2 h0⟩
  · cases h
theorem cr_shfl {g : Int64 → Int32 → Int64} (hr : ∀ (x : Int64) (y : Int32), zi_row cc pc nx [.int y, .long x] [.long (g x y)]) : ci_ok y cc nL pc (ci_shfl g nx) := by
  refine ci_stk_ok (fun lc sk w r h => ?_)
  unfold ci_shfl at h
  split at h
  · rename_i lc2 y2 x2 t w2 heq
    cases heq
    cases h
    exact ⟨[.int y2, .long x2], [.long (g x2 y2)], t, nx, rfl, rfl, fun _ _ => ⟨rfl, rfl⟩, hr x2 y2⟩
  · cases h
theorem cr_lcmp (hd : decode cc pc = .ok (.lcmp, 1)) (hn : pc + 1 = nx) : ci_ok y cc nL pc (ci_lcmp nx) := by
  subst hn
  refine ci_stk_ok (fun lc sk w r h => ?_)
  unfold ci_lcmp at h
  split at h
  · rename_i lc2 y2 x2 t w2 heq
    cases heq
    cases h
    exact ⟨[.long y2, .long x2], [.int (lg_cmp x2 y2)], t, _, rfl, rfl, fun _ _ => ⟨rfl, rfl⟩, fun p l e R s m args below meth c H locs cells slots Q ls rest hx hb k => W.lcmp hx hb hd k⟩
  · cases h
theorem cr_i2l (hd : decode cc pc = .ok (.i2l, 1)) (hn : pc + 1 = nx) : ci_ok y cc nL pc (ci_i2l nx) := by
  subst hn
  refine ci_stk_ok (fun lc sk w r h => ?_)
  unfold ci_i2l at h
  split at h
  · rename_i lc2 x2 t w2 heq
    cases heq
    cases h
    exact ⟨[.int x2], [.long x2.toInt64], t, _, rfl, rfl, fun _ _ => ⟨rfl, rfl⟩, fun p l e R s m args below meth c H locs cells slots Q ls rest hx hb k => lv_i2l hx hb hd rfl k⟩
  · cases h
theorem cr_l2i (hd : decode cc pc = .ok (.l2i, 1)) (hn : pc + 1 = nx) : ci_ok y cc nL pc (ci_l2i nx) := by
  subst hn
  refine ci_stk_ok (fun lc sk w r h => ?_)
  unfold ci_l2i at h
  split at h
  · rename_i lc2 x2 t w2 heq
    cases heq
    cases h
    exact ⟨[.long x2], [.int x2.toInt32], t, _, rfl, rfl, fun _ _ => ⟨rfl, rfl⟩, fun p l e R s m args below meth c H locs cells slots Q ls rest hx hb k => lv_l2i hx hb hd rfl k⟩
  · cases h
theorem cr_un {g : Int32 → Int32} (hr : ∀ x : Int32, zi_row cc pc nx [.int x] [.int (g x)]) : ci_ok y cc nL pc (ci_un g nx) := by
  refine ci_stk_ok (fun lc sk w r h => ?_)
  unfold ci_un at h
  split at h
  · rename_i lc2 x2 t w2 heq
    cases heq
    cases h
    exact ⟨[.int x2], [.int (g x2)], t, nx, rfl, rfl, fun _ _ => ⟨rfl, rfl⟩, hr x2⟩
  · cases h
/-- branches -/
theorem cr_if {g : Int32 → Bool} {tg : Nat} (hr : ∀ (p : Program) (l : Launch) (e : Env) (R : Room) (s : State) (m : MethodId) (args : Array Value) (below : List Frame) (meth : Method) (c : Code) (H : Heap) (locs : List Loc) (cells slots : Nat) (Q : State → Prop) (ls : Array Slot) (rest : List Value) (x : Int32), p.tables.exec = Jvm.exec → c.code = cc →
      (g x = true → W p l e R s m args below meth c H locs cells slots Q (F0 m tg ls rest)) → (g x = false → W p l e R s m args below meth c H locs cells slots Q (F0 m nx ls rest)) → W p l e R s m args below meth c H locs cells slots Q (F0 m pc ls (.int x :: rest))) : ci_ok y cc nL pc (ci_if g tg nx) := by
  refine ci_stk_ok (fun lc sk w r h => ?_)
  unfold ci_if at h
  split at h
  · rename_i lc2 x2 t w2 heq
    cases heq
    cases h
    refine ⟨[.int x2], [], t, _, rfl, rfl, fun _ _ => ⟨rfl, rfl⟩, fun p l e R s m args below meth c H locs cells slots Q ls rest hx hb k => ?_⟩
    refine hr p l e R s m args below meth c H locs cells slots Q ls rest x2 hx hb (fun q => ?_) (fun q => ?_)
    · rw [q] at k; exact k
    · rw [q] at k; exact k
  · cases h
theorem cr_ic {g : Int32 → Int32 → Bool} {tg : Nat} (hr : ∀ (p : Program) (l : Launch) (e : Env) (R : Room) (s : State) (m : MethodId) (args : Array Value) (below : List Frame) (meth : Method) (c : Code) (H : Heap) (locs : List Loc) (cells slots : Nat) (Q : State → Prop) (ls : Array Slot) (rest : List Value) (x y : Int32), p.tables.exec = Jvm.exec → c.code = cc →
      (g x y = true → W p l e R s m args below meth c H locs cells slots Q (F0 m tg ls rest)) → (g x y = false → W p l e R s m args below meth c H locs cells slots Q (F0 m nx ls rest)) → W p l e R s m args below meth c H locs cells slots Q (F0 m pc ls (.int y :: .int x :: rest))) : ci_ok y cc nL pc (ci_ic g tg nx) := by
  refine ci_stk_ok (fun lc sk w r h => ?_)
  unfold ci_ic at h
  split at h
  · rename_i lc2 y2 x2 t w2 heq
    cases heq
    cases h
    refine ⟨[.int y2, .int x2], [], t, _, rfl, rfl, fun _ _ => ⟨rfl, rfl⟩, fun p l e R s m args below meth c H locs cells slots Q ls rest hx hb k => ?_⟩
    refine hr p l e R s m args below meth c H locs cells slots Q ls rest x2 y2 hx hb (fun q => ?_) (fun q => ?_)
    · rw [q] at k; exact k
    · rw [q] at k; exact k
  · cases h
theorem cr_if_eq {off : Int} {tg : Nat} (hd : decode cc pc = .ok (.ifCond .eq off, 3)) (ht : (pc : Int) + off = (tg : Int)) (hn : pc + 3 = nx) : ci_ok y cc nL pc (ci_if (fun x => decide (x = 0)) tg nx) := by
  subst hn
  exact cr_if (fun p l e R s m args below meth c H locs cells slots Q ls rest x hx hb k1 k2 => lv_if_eq hx hb hd ht (fun h => k1 (decide_eq_true h)) (fun h => k2 (decide_eq_false h)))
theorem cr_if_ne {off : Int} {tg : Nat} (hd : decode cc pc = .ok (.ifCond .ne off, 3)) (ht : (pc : Int) + off = (tg : Int)) (hn : pc + 3 = nx) : ci_ok y cc nL pc (ci_if (fun x => !decide (x = 0)) tg nx) := by
  subst hn
  exact cr_if (fun p l e R s m args below meth c H locs cells slots Q ls rest x hx hb k1 k2 => lv_if_ne hx hb hd ht (fun h => k1 (by rw [decide_eq_false h]; rfl)) (fun h => k2 (by rw [decide_eq_true h]; rfl)))
theorem cr_if_lt {off : Int} {tg : Nat} (hd : decode cc pc = .ok (.ifCond .lt off, 3)) (ht : (pc : Int) + off = (tg : Int)) (hn : pc + 3 = nx) : ci_ok y cc nL pc (ci_if (fun x => decide (x < 0)) tg nx) := by
  subst hn
  exact cr_if (fun p l e R s m args below meth c H locs cells slots Q ls rest x hx hb k1 k2 => lv_if_lt hx hb hd ht (fun h => k1 (decide_eq_true h)) (fun h => k2 (decide_eq_false h)))
theorem cr_if_ge {off : Int} {tg : Nat} (hd : decode cc pc = .ok (.ifCond .ge off, 3)) (ht : (pc : Int) + off = (tg : Int)) (hn : pc + 3 = nx) : ci_ok y cc nL pc (ci_if (fun x => decide (0 ≤ x)) tg nx) := by
  subst hn
  exact cr_if (fun p l e R s m args below meth c H locs cells slots Q ls rest x hx hb k1 k2 => lv_if_ge hx hb hd ht (fun h => k1 (decide_eq_true h)) (fun h => k2 (decide_eq_false h)))
theorem cr_if_le {off : Int} {tg : Nat} (hd : decode cc pc = .ok (.ifCond .le off, 3)) (ht : (pc : Int) + off = (tg : Int)) (hn : pc + 3 = nx) : ci_ok y cc nL pc (ci_if (fun x => decide (x ≤ 0)) tg nx) := by
  subst hn
  exact cr_if (fun p l e R s m args below meth c H locs cells slots Q ls rest x hx hb k1 k2 => lv_if_le hx hb hd ht (fun h => k1 (decide_eq_true h)) (fun h => k2 (decide_eq_false h)))
theorem cr_if_gt {off : Int} {tg : Nat} (hd : decode cc pc = .ok (.ifCond .gt off, 3)) (ht : (pc : Int) + off = (tg : Int)) (hn : pc + 3 = nx) : ci_ok y cc nL pc (ci_if (fun x => decide (0 < x)) tg nx) := by
  subst hn
  exact cr_if (fun p l e R s m args below meth c H locs cells slots Q ls rest x hx hb k1 k2 => lv_if_gt hx hb hd ht (fun h => k1 (decide_eq_true h)) (fun h => k2 (decide_eq_false h)))
theorem cr_ic_eq {off : Int} {tg : Nat} (hd : decode cc pc = .ok (.if_icmp .eq off, 3)) (ht : (pc : Int) + off = (tg : Int)) (hn : pc + 3 = nx) : ci_ok y cc nL pc (ci_ic (fun x y => decide (x = y)) tg nx) := by
  subst hn
  exact cr_ic (fun p l e R s m args below meth c H locs cells slots Q ls rest x y hx hb k1 k2 => lv_icmp_eq hx hb hd ht (fun h => k1 (decide_eq_true h)) (fun h => k2 (decide_eq_false h)))
theorem cr_ic_ne {off : Int} {tg : Nat} (hd : decode cc pc = .ok (.if_icmp .ne off, 3)) (ht : (pc : Int) + off = (tg : Int)) (hn : pc + 3 = nx) : ci_ok y cc nL pc (ci_ic (fun x y => !decide (x = y)) tg nx) := by
  subst hn
  exact cr_ic (fun p l e R s m args below meth c H locs cells slots Q ls rest x y hx hb k1 k2 => lv_icmp_ne hx hb hd ht (fun h => k1 (by rw [decide_eq_false h]; rfl)) (fun h => k2 (by rw [decide_eq_true h]; rfl)))
theorem cr_ic_lt {off : Int} {tg : Nat} (hd : decode cc pc = .ok (.if_icmp .lt off, 3)) (ht : (pc : Int) + off = (tg : Int)) (hn : pc + 3 = nx) : ci_ok y cc nL pc (ci_ic (fun x y => decide (x < y)) tg nx) := by
  subst hn
  exact cr_ic (fun p l e R s m args below meth c H locs cells slots Q ls rest x y hx hb k1 k2 => lv_icmp_lt hx hb hd ht (fun h => k1 (decide_eq_true h)) (fun h => k2 (decide_eq_false h)))
theorem cr_ic_ge {off : Int} {tg : Nat} (hd : decode cc pc = .ok (.if_icmp .ge off, 3)) (ht : (pc : Int) + off = (tg : Int)) (hn : pc + 3 = nx) : ci_ok y cc nL pc (ci_ic (fun x y => decide (y ≤ x)) tg nx) := by
  subst hn
  exact cr_ic (fun p l e R s m args below meth c H locs cells slots Q ls rest x y hx hb k1 k2 => lv_icmp_ge hx hb hd ht (fun h => k1 (decide_eq_true h)) (fun h => k2 (decide_eq_false h)))
theorem cr_ic_le {off : Int} {tg : Nat} (hd : decode cc pc = .ok (.if_icmp .le off, 3)) (ht : (pc : Int) + off = (tg : Int)) (hn : pc + 3 = nx) : ci_ok y cc nL pc (ci_ic (fun x y => decide (x ≤ y)) tg nx) := by
  subst hn
  exact cr_ic (fun p l e R s m args below meth c H locs cells slots Q ls rest x y hx hb k1 k2 => lv_icmp_le hx hb hd ht (fun h => k1 (decide_eq_true h)) (fun h => k2 (decide_eq_false h)))
theorem cr_ic_gt {off : Int} {tg : Nat} (hd : decode cc pc = .ok (.if_icmp .gt off, 3)) (ht : (pc : Int) + off = (tg : Int)) (hn : pc + 3 = nx) : ci_ok y cc nL pc (ci_ic (fun x y => decide (y < x)) tg nx) := by
  subst hn
  exact cr_ic (fun p l e R s m args below meth c H locs cells slots Q ls rest x y hx hb k1 k2 => lv_icmp_gt hx hb hd ht (fun h => k1 (decide_eq_true h)) (fun h => k2 (decide_eq_false h)))
theorem cr_goto {off : Int} {tg : Nat} (hd : decode cc pc = .ok (.goto off, 3)) (ht : (pc : Int) + off = (tg : Int)) : ci_ok y cc nL pc (ci_go tg) := by
  intro p l e R s m args below meth c D A b d ads tys X st pc' st' hf Q H locs cells slots ls sk hR k
  cases hf
  exact lv_goto X.1 X.2.1 hd ht (k _ _ _ _ hR)
theorem cr_ifnull {off : Int} {tg : Nat} (hd : decode cc pc = .ok (.ifnull off, 3)) (ht : (pc : Int) + off = (tg : Int)) (hn : pc + 3 = nx) : ci_ok y cc nL pc (ci_null tg nx) := by
  subst hn
  intro p l e R s m args below meth c D A b d ads tys X st pc' st' hf Q H locs cells slots ls sk hR k
  obtain ⟨lc, stk, w⟩ := st
  obtain ⟨ws, hl, rfl, hw⟩ := hR
  unfold ci_null at hf
  split at hf
  · rename_i lc2 t w2 heq
    cases heq
    cases hf
    exact lv_ifnullN X.1 X.2.1 hd ht (k _ _ _ _ ⟨ws, hl, rfl, hw⟩)
  · rename_i lc2 q t w2 heq
    cases heq
    cases hf
    cases q <;> exact lv_ifnull X.1 X.2.1 hd (k _ _ _ _ ⟨ws, hl, rfl, hw⟩)
  · cases hf
theorem cr_ifnonnull {off : Int} {tg : Nat} (hd : decode cc pc = .ok (.ifnonnull off, 3)) (ht : (pc : Int) + off = (tg : Int)) (hn : pc + 3 = nx) : ci_ok y cc nL pc (ci_null nx tg) := by
  subst hn
  intro p l e R s m args below meth c D A b d ads tys X st pc' st' hf Q H locs cells slots ls sk hR k
  obtain ⟨lc, stk, w⟩ := st
  obtain ⟨ws, hl, rfl, hw⟩ := hR
  unfold ci_null at hf
  split at hf
  · rename_i lc2 t w2 heq
    cases heq
    cases hf
    exact lv_ifnonnullN X.1 X.2.1 hd (k _ _ _ _ ⟨ws, hl, rfl, hw⟩)
  · rename_i lc2 q t w2 heq
    cases heq
    cases hf
    cases q <;> exact lv_ifnonnull X.1 X.2.1 hd ht (k _ _ _ _ ⟨ws, hl, rfl, hw⟩)
  · cases hf
theorem cr_tsw {dflt lo hi : Int} {offs : Array Int} {len df : Nat} {ts : List Nat} (hd : decode cc pc = .ok (.tableswitch dflt lo hi offs, len)) (h3 : (pc : Int) + dflt = (df : Int)) (h4 : offs.toList.map (fun o => (pc : Int) + o) = ts.map (fun (t : Nat) => (t : Int))) : ci_ok y cc nL pc (ci_tsw lo hi ts df) := by
  refine ci_stk_ok (fun lc sk w r h => ?_)
  unfold ci_tsw at h
  split at h
  · rename_i lc2 x2 t w2 heq
    cases heq
    split at h
    · rename_i hout
      cases h
      exact ⟨[.int x2], [], t, _, rfl, rfl, fun _ _ => ⟨rfl, rfl⟩, fun p l e R s m args below meth c H locs cells slots Q ls rest hx hb k => lv_tableOut hx hb hd hout h3 k⟩
    · rename_i hin
      cases g5 : ts[(x2.toInt - lo).toNat]? with
      | none => rw [g5] at h; cases h
      | some tg =>
        rw [g5] at h
        have h5 : (offs.toList.map (fun o => (pc : Int) + o))[(x2.toInt - lo).toNat]? = some (tg : Int) := by rw [h4, List.getElem?_map, g5]; rfl
        rw [List.getElem?_map] at h5
        cases h6 : offs.toList[(x2.toInt - lo).toNat]? with
        | none => rw [h6] at h5; cases h5
        | some o =>
          rw [h6] at h5
          have h7 : (pc : Int) + o = (tg : Int) := Option.some.inj h5
          cases h
          exact ⟨[.int x2], [], t, _, rfl, rfl, fun _ _ => ⟨rfl, rfl⟩, fun p l e R s m args below meth c H locs cells slots Q ls rest hx hb k => lv_tableIn (off := o) hx hb hd (fun q => hin (Or.inl q)) (fun q => hin (Or.inr q)) (by rw [← Array.getElem?_toList]; exact h6) h7 k⟩
  · cases h
theorem cr_dup (hd : decode cc pc = .ok (.dup, 1)) (hn : pc + 1 = nx) : ci_ok y cc nL pc (ci_dup nx) := by
  subst hn
  intro p l e R s m args below meth c D A b d ads tys X st pc' st' hf Q H locs cells slots ls sk hR k
  obtain ⟨lc, stk, w⟩ := st
  obtain ⟨ws, hl, rfl, hw⟩ := hR
  unfold ci_dup at hf
  match stk, hf with
  | [], hf => cases hf
  | a :: t, hf =>
    dsimp only at hf
    cases g1 : Nat.beq a.category 1 with
    | false => rw [g1] at hf; cases hf
    | true =>
      rw [g1] at hf
      cases hf
      exact lv_dup X.1 X.2.1 hd ((ci_t_cat b ads a).trans (Nat.eq_of_beq_eq_true g1)) (k _ _ _ _ ⟨ws, hl, rfl, hw⟩)
theorem cr_dup2 (hd : decode cc pc = .ok (.dup2, 1)) (hn : pc + 1 = nx) : ci_ok y cc nL pc (ci_dup2 nx) := by
  subst hn
  intro p l e R s m args below meth c D A b d ads tys X st pc' st' hf Q H locs cells slots ls sk hR k
  obtain ⟨lc, stk, w⟩ := st
  obtain ⟨ws, hl, rfl, hw⟩ := hR
  unfold ci_dup2 at hf
  match stk, hf with
  | [], hf => cases hf
  | [_], hf => cases hf
  | a :: a2 :: t, hf =>
    dsimp only at hf
    cases g1 : (Nat.beq a.category 1 && Nat.beq a2.category 1) with
    | false => rw [g1] at hf; cases hf
    | true =>
      rw [g1] at hf
      cases hf
      obtain ⟨q1, q2⟩ := Bool.and_eq_true_iff.mp g1
      exact lv_dup2_11 X.1 X.2.1 hd ((ci_t_cat b ads a).trans (Nat.eq_of_beq_eq_true q1)) ((ci_t_cat b ads a2).trans (Nat.eq_of_beq_eq_true q2)) (k _ _ _ _ ⟨ws, hl, rfl, hw⟩)
theorem cr_pop (hd : decode cc pc = .ok (.pop, 1)) (hn : pc + 1 = nx) : ci_ok y cc nL pc (ci_popp nx) := by
  subst hn
  intro p l e R s m args below meth c D A b d ads tys X st pc' st' hf Q H locs cells slots ls sk hR k
  obtain ⟨lc, stk, w⟩ := st
  obtain ⟨ws, hl, rfl, hw⟩ := hR
  unfold ci_popp at hf
  match stk, hf with
  | [], hf => cases hf
  | a :: t, hf =>
    dsimp only at hf
    cases g1 : Nat.beq a.category 1 with
    | false => rw [g1] at hf; cases hf
    | true =>
      rw [g1] at hf
      cases hf
      exact lv_pop X.1 X.2.1 hd ((ci_t_cat b ads a).trans (Nat.eq_of_beq_eq_true g1)) (k _ _ _ _ ⟨ws, hl, rfl, hw⟩)
end CIns
end
section
/-! cells, in the pure walk -/
section CHeap
variable {y : MethodName} {cc : ByteArray} {nL pc nx : Nat}
theorem ci_clamp {i : Int32} : i.toNatClampNeg = i.toInt.toNat := rfl
theorem ci_vin {i : Int32} {n : Nat} (h1 : 0 ≤ i.toInt) (h2 : i.toInt < (n : Int)) : vp_in i n := by
  unfold vp_in
  intro q
  rcases q with q | q
  · have := Int32.lt_iff_toInt_lt.mp q
    have e0 : (0 : Int32).toInt = 0 := rfl
    omega
  · rw [ci_clamp] at q
    omega
theorem cr_getf {ci k idx N : Nat} {C : String} {T : u_T} {ty0 : Nat → FieldType} (hc : zi_cls ci C T N ty0) (hk : k < N) (hl : Cond.fieldLink y.cls idx (T k).1 (T k).2.1 (T k).2.2.1 ∈ zi_G) (hd : decode cc pc = .ok (.getfield idx, 3)) (hn : pc + 3 = nx) : ci_ok y cc nL pc (ci_getf ci k nx) := by
  subst hn
  intro p l e R s m args below meth c D A b d ads tys X st pc' st' hf Q H locs cells slots ls sk hR kk
  obtain ⟨lc, stk, w⟩ := st
  obtain ⟨ws, hlv, rfl, hw⟩ := hR
  unfold ci_getf at hf
  split at hf
  · rename_i lc2 q t w2 heq
    cases heq
    split at hf
    · rename_i c' vs hwq
      cases h2 : Nat.beq c' ci with
      | false => rw [h2] at hf; cases hf
      | true =>
        rw [h2] at hf
        dsimp only [cond_true] at hf
        have h2 := Nat.eq_of_beq_eq_true h2
        cases h3 : vs[k]? with
        | none => rw [h3] at hf; cases hf
        | some v =>
          rw [h3] at hf
          cases hf
          obtain ⟨a, e0, he, hg, hta⟩ := hw.1.ref hwq
          have e1 : e0 = .inr (c', vs.map (ci_t b ads)) := hg
          rw [e1, h2] at he
          dsimp only
          rw [List.map_cons, hta]
          exact va_get X.1 X.2.1 X.2.2.2.2.1 hc.2.1 X.2.2.2.1 hw.2.2.2.1 hw.2.1 q he hc.1 k hk (X.2.2.2.2.1 _ hl) (fun _ h => h) (v := ci_t b ads v) (by rw [List.getElem?_map, h3]; rfl) hd (kk _ _ _ _ ⟨ws, hlv, rfl, hw⟩)
    · cases hf
  · cases hf
theorem ci_fit_ok {ty : FieldType} {v : Value} (b : Nat) (ads : List Nat) (h : ci_fit ty v = true) : narrow ty (ci_t b ads v) = ci_t b ads v ∧ fits ty (ci_t b ads v) = true := by
  unfold ci_fit at h
  split at h
  · exact ⟨rfl, rfl⟩
  · rename_i x
    have h01 : x = 0 ∨ x = 1 := by
      rcases Bool.or_eq_true_iff.mp h with h | h
      · exact Or.inl (eq_of_beq h)
      · exact Or.inr (eq_of_beq h)
    rcases h01 with rfl | rfl
    · show narrow .boolean (.int 0) = .int 0 ∧ fits .boolean (.int 0) = true
      exact ⟨by decide, by decide⟩
    · show narrow .boolean (.int 1) = .int 1 ∧ fits .boolean (.int 1) = true
      exact ⟨by decide, by decide⟩
  · rename_i q; cases q <;> exact ⟨rfl, rfl⟩
  · exact ⟨rfl, rfl⟩
  · rename_i q; cases q <;> exact ⟨rfl, rfl⟩
  · exact ⟨rfl, rfl⟩
  · cases h
theorem cr_putf {ci k idx N : Nat} {C : String} {T : u_T} {ty0 : Nat → FieldType} {ty : FieldType} (hc : zi_cls ci C T N ty0) (hk : k < N) (hty : parseFieldDescriptor (T k).2.2.1 = some ty) (hfin : (T k).2.2.2 = false) (hl : Cond.fieldLink y.cls idx (T k).1 (T k).2.1 (T k).2.2.1 ∈ zi_G) (hd : decode cc pc = .ok (.putfield idx, 3)) (hn : pc + 3 = nx) : ci_ok y cc nL pc (ci_putf ci k ty nx) := by
  subst hn
  intro p l e R s m args below meth c D A b d ads tys X st pc' st' hf Q H locs cells slots ls sk hR kk
  obtain ⟨lc, stk, w⟩ := st
  obtain ⟨ws, hlv, rfl, hw⟩ := hR
  unfold ci_putf at hf
  split at hf
  · rename_i lc2 v q t w2 heq
    cases heq
    split at hf
    · rename_i c' vs hwq
      cases h2 : (Nat.beq c' ci && (ci_fit ty v && Nat.blt k vs.length)) with
      | false => rw [h2] at hf; cases hf
      | true =>
        rw [h2] at hf
        cases hf
        obtain ⟨q1, q2⟩ := Bool.and_eq_true_iff.mp h2
        obtain ⟨q2, q3⟩ := Bool.and_eq_true_iff.mp q2
        have q1 := Nat.eq_of_beq_eq_true q1
        have q3 : k < vs.length := Nat.le_of_ble_eq_true q3
        obtain ⟨a, e0, he, hg, hta⟩ := hw.1.ref hwq
        have e1 : e0 = .inr (c', vs.map (ci_t b ads)) := hg
        rw [e1, q1] at he
        obtain ⟨f1, f2⟩ := ci_fit_ok b ads q2
        obtain ⟨w1, w2', w3, w4, w5⟩ := hw
        dsimp only
        rw [List.map_cons, List.map_cons, hta]
        refine va_put X.1 X.2.1 X.2.2.2.2.1 hc.2.1 ty0 hc.2.2.1 hc.2.2.2 X.2.2.2.1 w4 w2' w3 w5 q he hc.1 k hk (X.2.2.2.2.1 _ hl) (fun _ h => h) hfin hty f1 f2 (by rw [List.length_map]; exact q3) hd ?_
        intro H1 locs1 hP hD hS
        exact kk _ _ _ _ ⟨_, hlv, rfl, w1.set he (by show _ = _; rw [q1, List.map_set]), hP, hD, w4, hS⟩
    · cases hf
  · cases hf
theorem cr_ald {ty : FieldType} {ins : Instr} (hn : pc + 1 = nx) (hd : decode cc pc = .ok (ins, 1)) (hi : (ty = .int ∧ ins = .iaload) ∨ (ty = .byte ∧ ins = .baload) ∨ (ty = .boolean ∧ ins = .baload)) : ci_ok y cc nL pc (ci_ald ty nx) := by
  subst hn
  intro p l e R s m args below meth c D A b d ads tys X st pc' st' hf Q H locs cells slots ls sk hR kk
  obtain ⟨lc, stk, w⟩ := st
  obtain ⟨ws, hlv, rfl, hw⟩ := hR
  unfold ci_ald at hf
  split at hf
  · rename_i lc2 i q t w2 heq
    cases heq
    split at hf
    · rename_i t' n f hwq
      split at hf
      · rename_i hcond
        obtain ⟨h1, h2, h3⟩ := hcond
        cases hf
        obtain ⟨a, e0, he, hg, hta⟩ := hw.1.ref hwq
        obtain ⟨cA, t0, e1, e2⟩ := hg
        dsimp only at e1
        subst e1
        rw [h1] at e2
        dsimp only
        rw [List.map_cons, List.map_cons, hta]
        have hv := ci_vin h2 h3
        have fin : W p l e R s m args below meth c H locs cells slots Q (F0 m (pc + 1) ls (.int (f i.toNatClampNeg) :: t.map (ci_t b ads))) := kk _ _ _ _ ⟨ws, hlv, rfl, hw⟩
        rcases hi with ⟨rfl, rfl⟩ | ⟨rfl, rfl⟩ | ⟨rfl, rfl⟩
        · exact va_iald X.1 X.2.1 hw.2.2.2.1 hw.2.1 q t0 he e2 hv hd fin
        · exact va_bald X.1 X.2.1 hw.2.2.2.1 hw.2.1 q t0 he e2 hv hd fin
        · exact va_zald X.1 X.2.1 hw.2.2.2.1 hw.2.1 q t0 he e2 hv hd fin
      · cases hf
    · cases hf
  · cases hf
theorem ci_nar {ty : FieldType} {x : Int32} (h : ci_afit ty x = true) : (ty = .byte → vp_nar .byte x = x) ∧ (ty = .boolean → vp_nar .boolean x = x) := by
  constructor
  · intro q
    subst q
    have h := of_decide_eq_true (show decide (-128 ≤ x.toInt ∧ x.toInt ≤ 127) = true from h)
    show x.toInt8.toInt32 = x
    apply Int32.toInt_inj.mp
    rw [Int8.toInt_toInt32, Int32.toInt_toInt8]
    exact Int.bmod_eq_of_le (by omega) (by omega)
  · intro q
    subst q
    have h01 : x = 0 ∨ x = 1 := by
      rcases Bool.or_eq_true_iff.mp (show (x == 0 || x == 1) = true from h) with h | h
      · exact Or.inl (eq_of_beq h)
      · exact Or.inr (eq_of_beq h)
    rcases h01 with rfl | rfl
    · decide
    · decide
theorem cr_ast {ty : FieldType} {ins : Instr} (hn : pc + 1 = nx) (hd : decode cc pc = .ok (ins, 1)) (hi : (ty = .int ∧ ins = .iastore) ∨ (ty = .byte ∧ ins = .bastore) ∨ (ty = .boolean ∧ ins = .bastore)) : ci_ok y cc nL pc (ci_ast ty nx) := by
  subst hn
  intro p l e R s m args below meth c D A b d ads tys X st pc' st' hf Q H locs cells slots ls sk hR kk
  obtain ⟨lc, stk, w⟩ := st
  obtain ⟨ws, hlv, rfl, hw⟩ := hR
  unfold ci_ast at hf
  split at hf
  · rename_i lc2 x i q t w2 heq
    cases heq
    split at hf
    · rename_i t' n f hwq
      split at hf
      · rename_i hcond
        obtain ⟨h1, h2, h3, h4⟩ := hcond
        cases hf
        obtain ⟨a, e0, he, hg, hta⟩ := hw.1.ref hwq
        obtain ⟨cA, t0, e1, e2⟩ := hg
        dsimp only at e1
        subst e1
        have e2' := e2
        rw [h1] at e2'
        dsimp only
        rw [List.map_cons, List.map_cons, List.map_cons, hta]
        have hv := ci_vin h2 h3
        obtain ⟨w1, w2', w3, w4, w5⟩ := hw
        have fin : ∀ (H1 : Heap) (locs1 : List Loc), va_P D vwCl (ws.set q (a, .inl (cA, n, .inl (upd f i.toNatClampNeg x)))) H1 → va_D A (ws.set q (a, .inl (cA, n, .inl (upd f i.toNatClampNeg x)))) → va_S A s.heap H1 locs1 → W p l e R s m args below meth c H1 locs1 cells slots Q (F0 m (pc + 1) ls (t.map (ci_t b ads))) := by
          intro H1 locs1 hP hD hS
          exact kk _ _ _ _ ⟨_, hlv, rfl, w1.set he ⟨cA, t0, rfl, e2⟩, hP, hD, w4, hS⟩
        have hna := ci_nar h4
        rcases hi with ⟨rfl, rfl⟩ | ⟨rfl, rfl⟩ | ⟨rfl, rfl⟩
        · exact va_iast X.1 X.2.1 w4 w2' w3 w5 q t0 he e2' hv hd fin
        · exact va_bast X.1 X.2.1 w4 w2' w3 w5 q t0 he e2' hv hd (by rw [hna.1 rfl]; exact fin)
        · exact va_zast X.1 X.2.1 w4 w2' w3 w5 q t0 he e2' hv hd (by rw [hna.2 rfl]; exact fin)
      · cases hf
    · cases hf
  · cases hf
theorem cr_alen (hn : pc + 1 = nx) (hd : decode cc pc = .ok (.arraylength, 1)) : ci_ok y cc nL pc (ci_alen nx) := by
  subst hn
  intro p l e R s m args below meth c D A b d ads tys X st pc' st' hf Q H locs cells slots ls sk hR kk
  obtain ⟨lc, stk, w⟩ := st
  obtain ⟨ws, hlv, rfl, hw⟩ := hR
  unfold ci_alen at hf
  split at hf
  · rename_i lc2 q t w2 heq
    cases heq
    split at hf
    · rename_i t' n f hwq
      cases hf
      obtain ⟨a, e0, he, hg, hta⟩ := hw.1.ref hwq
      obtain ⟨cA, t0, e1, e2⟩ := hg
      dsimp only at e1
      subst e1
      dsimp only
      rw [List.map_cons, hta]
      exact va_alen X.1 X.2.1 hw.2.2.2.1 hw.2.1 q t0 he e2 rfl hd (kk _ _ _ _ ⟨ws, hlv, rfl, hw⟩)
    · cases hf
  · cases hf
theorem ci_sum (b : Nat) (ads : List Nat) (sk : List Value) : ((sk.map (ci_t b ads)).map fun v => v.category).sum = (sk.map fun v => v.category).sum := by
  rw [List.map_map]
  congr 1
  apply List.map_congr_left
  intro v _
  exact ci_t_cat b ads v
theorem ci_nneg {i : Int32} (h : 0 ≤ i.toInt) : ¬ i < 0 := by
  intro q
  have := Int32.lt_iff_toInt_lt.mp q
  have e0 : (0 : Int32).toInt = 0 := rfl
  omega
theorem cr_copy {idx : Nat} (hl : Cond.methodLink y.cls idx arraycopyName ∈ zi_G) (h1 : Cond.native arraycopyName ∈ zi_G) (h2 : Cond.static arraycopyName ∈ zi_G) (h3 : Cond.initialized "java/lang/System" ∈ zi_G) (hd : decode cc pc = .ok (.invokestatic idx, 3)) (hn : pc + 3 = nx) : ci_ok y cc nL pc (ci_copy nx) := by
  subst hn
  intro p l e R s m args below meth c D A b d ads tys X st pc' st' hf Q H locs cells slots ls sk hR kk
  obtain ⟨lc, stk, w⟩ := st
  obtain ⟨ws, hlv, rfl, hw⟩ := hR
  unfold ci_copy at hf
  split at hf
  · rename_i lc2 n dp q1 sp q0 t w2 heq
    cases heq
    split at hf
    · rename_i t0 n0 f hw0
      split at hf
      · rename_i t1 n1 g hw1
        split at hf
        · rename_i hcond
          obtain ⟨c1, c2, c3, c4, c5, c6, c7, c8⟩ := hcond
          cases hf
          obtain ⟨a0, e0, he0, hg0, hta0⟩ := hw.1.ref hw0
          obtain ⟨a1, e1, he1, hg1, hta1⟩ := hw.1.ref hw1
          obtain ⟨cA0, ti0, u1, u2⟩ := hg0
          obtain ⟨cA1, ti1, u3, u4⟩ := hg1
          dsimp only at u1 u3
          subst u1
          subst u3
          have u2' := u2
          have u4' := u4
          rw [c1] at u2'
          rw [c2] at u4'
          obtain ⟨w1, w2', w3, w4, w5⟩ := hw
          have hx := X.2.2.2.2.2.2.2.1
          have hnf : nativeFrameWords "java/lang/System" "arraycopy" 5 = 7 := by decide
          dsimp only
          rw [List.map_cons, List.map_cons, List.map_cons, List.map_cons, List.map_cons, hta0, hta1]
          refine va_copyi (ty := .int) X.1 X.2.1 (X.2.2.1.trans hlv.1.symm) X.2.2.2.1 (X.2.2.2.2.1 _ hl) (X.2.2.2.2.1 _ h1) (X.2.2.2.2.1 _ h2) (X.2.2.2.2.1 _ h3) w4 w2' w3 w5 q0 q1 ti0 ti1 he0 he1 u2' u4' rfl (ci_nneg c5) (ci_nneg c4) (ci_nneg c3) (by rw [ci_clamp, ci_clamp]; omega) (by rw [ci_clamp, ci_clamp]; omega) (fun _ _ => rfl) (by omega) (by rw [ci_sum, hnf]; omega) hd ?_
          intro H1 locs1 hP hD hS
          exact kk _ _ _ _ ⟨_, hlv, rfl, w1.set he1 ⟨cA1, ti1, rfl, u4⟩, hP, hD, w4, hS⟩
        · cases hf
      · cases hf
    · cases hf
  · cases hf
/-- two steps, one behind the other -/
theorem cq_ok {pc2 : Nat} {f g : ci_F} (hf : ci_ok y cc nL pc f) (hg : ci_ok y cc nL pc2 g) : ci_ok y cc nL pc (ci_seq f pc2 g) := by
  intro p l e R s m args below meth c D A b d ads tys X st pc' st' h Q H locs cells slots ls sk hR k
  unfold ci_seq at h
  cases h1 : f st with
  | none => rw [h1] at h; cases h
  | some r =>
    rw [h1] at h
    dsimp only at h
    obtain ⟨pc1, st1⟩ := r
    cases h2 : Nat.beq pc1 pc2 with
    | false => rw [h2] at h; cases h
    | true =>
      rw [h2] at h
      have h2 := Nat.eq_of_beq_eq_true h2
      refine hf p l e R s m args below meth c D A b d ads tys X st pc1 st1 h1 Q H locs cells slots ls sk hR (fun H' locs' ls' sk' hR' => ?_)
      rw [h2]
      exact hg p l e R s m args below meth c D A b d ads tys X st1 pc' st' h Q H' locs' cells slots ls' sk' hR' k
end CHeap
end
section
/-! contracts over the pure world; a frame's run, piece by piece -/
/-- the start of a contract: the cells are these, at these addresses -/
def ci_B (D : va_G) (ws : va_W) (tys : List (ClassId × FieldType)) (sz : Nat) : State → Prop := zi_B D ws tys sz
def ci_rv (b : Nat) (ads : List Nat) (v : Option Value) : Option Value := v.map (ci_t b ads)
def ci_Q (b : Nat) (D : va_G) (tys : List (ClassId × FieldType)) (Post : Option Value → ci_W → Prop) (ws : va_W) (sz : Nat) : Array Value → State → Outcome → State → Prop := fun _ st oc t =>
  (∃ (v : Option Value) (w' : ci_W) (ws' : va_W), oc = .returned (ci_rv b (ws.map (·.1)) v) ∧ Post v w' ∧ ci_wr b (ws.map (·.1)) tys w' ws' ∧ va_P D vwCl ws' t.heap ∧ va_K D vwCl tys t ∧ va_D (va_A ws sz) ws') ∧ va_F (va_A ws sz) st t
/-- a method's contract: from the pure world w with these values it returns, and Post -/
def ci_Met (d : Nat) (M : zi_M) (as : List Value) (w : ci_W) (Post : Option Value → ci_W → Prop) : Prop :=
  ∀ (l : Launch) (b : Nat) (D : va_G) (ws : va_W) (tys : List (ClassId × FieldType)) (sz : Nat), ci_wr b (ws.map (·.1)) tys w ws →
    Met l M.1 (Cond.code M.1 M.2.1 M.2.2.1 M.2.2.2.1 :: zi_G) (zi_rm d 0 0) (va_Pc (as.map (ci_t b (ws.map (·.1)))) (ci_B D ws tys sz)) (ci_Q b D tys Post ws sz) 0 0 (va_A ws sz)
/-- from here the frame runs to its return, and Post -/
def ci_T (y : MethodName) (cc : ByteArray) (nL : Nat) (ret : Option FieldType) (d pc : Nat) (st : ci_S) (Post : Option Value → ci_W → Prop) : Prop :=
  ∀ (p : Program) (l : Launch) (e : Env) (R : Room) (s : State) (m : MethodId) (args : Array Value) (below : List Frame) (meth : Method) (c : Code) (D : va_G) (A : Nat → Prop) (b : Nat) (ads : List Nat) (tys : List (ClassId × FieldType)), ci_X p R s m args meth c y cc nL A d →
    ∀ (Q : State → Prop) (H : Heap) (locs : List Loc) (cells slots : Nat) (ls : Array Slot) (sk : List Value), cells ≤ R.cells → slots ≤ R.slots → ci_R s nL D A b ads tys st H locs ls sk →
      (∀ (H' : Heap) (locs' : List Loc) (pc' : Nat) (ls' : Array Slot) (v : Option Value) (w' : ci_W) (ws' : va_W), decode cc pc' = .ok (zi_rop ret, 1) → Post v w' → ci_RW s D A b ads w' ws' tys H' locs' → W p l e R s m args below meth c H' locs' cells slots Q (F0 m pc' ls' ((ci_rv b ads v).toList))) →
      W p l e R s m args below meth c H locs cells slots Q (F0 m pc ls sk)
section CT
variable {y : MethodName} {cc : ByteArray} {nL : Nat} {ret : Option FieldType} {d pc : Nat} {st : ci_S} {Post : Option Value → ci_W → Prop}
theorem ci_T.step {f : ci_F} {pc' : Nat} {st' : ci_S} (hf : ci_ok y cc nL pc f) (h : f st = some (pc', st')) (k : ci_T y cc nL ret d pc' st' Post) : ci_T y cc nL ret d pc st Post := by
  intro p l e R s m args below meth c D A b ads tys X Q H locs cells slots ls sk hc hs hR kk
  exact hf p l e R s m args below meth c D A b d ads tys X st pc' st' h Q H locs cells slots ls sk hR (fun H' locs' ls' sk' hR' => k p l e R s m args below meth c D A b ads tys X Q H' locs' cells slots ls' sk' hc hs hR' kk)
theorem ci_T.done {lc : ci_L} {v : Option Value} {w : ci_W} (hd : decode cc pc = .ok (zi_rop ret, 1)) (hp : Post v w) : ci_T y cc nL ret d pc (lc, v.toList, w) Post := by
  intro p l e R s m args below meth c D A b ads tys X Q H locs cells slots ls sk hc hs hR kk
  obtain ⟨ws, hl, rfl, hw⟩ := hR
  have h := kk H locs pc ls v w ws hd hp hw
  cases v with
  | none => exact h
  | some x => exact h
theorem ci_T.mono {Post' : Option Value → ci_W → Prop} (h : ∀ v w, Post v w → Post' v w) (k : ci_T y cc nL ret d pc st Post) : ci_T y cc nL ret d pc st Post' := by
  intro p l e R s m args below meth c D A b ads tys X Q H locs cells slots ls sk hc hs hR kk
  exact k p l e R s m args below meth c D A b ads tys X Q H locs cells slots ls sk hc hs hR (fun H' locs' pc' ls' v w' ws' h1 h2 h3 => kk H' locs' pc' ls' v w' ws' h1 (h v w' h2) h3)
/-- what is known of a call's place: which row of the kit takes it -/
def ci_calls (y : MethodName) (cc : ByteArray) (nL pc : Nat) (y' : MethodName) (n : Nat) (ci : Option Nat) : Prop :=
  ∀ (p : Program) (l : Launch) (e : Env) (R : Room) (s : State) (m : MethodId) (args : Array Value) (below : List Frame) (meth : Method) (c : Code) (A : Nat → Prop) (b d : Nat) (sc : Option (List zi_V)), zi_X p R s m args meth c y cc nL A b sc d → ∀ (T : State) (locs : List Loc) (cells slots : Nat), Stand p l e R s m args below meth c T locs cells slots →
      ∀ (Pre : Pt → Array Value → Prop) (Post : Pt → Array Value → Option Value → Pt → Prop), Back l R p e below s args y' 3 30 Pre Post → ∀ (ls : Array Slot) (vs rest : List Value), ls.size = c.maxLocals → vs.length = n → zi_rec s T.heap vs ci → (rest.map fun v => v.category).sum ≤ 20 → (∀ vm₁, s.WarmedH vm₁ → Pre ⟨T.setVm vm₁, locs, cells, slots⟩ vs.toArray) →
      zi_gives p l e R s m args below meth c T locs cells slots Post vs rest pc ls
def ci_recv (w : ci_W) (as : List Value) : Option Nat → Prop
  | none => True
  | some c0 => (∃ r : vw_C, vwCl[c0]? = some r) ∧ ∃ (q : Nat) (tl : List Value) (vs : List Value), as = .ref (q + 1) :: tl ∧ w q = some (.inr (c0, vs))
theorem ci_T.call {j n mL : Nat} {y' : MethodName} {cc' : ByteArray} {ret' : Option FieldType} {ci : Option Nat} {t' : zi_T} {lc : ci_L} {as rest : List Value} {w : ci_W} {CP : Option Value → ci_W → Prop} (hcode : Cond.code y' cc' mL ret' ∈ zi_G) (hini : Cond.initialized y'.cls ∈ zi_G) (hmL : mL ≤ 19) (hcall : ci_calls y cc nL pc y' n ci) (hn : as.length = n) (hrest : (rest.map fun v => v.category).sum ≤ 20) (hrc : ci_recv w as ci) (hM : ci_Met d (y', cc', mL, ret', t', 0, 0) as w CP)
    (k : ∀ (v : Option Value) (w' : ci_W), CP v w' → ci_T y cc nL ret (d + 1) (pc + 3) (lc, v.toList ++ rest, w') Post) : ci_T y cc nL ret (d + 1) pc (lc, as.reverse ++ rest, w) Post := by
  intro p l e R s m args below meth c D A b ads tys X Q H locs cells slots ls sk hcl hsl hR kk
  obtain ⟨ws, hlv, rfl, hw⟩ := hR
  obtain ⟨w1, w2, w3, w4, w5⟩ := hw
  dsimp only at w1
  have had := w1.1
  subst had
  obtain ⟨vs, hvs⟩ : ∃ vs : List Value, vs = as.map (ci_t b (ws.map (·.1))) := ⟨_, rfl⟩
  have hM' := hM l b D ws tys H.size w1
  rw [← hvs] at hM'
  have hx := X.2.2.2.2.2.2.2.1
  have hF : ∀ q, va_A ws H.size q → A q := by
    intro q hq
    rcases hq with ⟨k, en, hk⟩ | hq
    · exact w3.2 k _ hk
    · exact X.2.2.2.2.2.2.1 q (Nat.le_trans w5.1 hq)
  have hrec : zi_rec s H vs ci := by
    cases ci with
    | none => trivial
    | some c0 =>
      obtain ⟨⟨r, hr⟩, q, tl, fv, e1, e2⟩ := hrc
      obtain ⟨a, e0, he, hg, hta⟩ := w1.ref e2
      have hg' : e0 = .inr (c0, fv.map (ci_t b (ws.map (·.1)))) := hg
      rw [hg'] at he
      obtain ⟨cell, f1, f2, f3⟩ := va_recv w4 w2 hr he
      exact ⟨r, hr, a, tl.map (ci_t b (ws.map (·.1))), cell, by rw [hvs, e1, List.map_cons, hta], f1, f2, f3⟩
  have hblind : FrameBlind (va_Pc vs (ci_B D ws tys H.size)) := by
    intro aa U g mk q
    obtain ⟨r1, r2, r3, r4, r5, r6⟩ := q
    exact ⟨r1, r2, r3, va_K.moved (u := U) (U := U.calling g mk aa) (Vm.Alike.refl U.vm) r4, r5, zi_NW.same (u := U) rfl r6⟩
  have hstk : (as.reverse ++ rest).map (ci_t b (ws.map (·.1))) = vs.reverse ++ rest.map (ci_t b (ws.map (·.1))) := by
    rw [List.map_append, List.map_reverse, ← hvs]
  dsimp only
  rw [hstk]
  intro T hT XS
  have hK : Back l R p e below s args y' 3 30 (PreOf R 0 0 (va_Pc vs (ci_B D ws tys H.size))) (PostOf (ci_Q b D tys CP ws H.size) 0 0 (va_A ws H.size)) := back_of (bytes := cc') (maxL := mL) (ret := ret') hM' hblind rfl rfl (by show d + 1 + 1 ≤ _; omega) (by show 30 + (mL + 11) + (60 * d + 60) ≤ _; omega) (pay_in X.2.2.2.2.1 (fun w hw => (List.mem_cons.mp hw).elim (fun h => by rw [h]; exact zi_G_good _ hcode) (fun h => zi_G_good _ h))) List.mem_cons_self (pay_in X.2.2.2.2.1 zi_G_good _ hini)
  obtain ⟨vv, vm₁, ⟨U', l2, c2, s2⟩, hW₁, X', ⟨g', mk, t, L, o1, o2, hq, o3, hL, o4, o5⟩, st⟩ := hcall p l e R s m args below meth c A 0 (d + 1) none X T locs cells slots XS _ _ hK ls vs (rest.map (ci_t b (ws.map (·.1)))) (hlv.1.trans X.2.2.1.symm) (by rw [hvs, List.length_map]; exact hn) (by rw [hT]; exact hrec) (by rw [ci_sum]; exact hrest) (fun vm₁ hW₁ => ⟨by show cells + 0 ≤ _; omega, by show slots + 0 ≤ _; omega, rfl, by show (T.setVm vm₁).heap.size = _; rw [show (T.setVm vm₁).heap = H from hT], by rw [show (T.setVm vm₁).heap = H from hT]; exact w2, va_K.moved (show s.vm.Alike (T.setVm vm₁).vm from State.WarmedH.alike hW₁) w4, w3.weaken (fun _ _ _ _ => trivial), zi_NW.warm (U := T.setVm vm₁) hW₁ X.2.2.2.2.2.1⟩)
  dsimp only [Pt.U, Pt.locs, Pt.cells, Pt.slots] at X' o1 o2 o3 o4 o5 st
  subst o3
  subst o4
  subst o5
  obtain ⟨⟨v, w', ws', hvv, hcp, b2, b4, b5, b6⟩, hz, hk⟩ := hq
  cases hvv
  have hh0 : ((T.setVm vm₁).calling g' mk vs.toArray).heap = H := hT
  rw [hh0] at hz hk
  have fin : ci_R s nL D A b (ws.map (·.1)) tys (lc, v.toList ++ rest, w') U'.heap (locs ++ L) ls ((ci_rv b (ws.map (·.1)) v).toList ++ rest.map (ci_t b (ws.map (·.1)))) := by
    refine ⟨ws', hlv, ?_, b2, by rw [o1]; exact b4, b6.weaken (fun k q _ h => hF q.1 h), va_K.moved (show t.vm.Alike s.vm from (by rw [← o2]; exact X'.warmed.alike.symm)) b5, ?_⟩
    · show _ = List.map _ (v.toList ++ rest)
      rw [List.map_append]
      cases v <;> rfl
    · refine ⟨Nat.le_trans w5.1 (by rw [o1]; exact hz), fun q z1 z2 => ?_, fun q hq => ?_⟩
      · rw [o1, hk q (Nat.lt_of_lt_of_le z1 w5.1) (fun z => z2 (hF q z))]
        exact w5.2.1 q z1 z2
      · rcases List.mem_append.mp hq with h | h
        · exact w5.2.2 q h
        · exact hF _ (hL q h)
  obtain ⟨t2, r1, r2⟩ := k v w' hcp p l e R s m args below meth c D A b (ws.map (·.1)) tys X Q _ _ _ _ ls _ hcl hsl fin kk U' rfl X'
  exact ⟨t2, st t2 r1, r2⟩
end CT
theorem ci_sl_len : ∀ (b : Nat) (ads : List Nat) (vs : List Value), (lg_sl (vs.map (ci_t b ads))).length = (lg_sl vs).length
  | _, _, [] => rfl
  | b, ads, v :: vs => by
    have t := ci_sl_len b ads vs
    unfold lg_sl at t ⊢
    rw [List.map_cons, List.flatMap_cons, List.flatMap_cons, List.length_append, List.length_append, t, ci_t_cat]
    split <;> rfl
theorem ci_args_map : ∀ (b : Nat) (ads : List Nat) (vs : List Value) (i : Nat), lv_args i (vs.map (ci_t b ads)) = (lv_args i vs).map (fun q => (q.1, ci_t b ads q.2))
  | _, _, [], _ => rfl
  | b, ads, v :: vs, i => by
    rw [List.map_cons]
    unfold lv_args
    rw [List.map_cons, ci_t_cat, ci_args_map b ads vs]
/-- a method's contract out of its frame's run -/
theorem ci_met {d mL : Nat} {y' : MethodName} {cc' : ByteArray} {ret' : Option FieldType} {t' : zi_T} {as : List Value} {w : ci_W} {CP : Option Value → ci_W → Prop} (hpl : plainName y'.cls = true) (hwt : (lg_sl as).length ≤ mL) (hrv : ∀ v w', CP v w' → match ret', v with
      | none, none => True
      | some .int, some (.int _) => True
      | some .boolean, some (.int x) => x = 0 ∨ x = 1
      | some .long, some (.long _) => True
      | some (.object _), some (.ref _) => True
      | some (.object _), some .null => True
      | _, _ => False) (hT : ci_T y' cc' mL ret' d 0 (lv_args 0 as, [], w) CP) : ci_Met d (y', cc', mL, ret', t', 0, 0) as w CP := by
  intro l b D ws tys sz hw
  refine Met.ofW (cc := cc') (maxL := mL) (ret := ret') hpl rfl ?_
  intro p e s m args below meth c s₁ B hml hv
  obtain ⟨rfl, rfl, hP, hK, hD, hN⟩ := hv
  have hts := atoms_spec (ws := Cond.code y' cc' mL ret' :: zi_G) B.pre
  have X : ci_X p (zi_rm d 0 0) s m (as.map (ci_t b (ws.map (·.1)))).toArray meth c y' cc' mL (va_A ws s.heap.size) d := ⟨B.exec, B.bytes, hml, findClass_of_methodNamed B.named, fun w hw => hts w (List.mem_cons_of_mem _ hw), hN, fun q h => Or.inr h, ⟨Nat.le_refl _, Nat.le_refl _⟩, fun h => (name_of_methodNamed B.named B.method).1.trans h, trivial⟩
  have hl := lv_entry (as.map (ci_t b (ws.map (·.1)))) (n := mL) (by rw [ci_sl_len]; exact hwt)
  rw [lg_entry_eq]
  generalize (lg_sl (as.map (ci_t b (ws.map (·.1)))) ++ List.replicate (mL - (lg_sl (as.map (ci_t b (ws.map (·.1))))).length) Slot.unset).toArray = ls at hl ⊢
  rw [ci_args_map] at hl
  refine hT p l e (zi_rm d 0 0) s m _ below meth c D (va_A ws s.heap.size) b (ws.map (·.1)) tys X _ s.heap [] 0 0 ls [] (Nat.le_refl _) (Nat.le_refl _) ⟨ws, hl, rfl, hw, hP, hD.self, hK, va_S.rf⟩ ?_
  intro H' locs' pc' ls' v w' ws' hdg hcp hRW
  obtain ⟨w1, w2, w3, w4, w5⟩ := hRW
  have hq : ∀ t : State, t.heap = H' → s.WarmedH t.vm → ci_Q b D tys CP ws s.heap.size (as.map (ci_t b (ws.map (·.1)))).toArray s (.returned (ci_rv b (ws.map (·.1)) v)) t := fun t ht hW => ⟨⟨v, w', ws', rfl, hcp, w1, by rw [ht]; exact w2, va_K.moved hW.alike w4, w3⟩, w5.F ht⟩
  have hlk := B.notSynchronized
  have hrt := B.returns
  have hty := hrv v w' hcp
  split at hty
  · exact W.vret B.exec B.bytes hrt (fun t ht hW => hq t ht hW) w5.2.2 hdg hlk
  · exact W.iret B.exec B.bytes hrt (fun t ht hW => hq t ht hW) w5.2.2 hdg hlk
  · rename_i x
    have hnf : narrow .boolean (.int x) = .int x := by rcases hty with rfl | rfl <;> decide
    exact W.zret B.exec B.bytes hrt hnf (fun t ht hW => hq t ht hW) w5.2.2 hdg hlk
  · exact W.lret B.exec B.bytes hrt (fun t ht hW => hq t ht hW) w5.2.2 hdg hlk
  · rename_i cn q
    cases q <;> exact W.aret B.exec B.bytes hrt (Or.inl ⟨cn, rfl⟩) (Or.inr ⟨_, rfl⟩) (fun t ht hW => hq t ht hW) w5.2.2 hdg hlk
  · rename_i cn
    exact W.aret B.exec B.bytes hrt (Or.inl ⟨cn, rfl⟩) (Or.inl rfl) (fun t ht hW => hq t ht hW) w5.2.2 hdg hlk
  · exact hty.elim
end
section
/-! calls of each kind, in the pure walk -/
section CKinds
variable {y : MethodName} {cc : ByteArray} {nL pc : Nat}
theorem ci_len {y' : MethodName} {n : Nat} (h : (parseMethodDescriptor y'.desc).map (fun d => d.parameters.length) = some n) {k : Nat} (hk : k = n) : ∀ sig, parseMethodDescriptor y'.desc = some sig → k = sig.parameters.length := by
  intro sig hs
  rw [hs] at h
  exact hk.trans (Option.some.inj h).symm
theorem cr_callV {n mL idx c0 N : Nat} {y' : MethodName} {cc' : ByteArray} {ret' : Option FieldType} {C : String} {T0 : u_T} {ty0 : Nat → FieldType} (hcode : Cond.code y' cc' mL ret' ∈ zi_G) (hy : y'.cls ≠ "java/lang/invoke/MethodHandle" ∧ y'.cls ≠ "java/lang/invoke/VarHandle") (hpar : (parseMethodDescriptor y'.desc).map (fun d => d.parameters.length) = some n) (hc : zi_cls c0 C T0 N ty0) (hin : Cond.instanceMethod y' ∈ zi_G) (hse : Cond.selects C y' y' ∈ zi_G) (hl : zi_lnk y y' idx) (hd : decode cc pc = .ok (.invokevirtual idx, 3)) : ci_calls y cc nL pc y' (n + 1) (some c0) := by
  intro p l e R s m args below meth c A b d sc X T locs cells slots XS Pre Post hK ls vs rest hls hnn hrec hsum hpre
  obtain ⟨r, hr, a, As, cell, rfl, c1, c2, c3⟩ := hrec
  cases hr.symm.trans hc.1
  have hts := X.2.2.2.2.1
  rcases hl with hl | ⟨host, hl⟩
  · obtain ⟨v, vm₁, B, h1, h2, h3, h4⟩ := callV XS X.1 (C := C) (bytes := cc') (maxL := mL) (ret := ret') X.2.2.2.1 (hts _ hl) (hts _ hin) (hts _ hse) (hts _ hcode) hy hK c1 c2 c3 (g := F0 m pc ls ((Value.ref a :: As).reverse ++ rest)) rfl hls (argsL := As) (rest := rest) (ci_len hpar (Nat.succ.inj hnn)) (by simp) (by show 2 * 0 + _ ≤ 30; omega) (by rw [X.2.1]; exact hd) hpre
    exact ⟨v, vm₁, B, h1, h2, h3, h4⟩
  · obtain ⟨v, vm₁, B, h1, h2, h3, h4⟩ := va_callVN XS X.1 (C := C) (bytes := cc') (maxL := mL) (ret := ret') X.2.2.2.1 (va_Nw.use rfl (X.2.2.2.2.2.1 _ hl rfl)) (hts _ hin) (hts _ hse) (hts _ hcode) hy hK c1 c2 c3 (g := F0 m pc ls ((Value.ref a :: As).reverse ++ rest)) rfl hls (argsL := As) (rest := rest) (ci_len hpar (Nat.succ.inj hnn)) (by simp) (by show 2 * 0 + _ ≤ 30; omega) (by rw [X.2.1]; exact hd) hpre
    exact ⟨v, vm₁, B, h1, h2, h3, h4⟩
theorem cr_callS {n mL idx : Nat} {y' : MethodName} {cc' : ByteArray} {ret' : Option FieldType} (hcode : Cond.code y' cc' mL ret' ∈ zi_G) (hini : Cond.initialized y'.cls ∈ zi_G) (hy : y'.cls ≠ "java/lang/invoke/MethodHandle" ∧ y'.cls ≠ "java/lang/invoke/VarHandle") (hpar : (parseMethodDescriptor y'.desc).map (fun d => d.parameters.length) = some n) (hst : Cond.static y' ∈ zi_G) (hl : zi_lnk y y' idx) (hd : decode cc pc = .ok (.invokestatic idx, 3)) : ci_calls y cc nL pc y' n none := by
  intro p l e R s m args below meth c A b d sc X T locs cells slots XS Pre Post hK ls vs rest hls hnn hrec hsum hpre
  have hts := X.2.2.2.2.1
  rcases hl with hl | ⟨host, hl⟩
  · obtain ⟨v, vm₁, B, h1, h2, h3, h4⟩ := callS XS X.1 (bytes := cc') (maxL := mL) (ret := ret') X.2.2.2.1 (hts _ hl) (hts _ hst) (hts _ hini) (hts _ hcode) hy hK (g := F0 m pc ls (vs.reverse ++ rest)) rfl hls (argsL := vs) (rest := rest) (ci_len hpar hnn) rfl (by show 2 * 0 + _ ≤ 30; omega) (by rw [X.2.1]; exact hd) hpre
    exact ⟨v, vm₁, B, h1, h2, h3, h4⟩
  · obtain ⟨v, vm₁, B, h1, h2, h3, h4⟩ := va_callSN XS X.1 (bytes := cc') (maxL := mL) (ret := ret') X.2.2.2.1 (va_Nw.use rfl (X.2.2.2.2.2.1 _ hl rfl)) (hts _ hst) (hts _ hini) (hts _ hcode) hy hK (g := F0 m pc ls (vs.reverse ++ rest)) rfl hls (argsL := vs) (rest := rest) (ci_len hpar hnn) rfl (by show 2 * 0 + _ ≤ 30; omega) (by rw [X.2.1]; exact hd) hpre
    exact ⟨v, vm₁, B, h1, h2, h3, h4⟩
end CKinds
section CMore
variable {y : MethodName} {cc : ByteArray} {nL pc nx : Nat}
theorem cr_iadd (hd : decode cc pc = .ok (.iadd, 1)) (hn : pc + 1 = nx) : ci_ok y cc nL pc (ci_bin (fun a b => a + b) nx) := by
  subst hn
  exact cr_bin (fun x y p l e R s m args below meth c H locs cells slots Q ls rest hx hb k => lv_iadd hx hb hd k)
theorem cr_isub (hd : decode cc pc = .ok (.isub, 1)) (hn : pc + 1 = nx) : ci_ok y cc nL pc (ci_bin (fun a b => a - b) nx) := by
  subst hn
  exact cr_bin (fun x y p l e R s m args below meth c H locs cells slots Q ls rest hx hb k => lv_isub hx hb hd k)
theorem cr_imul (hd : decode cc pc = .ok (.imul, 1)) (hn : pc + 1 = nx) : ci_ok y cc nL pc (ci_bin (fun a b => a * b) nx) := by
  subst hn
  exact cr_bin (fun x y p l e R s m args below meth c H locs cells slots Q ls rest hx hb k => lv_imul hx hb hd k)
theorem cr_iand (hd : decode cc pc = .ok (.iand, 1)) (hn : pc + 1 = nx) : ci_ok y cc nL pc (ci_bin (fun a b => a &&& b) nx) := by
  subst hn
  exact cr_bin (fun x y p l e R s m args below meth c H locs cells slots Q ls rest hx hb k => lv_iand hx hb hd k)
theorem cr_ior (hd : decode cc pc = .ok (.ior, 1)) (hn : pc + 1 = nx) : ci_ok y cc nL pc (ci_bin (fun a b => a ||| b) nx) := by
  subst hn
  exact cr_bin (fun x y p l e R s m args below meth c H locs cells slots Q ls rest hx hb k => lv_ior hx hb hd k)
theorem cr_ixor (hd : decode cc pc = .ok (.ixor, 1)) (hn : pc + 1 = nx) : ci_ok y cc nL pc (ci_bin (fun a b => a ^^^ b) nx) := by
  subst hn
  exact cr_bin (fun x y p l e R s m args below meth c H locs cells slots Q ls rest hx hb k => lv_ixor hx hb hd k)
theorem cr_ishl (hd : decode cc pc = .ok (.ishl, 1)) (hn : pc + 1 = nx) : ci_ok y cc nL pc (ci_bin (fun a b => a <<< (b &&& 31)) nx) := by
  subst hn
  exact cr_bin (fun x y p l e R s m args below meth c H locs cells slots Q ls rest hx hb k => lv_ishl hx hb hd k)
theorem cr_ishr (hd : decode cc pc = .ok (.ishr, 1)) (hn : pc + 1 = nx) : ci_ok y cc nL pc (ci_bin (fun a b => a >>> (b &&& 31)) nx) := by
  subst hn
  exact cr_bin (fun x y p l e R s m args below meth c H locs cells slots Q ls rest hx hb k => lv_ishr hx hb hd k)
theorem cr_iushr (hd : decode cc pc = .ok (.iushr, 1)) (hn : pc + 1 = nx) : ci_ok y cc nL pc (ci_bin (fun a b => (a.toUInt32 >>> (b.toUInt32 &&& Int32.toUInt32 31)).toInt32) nx) := by
  subst hn
  exact cr_bin (fun x y p l e R s m args below meth c H locs cells slots Q ls rest hx hb k => lv_iushr hx hb hd rfl k)
theorem cr_idiv (hd : decode cc pc = .ok (.idiv, 1)) (hn : pc + 1 = nx) : ci_ok y cc nL pc (ci_dv (fun a b => a / b) nx) := by
  subst hn
  exact cr_dv (fun x y h p l e R s m args below meth c H locs cells slots Q ls rest hx hb k => lv_idiv hx hb hd h k)
theorem cr_irem (hd : decode cc pc = .ok (.irem, 1)) (hn : pc + 1 = nx) : ci_ok y cc nL pc (ci_dv (fun a b => a - a / b * b) nx) := by
  subst hn
  exact cr_dv (fun x y h p l e R s m args below meth c H locs cells slots Q ls rest hx hb k => lv_irem hx hb hd h k)
theorem cr_ladd (hd : decode cc pc = .ok (.ladd, 1)) (hn : pc + 1 = nx) : ci_ok y cc nL pc (ci_binl (fun a b => a + b) nx) := by
  subst hn
  exact cr_binl (fun x y p l e R s m args below meth c H locs cells slots Q ls rest hx hb k => lv_ladd hx hb hd k)
theorem cr_land (hd : decode cc pc = .ok (.land, 1)) (hn : pc + 1 = nx) : ci_ok y cc nL pc (ci_binl (fun a b => a &&& b) nx) := by
  subst hn
  exact cr_binl (fun x y p l e R s m args below meth c H locs cells slots Q ls rest hx hb k => lv_land hx hb hd k)
theorem cr_lor (hd : decode cc pc = .ok (.lor, 1)) (hn : pc + 1 = nx) : ci_ok y cc nL pc (ci_binl (fun a b => a ||| b) nx) := by
  subst hn
  exact cr_binl (fun x y p l e R s m args below meth c H locs cells slots Q ls rest hx hb k => lv_lor hx hb hd k)
theorem cr_ldiv (hd : decode cc pc = .ok (.ldiv, 1)) (hn : pc + 1 = nx) : ci_ok y cc nL pc (ci_dvl (fun a b => a / b) nx) := by
  subst hn
  exact cr_dvl (fun x y h p l e R s m args below meth c H locs cells slots Q ls rest hx hb k => lv_ldiv hx hb hd h k)
theorem cr_lrem (hd : decode cc pc = .ok (.lrem, 1)) (hn : pc + 1 = nx) : ci_ok y cc nL pc (ci_dvl (fun a b => a - a / b * b) nx) := by
  subst hn
  exact cr_dvl (fun x y h p l e R s m args below meth c H locs cells slots Q ls rest hx hb k => lv_lrem hx hb hd h k)
theorem cr_lshl (hd : decode cc pc = .ok (.lshl, 1)) (hn : pc + 1 = nx) : ci_ok y cc nL pc (ci_shfl (fun a b => a <<< (b.toInt64 &&& 63)) nx) := by
  subst hn
  exact cr_shfl (fun x y p l e R s m args below meth c H locs cells slots Q ls rest hx hb k => lv_lshl hx hb hd rfl k)
theorem cr_lshr (hd : decode cc pc = .ok (.lshr, 1)) (hn : pc + 1 = nx) : ci_ok y cc nL pc (ci_shfl (fun a b => a >>> (b.toInt64 &&& 63)) nx) := by
  subst hn
  exact cr_shfl (fun x y p l e R s m args below meth c H locs cells slots Q ls rest hx hb k => lv_lshr hx hb hd rfl k)
theorem cr_i2b (hd : decode cc pc = .ok (.i2b, 1)) (hn : pc + 1 = nx) : ci_ok y cc nL pc (ci_un (fun x => x.toInt8.toInt32) nx) := by
  subst hn
  exact cr_un (fun x p l e R s m args below meth c H locs cells slots Q ls rest hx hb k => lv_i2b hx hb hd rfl k)
theorem cr_i2s (hd : decode cc pc = .ok (.i2s, 1)) (hn : pc + 1 = nx) : ci_ok y cc nL pc (ci_un (fun x => x.toInt16.toInt32) nx) := by
  subst hn
  exact cr_un (fun x p l e R s m args below meth c H locs cells slots Q ls rest hx hb k => lv_i2s hx hb hd rfl k)
end CMore
theorem cr_iconst2 {y : MethodName} {cc : ByteArray} {nL pc nx : Nat} {n : Int} {v : Int32} (hd : decode cc pc = .ok (.iconst n, 1)) (hv : Int32.ofInt n = v) (hn : pc + 1 = nx) : ci_ok y cc nL pc (ci_push (.int v) nx) := by
  subst hn
  exact ci_push_ok (fun _ _ => rfl) (fun p l e R s m args below meth c H locs cells slots Q ls rest hx hb k => lv_iconst hx hb hd hv k)
end
section
set_option maxRecDepth 100000 in
theorem zc_0 : zi_cls 0 RX0 TX0 3 tyX0 := ⟨rfl, fun w h => zi_inG ((by decide +kernel : ∀ w ∈ u_ws RX0 TX0 3, w ∈ lw_tbl) w h) ((by decide +kernel : ∀ w ∈ u_ws RX0 TX0 3, goodWord w = true) w h), tyX0_ok, nmX0⟩
set_option maxRecDepth 100000 in
def zv_0 : List Value := [.null, .null, .int 0]
set_option maxRecDepth 100000 in
theorem zn_0 : ∀ j, j < 3 → defaultValue (tyX0 j) = vp_V zv_0 j := by decide +kernel
set_option maxRecDepth 100000 in
theorem zw_0 (b : Nat) (ads : List Nat) : zi_a2 (zi_g b ads) [.inr (.inr (.inl none)), .inr (.inr (.inl none)), (.inl (2147483648, 2147483648))] zv_0 := za_c za_nl (za_c za_nl (za_c za_i0 (za_n)))
set_option maxRecDepth 100000 in
theorem zc_1 : zi_cls 1 RX1 TX1 10 tyX1 := ⟨rfl, fun w h => zi_inG ((by decide +kernel : ∀ w ∈ u_ws RX1 TX1 10, w ∈ lw_tbl) w h) ((by decide +kernel : ∀ w ∈ u_ws RX1 TX1 10, goodWord w = true) w h), tyX1_ok, nmX1⟩
set_option maxRecDepth 100000 in
def zv_1 : List Value := [.null, .null, .null, .null, .int 0, .int 0, .int 0, .int 0, .int 0, .int 0]
set_option maxRecDepth 100000 in
theorem zn_1 : ∀ j, j < 10 → defaultValue (tyX1 j) = vp_V zv_1 j := by decide +kernel
set_option maxRecDepth 100000 in
theorem zw_1 (b : Nat) (ads : List Nat) : zi_a2 (zi_g b ads) [.inr (.inr (.inl none)), .inr (.inr (.inl none)), .inr (.inr (.inl none)), .inr (.inr (.inl none)), (.inl (2147483648, 2147483648)), (.inl (2147483648, 2147483648)), (.inl (2147483648, 2147483648)), (.inl (2147483648, 2147483648)), (.inl (2147483648, 2147483648)), (.inl (2147483648, 2147483648))] zv_1 := za_c za_nl (za_c za_nl (za_c za_nl (za_c za_nl (za_c za_i0 (za_c za_i0 (za_c za_i0 (za_c za_i0 (za_c za_i0 (za_c za_i0 (za_n))))))))))
set_option maxRecDepth 100000 in
theorem zc_2 : zi_cls 2 RX2 TX2 8 tyX2 := ⟨rfl, fun w h => zi_inG ((by decide +kernel : ∀ w ∈ u_ws RX2 TX2 8, w ∈ lw_tbl) w h) ((by decide +kernel : ∀ w ∈ u_ws RX2 TX2 8, goodWord w = true) w h), tyX2_ok, nmX2⟩
set_option maxRecDepth 100000 in
def zv_2 : List Value := [.null, .null, .null, .int 0, .int 0, .int 0, .int 0, .int 0]
set_option maxRecDepth 100000 in
theorem zn_2 : ∀ j, j < 8 → defaultValue (tyX2 j) = vp_V zv_2 j := by decide +kernel
set_option maxRecDepth 100000 in
theorem zw_2 (b : Nat) (ads : List Nat) : zi_a2 (zi_g b ads) [.inr (.inr (.inl none)), .inr (.inr (.inl none)), .inr (.inr (.inl none)), (.inl (2147483648, 2147483648)), (.inl (2147483648, 2147483648)), (.inl (2147483648, 2147483648)), (.inl (2147483648, 2147483648)), (.inl (2147483648, 2147483648))] zv_2 := za_c za_nl (za_c za_nl (za_c za_nl (za_c za_i0 (za_c za_i0 (za_c za_i0 (za_c za_i0 (za_c za_i0 (za_n))))))))
set_option maxRecDepth 100000 in
theorem zc_3 : zi_cls 3 RX3 TX3 5 tyX3 := ⟨rfl, fun w h => zi_inG ((by decide +kernel : ∀ w ∈ u_ws RX3 TX3 5, w ∈ lw_tbl) w h) ((by decide +kernel : ∀ w ∈ u_ws RX3 TX3 5, goodWord w = true) w h), tyX3_ok, nmX3⟩
set_option maxRecDepth 100000 in
def zv_3 : List Value := [.null, .null, .int 0, .int 0, .int 0]
set_option maxRecDepth 100000 in
theorem zn_3 : ∀ j, j < 5 → defaultValue (tyX3 j) = vp_V zv_3 j := by decide +kernel
set_option maxRecDepth 100000 in
theorem zw_3 (b : Nat) (ads : List Nat) : zi_a2 (zi_g b ads) [.inr (.inr (.inl none)), .inr (.inr (.inl none)), (.inl (2147483648, 2147483648)), (.inl (2147483648, 2147483648)), (.inl (2147483648, 2147483648))] zv_3 := za_c za_nl (za_c za_nl (za_c za_i0 (za_c za_i0 (za_c za_i0 (za_n)))))
set_option maxRecDepth 100000 in
theorem zc_4 : zi_cls 4 RX4 TX4 7 tyX4 := ⟨rfl, fun w h => zi_inG ((by decide +kernel : ∀ w ∈ u_ws RX4 TX4 7, w ∈ lw_tbl) w h) ((by decide +kernel : ∀ w ∈ u_ws RX4 TX4 7, goodWord w = true) w h), tyX4_ok, nmX4⟩
set_option maxRecDepth 100000 in
def zv_4 : List Value := [.null, .null, .null, .null, .null, .int 0, .int 0]
set_option maxRecDepth 100000 in
theorem zn_4 : ∀ j, j < 7 → defaultValue (tyX4 j) = vp_V zv_4 j := by decide +kernel
set_option maxRecDepth 100000 in
theorem zw_4 (b : Nat) (ads : List Nat) : zi_a2 (zi_g b ads) [.inr (.inr (.inl none)), .inr (.inr (.inl none)), .inr (.inr (.inl none)), .inr (.inr (.inl none)), .inr (.inr (.inl none)), (.inl (2147483648, 2147483648)), (.inl (2147483648, 2147483648))] zv_4 := za_c za_nl (za_c za_nl (za_c za_nl (za_c za_nl (za_c za_nl (za_c za_i0 (za_c za_i0 (za_n)))))))
set_option maxRecDepth 100000 in
theorem zc_5 : zi_cls 5 RX5 TX5 3 tyX5 := ⟨rfl, fun w h => zi_inG ((by decide +kernel : ∀ w ∈ u_ws RX5 TX5 3, w ∈ lw_tbl) w h) ((by decide +kernel : ∀ w ∈ u_ws RX5 TX5 3, goodWord w = true) w h), tyX5_ok, nmX5⟩
set_option maxRecDepth 100000 in
def zv_5 : List Value := [.null, .null, .null]
set_option maxRecDepth 100000 in
theorem zn_5 : ∀ j, j < 3 → defaultValue (tyX5 j) = vp_V zv_5 j := by decide +kernel
set_option maxRecDepth 100000 in
theorem zw_5 (b : Nat) (ads : List Nat) : zi_a2 (zi_g b ads) [.inr (.inr (.inl none)), .inr (.inr (.inl none)), .inr (.inr (.inl none))] zv_5 := za_c za_nl (za_c za_nl (za_c za_nl (za_n)))
set_option maxRecDepth 100000 in
theorem zc_6 : zi_cls 6 RX6 TX6 8 tyX6 := ⟨rfl, fun w h => zi_inG ((by decide +kernel : ∀ w ∈ u_ws RX6 TX6 8, w ∈ lw_tbl) w h) ((by decide +kernel : ∀ w ∈ u_ws RX6 TX6 8, goodWord w = true) w h), tyX6_ok, nmX6⟩
set_option maxRecDepth 100000 in
def zv_6 : List Value := [.null, .int 0, .int 0, .int 0, .int 0, .int 0, .int 0, .int 0]
set_option maxRecDepth 100000 in
theorem zn_6 : ∀ j, j < 8 → defaultValue (tyX6 j) = vp_V zv_6 j := by decide +kernel
set_option maxRecDepth 100000 in
theorem zw_6 (b : Nat) (ads : List Nat) : zi_a2 (zi_g b ads) [.inr (.inr (.inl none)), (.inl (2147483648, 2147483648)), (.inl (2147483648, 2147483648)), (.inl (2147483648, 2147483648)), (.inl (2147483648, 2147483648)), (.inl (2147483648, 2147483648)), (.inl (2147483648, 2147483648)), (.inl (2147483648, 2147483648))] zv_6 := za_c za_nl (za_c za_i0 (za_c za_i0 (za_c za_i0 (za_c za_i0 (za_c za_i0 (za_c za_i0 (za_c za_i0 (za_n))))))))
set_option maxRecDepth 100000 in
theorem zc_7 : zi_cls 7 RX7 TX7 7 tyX7 := ⟨rfl, fun w h => zi_inG ((by decide +kernel : ∀ w ∈ u_ws RX7 TX7 7, w ∈ lw_tbl) w h) ((by decide +kernel : ∀ w ∈ u_ws RX7 TX7 7, goodWord w = true) w h), tyX7_ok, nmX7⟩
set_option maxRecDepth 100000 in
def zv_7 : List Value := [.null, .null, .null, .null, .int 0, .int 0, .int 0]
set_option maxRecDepth 100000 in
theorem zn_7 : ∀ j, j < 7 → defaultValue (tyX7 j) = vp_V zv_7 j := by decide +kernel
set_option maxRecDepth 100000 in
theorem zw_7 (b : Nat) (ads : List Nat) : zi_a2 (zi_g b ads) [.inr (.inr (.inl none)), .inr (.inr (.inl none)), .inr (.inr (.inl none)), .inr (.inr (.inl none)), (.inl (2147483648, 2147483648)), (.inl (2147483648, 2147483648)), (.inl (2147483648, 2147483648))] zv_7 := za_c za_nl (za_c za_nl (za_c za_nl (za_c za_nl (za_c za_i0 (za_c za_i0 (za_c za_i0 (za_n)))))))
set_option maxRecDepth 100000 in
theorem zc_8 : zi_cls 8 RX8 TX8 14 tyX8 := ⟨rfl, fun w h => zi_inG ((by decide +kernel : ∀ w ∈ u_ws RX8 TX8 14, w ∈ lw_tbl) w h) ((by decide +kernel : ∀ w ∈ u_ws RX8 TX8 14, goodWord w = true) w h), tyX8_ok, nmX8⟩
set_option maxRecDepth 100000 in
def zv_8 : List Value := [.null, .null, .null, .null, .null, .null, .null, .null, .null, .null, .null, .int 0, .int 0, .int 0]
set_option maxRecDepth 100000 in
theorem zn_8 : ∀ j, j < 14 → defaultValue (tyX8 j) = vp_V zv_8 j := by decide +kernel
set_option maxRecDepth 100000 in
theorem zw_8 (b : Nat) (ads : List Nat) : zi_a2 (zi_g b ads) [.inr (.inr (.inl none)), .inr (.inr (.inl none)), .inr (.inr (.inl none)), .inr (.inr (.inl none)), .inr (.inr (.inl none)), .inr (.inr (.inl none)), .inr (.inr (.inl none)), .inr (.inr (.inl none)), .inr (.inr (.inl none)), .inr (.inr (.inl none)), .inr (.inr (.inl none)), (.inl (2147483648, 2147483648)), (.inl (2147483648, 2147483648)), (.inl (2147483648, 2147483648))] zv_8 := za_c za_nl (za_c za_nl (za_c za_nl (za_c za_nl (za_c za_nl (za_c za_nl (za_c za_nl (za_c za_nl (za_c za_nl (za_c za_nl (za_c za_nl (za_c za_i0 (za_c za_i0 (za_c za_i0 (za_n))))))))))))))
set_option maxRecDepth 100000 in
theorem zc_9 : zi_cls 9 RX9 TX9 47 tyX9 := ⟨rfl, fun w h => zi_inG ((by decide +kernel : ∀ w ∈ u_ws RX9 TX9 47, w ∈ lw_tbl) w h) ((by decide +kernel : ∀ w ∈ u_ws RX9 TX9 47, goodWord w = true) w h), tyX9_ok, nmX9⟩
set_option maxRecDepth 100000 in
def zv_9 : List Value := [.null, .null, .int 0, .int 0, .int 0, .null, .int 0, .int 0, .int 0, .int 0, .int 0, .int 0, .null, .null, .null, .null, .int 0, .int 0, .int 0, .int 0, .int 0, .int 0, .null, .int 0, .int 0, .int 0, .int 0, .int 0, .int 0, .int 0, .null, .int 0, .int 0, .null, .null, .null, .null, .null, .null, .null, .null, .null, .null, .null, .null, .int 0, .null]
set_option maxRecDepth 100000 in
theorem zn_9 : ∀ j, j < 47 → defaultValue (tyX9 j) = vp_V zv_9 j := by decide +kernel
set_option maxRecDepth 100000 in
theorem zw_9 (b : Nat) (ads : List Nat) : zi_a2 (zi_g b ads) [.inr (.inr (.inl none)), .inr (.inr (.inl none)), (.inl (2147483648, 2147483648)), (.inl (2147483648, 2147483648)), (.inl (2147483648, 2147483648)), .inr (.inr (.inl none)), (.inl (2147483648, 2147483648)), (.inl (2147483648, 2147483648)), (.inl (2147483648, 2147483648)), (.inl (2147483648, 2147483648)), (.inl (2147483648, 2147483648)), (.inl (2147483648, 2147483648)), .inr (.inr (.inl none)), .inr (.inr (.inl none)), .inr (.inr (.inl none)), .inr (.inr (.inl none)), (.inl (2147483648, 2147483648)), (.inl (2147483648, 2147483648)), (.inl (2147483648, 2147483648)), (.inl (2147483648, 2147483648)), (.inl (2147483648, 2147483648)), (.inl (2147483648, 2147483648)), .inr (.inr (.inl none)), (.inl (2147483648, 2147483648)), (.inl (2147483648, 2147483648)), (.inl (2147483648, 2147483648)), (.inl (2147483648, 2147483648)), (.inl (2147483648, 2147483648)), (.inl (2147483648, 2147483648)), (.inl (2147483648, 2147483648)), .inr (.inr (.inl none)), (.inl (2147483648, 2147483648)), (.inl (2147483648, 2147483648)), .inr (.inr (.inl none)), .inr (.inr (.inl none)), .inr (.inr (.inl none)), .inr (.inr (.inl none)), .inr (.inr (.inl none)), .inr (.inr (.inl none)), .inr (.inr (.inl none)), .inr (.inr (.inl none)), .inr (.inr (.inl none)), .inr (.inr (.inl none)), .inr (.inr (.inl none)), .inr (.inr (.inl none)), (.inl (2147483648, 2147483648)), .inr (.inr (.inl none))] zv_9 := za_c za_nl (za_c za_nl (za_c za_i0 (za_c za_i0 (za_c za_i0 (za_c za_nl (za_c za_i0 (za_c za_i0 (za_c za_i0 (za_c za_i0 (za_c za_i0 (za_c za_i0 (za_c za_nl (za_c za_nl (za_c za_nl (za_c za_nl (za_c za_i0 (za_c za_i0 (za_c za_i0 (za_c za_i0 (za_c za_i0 (za_c za_i0 (za_c za_nl (za_c za_i0 (za_c za_i0 (za_c za_i0 (za_c za_i0 (za_c za_i0 (za_c za_i0 (za_c za_i0 (za_c za_nl (za_c za_i0 (za_c za_i0 (za_c za_nl (za_c za_nl (za_c za_nl (za_c za_nl (za_c za_nl (za_c za_nl (za_c za_nl (za_c za_nl (za_c za_nl (za_c za_nl (za_c za_nl (za_c za_nl (za_c za_i0 (za_c za_nl (za_n)))))))))))))))))))))))))))))))))))))))))))))))
set_option maxRecDepth 100000 in
theorem zl_0 : Cond.fieldLink "RiverDiggers$Digger" 20 "RiverDiggers$Digger" "next" "LRiverDiggers$Digger;" ∈ zi_G := zi_inG (List.mem_append_right _ (List.mem_append_left _ (List.mem_of_getElem? (l := tables_1_1) (i := 189) (by decide +kernel)))) rfl
set_option maxRecDepth 100000 in
theorem zl_1 : Cond.fieldLink "RiverDiggers$Digger" 14 "RiverDiggers$Digger" "flow" "LRiverDiggers$Flow;" ∈ zi_G := zi_inG (List.mem_append_right _ (List.mem_append_left _ (List.mem_of_getElem? (l := tables_1_1) (i := 188) (by decide +kernel)))) rfl
set_option maxRecDepth 100000 in
theorem zl_2 : Cond.methodLink "RiverDiggers$Digger" 11 yX2_init ∈ zi_G := zi_inG (List.mem_append_right _ (List.mem_append_left _ (List.mem_of_getElem? (l := tables_1_1) (i := 187) (by decide +kernel)))) rfl
set_option maxRecDepth 100000 in
theorem zl_3 : Cond.instanceMethod yX2_init ∈ zi_G := zi_inG (List.mem_append_right _ (List.mem_append_left _ (List.mem_of_getElem? (l := tables_1_1) (i := 70) (by decide +kernel)))) rfl
set_option maxRecDepth 100000 in
theorem zl_4 : Cond.classLink "RiverDiggers$Digger" 9 "RiverDiggers$Flow" ∈ zi_G := zi_inG (List.mem_append_right _ (List.mem_append_left _ (List.mem_of_getElem? (l := tables_1_1) (i := 186) (by decide +kernel)))) rfl
set_option maxRecDepth 100000 in
theorem zl_5 : Cond.instantiable "RiverDiggers$Flow" 8 ∈ zi_G := zi_inG (List.mem_append_right _ (List.mem_append_left _ (List.mem_of_getElem? (l := tables_1_1) (i := 68) (by decide +kernel)))) rfl
set_option maxRecDepth 100000 in
theorem zl_6 : Cond.initialized "RiverDiggers$Flow" ∈ zi_G := zi_inG (List.mem_append_right _ (List.mem_append_left _ (List.mem_of_getElem? (l := tables_1_1) (i := 4) (by decide +kernel)))) rfl
set_option maxRecDepth 100000 in
theorem zl_7 : Cond.methodLink "RiverDiggers$Digger" 3 Lib.objectInit ∈ zi_G := zi_inG (List.mem_append_right _ (List.mem_append_left _ (List.mem_of_getElem? (l := tables_1_1) (i := 185) (by decide +kernel)))) rfl
set_option maxRecDepth 100000 in
theorem zl_8 : Cond.code Lib.objectInit ⟨#[0xb1]⟩ 1 none ∈ zi_G := zi_inG (List.mem_append_right _ (List.mem_append_left _ (List.mem_of_getElem? (l := tables_1_1) (i := 25) (rfl)))) rfl
set_option maxRecDepth 100000 in
theorem zl_9 : Cond.instanceMethod Lib.objectInit ∈ zi_G := zi_inG (List.mem_append_right _ (List.mem_append_left _ (List.mem_of_getElem? (l := tables_1_1) (i := 24) (by decide +kernel)))) rfl
set_option maxRecDepth 100000 in
theorem zl_10 : Cond.methodLink "RiverDiggers$Digger" 24 yX2_copy ∈ zi_G := zi_inG (List.mem_append_right _ (List.mem_append_right _ (List.mem_append_right _ (List.mem_append_left _ (List.mem_of_getElem? (l := tables_1_3) (i := 180) (by decide +kernel)))))) rfl
set_option maxRecDepth 100000 in
theorem zl_11 : Cond.instanceMethod yX2_copy ∈ zi_G := zi_inG (List.mem_append_right _ (List.mem_append_right _ (List.mem_append_right _ (List.mem_append_left _ (List.mem_of_getElem? (l := tables_1_3) (i := 156) (by decide +kernel)))))) rfl
set_option maxRecDepth 100000 in
theorem zl_12 : Cond.selects "RiverDiggers$Flow" yX2_copy yX2_copy ∈ zi_G := zi_inG (List.mem_append_right _ (List.mem_append_right _ (List.mem_append_right _ (List.mem_append_left _ (List.mem_of_getElem? (l := tables_1_3) (i := 157) (by decide +kernel)))))) rfl
set_option maxRecDepth 100000 in
theorem zl_13 : Cond.methodLink "RiverDiggers$Digger" 28 yX0_brings ∈ zi_G := zi_inG (List.mem_append_right _ (List.mem_append_right _ (List.mem_append_right _ (List.mem_append_left _ (List.mem_of_getElem? (l := tables_1_3) (i := 181) (by decide +kernel)))))) rfl
set_option maxRecDepth 100000 in
theorem zl_14 : Cond.instanceMethod yX0_brings ∈ zi_G := zi_inG (List.mem_append_right _ (List.mem_append_right _ (List.mem_append_right _ (List.mem_append_left _ (List.mem_of_getElem? (l := tables_1_3) (i := 183) (by decide +kernel)))))) rfl
set_option maxRecDepth 100000 in
theorem zl_15 : Cond.selects "RiverDiggers$Digger" yX0_brings yX0_brings ∈ zi_G := zi_inG (List.mem_append_left _ (List.mem_of_getElem? (i := 14) (by decide +kernel))) rfl
set_option maxRecDepth 100000 in
theorem zl_16 : Cond.methodLinkNest "RiverDiggers$Digger" 36 yX8_has "RiverDiggers" ∈ lw_tbl := List.mem_append_right _ (List.mem_append_right _ (List.mem_append_right _ (List.mem_append_left _ (List.mem_of_getElem? (l := tables_1_3) (i := 185) (by decide +kernel)))))
set_option maxRecDepth 100000 in
theorem zl_17 : Cond.static yX8_has ∈ zi_G := zi_inG (List.mem_append_right _ (List.mem_append_right _ (List.mem_append_left _ (List.mem_of_getElem? (l := tables_1_2) (i := 82) (by decide +kernel))))) rfl
set_option maxRecDepth 100000 in
theorem zl_18 : Cond.fieldLink "RiverDiggers$Digger" 32 "RiverDiggers$Flow" "bits" "I" ∈ zi_G := zi_inG (List.mem_append_right _ (List.mem_append_left _ (List.mem_of_getElem? (l := tables_1_1) (i := 84) (by decide +kernel)))) rfl
set_option maxRecDepth 100000 in
theorem zl_19 : Cond.methodLink "RiverDiggers$Digger" 40 yX2_cuttable ∈ zi_G := zi_inG (List.mem_append_right _ (List.mem_append_right _ (List.mem_append_right _ (List.mem_append_left _ (List.mem_of_getElem? (l := tables_1_3) (i := 186) (by decide +kernel)))))) rfl
set_option maxRecDepth 100000 in
theorem zl_20 : Cond.instanceMethod yX2_cuttable ∈ zi_G := zi_inG (List.mem_append_right _ (List.mem_append_right _ (List.mem_append_right _ (List.mem_append_left _ (List.mem_of_getElem? (l := tables_1_3) (i := 87) (by decide +kernel)))))) rfl
set_option maxRecDepth 100000 in
theorem zl_21 : Cond.selects "RiverDiggers$Flow" yX2_cuttable yX2_cuttable ∈ zi_G := zi_inG (List.mem_append_right _ (List.mem_append_right _ (List.mem_append_right _ (List.mem_append_left _ (List.mem_of_getElem? (l := tables_1_3) (i := 88) (by decide +kernel)))))) rfl
set_option maxRecDepth 100000 in
theorem zl_22 : Cond.methodLink "RiverDiggers$Digger" 51 yX2_pass ∈ zi_G := zi_inG (List.mem_append_right _ (List.mem_append_right _ (List.mem_append_right _ (List.mem_append_left _ (List.mem_of_getElem? (l := tables_1_3) (i := 190) (by decide +kernel)))))) rfl
set_option maxRecDepth 100000 in
theorem zl_23 : Cond.instanceMethod yX2_pass ∈ zi_G := zi_inG (List.mem_append_right _ (List.mem_append_right _ (List.mem_append_right _ (List.mem_append_left _ (List.mem_of_getElem? (l := tables_1_3) (i := 143) (by decide +kernel)))))) rfl
set_option maxRecDepth 100000 in
theorem zl_24 : Cond.selects "RiverDiggers$Flow" yX2_pass yX2_pass ∈ zi_G := zi_inG (List.mem_append_right _ (List.mem_append_right _ (List.mem_append_right _ (List.mem_append_left _ (List.mem_of_getElem? (l := tables_1_3) (i := 144) (by decide +kernel)))))) rfl
set_option maxRecDepth 100000 in
theorem zl_25 : Cond.methodLinkNest "RiverDiggers$Digger" 47 yX8_numberOf "RiverDiggers" ∈ lw_tbl := List.mem_append_right _ (List.mem_append_right _ (List.mem_append_right _ (List.mem_append_left _ (List.mem_of_getElem? (l := tables_1_3) (i := 187) (by decide +kernel)))))
set_option maxRecDepth 100000 in
theorem zl_26 : Cond.static yX8_numberOf ∈ zi_G := zi_inG (List.mem_append_right _ (List.mem_append_right _ (List.mem_append_right _ (List.mem_append_left _ (List.mem_of_getElem? (l := tables_1_3) (i := 188) (by decide +kernel)))))) rfl
set_option maxRecDepth 100000 in
theorem zl_27 : Cond.fieldLink "RiverDiggers$Digger" 44 "RiverDiggers$Digger" "cut" "I" ∈ zi_G := zi_inG (List.mem_append_right _ (List.mem_append_left _ (List.mem_of_getElem? (l := tables_1_1) (i := 190) (by decide +kernel)))) rfl
set_option maxRecDepth 100000 in
theorem zl_28 : Cond.fieldLink "RiverDiggers$Draft" 21 "RiverDiggers$Draft" "worths" "[I" ∈ zi_G := zi_inG (List.mem_append_right _ (List.mem_append_right _ (List.mem_append_left _ (List.mem_of_getElem? (l := tables_1_2) (i := 5) (by decide +kernel))))) rfl
set_option maxRecDepth 100000 in
theorem zl_29 : Cond.arrayClass .int ∈ zi_G := zi_inG (List.mem_append_right _ (List.mem_append_left _ (List.mem_of_getElem? (l := tables_1_1) (i := 60) (by decide +kernel)))) rfl
set_option maxRecDepth 100000 in
theorem zl_30 : Cond.fieldLink "RiverDiggers$Draft" 18 "RiverDiggers$Draft" "ground" "[I" ∈ zi_G := zi_inG (List.mem_append_right _ (List.mem_append_right _ (List.mem_append_left _ (List.mem_of_getElem? (l := tables_1_2) (i := 4) (by decide +kernel))))) rfl
set_option maxRecDepth 100000 in
theorem zl_31 : Cond.fieldLink "RiverDiggers$Draft" 15 "RiverDiggers$Draft" "lengths" "[I" ∈ zi_G := zi_inG (List.mem_append_right _ (List.mem_append_right _ (List.mem_append_left _ (List.mem_of_getElem? (l := tables_1_2) (i := 3) (by decide +kernel))))) rfl
set_option maxRecDepth 100000 in
theorem zl_32 : Cond.fieldLink "RiverDiggers$Draft" 9 "RiverDiggers$Draft" "yards" "[I" ∈ zi_G := zi_inG (List.mem_append_right _ (List.mem_append_right _ (List.mem_append_left _ (List.mem_of_getElem? (l := tables_1_2) (i := 2) (by decide +kernel))))) rfl
set_option maxRecDepth 100000 in
theorem zl_33 : Cond.methodLink "RiverDiggers$Draft" 3 Lib.objectInit ∈ zi_G := zi_inG (List.mem_append_right _ (List.mem_append_right _ (List.mem_append_left _ (List.mem_of_getElem? (l := tables_1_2) (i := 1) (by decide +kernel))))) rfl
set_option maxRecDepth 100000 in
theorem zl_34 : Cond.fieldLink "RiverDiggers$Draft" 46 "RiverDiggers$Draft" "came" "I" ∈ zi_G := zi_inG (List.mem_append_right _ (List.mem_append_right _ (List.mem_append_left _ (List.mem_of_getElem? (l := tables_1_2) (i := 11) (by decide +kernel))))) rfl
set_option maxRecDepth 100000 in
theorem zl_35 : Cond.fieldLink "RiverDiggers$Draft" 43 "RiverDiggers$Draft" "farms" "I" ∈ zi_G := zi_inG (List.mem_append_right _ (List.mem_append_right _ (List.mem_append_left _ (List.mem_of_getElem? (l := tables_1_2) (i := 10) (by decide +kernel))))) rfl
set_option maxRecDepth 100000 in
theorem zl_36 : Cond.fieldLink "RiverDiggers$Draft" 40 "RiverDiggers$Draft" "law" "I" ∈ zi_G := zi_inG (List.mem_append_right _ (List.mem_append_right _ (List.mem_append_left _ (List.mem_of_getElem? (l := tables_1_2) (i := 9) (by decide +kernel))))) rfl
set_option maxRecDepth 100000 in
theorem zl_37 : Cond.fieldLink "RiverDiggers$Draft" 37 "RiverDiggers$Draft" "spring" "I" ∈ zi_G := zi_inG (List.mem_append_right _ (List.mem_append_right _ (List.mem_append_left _ (List.mem_of_getElem? (l := tables_1_2) (i := 8) (by decide +kernel))))) rfl
set_option maxRecDepth 100000 in
theorem zl_38 : Cond.fieldLink "RiverDiggers$Draft" 34 "RiverDiggers$Draft" "high" "I" ∈ zi_G := zi_inG (List.mem_append_right _ (List.mem_append_right _ (List.mem_append_left _ (List.mem_of_getElem? (l := tables_1_2) (i := 7) (by decide +kernel))))) rfl
set_option maxRecDepth 100000 in
theorem zl_39 : Cond.fieldLink "RiverDiggers$Draft" 30 "RiverDiggers$Draft" "wide" "I" ∈ zi_G := zi_inG (List.mem_append_right _ (List.mem_append_right _ (List.mem_append_left _ (List.mem_of_getElem? (l := tables_1_2) (i := 6) (by decide +kernel))))) rfl
set_option maxRecDepth 100000 in
theorem zl_40 : Cond.methodLink "RiverDiggers$Draft" 24 yJ7_fill_53178 ∈ zi_G := zi_inG (List.mem_append_right _ (List.mem_append_right _ (List.mem_append_left _ (List.mem_of_getElem? (l := tables_1_2) (i := 57) (by decide +kernel))))) rfl
set_option maxRecDepth 100000 in
theorem zl_41 : Cond.static yJ7_fill_53178 ∈ zi_G := zi_inG (List.mem_append_right _ (List.mem_append_right _ (List.mem_append_left _ (List.mem_of_getElem? (l := tables_1_2) (i := 40) (by decide +kernel))))) rfl
set_option maxRecDepth 100000 in
theorem zl_42 : Cond.methodLink "RiverDiggers$Draft" 52 yX6_rewind ∈ zi_G := zi_inG (List.mem_append_right _ (List.mem_append_right _ (List.mem_append_left _ (List.mem_of_getElem? (l := tables_1_2) (i := 148) (by decide +kernel))))) rfl
set_option maxRecDepth 100000 in
theorem zl_43 : Cond.instanceMethod yX6_rewind ∈ zi_G := zi_inG (List.mem_append_right _ (List.mem_append_right _ (List.mem_append_left _ (List.mem_of_getElem? (l := tables_1_2) (i := 149) (by decide +kernel))))) rfl
set_option maxRecDepth 100000 in
theorem zl_44 : Cond.selects "RiverDiggers$Tape" yX6_rewind yX6_rewind ∈ zi_G := zi_inG (List.mem_append_right _ (List.mem_append_right _ (List.mem_append_left _ (List.mem_of_getElem? (l := tables_1_2) (i := 150) (by decide +kernel))))) rfl
set_option maxRecDepth 100000 in
theorem zl_45 : Cond.methodLink "RiverDiggers$Draft" 49 yX1_clear ∈ zi_G := zi_inG (List.mem_append_right _ (List.mem_append_right _ (List.mem_append_left _ (List.mem_of_getElem? (l := tables_1_2) (i := 147) (by decide +kernel))))) rfl
set_option maxRecDepth 100000 in
theorem zl_46 : Cond.instanceMethod yX1_clear ∈ zi_G := zi_inG (List.mem_append_right _ (List.mem_append_right _ (List.mem_append_left _ (List.mem_of_getElem? (l := tables_1_2) (i := 54) (by decide +kernel))))) rfl
set_option maxRecDepth 100000 in
theorem zl_47 : Cond.selects "RiverDiggers$Draft" yX1_clear yX1_clear ∈ zi_G := zi_inG (List.mem_append_right _ (List.mem_append_right _ (List.mem_append_left _ (List.mem_of_getElem? (l := tables_1_2) (i := 55) (by decide +kernel))))) rfl
set_option maxRecDepth 100000 in
theorem zl_48 : Cond.fieldLink "RiverDiggers$Draft" 60 "RiverDiggers$Tape" "flaw" "I" ∈ zi_G := zi_inG (List.mem_append_right _ (List.mem_append_left _ (List.mem_of_getElem? (l := tables_1_1) (i := 214) (by decide +kernel)))) rfl
set_option maxRecDepth 100000 in
theorem zl_49 : Cond.methodLink "RiverDiggers$Draft" 57 yX6_next ∈ zi_G := zi_inG (List.mem_append_right _ (List.mem_append_right _ (List.mem_append_left _ (List.mem_of_getElem? (l := tables_1_2) (i := 152) (by decide +kernel))))) rfl
set_option maxRecDepth 100000 in
theorem zl_50 : Cond.instanceMethod yX6_next ∈ zi_G := zi_inG (List.mem_append_right _ (List.mem_append_right _ (List.mem_append_left _ (List.mem_of_getElem? (l := tables_1_2) (i := 153) (by decide +kernel))))) rfl
set_option maxRecDepth 100000 in
theorem zl_51 : Cond.selects "RiverDiggers$Tape" yX6_next yX6_next ∈ zi_G := zi_inG (List.mem_append_right _ (List.mem_append_right _ (List.mem_append_left _ (List.mem_of_getElem? (l := tables_1_2) (i := 154) (by decide +kernel))))) rfl
set_option maxRecDepth 100000 in
theorem zl_52 : Cond.fieldLink "RiverDiggers$Draft" 63 "RiverDiggers$Tape" "kind" "I" ∈ zi_G := zi_inG (List.mem_append_right _ (List.mem_append_left _ (List.mem_of_getElem? (l := tables_1_1) (i := 208) (by decide +kernel)))) rfl
set_option maxRecDepth 100000 in
theorem zl_53 : Cond.methodLink "RiverDiggers$Draft" 66 yX1_takeLine ∈ zi_G := zi_inG (List.mem_append_right _ (List.mem_append_right _ (List.mem_append_left _ (List.mem_of_getElem? (l := tables_1_2) (i := 166) (by decide +kernel))))) rfl
set_option maxRecDepth 100000 in
theorem zl_54 : Cond.instanceMethod yX1_takeLine ∈ zi_G := zi_inG (List.mem_append_right _ (List.mem_append_right _ (List.mem_append_left _ (List.mem_of_getElem? (l := tables_1_2) (i := 168) (by decide +kernel))))) rfl
set_option maxRecDepth 100000 in
theorem zl_55 : Cond.selects "RiverDiggers$Draft" yX1_takeLine yX1_takeLine ∈ zi_G := zi_inG (List.mem_append_left _ (List.mem_of_getElem? (i := 2) (by decide +kernel))) rfl
set_option maxRecDepth 100000 in
theorem zl_56 : Cond.methodLink "RiverDiggers$Draft" 70 yX1_isWhole ∈ zi_G := zi_inG (List.mem_append_right _ (List.mem_append_right _ (List.mem_append_right _ (List.mem_append_left _ (List.mem_of_getElem? (l := tables_1_3) (i := 43) (by decide +kernel)))))) rfl
set_option maxRecDepth 100000 in
theorem zl_57 : Cond.instanceMethod yX1_isWhole ∈ zi_G := zi_inG (List.mem_append_right _ (List.mem_append_right _ (List.mem_append_right _ (List.mem_append_left _ (List.mem_of_getElem? (l := tables_1_3) (i := 45) (by decide +kernel)))))) rfl
set_option maxRecDepth 100000 in
theorem zl_58 : Cond.selects "RiverDiggers$Draft" yX1_isWhole yX1_isWhole ∈ zi_G := zi_inG (List.mem_append_left _ (List.mem_of_getElem? (i := 11) (by decide +kernel))) rfl
set_option maxRecDepth 100000 in
theorem zl_59 : Cond.methodLink "RiverDiggers$Draft" 74 yX6_failBehindAll ∈ zi_G := zi_inG (List.mem_append_right _ (List.mem_append_right _ (List.mem_append_right _ (List.mem_append_left _ (List.mem_of_getElem? (l := tables_1_3) (i := 47) (by decide +kernel)))))) rfl
set_option maxRecDepth 100000 in
theorem zl_60 : Cond.instanceMethod yX6_failBehindAll ∈ zi_G := zi_inG (List.mem_append_right _ (List.mem_append_right _ (List.mem_append_right _ (List.mem_append_left _ (List.mem_of_getElem? (l := tables_1_3) (i := 48) (by decide +kernel)))))) rfl
set_option maxRecDepth 100000 in
theorem zl_61 : Cond.selects "RiverDiggers$Tape" yX6_failBehindAll yX6_failBehindAll ∈ zi_G := zi_inG (List.mem_append_right _ (List.mem_append_right _ (List.mem_append_right _ (List.mem_append_left _ (List.mem_of_getElem? (l := tables_1_3) (i := 49) (by decide +kernel)))))) rfl
set_option maxRecDepth 100000 in
theorem zl_62 : Cond.methodLink "RiverDiggers$Draft" 80 yX6_says ∈ zi_G := zi_inG (List.mem_append_right _ (List.mem_append_right _ (List.mem_append_left _ (List.mem_of_getElem? (l := tables_1_2) (i := 171) (by decide +kernel))))) rfl
set_option maxRecDepth 100000 in
theorem zl_63 : Cond.instanceMethod yX6_says ∈ zi_G := zi_inG (List.mem_append_right _ (List.mem_append_right _ (List.mem_append_left _ (List.mem_of_getElem? (l := tables_1_2) (i := 172) (by decide +kernel))))) rfl
set_option maxRecDepth 100000 in
theorem zl_64 : Cond.selects "RiverDiggers$Tape" yX6_says yX6_says ∈ zi_G := zi_inG (List.mem_append_right _ (List.mem_append_right _ (List.mem_append_left _ (List.mem_of_getElem? (l := tables_1_2) (i := 173) (by decide +kernel))))) rfl
set_option maxRecDepth 100000 in
theorem zl_65 : Cond.methodLink "RiverDiggers$Draft" 84 yX1_takePlain ∈ zi_G := zi_inG (List.mem_append_right _ (List.mem_append_right _ (List.mem_append_left _ (List.mem_of_getElem? (l := tables_1_2) (i := 223) (by decide +kernel))))) rfl
set_option maxRecDepth 100000 in
theorem zl_66 : Cond.instanceMethod yX1_takePlain ∈ zi_G := zi_inG (List.mem_append_right _ (List.mem_append_right _ (List.mem_append_left _ (List.mem_of_getElem? (l := tables_1_2) (i := 225) (by decide +kernel))))) rfl
set_option maxRecDepth 100000 in
theorem zl_67 : Cond.selects "RiverDiggers$Draft" yX1_takePlain yX1_takePlain ∈ zi_G := zi_inG (List.mem_append_left _ (List.mem_of_getElem? (i := 3) (by decide +kernel))) rfl
set_option maxRecDepth 100000 in
theorem zl_68 : Cond.methodLink "RiverDiggers$Draft" 89 yX1_takeRow ∈ zi_G := zi_inG (List.mem_append_right _ (List.mem_append_right _ (List.mem_append_right _ (List.mem_append_left _ (List.mem_of_getElem? (l := tables_1_3) (i := 6) (by decide +kernel)))))) rfl
set_option maxRecDepth 100000 in
theorem zl_69 : Cond.instanceMethod yX1_takeRow ∈ zi_G := zi_inG (List.mem_append_right _ (List.mem_append_right _ (List.mem_append_right _ (List.mem_append_left _ (List.mem_of_getElem? (l := tables_1_3) (i := 8) (by decide +kernel)))))) rfl
set_option maxRecDepth 100000 in
theorem zl_70 : Cond.selects "RiverDiggers$Draft" yX1_takeRow yX1_takeRow ∈ zi_G := zi_inG (List.mem_append_left _ (List.mem_of_getElem? (i := 5) (by decide +kernel))) rfl
set_option maxRecDepth 100000 in
theorem zl_71 : Cond.methodLink "RiverDiggers$Draft" 93 yX1_takeSpring ∈ zi_G := zi_inG (List.mem_append_right _ (List.mem_append_right _ (List.mem_append_right _ (List.mem_append_left _ (List.mem_of_getElem? (l := tables_1_3) (i := 12) (by decide +kernel)))))) rfl
set_option maxRecDepth 100000 in
theorem zl_72 : Cond.instanceMethod yX1_takeSpring ∈ zi_G := zi_inG (List.mem_append_right _ (List.mem_append_right _ (List.mem_append_right _ (List.mem_append_left _ (List.mem_of_getElem? (l := tables_1_3) (i := 14) (by decide +kernel)))))) rfl
set_option maxRecDepth 100000 in
theorem zl_73 : Cond.selects "RiverDiggers$Draft" yX1_takeSpring yX1_takeSpring ∈ zi_G := zi_inG (List.mem_append_left _ (List.mem_of_getElem? (i := 6) (by decide +kernel))) rfl
set_option maxRecDepth 100000 in
theorem zl_74 : Cond.methodLink "RiverDiggers$Draft" 98 yX1_takeFarm ∈ zi_G := zi_inG (List.mem_append_right _ (List.mem_append_right _ (List.mem_append_right _ (List.mem_append_left _ (List.mem_of_getElem? (l := tables_1_3) (i := 17) (by decide +kernel)))))) rfl
set_option maxRecDepth 100000 in
theorem zl_75 : Cond.instanceMethod yX1_takeFarm ∈ zi_G := zi_inG (List.mem_append_right _ (List.mem_append_right _ (List.mem_append_right _ (List.mem_append_left _ (List.mem_of_getElem? (l := tables_1_3) (i := 19) (by decide +kernel)))))) rfl
set_option maxRecDepth 100000 in
theorem zl_76 : Cond.selects "RiverDiggers$Draft" yX1_takeFarm yX1_takeFarm ∈ zi_G := zi_inG (List.mem_append_left _ (List.mem_of_getElem? (i := 7) (by decide +kernel))) rfl
set_option maxRecDepth 100000 in
theorem zl_77 : Cond.methodLink "RiverDiggers$Draft" 102 yX1_takeGround ∈ zi_G := zi_inG (List.mem_append_right _ (List.mem_append_right _ (List.mem_append_right _ (List.mem_append_left _ (List.mem_of_getElem? (l := tables_1_3) (i := 22) (by decide +kernel)))))) rfl
set_option maxRecDepth 100000 in
theorem zl_78 : Cond.instanceMethod yX1_takeGround ∈ zi_G := zi_inG (List.mem_append_right _ (List.mem_append_right _ (List.mem_append_right _ (List.mem_append_left _ (List.mem_of_getElem? (l := tables_1_3) (i := 24) (by decide +kernel)))))) rfl
set_option maxRecDepth 100000 in
theorem zl_79 : Cond.selects "RiverDiggers$Draft" yX1_takeGround yX1_takeGround ∈ zi_G := zi_inG (List.mem_append_left _ (List.mem_of_getElem? (i := 8) (by decide +kernel))) rfl
set_option maxRecDepth 100000 in
theorem zl_80 : Cond.methodLink "RiverDiggers$Draft" 106 yX1_takeLaw ∈ zi_G := zi_inG (List.mem_append_right _ (List.mem_append_right _ (List.mem_append_right _ (List.mem_append_left _ (List.mem_of_getElem? (l := tables_1_3) (i := 34) (by decide +kernel)))))) rfl
set_option maxRecDepth 100000 in
theorem zl_81 : Cond.instanceMethod yX1_takeLaw ∈ zi_G := zi_inG (List.mem_append_right _ (List.mem_append_right _ (List.mem_append_right _ (List.mem_append_left _ (List.mem_of_getElem? (l := tables_1_3) (i := 36) (by decide +kernel)))))) rfl
set_option maxRecDepth 100000 in
theorem zl_82 : Cond.selects "RiverDiggers$Draft" yX1_takeLaw yX1_takeLaw ∈ zi_G := zi_inG (List.mem_append_left _ (List.mem_of_getElem? (i := 9) (by decide +kernel))) rfl
set_option maxRecDepth 100000 in
theorem zl_83 : Cond.methodLink "RiverDiggers$Draft" 111 yX1_takeSilt ∈ zi_G := zi_inG (List.mem_append_right _ (List.mem_append_right _ (List.mem_append_right _ (List.mem_append_left _ (List.mem_of_getElem? (l := tables_1_3) (i := 39) (by decide +kernel)))))) rfl
set_option maxRecDepth 100000 in
theorem zl_84 : Cond.instanceMethod yX1_takeSilt ∈ zi_G := zi_inG (List.mem_append_right _ (List.mem_append_right _ (List.mem_append_right _ (List.mem_append_left _ (List.mem_of_getElem? (l := tables_1_3) (i := 41) (by decide +kernel)))))) rfl
set_option maxRecDepth 100000 in
theorem zl_85 : Cond.selects "RiverDiggers$Draft" yX1_takeSilt yX1_takeSilt ∈ zi_G := zi_inG (List.mem_append_left _ (List.mem_of_getElem? (i := 10) (by decide +kernel))) rfl
set_option maxRecDepth 100000 in
theorem zl_86 : Cond.methodLink "RiverDiggers$Draft" 114 yX6_fail ∈ zi_G := zi_inG (List.mem_append_right _ (List.mem_append_right _ (List.mem_append_left _ (List.mem_of_getElem? (l := tables_1_2) (i := 231) (by decide +kernel))))) rfl
set_option maxRecDepth 100000 in
theorem zl_87 : Cond.instanceMethod yX6_fail ∈ zi_G := zi_inG (List.mem_append_right _ (List.mem_append_right _ (List.mem_append_left _ (List.mem_of_getElem? (l := tables_1_2) (i := 163) (by decide +kernel))))) rfl
set_option maxRecDepth 100000 in
theorem zl_88 : Cond.selects "RiverDiggers$Tape" yX6_fail yX6_fail ∈ zi_G := zi_inG (List.mem_append_right _ (List.mem_append_right _ (List.mem_append_left _ (List.mem_of_getElem? (l := tables_1_2) (i := 164) (by decide +kernel))))) rfl
set_option maxRecDepth 100000 in
theorem zl_89 : Cond.methodLink "RiverDiggers$Draft" 117 yX1_comesOnce ∈ zi_G := zi_inG (List.mem_append_right _ (List.mem_append_right _ (List.mem_append_left _ (List.mem_of_getElem? (l := tables_1_2) (i := 227) (by decide +kernel))))) rfl
set_option maxRecDepth 100000 in
theorem zl_90 : Cond.instanceMethod yX1_comesOnce ∈ zi_G := zi_inG (List.mem_append_right _ (List.mem_append_right _ (List.mem_append_left _ (List.mem_of_getElem? (l := tables_1_2) (i := 229) (by decide +kernel))))) rfl
set_option maxRecDepth 100000 in
theorem zl_91 : Cond.selects "RiverDiggers$Draft" yX1_comesOnce yX1_comesOnce ∈ zi_G := zi_inG (List.mem_append_left _ (List.mem_of_getElem? (i := 4) (by decide +kernel))) rfl
set_option maxRecDepth 100000 in
theorem zl_92 : Cond.methodLink "RiverDiggers$Draft" 121 yX6_nextNumber ∈ zi_G := zi_inG (List.mem_append_right _ (List.mem_append_right _ (List.mem_append_left _ (List.mem_of_getElem? (l := tables_1_2) (i := 232) (by decide +kernel))))) rfl
set_option maxRecDepth 100000 in
theorem zl_93 : Cond.instanceMethod yX6_nextNumber ∈ zi_G := zi_inG (List.mem_append_right _ (List.mem_append_right _ (List.mem_append_left _ (List.mem_of_getElem? (l := tables_1_2) (i := 233) (by decide +kernel))))) rfl
set_option maxRecDepth 100000 in
theorem zl_94 : Cond.selects "RiverDiggers$Tape" yX6_nextNumber yX6_nextNumber ∈ zi_G := zi_inG (List.mem_append_right _ (List.mem_append_right _ (List.mem_append_left _ (List.mem_of_getElem? (l := tables_1_2) (i := 234) (by decide +kernel))))) rfl
set_option maxRecDepth 100000 in
theorem zl_95 : Cond.fieldLink "RiverDiggers$Draft" 125 "RiverDiggers$Tape" "value" "I" ∈ zi_G := zi_inG (List.mem_append_right _ (List.mem_append_left _ (List.mem_of_getElem? (l := tables_1_1) (i := 211) (by decide +kernel)))) rfl
set_option maxRecDepth 100000 in
theorem zl_96 : Cond.methodLink "RiverDiggers$Draft" 128 yX6_nextStop ∈ zi_G := zi_inG (List.mem_append_right _ (List.mem_append_right _ (List.mem_append_right _ (List.mem_append_left _ (List.mem_of_getElem? (l := tables_1_3) (i := 1) (by decide +kernel)))))) rfl
set_option maxRecDepth 100000 in
theorem zl_97 : Cond.instanceMethod yX6_nextStop ∈ zi_G := zi_inG (List.mem_append_right _ (List.mem_append_right _ (List.mem_append_right _ (List.mem_append_left _ (List.mem_of_getElem? (l := tables_1_3) (i := 2) (by decide +kernel)))))) rfl
set_option maxRecDepth 100000 in
theorem zl_98 : Cond.selects "RiverDiggers$Tape" yX6_nextStop yX6_nextStop ∈ zi_G := zi_inG (List.mem_append_right _ (List.mem_append_right _ (List.mem_append_right _ (List.mem_append_left _ (List.mem_of_getElem? (l := tables_1_3) (i := 3) (by decide +kernel)))))) rfl
set_option maxRecDepth 100000 in
theorem zl_99 : Cond.methodLink "RiverDiggers$Draft" 131 yX6_isNumber ∈ zi_G := zi_inG (List.mem_append_right _ (List.mem_append_right _ (List.mem_append_right _ (List.mem_append_left _ (List.mem_of_getElem? (l := tables_1_3) (i := 10) (by decide +kernel)))))) rfl
set_option maxRecDepth 100000 in
theorem zl_100 : Cond.instanceMethod yX6_isNumber ∈ zi_G := zi_inG (List.mem_append_right _ (List.mem_append_right _ (List.mem_append_left _ (List.mem_of_getElem? (l := tables_1_2) (i := 238) (by decide +kernel))))) rfl
set_option maxRecDepth 100000 in
theorem zl_101 : Cond.selects "RiverDiggers$Tape" yX6_isNumber yX6_isNumber ∈ zi_G := zi_inG (List.mem_append_right _ (List.mem_append_right _ (List.mem_append_left _ (List.mem_of_getElem? (l := tables_1_2) (i := 239) (by decide +kernel))))) rfl
set_option maxRecDepth 100000 in
theorem zl_102 : Cond.methodLinkNest "RiverDiggers$Draft" 134 yX8_has "RiverDiggers" ∈ lw_tbl := List.mem_append_right _ (List.mem_append_right _ (List.mem_append_right _ (List.mem_append_left _ (List.mem_of_getElem? (l := tables_1_3) (i := 26) (by decide +kernel)))))
set_option maxRecDepth 100000 in
theorem zl_103 : Cond.methodLink "RiverDiggers$Draft" 137 yJ6_bitCount_0f7a4 ∈ zi_G := zi_inG (List.mem_append_right _ (List.mem_append_right _ (List.mem_append_right _ (List.mem_append_left _ (List.mem_of_getElem? (l := tables_1_3) (i := 27) (by decide +kernel)))))) rfl
set_option maxRecDepth 100000 in
theorem zl_104 : Cond.static yJ6_bitCount_0f7a4 ∈ zi_G := zi_inG (List.mem_append_right _ (List.mem_append_right _ (List.mem_append_right _ (List.mem_append_left _ (List.mem_of_getElem? (l := tables_1_3) (i := 28) (by decide +kernel)))))) rfl
set_option maxRecDepth 100000 in
theorem zl_105 : Cond.fieldLink "RiverDiggers$Draft" 170 "RiverDiggers$Times" "flow" "LRiverDiggers$Flow;" ∈ zi_G := zi_inG (List.mem_append_right _ (List.mem_append_left _ (List.mem_of_getElem? (l := tables_1_1) (i := 114) (by decide +kernel)))) rfl
set_option maxRecDepth 100000 in
theorem zl_106 : Cond.fieldLink "RiverDiggers$Draft" 184 "RiverDiggers$Flow" "law" "I" ∈ zi_G := zi_inG (List.mem_append_right _ (List.mem_append_left _ (List.mem_of_getElem? (l := tables_1_1) (i := 91) (by decide +kernel)))) rfl
set_option maxRecDepth 100000 in
theorem zl_107 : Cond.fieldLink "RiverDiggers$Draft" 183 "RiverDiggers$Flow" "spring" "I" ∈ zi_G := zi_inG (List.mem_append_right _ (List.mem_append_left _ (List.mem_of_getElem? (l := tables_1_1) (i := 88) (by decide +kernel)))) rfl
set_option maxRecDepth 100000 in
theorem zl_108 : Cond.methodLink "RiverDiggers$Draft" 179 yX1_raise ∈ zi_G := zi_inG (List.mem_append_right _ (List.mem_append_right _ (List.mem_append_left _ (List.mem_of_getElem? (l := tables_1_2) (i := 69) (by decide +kernel))))) rfl
set_option maxRecDepth 100000 in
theorem zl_109 : Cond.instanceMethod yX1_raise ∈ zi_G := zi_inG (List.mem_append_right _ (List.mem_append_right _ (List.mem_append_left _ (List.mem_of_getElem? (l := tables_1_2) (i := 71) (by decide +kernel))))) rfl
set_option maxRecDepth 100000 in
theorem zl_110 : Cond.selects "RiverDiggers$Draft" yX1_raise yX1_raise ∈ zi_G := zi_inG (List.mem_append_left _ (List.mem_of_getElem? (i := 0) (by decide +kernel))) rfl
set_option maxRecDepth 100000 in
theorem zl_111 : Cond.fieldLink "RiverDiggers$Draft" 174 "RiverDiggers$Flow" "heights" "[I" ∈ zi_G := zi_inG (List.mem_append_right _ (List.mem_append_left _ (List.mem_of_getElem? (l := tables_1_1) (i := 77) (by decide +kernel)))) rfl
set_option maxRecDepth 100000 in
theorem zl_112 : Cond.fieldLink "RiverDiggers$Draft" 167 "RiverDiggers$Times" "seens" "I" ∈ zi_G := zi_inG (List.mem_append_right _ (List.mem_append_left _ (List.mem_of_getElem? (l := tables_1_1) (i := 129) (by decide +kernel)))) rfl
set_option maxRecDepth 100000 in
theorem zl_113 : Cond.fieldLink "RiverDiggers$Draft" 164 "RiverDiggers$Times" "tolds" "I" ∈ zi_G := zi_inG (List.mem_append_right _ (List.mem_append_left _ (List.mem_of_getElem? (l := tables_1_1) (i := 126) (by decide +kernel)))) rfl
set_option maxRecDepth 100000 in
theorem zl_114 : Cond.fieldLink "RiverDiggers$Draft" 161 "RiverDiggers$Times" "years" "I" ∈ zi_G := zi_inG (List.mem_append_right _ (List.mem_append_left _ (List.mem_of_getElem? (l := tables_1_1) (i := 124) (by decide +kernel)))) rfl
set_option maxRecDepth 100000 in
theorem zl_115 : Cond.methodLink "RiverDiggers$Draft" 149 arraycopyName ∈ zi_G := zi_inG (List.mem_append_right _ (List.mem_append_right _ (List.mem_append_left _ (List.mem_of_getElem? (l := tables_1_2) (i := 62) (by decide +kernel))))) rfl
set_option maxRecDepth 100000 in
theorem zl_116 : Cond.native arraycopyName ∈ zi_G := zi_inG (List.mem_append_right _ (List.mem_append_right _ (List.mem_append_left _ (List.mem_of_getElem? (l := tables_1_2) (i := 64) (by decide +kernel))))) rfl
set_option maxRecDepth 100000 in
theorem zl_117 : Cond.static arraycopyName ∈ zi_G := zi_inG (List.mem_append_right _ (List.mem_append_right _ (List.mem_append_left _ (List.mem_of_getElem? (l := tables_1_2) (i := 63) (by decide +kernel))))) rfl
set_option maxRecDepth 100000 in
theorem zl_118 : Cond.initialized "java/lang/System" ∈ zi_G := zi_inG (List.mem_append_right _ (List.mem_append_left _ (List.mem_of_getElem? (l := tables_1_1) (i := 11) (by decide +kernel)))) rfl
set_option maxRecDepth 100000 in
theorem zl_119 : Cond.fieldLink "RiverDiggers$Draft" 158 "RiverDiggers$Times" "worths" "[I" ∈ zi_G := zi_inG (List.mem_append_right _ (List.mem_append_left _ (List.mem_of_getElem? (l := tables_1_1) (i := 117) (by decide +kernel)))) rfl
set_option maxRecDepth 100000 in
theorem zl_120 : Cond.methodLink "RiverDiggers$Draft" 155 yX3_join ∈ zi_G := zi_inG (List.mem_append_right _ (List.mem_append_right _ (List.mem_append_left _ (List.mem_of_getElem? (l := tables_1_2) (i := 65) (by decide +kernel))))) rfl
set_option maxRecDepth 100000 in
theorem zl_121 : Cond.instanceMethod yX3_join ∈ zi_G := zi_inG (List.mem_append_right _ (List.mem_append_right _ (List.mem_append_left _ (List.mem_of_getElem? (l := tables_1_2) (i := 66) (by decide +kernel))))) rfl
set_option maxRecDepth 100000 in
theorem zl_122 : Cond.selects "RiverDiggers$Land" yX3_join yX3_join ∈ zi_G := zi_inG (List.mem_append_right _ (List.mem_append_right _ (List.mem_append_left _ (List.mem_of_getElem? (l := tables_1_2) (i := 67) (by decide +kernel))))) rfl
set_option maxRecDepth 100000 in
theorem zl_123 : Cond.fieldLink "RiverDiggers$Draft" 148 "RiverDiggers$Land" "ground" "[I" ∈ zi_G := zi_inG (List.mem_append_right _ (List.mem_append_left _ (List.mem_of_getElem? (l := tables_1_1) (i := 36) (by decide +kernel)))) rfl
set_option maxRecDepth 100000 in
theorem zl_124 : Cond.fieldLink "RiverDiggers$Draft" 147 "RiverDiggers$Land" "farms" "I" ∈ zi_G := zi_inG (List.mem_append_right _ (List.mem_append_left _ (List.mem_of_getElem? (l := tables_1_1) (i := 48) (by decide +kernel)))) rfl
set_option maxRecDepth 100000 in
theorem zl_125 : Cond.fieldLink "RiverDiggers$Draft" 146 "RiverDiggers$Land" "high" "I" ∈ zi_G := zi_inG (List.mem_append_right _ (List.mem_append_left _ (List.mem_of_getElem? (l := tables_1_1) (i := 44) (by decide +kernel)))) rfl
set_option maxRecDepth 100000 in
theorem zl_126 : Cond.fieldLink "RiverDiggers$Draft" 143 "RiverDiggers$Land" "wide" "I" ∈ zi_G := zi_inG (List.mem_append_right _ (List.mem_append_left _ (List.mem_of_getElem? (l := tables_1_1) (i := 41) (by decide +kernel)))) rfl
set_option maxRecDepth 100000 in
theorem zl_127 : Cond.methodLink "RiverDiggers$Draft" 189 yX2_trace ∈ zi_G := zi_inG (List.mem_append_right _ (List.mem_append_right _ (List.mem_append_left _ (List.mem_of_getElem? (l := tables_1_2) (i := 73) (by decide +kernel))))) rfl
set_option maxRecDepth 100000 in
theorem zl_128 : Cond.instanceMethod yX2_trace ∈ zi_G := zi_inG (List.mem_append_right _ (List.mem_append_right _ (List.mem_append_left _ (List.mem_of_getElem? (l := tables_1_2) (i := 74) (by decide +kernel))))) rfl
set_option maxRecDepth 100000 in
theorem zl_129 : Cond.selects "RiverDiggers$Flow" yX2_trace yX2_trace ∈ zi_G := zi_inG (List.mem_append_right _ (List.mem_append_right _ (List.mem_append_left _ (List.mem_of_getElem? (l := tables_1_2) (i := 75) (by decide +kernel))))) rfl
set_option maxRecDepth 100000 in
theorem zl_130 : Cond.fieldLink "RiverDiggers$Draft" 185 "RiverDiggers$Flow" "silted" "Z" ∈ zi_G := zi_inG (List.mem_append_right _ (List.mem_append_left _ (List.mem_of_getElem? (l := tables_1_1) (i := 94) (by decide +kernel)))) rfl
set_option maxRecDepth 100000 in
theorem zl_131 : Cond.fieldLink "RiverDiggers$Flow" 18 "RiverDiggers$Flow" "land" "LRiverDiggers$Land;" ∈ zi_G := zi_inG (List.mem_append_right _ (List.mem_append_left _ (List.mem_of_getElem? (l := tables_1_1) (i := 73) (by decide +kernel)))) rfl
set_option maxRecDepth 100000 in
theorem zl_132 : Cond.fieldLink "RiverDiggers$Flow" 15 "RiverDiggers$Flow" "way" "[I" ∈ zi_G := zi_inG (List.mem_append_right _ (List.mem_append_left _ (List.mem_of_getElem? (l := tables_1_1) (i := 78) (by decide +kernel)))) rfl
set_option maxRecDepth 100000 in
theorem zl_133 : Cond.fieldLink "RiverDiggers$Flow" 9 "RiverDiggers$Flow" "heights" "[I" ∈ zi_G := zi_inG (List.mem_append_right _ (List.mem_append_left _ (List.mem_of_getElem? (l := tables_1_1) (i := 75) (by decide +kernel)))) rfl
set_option maxRecDepth 100000 in
theorem zl_134 : Cond.methodLink "RiverDiggers$Flow" 3 Lib.objectInit ∈ zi_G := zi_inG (List.mem_append_right _ (List.mem_append_left _ (List.mem_of_getElem? (l := tables_1_1) (i := 72) (by decide +kernel)))) rfl
set_option maxRecDepth 100000 in
theorem zl_135 : Cond.fieldLink "RiverDiggers$Flow" 41 "RiverDiggers$Flow" "silted" "Z" ∈ zi_G := zi_inG (List.mem_append_right _ (List.mem_append_left _ (List.mem_of_getElem? (l := tables_1_1) (i := 92) (by decide +kernel)))) rfl
set_option maxRecDepth 100000 in
theorem zl_136 : Cond.fieldLink "RiverDiggers$Flow" 38 "RiverDiggers$Flow" "law" "I" ∈ zi_G := zi_inG (List.mem_append_right _ (List.mem_append_left _ (List.mem_of_getElem? (l := tables_1_1) (i := 89) (by decide +kernel)))) rfl
set_option maxRecDepth 100000 in
theorem zl_137 : Cond.fieldLink "RiverDiggers$Flow" 35 "RiverDiggers$Flow" "spring" "I" ∈ zi_G := zi_inG (List.mem_append_right _ (List.mem_append_left _ (List.mem_of_getElem? (l := tables_1_1) (i := 86) (by decide +kernel)))) rfl
set_option maxRecDepth 100000 in
theorem zl_138 : Cond.fieldLink "RiverDiggers$Flow" 32 "RiverDiggers$Flow" "bits" "I" ∈ zi_G := zi_inG (List.mem_append_right _ (List.mem_append_left _ (List.mem_of_getElem? (l := tables_1_1) (i := 82) (by decide +kernel)))) rfl
set_option maxRecDepth 100000 in
theorem zl_139 : Cond.fieldLink "RiverDiggers$Flow" 28 "RiverDiggers$Flow" "length" "I" ∈ zi_G := zi_inG (List.mem_append_right _ (List.mem_append_left _ (List.mem_of_getElem? (l := tables_1_1) (i := 80) (by decide +kernel)))) rfl
set_option maxRecDepth 100000 in
theorem zl_140 : Cond.methodLink "RiverDiggers$Flow" 22 arraycopyName ∈ zi_G := zi_inG (List.mem_append_right _ (List.mem_append_right _ (List.mem_append_right _ (List.mem_append_left _ (List.mem_of_getElem? (l := tables_1_3) (i := 159) (by decide +kernel)))))) rfl
set_option maxRecDepth 100000 in
theorem zl_141 : Cond.methodLink "RiverDiggers$Flow" 45 yX2_lowestNextTo ∈ zi_G := zi_inG (List.mem_append_right _ (List.mem_append_right _ (List.mem_append_left _ (List.mem_of_getElem? (l := tables_1_2) (i := 77) (by decide +kernel))))) rfl
set_option maxRecDepth 100000 in
theorem zl_142 : Cond.instanceMethod yX2_lowestNextTo ∈ zi_G := zi_inG (List.mem_append_right _ (List.mem_append_right _ (List.mem_append_left _ (List.mem_of_getElem? (l := tables_1_2) (i := 79) (by decide +kernel))))) rfl
set_option maxRecDepth 100000 in
theorem zl_143 : Cond.selects "RiverDiggers$Flow" yX2_lowestNextTo yX2_lowestNextTo ∈ zi_G := zi_inG (List.mem_append_left _ (List.mem_of_getElem? (i := 1) (by decide +kernel))) rfl
set_option maxRecDepth 100000 in
theorem zl_144 : Cond.fieldLink "RiverDiggers$Flow" 49 "RiverDiggers$Land" "near" "[I" ∈ zi_G := zi_inG (List.mem_append_right _ (List.mem_append_left _ (List.mem_of_getElem? (l := tables_1_1) (i := 38) (by decide +kernel)))) rfl
set_option maxRecDepth 100000 in
theorem zl_145 : Cond.methodLinkNest "RiverDiggers$Flow" 54 yX8_has "RiverDiggers" ∈ lw_tbl := List.mem_append_right _ (List.mem_append_right _ (List.mem_append_left _ (List.mem_of_getElem? (l := tables_1_2) (i := 81) (by decide +kernel))))
set_option maxRecDepth 100000 in
theorem zl_146 : Cond.methodLink "RiverDiggers$Flow" 58 yX3_hasFarm ∈ zi_G := zi_inG (List.mem_append_right _ (List.mem_append_right _ (List.mem_append_right _ (List.mem_append_left _ (List.mem_of_getElem? (l := tables_1_3) (i := 90) (by decide +kernel)))))) rfl
set_option maxRecDepth 100000 in
theorem zl_147 : Cond.instanceMethod yX3_hasFarm ∈ zi_G := zi_inG (List.mem_append_right _ (List.mem_append_right _ (List.mem_append_right _ (List.mem_append_left _ (List.mem_of_getElem? (l := tables_1_3) (i := 77) (by decide +kernel)))))) rfl
set_option maxRecDepth 100000 in
theorem zl_148 : Cond.selects "RiverDiggers$Land" yX3_hasFarm yX3_hasFarm ∈ zi_G := zi_inG (List.mem_append_right _ (List.mem_append_right _ (List.mem_append_right _ (List.mem_append_left _ (List.mem_of_getElem? (l := tables_1_3) (i := 78) (by decide +kernel)))))) rfl
set_option maxRecDepth 100000 in
theorem zl_149 : Cond.fieldLink "RiverDiggers$Flow" 62 "RiverDiggers$Land" "ground" "[I" ∈ zi_G := zi_inG (List.mem_append_right _ (List.mem_append_left _ (List.mem_of_getElem? (l := tables_1_1) (i := 34) (by decide +kernel)))) rfl
set_option maxRecDepth 100000 in
theorem zl_150 : Cond.methodLink "RiverDiggers$Flow" 65 yX3_beside ∈ zi_G := zi_inG (List.mem_append_right _ (List.mem_append_right _ (List.mem_append_right _ (List.mem_append_left _ (List.mem_of_getElem? (l := tables_1_3) (i := 91) (by decide +kernel)))))) rfl
set_option maxRecDepth 100000 in
theorem zl_151 : Cond.instanceMethod yX3_beside ∈ zi_G := zi_inG (List.mem_append_right _ (List.mem_append_right _ (List.mem_append_right _ (List.mem_append_left _ (List.mem_of_getElem? (l := tables_1_3) (i := 92) (by decide +kernel)))))) rfl
set_option maxRecDepth 100000 in
theorem zl_152 : Cond.selects "RiverDiggers$Land" yX3_beside yX3_beside ∈ zi_G := zi_inG (List.mem_append_right _ (List.mem_append_right _ (List.mem_append_right _ (List.mem_append_left _ (List.mem_of_getElem? (l := tables_1_3) (i := 93) (by decide +kernel)))))) rfl
set_option maxRecDepth 100000 in
theorem zl_153 : Cond.methodLinkNest "RiverDiggers$Flow" 68 yX8_option "RiverDiggers" ∈ lw_tbl := List.mem_append_right _ (List.mem_append_right _ (List.mem_append_right _ (List.mem_append_left _ (List.mem_of_getElem? (l := tables_1_3) (i := 138) (by decide +kernel)))))
set_option maxRecDepth 100000 in
theorem zl_154 : Cond.static yX8_option ∈ zi_G := zi_inG (List.mem_append_right _ (List.mem_append_right _ (List.mem_append_right _ (List.mem_append_left _ (List.mem_of_getElem? (l := tables_1_3) (i := 139) (by decide +kernel)))))) rfl
set_option maxRecDepth 100000 in
theorem zl_155 : Cond.methodLink "RiverDiggers$Flow" 72 yX2_cuttable ∈ zi_G := zi_inG (List.mem_append_right _ (List.mem_append_right _ (List.mem_append_right _ (List.mem_append_left _ (List.mem_of_getElem? (l := tables_1_3) (i := 141) (by decide +kernel)))))) rfl
set_option maxRecDepth 100000 in
theorem zl_156 : Cond.fieldLink "RiverDiggers$Flow" 75 "RiverDiggers$Land" "farms" "I" ∈ zi_G := zi_inG (List.mem_append_right _ (List.mem_append_left _ (List.mem_of_getElem? (l := tables_1_1) (i := 47) (by decide +kernel)))) rfl
set_option maxRecDepth 100000 in
theorem zl_157 : Cond.methodLink "RiverDiggers$Flow" 78 yJ6_bitCount_0f7a4 ∈ zi_G := zi_inG (List.mem_append_right _ (List.mem_append_right _ (List.mem_append_right _ (List.mem_append_right _ (List.mem_append_left _ (List.mem_of_getElem? (l := tables_1_4) (i := 134) (by decide +kernel))))))) rfl
set_option maxRecDepth 100000 in
theorem zl_158 : Cond.methodLink "RiverDiggers$Flow" 83 yX2_trace ∈ zi_G := zi_inG (List.mem_append_right _ (List.mem_append_right _ (List.mem_append_right _ (List.mem_append_left _ (List.mem_of_getElem? (l := tables_1_3) (i := 146) (by decide +kernel)))))) rfl
set_option maxRecDepth 100000 in
theorem zl_159 : Cond.methodLink "RiverDiggers$Flow" 86 yX2_carrySilt ∈ zi_G := zi_inG (List.mem_append_right _ (List.mem_append_right _ (List.mem_append_right _ (List.mem_append_left _ (List.mem_of_getElem? (l := tables_1_3) (i := 147) (by decide +kernel)))))) rfl
set_option maxRecDepth 100000 in
theorem zl_160 : Cond.instanceMethod yX2_carrySilt ∈ zi_G := zi_inG (List.mem_append_right _ (List.mem_append_right _ (List.mem_append_right _ (List.mem_append_left _ (List.mem_of_getElem? (l := tables_1_3) (i := 149) (by decide +kernel)))))) rfl
set_option maxRecDepth 100000 in
theorem zl_161 : Cond.selects "RiverDiggers$Flow" yX2_carrySilt yX2_carrySilt ∈ zi_G := zi_inG (List.mem_append_left _ (List.mem_of_getElem? (i := 13) (by decide +kernel))) rfl
set_option maxRecDepth 100000 in
theorem zl_162 : Cond.fieldLink "RiverDiggers$Land" 15 "RiverDiggers$Land" "near" "[I" ∈ zi_G := zi_inG (List.mem_append_right _ (List.mem_append_left _ (List.mem_of_getElem? (l := tables_1_1) (i := 37) (by decide +kernel)))) rfl
set_option maxRecDepth 100000 in
theorem zl_163 : Cond.fieldLink "RiverDiggers$Land" 9 "RiverDiggers$Land" "ground" "[I" ∈ zi_G := zi_inG (List.mem_append_right _ (List.mem_append_left _ (List.mem_of_getElem? (l := tables_1_1) (i := 32) (by decide +kernel)))) rfl
set_option maxRecDepth 100000 in
theorem zl_164 : Cond.methodLink "RiverDiggers$Land" 3 Lib.objectInit ∈ zi_G := zi_inG (List.mem_append_right _ (List.mem_append_left _ (List.mem_of_getElem? (l := tables_1_1) (i := 31) (by decide +kernel)))) rfl
set_option maxRecDepth 100000 in
theorem zl_165 : Cond.fieldLink "RiverDiggers$Land" 22 "RiverDiggers$Land" "high" "I" ∈ zi_G := zi_inG (List.mem_append_right _ (List.mem_append_left _ (List.mem_of_getElem? (l := tables_1_1) (i := 42) (by decide +kernel)))) rfl
set_option maxRecDepth 100000 in
theorem zl_166 : Cond.fieldLink "RiverDiggers$Land" 18 "RiverDiggers$Land" "wide" "I" ∈ zi_G := zi_inG (List.mem_append_right _ (List.mem_append_left _ (List.mem_of_getElem? (l := tables_1_1) (i := 39) (by decide +kernel)))) rfl
set_option maxRecDepth 100000 in
theorem zl_167 : Cond.fieldLink "RiverDiggers$Land" 25 "RiverDiggers$Land" "farms" "I" ∈ zi_G := zi_inG (List.mem_append_right _ (List.mem_append_left _ (List.mem_of_getElem? (l := tables_1_1) (i := 45) (by decide +kernel)))) rfl
set_option maxRecDepth 100000 in
theorem zl_168 : Cond.methodLinkNest "RiverDiggers$Land" 28 yX8_has "RiverDiggers" ∈ lw_tbl := List.mem_append_right _ (List.mem_append_right _ (List.mem_append_right _ (List.mem_append_left _ (List.mem_of_getElem? (l := tables_1_3) (i := 71) (by decide +kernel)))))
set_option maxRecDepth 100000 in
theorem zl_169 : Cond.fieldLink "RiverDiggers$Outlook" 24 "RiverDiggers$Outlook" "beds" "[I" ∈ zi_G := zi_inG (List.mem_append_right _ (List.mem_append_left _ (List.mem_of_getElem? (l := tables_1_1) (i := 159) (by decide +kernel)))) rfl
set_option maxRecDepth 100000 in
theorem zl_170 : Cond.fieldLink "RiverDiggers$Outlook" 21 "RiverDiggers$Outlook" "years" "[I" ∈ zi_G := zi_inG (List.mem_append_right _ (List.mem_append_left _ (List.mem_of_getElem? (l := tables_1_1) (i := 157) (by decide +kernel)))) rfl
set_option maxRecDepth 100000 in
theorem zl_171 : Cond.fieldLink "RiverDiggers$Outlook" 18 "RiverDiggers$Outlook" "steps" "[I" ∈ zi_G := zi_inG (List.mem_append_right _ (List.mem_append_left _ (List.mem_of_getElem? (l := tables_1_1) (i := 156) (by decide +kernel)))) rfl
set_option maxRecDepth 100000 in
theorem zl_172 : Cond.fieldLink "RiverDiggers$Outlook" 15 "RiverDiggers$Outlook" "counts" "[I" ∈ zi_G := zi_inG (List.mem_append_right _ (List.mem_append_left _ (List.mem_of_getElem? (l := tables_1_1) (i := 155) (by decide +kernel)))) rfl
set_option maxRecDepth 100000 in
theorem zl_173 : Cond.fieldLink "RiverDiggers$Outlook" 9 "RiverDiggers$Outlook" "options" "[I" ∈ zi_G := zi_inG (List.mem_append_right _ (List.mem_append_left _ (List.mem_of_getElem? (l := tables_1_1) (i := 154) (by decide +kernel)))) rfl
set_option maxRecDepth 100000 in
theorem zl_174 : Cond.methodLink "RiverDiggers$Outlook" 3 Lib.objectInit ∈ zi_G := zi_inG (List.mem_append_right _ (List.mem_append_left _ (List.mem_of_getElem? (l := tables_1_1) (i := 153) (by decide +kernel)))) rfl
set_option maxRecDepth 100000 in
theorem zl_175 : Cond.methodLink "RiverDiggers$Outlook" 33 yX4_list ∈ zi_G := zi_inG (List.mem_append_right _ (List.mem_append_right _ (List.mem_append_right _ (List.mem_append_left _ (List.mem_of_getElem? (l := tables_1_3) (i := 208) (by decide +kernel)))))) rfl
set_option maxRecDepth 100000 in
theorem zl_176 : Cond.instanceMethod yX4_list ∈ zi_G := zi_inG (List.mem_append_right _ (List.mem_append_right _ (List.mem_append_right _ (List.mem_append_left _ (List.mem_of_getElem? (l := tables_1_3) (i := 210) (by decide +kernel)))))) rfl
set_option maxRecDepth 100000 in
theorem zl_177 : Cond.selects "RiverDiggers$Outlook" yX4_list yX4_list ∈ zi_G := zi_inG (List.mem_append_left _ (List.mem_of_getElem? (i := 16) (by decide +kernel))) rfl
set_option maxRecDepth 100000 in
theorem zl_178 : Cond.methodLink "RiverDiggers$Outlook" 27 yX2_cuttable ∈ zi_G := zi_inG (List.mem_append_right _ (List.mem_append_right _ (List.mem_append_right _ (List.mem_append_left _ (List.mem_of_getElem? (l := tables_1_3) (i := 207) (by decide +kernel)))))) rfl
set_option maxRecDepth 100000 in
theorem zl_179 : Cond.fieldLink "RiverDiggers$Outlook" 37 "RiverDiggers$Outlook" "size" "I" ∈ zi_G := zi_inG (List.mem_append_right _ (List.mem_append_left _ (List.mem_of_getElem? (l := tables_1_1) (i := 161) (by decide +kernel)))) rfl
set_option maxRecDepth 100000 in
theorem zl_180 : Cond.methodLinkNest "RiverDiggers$Outlook" 41 yX8_numberOf "RiverDiggers" ∈ lw_tbl := List.mem_append_right _ (List.mem_append_right _ (List.mem_append_right _ (List.mem_append_left _ (List.mem_of_getElem? (l := tables_1_3) (i := 213) (by decide +kernel)))))
set_option maxRecDepth 100000 in
theorem zl_181 : Cond.fieldLink "RiverDiggers$Outlook" 53 "RiverDiggers$Flow" "bits" "I" ∈ zi_G := zi_inG (List.mem_append_right _ (List.mem_append_left _ (List.mem_of_getElem? (l := tables_1_1) (i := 83) (by decide +kernel)))) rfl
set_option maxRecDepth 100000 in
theorem zl_182 : Cond.methodLink "RiverDiggers$Outlook" 49 yX2_pass ∈ zi_G := zi_inG (List.mem_append_right _ (List.mem_append_right _ (List.mem_append_right _ (List.mem_append_left _ (List.mem_of_getElem? (l := tables_1_3) (i := 215) (by decide +kernel)))))) rfl
set_option maxRecDepth 100000 in
theorem zl_183 : Cond.methodLink "RiverDiggers$Outlook" 45 yX2_copy ∈ zi_G := zi_inG (List.mem_append_right _ (List.mem_append_right _ (List.mem_append_right _ (List.mem_append_left _ (List.mem_of_getElem? (l := tables_1_3) (i := 214) (by decide +kernel)))))) rfl
set_option maxRecDepth 100000 in
theorem zl_184 : Cond.fieldLink "RiverDiggers$Outlook" 56 "RiverDiggers$Outlook" "ready" "Z" ∈ zi_G := zi_inG (List.mem_append_right _ (List.mem_append_left _ (List.mem_of_getElem? (l := tables_1_1) (i := 163) (by decide +kernel)))) rfl
set_option maxRecDepth 100000 in
theorem zl_185 : Cond.methodLinkNest "RiverDiggers$Outlook" 60 yX8_has "RiverDiggers" ∈ lw_tbl := List.mem_append_right _ (List.mem_append_right _ (List.mem_append_right _ (List.mem_append_left _ (List.mem_of_getElem? (l := tables_1_3) (i := 212) (by decide +kernel)))))
set_option maxRecDepth 100000 in
theorem zl_186 : Cond.methodLink "RiverDiggers$Outlook" 70 yX7_gain ∈ zi_G := zi_inG (List.mem_append_right _ (List.mem_append_right _ (List.mem_append_right _ (List.mem_append_left _ (List.mem_of_getElem? (l := tables_1_3) (i := 231) (by decide +kernel)))))) rfl
set_option maxRecDepth 100000 in
theorem zl_187 : Cond.instanceMethod yX7_gain ∈ zi_G := zi_inG (List.mem_append_right _ (List.mem_append_right _ (List.mem_append_right _ (List.mem_append_left _ (List.mem_of_getElem? (l := tables_1_3) (i := 81) (by decide +kernel)))))) rfl
set_option maxRecDepth 100000 in
theorem zl_188 : Cond.selects "RiverDiggers$Times" yX7_gain yX7_gain ∈ zi_G := zi_inG (List.mem_append_right _ (List.mem_append_right _ (List.mem_append_right _ (List.mem_append_left _ (List.mem_of_getElem? (l := tables_1_3) (i := 82) (by decide +kernel)))))) rfl
set_option maxRecDepth 100000 in
theorem zl_189 : Cond.methodLink "RiverDiggers$Outlook" 67 yX4_placeOf ∈ zi_G := zi_inG (List.mem_append_right _ (List.mem_append_right _ (List.mem_append_right _ (List.mem_append_right _ (List.mem_append_left _ (List.mem_of_getElem? (l := tables_1_4) (i := 1) (by decide +kernel))))))) rfl
set_option maxRecDepth 100000 in
theorem zl_190 : Cond.instanceMethod yX4_placeOf ∈ zi_G := zi_inG (List.mem_append_right _ (List.mem_append_right _ (List.mem_append_right _ (List.mem_append_right _ (List.mem_append_left _ (List.mem_of_getElem? (l := tables_1_4) (i := 3) (by decide +kernel))))))) rfl
set_option maxRecDepth 100000 in
theorem zl_191 : Cond.selects "RiverDiggers$Outlook" yX4_placeOf yX4_placeOf ∈ zi_G := zi_inG (List.mem_append_left _ (List.mem_of_getElem? (i := 18) (by decide +kernel))) rfl
set_option maxRecDepth 100000 in
theorem zl_192 : Cond.methodLinkNest "RiverDiggers$Outlook" 64 yX8_option "RiverDiggers" ∈ lw_tbl := List.mem_append_right _ (List.mem_append_right _ (List.mem_append_right _ (List.mem_append_right _ (List.mem_append_left _ (List.mem_of_getElem? (l := tables_1_4) (i := 0) (by decide +kernel))))))
set_option maxRecDepth 100000 in
theorem zl_193 : Cond.methodLink "RiverDiggers$Outlook" 75 yX4_chosen ∈ zi_G := zi_inG (List.mem_append_right _ (List.mem_append_right _ (List.mem_append_right _ (List.mem_append_left _ (List.mem_of_getElem? (l := tables_1_3) (i := 230) (by decide +kernel)))))) rfl
set_option maxRecDepth 100000 in
theorem zl_194 : Cond.instanceMethod yX4_chosen ∈ zi_G := zi_inG (List.mem_append_right _ (List.mem_append_right _ (List.mem_append_right _ (List.mem_append_left _ (List.mem_of_getElem? (l := tables_1_3) (i := 228) (by decide +kernel)))))) rfl
set_option maxRecDepth 100000 in
theorem zl_195 : Cond.selects "RiverDiggers$Outlook" yX4_chosen yX4_chosen ∈ zi_G := zi_inG (List.mem_append_left _ (List.mem_of_getElem? (i := 17) (by decide +kernel))) rfl
set_option maxRecDepth 100000 in
theorem zl_196 : Cond.methodLink "RiverDiggers$Sheets" 21 yJ7_fill_53178 ∈ zi_G := zi_inG (List.mem_append_right _ (List.mem_append_right _ (List.mem_append_left _ (List.mem_of_getElem? (l := tables_1_2) (i := 39) (by decide +kernel))))) rfl
set_option maxRecDepth 100000 in
theorem zl_197 : Cond.fieldLink "RiverDiggers$Sheets" 15 "RiverDiggers$Sheets" "sizes" "[I" ∈ zi_G := zi_inG (List.mem_append_right _ (List.mem_append_right _ (List.mem_append_left _ (List.mem_of_getElem? (l := tables_1_2) (i := 43) (by decide +kernel))))) rfl
set_option maxRecDepth 100000 in
theorem zl_198 : Cond.fieldLink "RiverDiggers$Sheets" 18 "RiverDiggers$Sheets" "values" "[I" ∈ zi_G := zi_inG (List.mem_append_right _ (List.mem_append_right _ (List.mem_append_left _ (List.mem_of_getElem? (l := tables_1_2) (i := 45) (by decide +kernel))))) rfl
set_option maxRecDepth 100000 in
theorem zl_199 : Cond.fieldLink "RiverDiggers$Sheets" 9 "RiverDiggers$Sheets" "lanes" "[I" ∈ zi_G := zi_inG (List.mem_append_right _ (List.mem_append_right _ (List.mem_append_left _ (List.mem_of_getElem? (l := tables_1_2) (i := 42) (by decide +kernel))))) rfl
set_option maxRecDepth 100000 in
theorem zl_200 : Cond.methodLink "RiverDiggers$Sheets" 3 Lib.objectInit ∈ zi_G := zi_inG (List.mem_append_right _ (List.mem_append_right _ (List.mem_append_left _ (List.mem_of_getElem? (l := tables_1_2) (i := 38) (by decide +kernel))))) rfl
set_option maxRecDepth 100000 in
theorem zl_201 : Cond.methodLink "RiverDiggers$Sheets" 27 yX5_reachFault ∈ zi_G := zi_inG (List.mem_append_right _ (List.mem_append_right _ (List.mem_append_right _ (List.mem_append_right _ (List.mem_append_left _ (List.mem_of_getElem? (l := tables_1_4) (i := 113) (by decide +kernel))))))) rfl
set_option maxRecDepth 100000 in
theorem zl_202 : Cond.instanceMethod yX5_reachFault ∈ zi_G := zi_inG (List.mem_append_right _ (List.mem_append_right _ (List.mem_append_right _ (List.mem_append_right _ (List.mem_append_left _ (List.mem_of_getElem? (l := tables_1_4) (i := 98) (by decide +kernel))))))) rfl
set_option maxRecDepth 100000 in
theorem zl_203 : Cond.selects "RiverDiggers$Sheets" yX5_reachFault yX5_reachFault ∈ zi_G := zi_inG (List.mem_append_right _ (List.mem_append_right _ (List.mem_append_right _ (List.mem_append_right _ (List.mem_append_left _ (List.mem_of_getElem? (l := tables_1_4) (i := 99) (by decide +kernel))))))) rfl
set_option maxRecDepth 100000 in
theorem zl_204 : Cond.fieldLink "RiverDiggers$Tape" 9 "RiverDiggers$Tape" "bytes" "[B" ∈ zi_G := zi_inG (List.mem_append_right _ (List.mem_append_left _ (List.mem_of_getElem? (l := tables_1_1) (i := 204) (by decide +kernel)))) rfl
set_option maxRecDepth 100000 in
theorem zl_205 : Cond.arrayClass .byte ∈ zi_G := zi_inG (List.mem_append_right _ (List.mem_append_left _ (List.mem_of_getElem? (l := tables_1_1) (i := 235) (by decide +kernel)))) rfl
set_option maxRecDepth 100000 in
theorem zl_206 : Cond.methodLink "RiverDiggers$Tape" 3 Lib.objectInit ∈ zi_G := zi_inG (List.mem_append_right _ (List.mem_append_left _ (List.mem_of_getElem? (l := tables_1_1) (i := 203) (by decide +kernel)))) rfl
set_option maxRecDepth 100000 in
theorem zl_207 : Cond.fieldLink "RiverDiggers$Tape" 15 "RiverDiggers$Tape" "length" "I" ∈ zi_G := zi_inG (List.mem_append_right _ (List.mem_append_left _ (List.mem_of_getElem? (l := tables_1_1) (i := 205) (by decide +kernel)))) rfl
set_option maxRecDepth 100000 in
theorem zl_208 : Cond.fieldLink "RiverDiggers$Tape" 25 "RiverDiggers$Tape" "place" "I" ∈ zi_G := zi_inG (List.mem_append_right _ (List.mem_append_left _ (List.mem_of_getElem? (l := tables_1_1) (i := 216) (by decide +kernel)))) rfl
set_option maxRecDepth 100000 in
theorem zl_209 : Cond.fieldLink "RiverDiggers$Tape" 22 "RiverDiggers$Tape" "flaw" "I" ∈ zi_G := zi_inG (List.mem_append_right _ (List.mem_append_left _ (List.mem_of_getElem? (l := tables_1_1) (i := 213) (by decide +kernel)))) rfl
set_option maxRecDepth 100000 in
theorem zl_210 : Cond.fieldLink "RiverDiggers$Tape" 19 "RiverDiggers$Tape" "at" "I" ∈ zi_G := zi_inG (List.mem_append_right _ (List.mem_append_left _ (List.mem_of_getElem? (l := tables_1_1) (i := 207) (by decide +kernel)))) rfl
set_option maxRecDepth 100000 in
theorem zl_211 : Cond.fieldLink "RiverDiggers$Tape" 28 "RiverDiggers$Tape" "start" "I" ∈ zi_G := zi_inG (List.mem_append_right _ (List.mem_append_left _ (List.mem_of_getElem? (l := tables_1_1) (i := 210) (by decide +kernel)))) rfl
set_option maxRecDepth 100000 in
theorem zl_212 : Cond.fieldLink "RiverDiggers$Tape" 31 "RiverDiggers$Tape" "value" "I" ∈ zi_G := zi_inG (List.mem_append_right _ (List.mem_append_left _ (List.mem_of_getElem? (l := tables_1_1) (i := 212) (by decide +kernel)))) rfl
set_option maxRecDepth 100000 in
theorem zl_213 : Cond.fieldLink "RiverDiggers$Tape" 34 "RiverDiggers$Tape" "kind" "I" ∈ zi_G := zi_inG (List.mem_append_right _ (List.mem_append_left _ (List.mem_of_getElem? (l := tables_1_1) (i := 209) (by decide +kernel)))) rfl
set_option maxRecDepth 100000 in
theorem zl_214 : Cond.methodLink "RiverDiggers$Tape" 37 yX6_isLetter ∈ zi_G := zi_inG (List.mem_append_right _ (List.mem_append_right _ (List.mem_append_left _ (List.mem_of_getElem? (l := tables_1_2) (i := 156) (by decide +kernel))))) rfl
set_option maxRecDepth 100000 in
theorem zl_215 : Cond.static yX6_isLetter ∈ zi_G := zi_inG (List.mem_append_right _ (List.mem_append_right _ (List.mem_append_left _ (List.mem_of_getElem? (l := tables_1_2) (i := 157) (by decide +kernel))))) rfl
set_option maxRecDepth 100000 in
theorem zl_216 : Cond.methodLink "RiverDiggers$Tape" 41 yX6_isFigure ∈ zi_G := zi_inG (List.mem_append_right _ (List.mem_append_right _ (List.mem_append_left _ (List.mem_of_getElem? (l := tables_1_2) (i := 159) (by decide +kernel))))) rfl
set_option maxRecDepth 100000 in
theorem zl_217 : Cond.static yX6_isFigure ∈ zi_G := zi_inG (List.mem_append_right _ (List.mem_append_right _ (List.mem_append_left _ (List.mem_of_getElem? (l := tables_1_2) (i := 160) (by decide +kernel))))) rfl
set_option maxRecDepth 100000 in
theorem zl_218 : Cond.methodLink "RiverDiggers$Tape" 44 yX6_fail ∈ zi_G := zi_inG (List.mem_append_right _ (List.mem_append_right _ (List.mem_append_left _ (List.mem_of_getElem? (l := tables_1_2) (i := 162) (by decide +kernel))))) rfl
set_option maxRecDepth 100000 in
theorem zl_219 : Cond.methodLink "RiverDiggers$Tape" 60 yX6_isNumber ∈ zi_G := zi_inG (List.mem_append_right _ (List.mem_append_right _ (List.mem_append_left _ (List.mem_of_getElem? (l := tables_1_2) (i := 237) (by decide +kernel))))) rfl
set_option maxRecDepth 100000 in
theorem zl_220 : Cond.methodLink "RiverDiggers$Tape" 57 yX6_next ∈ zi_G := zi_inG (List.mem_append_right _ (List.mem_append_right _ (List.mem_append_left _ (List.mem_of_getElem? (l := tables_1_2) (i := 236) (by decide +kernel))))) rfl
set_option maxRecDepth 100000 in
theorem zl_221 : Cond.fieldLink "RiverDiggers$Times" 26 "RiverDiggers$Times" "flow" "LRiverDiggers$Flow;" ∈ zi_G := zi_inG (List.mem_append_right _ (List.mem_append_left _ (List.mem_of_getElem? (l := tables_1_1) (i := 112) (by decide +kernel)))) rfl
set_option maxRecDepth 100000 in
theorem zl_222 : Cond.methodLink "RiverDiggers$Times" 23 yX2_init ∈ zi_G := zi_inG (List.mem_append_right _ (List.mem_append_left _ (List.mem_of_getElem? (l := tables_1_1) (i := 69) (by decide +kernel)))) rfl
set_option maxRecDepth 100000 in
theorem zl_223 : Cond.classLink "RiverDiggers$Times" 21 "RiverDiggers$Flow" ∈ zi_G := zi_inG (List.mem_append_right _ (List.mem_append_left _ (List.mem_of_getElem? (l := tables_1_1) (i := 67) (by decide +kernel)))) rfl
set_option maxRecDepth 100000 in
theorem zl_224 : Cond.fieldLink "RiverDiggers$Times" 18 "RiverDiggers$Times" "seen" "[I" ∈ zi_G := zi_inG (List.mem_append_right _ (List.mem_append_left _ (List.mem_of_getElem? (l := tables_1_1) (i := 120) (by decide +kernel)))) rfl
set_option maxRecDepth 100000 in
theorem zl_225 : Cond.fieldLink "RiverDiggers$Times" 15 "RiverDiggers$Times" "told" "[I" ∈ zi_G := zi_inG (List.mem_append_right _ (List.mem_append_left _ (List.mem_of_getElem? (l := tables_1_1) (i := 118) (by decide +kernel)))) rfl
set_option maxRecDepth 100000 in
theorem zl_226 : Cond.fieldLink "RiverDiggers$Times" 9 "RiverDiggers$Times" "worths" "[I" ∈ zi_G := zi_inG (List.mem_append_right _ (List.mem_append_left _ (List.mem_of_getElem? (l := tables_1_1) (i := 115) (by decide +kernel)))) rfl
set_option maxRecDepth 100000 in
theorem zl_227 : Cond.methodLink "RiverDiggers$Times" 3 Lib.objectInit ∈ zi_G := zi_inG (List.mem_append_right _ (List.mem_append_left _ (List.mem_of_getElem? (l := tables_1_1) (i := 66) (by decide +kernel)))) rfl
set_option maxRecDepth 100000 in
theorem zl_228 : Cond.fieldLink "RiverDiggers$Times" 47 "RiverDiggers$Times" "seens" "I" ∈ zi_G := zi_inG (List.mem_append_right _ (List.mem_append_left _ (List.mem_of_getElem? (l := tables_1_1) (i := 128) (by decide +kernel)))) rfl
set_option maxRecDepth 100000 in
theorem zl_229 : Cond.fieldLink "RiverDiggers$Times" 44 "RiverDiggers$Times" "tolds" "I" ∈ zi_G := zi_inG (List.mem_append_right _ (List.mem_append_left _ (List.mem_of_getElem? (l := tables_1_1) (i := 125) (by decide +kernel)))) rfl
set_option maxRecDepth 100000 in
theorem zl_230 : Cond.fieldLink "RiverDiggers$Times" 40 "RiverDiggers$Times" "years" "I" ∈ zi_G := zi_inG (List.mem_append_right _ (List.mem_append_left _ (List.mem_of_getElem? (l := tables_1_1) (i := 122) (by decide +kernel)))) rfl
set_option maxRecDepth 100000 in
theorem zl_231 : Cond.methodLink "RiverDiggers$Times" 34 arraycopyName ∈ zi_G := zi_inG (List.mem_append_right _ (List.mem_append_right _ (List.mem_append_right _ (List.mem_append_right _ (List.mem_append_left _ (List.mem_of_getElem? (l := tables_1_4) (i := 72) (by decide +kernel))))))) rfl
set_option maxRecDepth 100000 in
theorem zl_232 : Cond.methodLink "RiverDiggers$Times" 30 yX2_copy ∈ zi_G := zi_inG (List.mem_append_right _ (List.mem_append_right _ (List.mem_append_right _ (List.mem_append_right _ (List.mem_append_left _ (List.mem_of_getElem? (l := tables_1_4) (i := 71) (by decide +kernel))))))) rfl
set_option maxRecDepth 100000 in
theorem zl_233 : Cond.methodLink "RiverDiggers$Times" 54 yX3_hasFarm ∈ zi_G := zi_inG (List.mem_append_right _ (List.mem_append_right _ (List.mem_append_right _ (List.mem_append_left _ (List.mem_of_getElem? (l := tables_1_3) (i := 84) (by decide +kernel)))))) rfl
set_option maxRecDepth 100000 in
theorem zl_234 : Cond.fieldLink "RiverDiggers$Times" 50 "RiverDiggers$Flow" "land" "LRiverDiggers$Land;" ∈ zi_G := zi_inG (List.mem_append_right _ (List.mem_append_left _ (List.mem_of_getElem? (l := tables_1_1) (i := 74) (by decide +kernel)))) rfl
set_option maxRecDepth 100000 in
theorem zl_235 : Cond.methodLink "RiverDiggers$Times" 63 yJ6_bitCount_0f7a4 ∈ zi_G := zi_inG (List.mem_append_right _ (List.mem_append_right _ (List.mem_append_right _ (List.mem_append_left _ (List.mem_of_getElem? (l := tables_1_3) (i := 85) (by decide +kernel)))))) rfl
set_option maxRecDepth 100000 in
theorem zl_236 : Cond.fieldLink "RiverDiggers$Times" 60 "RiverDiggers$Land" "ground" "[I" ∈ zi_G := zi_inG (List.mem_append_right _ (List.mem_append_left _ (List.mem_of_getElem? (l := tables_1_1) (i := 33) (by decide +kernel)))) rfl
set_option maxRecDepth 100000 in
theorem zl_237 : Cond.methodLinkNest "RiverDiggers$Times" 69 yX8_has "RiverDiggers" ∈ lw_tbl := List.mem_append_right _ (List.mem_append_right _ (List.mem_append_right _ (List.mem_append_right _ (List.mem_append_left _ (List.mem_of_getElem? (l := tables_1_4) (i := 58) (by decide +kernel))))))
set_option maxRecDepth 100000 in
theorem zl_238 : Cond.methodLink "RiverDiggers" 82 yX1_settle ∈ zi_G := zi_inG (List.mem_append_right _ (List.mem_append_right _ (List.mem_append_left _ (List.mem_of_getElem? (l := tables_1_2) (i := 58) (by decide +kernel))))) rfl
set_option maxRecDepth 100000 in
theorem zl_239 : Cond.instanceMethod yX1_settle ∈ zi_G := zi_inG (List.mem_append_right _ (List.mem_append_right _ (List.mem_append_left _ (List.mem_of_getElem? (l := tables_1_2) (i := 59) (by decide +kernel))))) rfl
set_option maxRecDepth 100000 in
theorem zl_240 : Cond.selects "RiverDiggers$Draft" yX1_settle yX1_settle ∈ zi_G := zi_inG (List.mem_append_right _ (List.mem_append_right _ (List.mem_append_left _ (List.mem_of_getElem? (l := tables_1_2) (i := 60) (by decide +kernel))))) rfl
set_option maxRecDepth 100000 in
theorem zl_241 : Cond.fieldLink "RiverDiggers" 21 "RiverDiggers" "now" "LRiverDiggers$Times;" ∈ zi_G := zi_inG (List.mem_append_right _ (List.mem_append_right _ (List.mem_append_left _ (List.mem_of_getElem? (l := tables_1_2) (i := 85) (by decide +kernel))))) rfl
set_option maxRecDepth 100000 in
theorem zl_242 : Cond.fieldLink "RiverDiggers" 10 "RiverDiggers" "land" "LRiverDiggers$Land;" ∈ zi_G := zi_inG (List.mem_append_right _ (List.mem_append_right _ (List.mem_append_left _ (List.mem_of_getElem? (l := tables_1_2) (i := 84) (by decide +kernel))))) rfl
set_option maxRecDepth 100000 in
theorem zl_243 : Cond.fieldLink "RiverDiggers" 64 "RiverDiggers" "draft" "LRiverDiggers$Draft;" ∈ zi_G := zi_inG (List.mem_append_right _ (List.mem_append_right _ (List.mem_append_left _ (List.mem_of_getElem? (l := tables_1_2) (i := 92) (by decide +kernel))))) rfl
set_option maxRecDepth 100000 in
theorem zl_244 : Cond.methodLink "RiverDiggers" 79 yX1_clear ∈ zi_G := zi_inG (List.mem_append_right _ (List.mem_append_right _ (List.mem_append_left _ (List.mem_of_getElem? (l := tables_1_2) (i := 53) (by decide +kernel))))) rfl
set_option maxRecDepth 100000 in
theorem zl_245 : Cond.fieldLink "RiverDiggers" 75 "RiverDiggers" "history" "[I" ∈ zi_G := zi_inG (List.mem_append_right _ (List.mem_append_right _ (List.mem_append_left _ (List.mem_of_getElem? (l := tables_1_2) (i := 94) (by decide +kernel))))) rfl
set_option maxRecDepth 100000 in
theorem zl_246 : Cond.fieldLink "RiverDiggers" 71 "RiverDiggers" "sheets" "LRiverDiggers$Sheets;" ∈ zi_G := zi_inG (List.mem_append_right _ (List.mem_append_right _ (List.mem_append_left _ (List.mem_of_getElem? (l := tables_1_2) (i := 93) (by decide +kernel))))) rfl
set_option maxRecDepth 100000 in
theorem zl_247 : Cond.methodLink "RiverDiggers" 70 yX5_init ∈ zi_G := zi_inG (List.mem_append_right _ (List.mem_append_right _ (List.mem_append_left _ (List.mem_of_getElem? (l := tables_1_2) (i := 35) (by decide +kernel))))) rfl
set_option maxRecDepth 100000 in
theorem zl_248 : Cond.instanceMethod yX5_init ∈ zi_G := zi_inG (List.mem_append_right _ (List.mem_append_right _ (List.mem_append_left _ (List.mem_of_getElem? (l := tables_1_2) (i := 36) (by decide +kernel))))) rfl
set_option maxRecDepth 100000 in
theorem zl_249 : Cond.classLink "RiverDiggers" 68 "RiverDiggers$Sheets" ∈ zi_G := zi_inG (List.mem_append_right _ (List.mem_append_right _ (List.mem_append_left _ (List.mem_of_getElem? (l := tables_1_2) (i := 33) (by decide +kernel))))) rfl
set_option maxRecDepth 100000 in
theorem zl_250 : Cond.instantiable "RiverDiggers$Sheets" 3 ∈ zi_G := zi_inG (List.mem_append_right _ (List.mem_append_right _ (List.mem_append_left _ (List.mem_of_getElem? (l := tables_1_2) (i := 34) (by decide +kernel))))) rfl
set_option maxRecDepth 100000 in
theorem zl_251 : Cond.initialized "RiverDiggers$Sheets" ∈ zi_G := zi_inG (List.mem_append_right _ (List.mem_append_left _ (List.mem_of_getElem? (l := tables_1_1) (i := 9) (by decide +kernel)))) rfl
set_option maxRecDepth 100000 in
theorem zl_252 : Cond.methodLinkNest "RiverDiggers" 63 yX1_init "RiverDiggers" ∈ lw_tbl := List.mem_append_right _ (List.mem_append_left _ (List.mem_of_getElem? (l := tables_1_1) (i := 238) (by decide +kernel)))
set_option maxRecDepth 100000 in
theorem zl_253 : Cond.instanceMethod yX1_init ∈ zi_G := zi_inG (List.mem_append_right _ (List.mem_append_left _ (List.mem_of_getElem? (l := tables_1_1) (i := 239) (by decide +kernel)))) rfl
set_option maxRecDepth 100000 in
theorem zl_254 : Cond.classLink "RiverDiggers" 61 "RiverDiggers$Draft" ∈ zi_G := zi_inG (List.mem_append_right _ (List.mem_append_left _ (List.mem_of_getElem? (l := tables_1_1) (i := 236) (by decide +kernel)))) rfl
set_option maxRecDepth 100000 in
theorem zl_255 : Cond.instantiable "RiverDiggers$Draft" 10 ∈ zi_G := zi_inG (List.mem_append_right _ (List.mem_append_left _ (List.mem_of_getElem? (l := tables_1_1) (i := 237) (by decide +kernel)))) rfl
set_option maxRecDepth 100000 in
theorem zl_256 : Cond.initialized "RiverDiggers$Draft" ∈ zi_G := zi_inG (List.mem_append_right _ (List.mem_append_left _ (List.mem_of_getElem? (l := tables_1_1) (i := 8) (by decide +kernel)))) rfl
set_option maxRecDepth 100000 in
theorem zl_257 : Cond.fieldLink "RiverDiggers" 57 "RiverDiggers" "tape" "LRiverDiggers$Tape;" ∈ zi_G := zi_inG (List.mem_append_right _ (List.mem_append_right _ (List.mem_append_left _ (List.mem_of_getElem? (l := tables_1_2) (i := 91) (by decide +kernel))))) rfl
set_option maxRecDepth 100000 in
theorem zl_258 : Cond.methodLinkNest "RiverDiggers" 56 yX6_init "RiverDiggers" ∈ lw_tbl := List.mem_append_right _ (List.mem_append_left _ (List.mem_of_getElem? (l := tables_1_1) (i := 200) (by decide +kernel)))
set_option maxRecDepth 100000 in
theorem zl_259 : Cond.instanceMethod yX6_init ∈ zi_G := zi_inG (List.mem_append_right _ (List.mem_append_left _ (List.mem_of_getElem? (l := tables_1_1) (i := 201) (by decide +kernel)))) rfl
set_option maxRecDepth 100000 in
theorem zl_260 : Cond.classLink "RiverDiggers" 54 "RiverDiggers$Tape" ∈ zi_G := zi_inG (List.mem_append_right _ (List.mem_append_left _ (List.mem_of_getElem? (l := tables_1_1) (i := 198) (by decide +kernel)))) rfl
set_option maxRecDepth 100000 in
theorem zl_261 : Cond.instantiable "RiverDiggers$Tape" 8 ∈ zi_G := zi_inG (List.mem_append_right _ (List.mem_append_left _ (List.mem_of_getElem? (l := tables_1_1) (i := 199) (by decide +kernel)))) rfl
set_option maxRecDepth 100000 in
theorem zl_262 : Cond.initialized "RiverDiggers$Tape" ∈ zi_G := zi_inG (List.mem_append_right _ (List.mem_append_left _ (List.mem_of_getElem? (l := tables_1_1) (i := 7) (by decide +kernel)))) rfl
set_option maxRecDepth 100000 in
theorem zl_263 : Cond.fieldLink "RiverDiggers" 50 "RiverDiggers" "digger" "LRiverDiggers$Digger;" ∈ zi_G := zi_inG (List.mem_append_right _ (List.mem_append_right _ (List.mem_append_left _ (List.mem_of_getElem? (l := tables_1_2) (i := 90) (by decide +kernel))))) rfl
set_option maxRecDepth 100000 in
theorem zl_264 : Cond.methodLink "RiverDiggers" 47 yX0_init ∈ zi_G := zi_inG (List.mem_append_right _ (List.mem_append_left _ (List.mem_of_getElem? (l := tables_1_1) (i := 182) (by decide +kernel)))) rfl
set_option maxRecDepth 100000 in
theorem zl_265 : Cond.instanceMethod yX0_init ∈ zi_G := zi_inG (List.mem_append_right _ (List.mem_append_left _ (List.mem_of_getElem? (l := tables_1_1) (i := 183) (by decide +kernel)))) rfl
set_option maxRecDepth 100000 in
theorem zl_266 : Cond.classLink "RiverDiggers" 45 "RiverDiggers$Digger" ∈ zi_G := zi_inG (List.mem_append_right _ (List.mem_append_left _ (List.mem_of_getElem? (l := tables_1_1) (i := 180) (by decide +kernel)))) rfl
set_option maxRecDepth 100000 in
theorem zl_267 : Cond.instantiable "RiverDiggers$Digger" 3 ∈ zi_G := zi_inG (List.mem_append_right _ (List.mem_append_left _ (List.mem_of_getElem? (l := tables_1_1) (i := 181) (by decide +kernel)))) rfl
set_option maxRecDepth 100000 in
theorem zl_268 : Cond.initialized "RiverDiggers$Digger" ∈ zi_G := zi_inG (List.mem_append_right _ (List.mem_append_left _ (List.mem_of_getElem? (l := tables_1_1) (i := 6) (by decide +kernel)))) rfl
set_option maxRecDepth 100000 in
theorem zl_269 : Cond.fieldLink "RiverDiggers" 41 "RiverDiggers" "outlook" "LRiverDiggers$Outlook;" ∈ zi_G := zi_inG (List.mem_append_right _ (List.mem_append_right _ (List.mem_append_left _ (List.mem_of_getElem? (l := tables_1_2) (i := 89) (by decide +kernel))))) rfl
set_option maxRecDepth 100000 in
theorem zl_270 : Cond.methodLinkNest "RiverDiggers" 40 yX4_init "RiverDiggers" ∈ lw_tbl := List.mem_append_right _ (List.mem_append_left _ (List.mem_of_getElem? (l := tables_1_1) (i := 150) (by decide +kernel)))
set_option maxRecDepth 100000 in
theorem zl_271 : Cond.instanceMethod yX4_init ∈ zi_G := zi_inG (List.mem_append_right _ (List.mem_append_left _ (List.mem_of_getElem? (l := tables_1_1) (i := 151) (by decide +kernel)))) rfl
set_option maxRecDepth 100000 in
theorem zl_272 : Cond.classLink "RiverDiggers" 38 "RiverDiggers$Outlook" ∈ zi_G := zi_inG (List.mem_append_right _ (List.mem_append_left _ (List.mem_of_getElem? (l := tables_1_1) (i := 148) (by decide +kernel)))) rfl
set_option maxRecDepth 100000 in
theorem zl_273 : Cond.instantiable "RiverDiggers$Outlook" 7 ∈ zi_G := zi_inG (List.mem_append_right _ (List.mem_append_left _ (List.mem_of_getElem? (l := tables_1_1) (i := 149) (by decide +kernel)))) rfl
set_option maxRecDepth 100000 in
theorem zl_274 : Cond.initialized "RiverDiggers$Outlook" ∈ zi_G := zi_inG (List.mem_append_right _ (List.mem_append_left _ (List.mem_of_getElem? (l := tables_1_1) (i := 5) (by decide +kernel)))) rfl
set_option maxRecDepth 100000 in
theorem zl_275 : Cond.fieldLink "RiverDiggers" 34 "RiverDiggers" "trial" "LRiverDiggers$Flow;" ∈ zi_G := zi_inG (List.mem_append_right _ (List.mem_append_right _ (List.mem_append_left _ (List.mem_of_getElem? (l := tables_1_2) (i := 88) (by decide +kernel))))) rfl
set_option maxRecDepth 100000 in
theorem zl_276 : Cond.methodLink "RiverDiggers" 33 yX2_init ∈ zi_G := zi_inG (List.mem_append_right _ (List.mem_append_left _ (List.mem_of_getElem? (l := tables_1_1) (i := 147) (by decide +kernel)))) rfl
set_option maxRecDepth 100000 in
theorem zl_277 : Cond.classLink "RiverDiggers" 31 "RiverDiggers$Flow" ∈ zi_G := zi_inG (List.mem_append_right _ (List.mem_append_left _ (List.mem_of_getElem? (l := tables_1_1) (i := 146) (by decide +kernel)))) rfl
set_option maxRecDepth 100000 in
theorem zl_278 : Cond.fieldLink "RiverDiggers" 28 "RiverDiggers" "image1" "LRiverDiggers$Times;" ∈ zi_G := zi_inG (List.mem_append_right _ (List.mem_append_right _ (List.mem_append_left _ (List.mem_of_getElem? (l := tables_1_2) (i := 87) (by decide +kernel))))) rfl
set_option maxRecDepth 100000 in
theorem zl_279 : Cond.methodLink "RiverDiggers" 18 yX7_init ∈ zi_G := zi_inG (List.mem_append_right _ (List.mem_append_left _ (List.mem_of_getElem? (l := tables_1_1) (i := 63) (by decide +kernel)))) rfl
set_option maxRecDepth 100000 in
theorem zl_280 : Cond.instanceMethod yX7_init ∈ zi_G := zi_inG (List.mem_append_right _ (List.mem_append_left _ (List.mem_of_getElem? (l := tables_1_1) (i := 64) (by decide +kernel)))) rfl
set_option maxRecDepth 100000 in
theorem zl_281 : Cond.classLink "RiverDiggers" 16 "RiverDiggers$Times" ∈ zi_G := zi_inG (List.mem_append_right _ (List.mem_append_left _ (List.mem_of_getElem? (l := tables_1_1) (i := 61) (by decide +kernel)))) rfl
set_option maxRecDepth 100000 in
theorem zl_282 : Cond.instantiable "RiverDiggers$Times" 7 ∈ zi_G := zi_inG (List.mem_append_right _ (List.mem_append_left _ (List.mem_of_getElem? (l := tables_1_1) (i := 62) (by decide +kernel)))) rfl
set_option maxRecDepth 100000 in
theorem zl_283 : Cond.initialized "RiverDiggers$Times" ∈ zi_G := zi_inG (List.mem_append_right _ (List.mem_append_left _ (List.mem_of_getElem? (l := tables_1_1) (i := 3) (by decide +kernel)))) rfl
set_option maxRecDepth 100000 in
theorem zl_284 : Cond.fieldLink "RiverDiggers" 25 "RiverDiggers" "image0" "LRiverDiggers$Times;" ∈ zi_G := zi_inG (List.mem_append_right _ (List.mem_append_right _ (List.mem_append_left _ (List.mem_of_getElem? (l := tables_1_2) (i := 86) (by decide +kernel))))) rfl
set_option maxRecDepth 100000 in
theorem zl_285 : Cond.methodLinkNest "RiverDiggers" 9 yX3_init "RiverDiggers" ∈ lw_tbl := List.mem_append_right _ (List.mem_append_left _ (List.mem_of_getElem? (l := tables_1_1) (i := 28) (by decide +kernel)))
set_option maxRecDepth 100000 in
theorem zl_286 : Cond.instanceMethod yX3_init ∈ zi_G := zi_inG (List.mem_append_right _ (List.mem_append_left _ (List.mem_of_getElem? (l := tables_1_1) (i := 29) (by decide +kernel)))) rfl
set_option maxRecDepth 100000 in
theorem zl_287 : Cond.classLink "RiverDiggers" 7 "RiverDiggers$Land" ∈ zi_G := zi_inG (List.mem_append_right _ (List.mem_append_left _ (List.mem_of_getElem? (l := tables_1_1) (i := 26) (by decide +kernel)))) rfl
set_option maxRecDepth 100000 in
theorem zl_288 : Cond.instantiable "RiverDiggers$Land" 5 ∈ zi_G := zi_inG (List.mem_append_right _ (List.mem_append_left _ (List.mem_of_getElem? (l := tables_1_1) (i := 27) (by decide +kernel)))) rfl
set_option maxRecDepth 100000 in
theorem zl_289 : Cond.initialized "RiverDiggers$Land" ∈ zi_G := zi_inG (List.mem_append_right _ (List.mem_append_left _ (List.mem_of_getElem? (l := tables_1_1) (i := 2) (by decide +kernel)))) rfl
set_option maxRecDepth 100000 in
theorem zl_290 : Cond.methodLink "RiverDiggers" 1 Lib.objectInit ∈ zi_G := zi_inG (List.mem_append_right _ (List.mem_append_left _ (List.mem_of_getElem? (l := tables_1_1) (i := 23) (by decide +kernel)))) rfl
set_option maxRecDepth 100000 in
theorem zl_291 : Cond.methodLink "RiverDiggers" 86 yX6_append ∈ zi_G := zi_inG (List.mem_append_right _ (List.mem_append_right _ (List.mem_append_left _ (List.mem_of_getElem? (l := tables_1_2) (i := 131) (by decide +kernel))))) rfl
set_option maxRecDepth 100000 in
theorem zl_292 : Cond.instanceMethod yX6_append ∈ zi_G := zi_inG (List.mem_append_right _ (List.mem_append_right _ (List.mem_append_left _ (List.mem_of_getElem? (l := tables_1_2) (i := 132) (by decide +kernel))))) rfl
set_option maxRecDepth 100000 in
theorem zl_293 : Cond.selects "RiverDiggers$Tape" yX6_append yX6_append ∈ zi_G := zi_inG (List.mem_append_right _ (List.mem_append_right _ (List.mem_append_left _ (List.mem_of_getElem? (l := tables_1_2) (i := 133) (by decide +kernel))))) rfl
set_option maxRecDepth 100000 in
theorem zl_294 : Cond.fieldLink "RiverDiggers" 90 "RiverDiggers$Tape" "length" "I" ∈ zi_G := zi_inG (List.mem_append_right _ (List.mem_append_left _ (List.mem_of_getElem? (l := tables_1_1) (i := 206) (by decide +kernel)))) rfl
set_option maxRecDepth 100000 in
theorem zl_295 : Cond.fieldLink "RiverDiggers" 101 "RiverDiggers" "textFault" "I" ∈ zi_G := zi_inG (List.mem_append_right _ (List.mem_append_right _ (List.mem_append_left _ (List.mem_of_getElem? (l := tables_1_2) (i := 96) (by decide +kernel))))) rfl
set_option maxRecDepth 100000 in
theorem zl_296 : Cond.fieldLink "RiverDiggers" 98 "RiverDiggers$Tape" "flaw" "I" ∈ zi_G := zi_inG (List.mem_append_right _ (List.mem_append_left _ (List.mem_of_getElem? (l := tables_1_1) (i := 215) (by decide +kernel)))) rfl
set_option maxRecDepth 100000 in
theorem zl_297 : Cond.methodLink "RiverDiggers" 94 yX1_take ∈ zi_G := zi_inG (List.mem_append_right _ (List.mem_append_right _ (List.mem_append_left _ (List.mem_of_getElem? (l := tables_1_2) (i := 143) (by decide +kernel))))) rfl
set_option maxRecDepth 100000 in
theorem zl_298 : Cond.instanceMethod yX1_take ∈ zi_G := zi_inG (List.mem_append_right _ (List.mem_append_right _ (List.mem_append_left _ (List.mem_of_getElem? (l := tables_1_2) (i := 144) (by decide +kernel))))) rfl
set_option maxRecDepth 100000 in
theorem zl_299 : Cond.selects "RiverDiggers$Draft" yX1_take yX1_take ∈ zi_G := zi_inG (List.mem_append_right _ (List.mem_append_right _ (List.mem_append_left _ (List.mem_of_getElem? (l := tables_1_2) (i := 145) (by decide +kernel))))) rfl
set_option maxRecDepth 100000 in
theorem zl_300 : Cond.fieldLink "RiverDiggers" 104 "RiverDiggers$Tape" "place" "I" ∈ zi_G := zi_inG (List.mem_append_right _ (List.mem_append_left _ (List.mem_of_getElem? (l := tables_1_1) (i := 217) (by decide +kernel)))) rfl
set_option maxRecDepth 100000 in
theorem zl_301 : Cond.fieldLink "RiverDiggers" 111 "RiverDiggers" "kept" "I" ∈ zi_G := zi_inG (List.mem_append_right _ (List.mem_append_right _ (List.mem_append_left _ (List.mem_of_getElem? (l := tables_1_2) (i := 95) (by decide +kernel))))) rfl
set_option maxRecDepth 100000 in
theorem zl_302 : Cond.fieldLink "RiverDiggers" 107 "RiverDiggers$Outlook" "ready" "Z" ∈ zi_G := zi_inG (List.mem_append_right _ (List.mem_append_left _ (List.mem_of_getElem? (l := tables_1_1) (i := 164) (by decide +kernel)))) rfl
set_option maxRecDepth 100000 in
theorem zl_303 : Cond.fieldLink "RiverDiggers" 114 "RiverDiggers$Land" "wide" "I" ∈ zi_G := zi_inG (List.mem_append_right _ (List.mem_append_left _ (List.mem_of_getElem? (l := tables_1_1) (i := 40) (by decide +kernel)))) rfl
set_option maxRecDepth 100000 in
theorem zl_304 : Cond.fieldLink "RiverDiggers" 117 "RiverDiggers$Land" "high" "I" ∈ zi_G := zi_inG (List.mem_append_right _ (List.mem_append_left _ (List.mem_of_getElem? (l := tables_1_1) (i := 43) (by decide +kernel)))) rfl
set_option maxRecDepth 100000 in
theorem zl_305 : Cond.fieldLink "RiverDiggers" 123 "RiverDiggers$Flow" "spring" "I" ∈ zi_G := zi_inG (List.mem_append_right _ (List.mem_append_left _ (List.mem_of_getElem? (l := tables_1_1) (i := 87) (by decide +kernel)))) rfl
set_option maxRecDepth 100000 in
theorem zl_306 : Cond.fieldLink "RiverDiggers" 120 "RiverDiggers$Times" "flow" "LRiverDiggers$Flow;" ∈ zi_G := zi_inG (List.mem_append_right _ (List.mem_append_left _ (List.mem_of_getElem? (l := tables_1_1) (i := 113) (by decide +kernel)))) rfl
set_option maxRecDepth 100000 in
theorem zl_307 : Cond.fieldLink "RiverDiggers" 126 "RiverDiggers$Land" "farms" "I" ∈ zi_G := zi_inG (List.mem_append_right _ (List.mem_append_left _ (List.mem_of_getElem? (l := tables_1_1) (i := 46) (by decide +kernel)))) rfl
set_option maxRecDepth 100000 in
theorem zl_308 : Cond.fieldLink "RiverDiggers" 129 "RiverDiggers$Flow" "law" "I" ∈ zi_G := zi_inG (List.mem_append_right _ (List.mem_append_left _ (List.mem_of_getElem? (l := tables_1_1) (i := 90) (by decide +kernel)))) rfl
set_option maxRecDepth 100000 in
theorem zl_309 : Cond.fieldLink "RiverDiggers" 132 "RiverDiggers$Flow" "silted" "Z" ∈ zi_G := zi_inG (List.mem_append_right _ (List.mem_append_left _ (List.mem_of_getElem? (l := tables_1_1) (i := 93) (by decide +kernel)))) rfl
set_option maxRecDepth 100000 in
theorem zl_310 : Cond.fieldLink "RiverDiggers" 135 "RiverDiggers$Times" "years" "I" ∈ zi_G := zi_inG (List.mem_append_right _ (List.mem_append_left _ (List.mem_of_getElem? (l := tables_1_1) (i := 123) (by decide +kernel)))) rfl
set_option maxRecDepth 100000 in
theorem zl_311 : Cond.methodLink "RiverDiggers" 138 yX3_hasCell ∈ zi_G := zi_inG (List.mem_append_right _ (List.mem_append_right _ (List.mem_append_right _ (List.mem_append_left _ (List.mem_of_getElem? (l := tables_1_3) (i := 63) (by decide +kernel)))))) rfl
set_option maxRecDepth 100000 in
theorem zl_312 : Cond.instanceMethod yX3_hasCell ∈ zi_G := zi_inG (List.mem_append_right _ (List.mem_append_right _ (List.mem_append_right _ (List.mem_append_left _ (List.mem_of_getElem? (l := tables_1_3) (i := 64) (by decide +kernel)))))) rfl
set_option maxRecDepth 100000 in
theorem zl_313 : Cond.selects "RiverDiggers$Land" yX3_hasCell yX3_hasCell ∈ zi_G := zi_inG (List.mem_append_right _ (List.mem_append_right _ (List.mem_append_right _ (List.mem_append_left _ (List.mem_of_getElem? (l := tables_1_3) (i := 65) (by decide +kernel)))))) rfl
set_option maxRecDepth 100000 in
theorem zl_314 : Cond.fieldLink "RiverDiggers" 142 "RiverDiggers$Flow" "heights" "[I" ∈ zi_G := zi_inG (List.mem_append_right _ (List.mem_append_left _ (List.mem_of_getElem? (l := tables_1_1) (i := 76) (by decide +kernel)))) rfl
set_option maxRecDepth 100000 in
theorem zl_315 : Cond.methodLink "RiverDiggers" 145 yX3_ownerOf ∈ zi_G := zi_inG (List.mem_append_right _ (List.mem_append_right _ (List.mem_append_right _ (List.mem_append_left _ (List.mem_of_getElem? (l := tables_1_3) (i := 67) (by decide +kernel)))))) rfl
set_option maxRecDepth 100000 in
theorem zl_316 : Cond.instanceMethod yX3_ownerOf ∈ zi_G := zi_inG (List.mem_append_right _ (List.mem_append_right _ (List.mem_append_right _ (List.mem_append_left _ (List.mem_of_getElem? (l := tables_1_3) (i := 68) (by decide +kernel)))))) rfl
set_option maxRecDepth 100000 in
theorem zl_317 : Cond.selects "RiverDiggers$Land" yX3_ownerOf yX3_ownerOf ∈ zi_G := zi_inG (List.mem_append_right _ (List.mem_append_right _ (List.mem_append_right _ (List.mem_append_left _ (List.mem_of_getElem? (l := tables_1_3) (i := 69) (by decide +kernel)))))) rfl
set_option maxRecDepth 100000 in
theorem zl_318 : Cond.methodLink "RiverDiggers" 149 yX3_hasFarm ∈ zi_G := zi_inG (List.mem_append_right _ (List.mem_append_right _ (List.mem_append_right _ (List.mem_append_left _ (List.mem_of_getElem? (l := tables_1_3) (i := 76) (by decide +kernel)))))) rfl
set_option maxRecDepth 100000 in
theorem zl_319 : Cond.fieldLink "RiverDiggers" 152 "RiverDiggers$Times" "worths" "[I" ∈ zi_G := zi_inG (List.mem_append_right _ (List.mem_append_left _ (List.mem_of_getElem? (l := tables_1_1) (i := 116) (by decide +kernel)))) rfl
set_option maxRecDepth 100000 in
theorem zl_320 : Cond.fieldLink "RiverDiggers" 155 "RiverDiggers$Land" "ground" "[I" ∈ zi_G := zi_inG (List.mem_append_right _ (List.mem_append_left _ (List.mem_of_getElem? (l := tables_1_1) (i := 35) (by decide +kernel)))) rfl
set_option maxRecDepth 100000 in
theorem zl_321 : Cond.methodLink "RiverDiggers" 161 yX7_gain ∈ zi_G := zi_inG (List.mem_append_right _ (List.mem_append_right _ (List.mem_append_right _ (List.mem_append_left _ (List.mem_of_getElem? (l := tables_1_3) (i := 80) (by decide +kernel)))))) rfl
set_option maxRecDepth 100000 in
theorem zl_322 : Cond.fieldLink "RiverDiggers" 158 "RiverDiggers$Flow" "bits" "I" ∈ zi_G := zi_inG (List.mem_append_right _ (List.mem_append_left _ (List.mem_of_getElem? (l := tables_1_1) (i := 85) (by decide +kernel)))) rfl
set_option maxRecDepth 100000 in
theorem zl_323 : Cond.methodLink "RiverDiggers" 165 yX2_cuttable ∈ zi_G := zi_inG (List.mem_append_right _ (List.mem_append_right _ (List.mem_append_right _ (List.mem_append_left _ (List.mem_of_getElem? (l := tables_1_3) (i := 86) (by decide +kernel)))))) rfl
set_option maxRecDepth 100000 in
theorem zl_324 : Cond.fieldLink "RiverDiggers" 168 "RiverDiggers$Flow" "length" "I" ∈ zi_G := zi_inG (List.mem_append_right _ (List.mem_append_left _ (List.mem_of_getElem? (l := tables_1_1) (i := 81) (by decide +kernel)))) rfl
set_option maxRecDepth 100000 in
theorem zl_325 : Cond.fieldLink "RiverDiggers" 169 "RiverDiggers$Flow" "way" "[I" ∈ zi_G := zi_inG (List.mem_append_right _ (List.mem_append_left _ (List.mem_of_getElem? (l := tables_1_1) (i := 79) (by decide +kernel)))) rfl
set_option maxRecDepth 100000 in
theorem zl_326 : Cond.methodLink "RiverDiggers" 172 yX8_retrace ∈ zi_G := zi_inG (List.mem_append_right _ (List.mem_append_right _ (List.mem_append_right _ (List.mem_append_left _ (List.mem_of_getElem? (l := tables_1_3) (i := 103) (by decide +kernel)))))) rfl
set_option maxRecDepth 100000 in
theorem zl_327 : Cond.instanceMethod yX8_retrace ∈ zi_G := zi_inG (List.mem_append_right _ (List.mem_append_right _ (List.mem_append_right _ (List.mem_append_left _ (List.mem_of_getElem? (l := tables_1_3) (i := 105) (by decide +kernel)))))) rfl
set_option maxRecDepth 100000 in
theorem zl_328 : Cond.selects "RiverDiggers" yX8_retrace yX8_retrace ∈ zi_G := zi_inG (List.mem_append_left _ (List.mem_of_getElem? (i := 12) (by decide +kernel))) rfl
set_option maxRecDepth 100000 in
theorem zl_329 : Cond.methodLink "RiverDiggers" 175 yX2_trace ∈ zi_G := zi_inG (List.mem_append_right _ (List.mem_append_right _ (List.mem_append_right _ (List.mem_append_left _ (List.mem_of_getElem? (l := tables_1_3) (i := 107) (by decide +kernel)))))) rfl
set_option maxRecDepth 100000 in
theorem zl_330 : Cond.methodLink "RiverDiggers" 178 yX8_refusal ∈ zi_G := zi_inG (List.mem_append_right _ (List.mem_append_right _ (List.mem_append_right _ (List.mem_append_left _ (List.mem_of_getElem? (l := tables_1_3) (i := 128) (by decide +kernel)))))) rfl
set_option maxRecDepth 100000 in
theorem zl_331 : Cond.static yX8_refusal ∈ zi_G := zi_inG (List.mem_append_right _ (List.mem_append_right _ (List.mem_append_right _ (List.mem_append_left _ (List.mem_of_getElem? (l := tables_1_3) (i := 129) (by decide +kernel)))))) rfl
set_option maxRecDepth 100000 in
theorem zl_332 : Cond.methodLink "RiverDiggers" 182 yX2_pass ∈ zi_G := zi_inG (List.mem_append_right _ (List.mem_append_right _ (List.mem_append_right _ (List.mem_append_left _ (List.mem_of_getElem? (l := tables_1_3) (i := 142) (by decide +kernel)))))) rfl
set_option maxRecDepth 100000 in
theorem zl_333 : Cond.methodLink "RiverDiggers" 186 yX8_isNumber ∈ zi_G := zi_inG (List.mem_append_right _ (List.mem_append_right _ (List.mem_append_right _ (List.mem_append_left _ (List.mem_of_getElem? (l := tables_1_3) (i := 131) (by decide +kernel)))))) rfl
set_option maxRecDepth 100000 in
theorem zl_334 : Cond.static yX8_isNumber ∈ zi_G := zi_inG (List.mem_append_right _ (List.mem_append_right _ (List.mem_append_right _ (List.mem_append_left _ (List.mem_of_getElem? (l := tables_1_3) (i := 132) (by decide +kernel)))))) rfl
set_option maxRecDepth 100000 in
theorem zl_335 : Cond.methodLink "RiverDiggers" 189 yX2_refused ∈ zi_G := zi_inG (List.mem_append_right _ (List.mem_append_right _ (List.mem_append_right _ (List.mem_append_left _ (List.mem_of_getElem? (l := tables_1_3) (i := 134) (by decide +kernel)))))) rfl
set_option maxRecDepth 100000 in
theorem zl_336 : Cond.instanceMethod yX2_refused ∈ zi_G := zi_inG (List.mem_append_right _ (List.mem_append_right _ (List.mem_append_right _ (List.mem_append_left _ (List.mem_of_getElem? (l := tables_1_3) (i := 135) (by decide +kernel)))))) rfl
set_option maxRecDepth 100000 in
theorem zl_337 : Cond.selects "RiverDiggers$Flow" yX2_refused yX2_refused ∈ zi_G := zi_inG (List.mem_append_right _ (List.mem_append_right _ (List.mem_append_right _ (List.mem_append_left _ (List.mem_of_getElem? (l := tables_1_3) (i := 136) (by decide +kernel)))))) rfl
set_option maxRecDepth 100000 in
theorem zl_338 : Cond.methodLink "RiverDiggers" 192 yX2_copy ∈ zi_G := zi_inG (List.mem_append_right _ (List.mem_append_right _ (List.mem_append_right _ (List.mem_append_left _ (List.mem_of_getElem? (l := tables_1_3) (i := 155) (by decide +kernel)))))) rfl
set_option maxRecDepth 100000 in
theorem zl_339 : Cond.fieldLink "RiverDiggers" 196 "RiverDiggers$Times" "tolds" "I" ∈ zi_G := zi_inG (List.mem_append_right _ (List.mem_append_left _ (List.mem_of_getElem? (l := tables_1_1) (i := 127) (by decide +kernel)))) rfl
set_option maxRecDepth 100000 in
theorem zl_340 : Cond.fieldLink "RiverDiggers" 199 "RiverDiggers$Times" "told" "[I" ∈ zi_G := zi_inG (List.mem_append_right _ (List.mem_append_left _ (List.mem_of_getElem? (l := tables_1_1) (i := 119) (by decide +kernel)))) rfl
set_option maxRecDepth 100000 in
theorem zl_341 : Cond.methodLink "RiverDiggers" 202 yX0_fewest ∈ zi_G := zi_inG (List.mem_append_right _ (List.mem_append_right _ (List.mem_append_right _ (List.mem_append_left _ (List.mem_of_getElem? (l := tables_1_3) (i := 176) (by decide +kernel)))))) rfl
set_option maxRecDepth 100000 in
theorem zl_342 : Cond.instanceMethod yX0_fewest ∈ zi_G := zi_inG (List.mem_append_right _ (List.mem_append_right _ (List.mem_append_right _ (List.mem_append_left _ (List.mem_of_getElem? (l := tables_1_3) (i := 177) (by decide +kernel)))))) rfl
set_option maxRecDepth 100000 in
theorem zl_343 : Cond.selects "RiverDiggers$Digger" yX0_fewest yX0_fewest ∈ zi_G := zi_inG (List.mem_append_right _ (List.mem_append_right _ (List.mem_append_right _ (List.mem_append_left _ (List.mem_of_getElem? (l := tables_1_3) (i := 178) (by decide +kernel)))))) rfl
set_option maxRecDepth 100000 in
theorem zl_344 : Cond.methodLink "RiverDiggers" 205 yX0_cutOf ∈ zi_G := zi_inG (List.mem_append_right _ (List.mem_append_right _ (List.mem_append_right _ (List.mem_append_left _ (List.mem_of_getElem? (l := tables_1_3) (i := 191) (by decide +kernel)))))) rfl
set_option maxRecDepth 100000 in
theorem zl_345 : Cond.instanceMethod yX0_cutOf ∈ zi_G := zi_inG (List.mem_append_right _ (List.mem_append_right _ (List.mem_append_right _ (List.mem_append_left _ (List.mem_of_getElem? (l := tables_1_3) (i := 192) (by decide +kernel)))))) rfl
set_option maxRecDepth 100000 in
theorem zl_346 : Cond.selects "RiverDiggers$Digger" yX0_cutOf yX0_cutOf ∈ zi_G := zi_inG (List.mem_append_right _ (List.mem_append_right _ (List.mem_append_right _ (List.mem_append_left _ (List.mem_of_getElem? (l := tables_1_3) (i := 193) (by decide +kernel)))))) rfl
set_option maxRecDepth 100000 in
theorem zl_347 : Cond.methodLink "RiverDiggers" 208 yX8_lookAhead ∈ zi_G := zi_inG (List.mem_append_right _ (List.mem_append_right _ (List.mem_append_right _ (List.mem_append_left _ (List.mem_of_getElem? (l := tables_1_3) (i := 199) (by decide +kernel)))))) rfl
set_option maxRecDepth 100000 in
theorem zl_348 : Cond.instanceMethod yX8_lookAhead ∈ zi_G := zi_inG (List.mem_append_right _ (List.mem_append_right _ (List.mem_append_right _ (List.mem_append_left _ (List.mem_of_getElem? (l := tables_1_3) (i := 201) (by decide +kernel)))))) rfl
set_option maxRecDepth 100000 in
theorem zl_349 : Cond.selects "RiverDiggers" yX8_lookAhead yX8_lookAhead ∈ zi_G := zi_inG (List.mem_append_left _ (List.mem_of_getElem? (i := 15) (by decide +kernel))) rfl
set_option maxRecDepth 100000 in
theorem zl_350 : Cond.fieldLink "RiverDiggers" 211 "RiverDiggers$Outlook" "size" "I" ∈ zi_G := zi_inG (List.mem_append_right _ (List.mem_append_left _ (List.mem_of_getElem? (l := tables_1_1) (i := 162) (by decide +kernel)))) rfl
set_option maxRecDepth 100000 in
theorem zl_351 : Cond.methodLink "RiverDiggers" 227 yX8_has ∈ zi_G := zi_inG (List.mem_append_right _ (List.mem_append_right _ (List.mem_append_right _ (List.mem_append_left _ (List.mem_of_getElem? (l := tables_1_3) (i := 221) (by decide +kernel)))))) rfl
set_option maxRecDepth 100000 in
theorem zl_352 : Cond.fieldLink "RiverDiggers" 224 "RiverDiggers$Outlook" "beds" "[I" ∈ zi_G := zi_inG (List.mem_append_right _ (List.mem_append_left _ (List.mem_of_getElem? (l := tables_1_1) (i := 160) (by decide +kernel)))) rfl
set_option maxRecDepth 100000 in
theorem zl_353 : Cond.methodLink "RiverDiggers" 219 yJ6_bitCount_0f7a4 ∈ zi_G := zi_inG (List.mem_append_right _ (List.mem_append_right _ (List.mem_append_right _ (List.mem_append_left _ (List.mem_of_getElem? (l := tables_1_3) (i := 220) (by decide +kernel)))))) rfl
set_option maxRecDepth 100000 in
theorem zl_354 : Cond.methodLink "RiverDiggers" 216 yX8_cutters ∈ zi_G := zi_inG (List.mem_append_right _ (List.mem_append_right _ (List.mem_append_right _ (List.mem_append_left _ (List.mem_of_getElem? (l := tables_1_3) (i := 216) (by decide +kernel)))))) rfl
set_option maxRecDepth 100000 in
theorem zl_355 : Cond.static yX8_cutters ∈ zi_G := zi_inG (List.mem_append_right _ (List.mem_append_right _ (List.mem_append_right _ (List.mem_append_left _ (List.mem_of_getElem? (l := tables_1_3) (i := 217) (by decide +kernel)))))) rfl
set_option maxRecDepth 100000 in
theorem zl_356 : Cond.fieldLink "RiverDiggers" 214 "RiverDiggers$Outlook" "years" "[I" ∈ zi_G := zi_inG (List.mem_append_right _ (List.mem_append_left _ (List.mem_of_getElem? (l := tables_1_1) (i := 158) (by decide +kernel)))) rfl
set_option maxRecDepth 100000 in
theorem zl_357 : Cond.methodLink "RiverDiggers" 231 yX4_build ∈ zi_G := zi_inG (List.mem_append_right _ (List.mem_append_right _ (List.mem_append_right _ (List.mem_append_left _ (List.mem_of_getElem? (l := tables_1_3) (i := 203) (by decide +kernel)))))) rfl
set_option maxRecDepth 100000 in
theorem zl_358 : Cond.instanceMethod yX4_build ∈ zi_G := zi_inG (List.mem_append_right _ (List.mem_append_right _ (List.mem_append_right _ (List.mem_append_left _ (List.mem_of_getElem? (l := tables_1_3) (i := 204) (by decide +kernel)))))) rfl
set_option maxRecDepth 100000 in
theorem zl_359 : Cond.selects "RiverDiggers$Outlook" yX4_build yX4_build ∈ zi_G := zi_inG (List.mem_append_right _ (List.mem_append_right _ (List.mem_append_right _ (List.mem_append_left _ (List.mem_of_getElem? (l := tables_1_3) (i := 205) (by decide +kernel)))))) rfl
set_option maxRecDepth 100000 in
theorem zl_360 : Cond.methodLink "RiverDiggers" 235 yX8_option ∈ zi_G := zi_inG (List.mem_append_right _ (List.mem_append_right _ (List.mem_append_right _ (List.mem_append_left _ (List.mem_of_getElem? (l := tables_1_3) (i := 219) (by decide +kernel)))))) rfl
set_option maxRecDepth 100000 in
theorem zl_361 : Cond.methodLinkNest "RiverDiggers" 238 yX4_chosen "RiverDiggers" ∈ lw_tbl := List.mem_append_right _ (List.mem_append_right _ (List.mem_append_right _ (List.mem_append_left _ (List.mem_of_getElem? (l := tables_1_3) (i := 226) (by decide +kernel)))))
set_option maxRecDepth 100000 in
theorem zl_362 : Cond.methodLink "RiverDiggers" 242 yX4_breakers ∈ zi_G := zi_inG (List.mem_append_right _ (List.mem_append_right _ (List.mem_append_right _ (List.mem_append_left _ (List.mem_of_getElem? (l := tables_1_3) (i := 236) (by decide +kernel)))))) rfl
set_option maxRecDepth 100000 in
theorem zl_363 : Cond.instanceMethod yX4_breakers ∈ zi_G := zi_inG (List.mem_append_right _ (List.mem_append_right _ (List.mem_append_right _ (List.mem_append_left _ (List.mem_of_getElem? (l := tables_1_3) (i := 237) (by decide +kernel)))))) rfl
set_option maxRecDepth 100000 in
theorem zl_364 : Cond.selects "RiverDiggers$Outlook" yX4_breakers yX4_breakers ∈ zi_G := zi_inG (List.mem_append_right _ (List.mem_append_right _ (List.mem_append_right _ (List.mem_append_left _ (List.mem_of_getElem? (l := tables_1_3) (i := 238) (by decide +kernel)))))) rfl
set_option maxRecDepth 100000 in
theorem zl_365 : Cond.methodLink "RiverDiggers" 246 yX4_indexOf ∈ zi_G := zi_inG (List.mem_append_right _ (List.mem_append_right _ (List.mem_append_right _ (List.mem_append_right _ (List.mem_append_left _ (List.mem_of_getElem? (l := tables_1_4) (i := 9) (by decide +kernel))))))) rfl
set_option maxRecDepth 100000 in
theorem zl_366 : Cond.instanceMethod yX4_indexOf ∈ zi_G := zi_inG (List.mem_append_right _ (List.mem_append_right _ (List.mem_append_right _ (List.mem_append_right _ (List.mem_append_left _ (List.mem_of_getElem? (l := tables_1_4) (i := 10) (by decide +kernel))))))) rfl
set_option maxRecDepth 100000 in
theorem zl_367 : Cond.selects "RiverDiggers$Outlook" yX4_indexOf yX4_indexOf ∈ zi_G := zi_inG (List.mem_append_right _ (List.mem_append_right _ (List.mem_append_right _ (List.mem_append_right _ (List.mem_append_left _ (List.mem_of_getElem? (l := tables_1_4) (i := 11) (by decide +kernel))))))) rfl
set_option maxRecDepth 100000 in
theorem zl_368 : Cond.methodLink "RiverDiggers" 249 yX8_note ∈ zi_G := zi_inG (List.mem_append_right _ (List.mem_append_right _ (List.mem_append_right _ (List.mem_append_right _ (List.mem_append_left _ (List.mem_of_getElem? (l := tables_1_4) (i := 21) (by decide +kernel))))))) rfl
set_option maxRecDepth 100000 in
theorem zl_369 : Cond.instanceMethod yX8_note ∈ zi_G := zi_inG (List.mem_append_right _ (List.mem_append_right _ (List.mem_append_right _ (List.mem_append_right _ (List.mem_append_left _ (List.mem_of_getElem? (l := tables_1_4) (i := 23) (by decide +kernel))))))) rfl
set_option maxRecDepth 100000 in
theorem zl_370 : Cond.selects "RiverDiggers" yX8_note yX8_note ∈ zi_G := zi_inG (List.mem_append_left _ (List.mem_of_getElem? (i := 19) (by decide +kernel))) rfl
set_option maxRecDepth 100000 in
theorem zl_371 : Cond.methodLink "RiverDiggers" 252 yX8_firstAlike ∈ zi_G := zi_inG (List.mem_append_right _ (List.mem_append_right _ (List.mem_append_right _ (List.mem_append_right _ (List.mem_append_left _ (List.mem_of_getElem? (l := tables_1_4) (i := 26) (by decide +kernel))))))) rfl
set_option maxRecDepth 100000 in
theorem zl_372 : Cond.instanceMethod yX8_firstAlike ∈ zi_G := zi_inG (List.mem_append_right _ (List.mem_append_right _ (List.mem_append_right _ (List.mem_append_right _ (List.mem_append_left _ (List.mem_of_getElem? (l := tables_1_4) (i := 28) (by decide +kernel))))))) rfl
set_option maxRecDepth 100000 in
theorem zl_373 : Cond.selects "RiverDiggers" yX8_firstAlike yX8_firstAlike ∈ zi_G := zi_inG (List.mem_append_left _ (List.mem_of_getElem? (i := 20) (by decide +kernel))) rfl
set_option maxRecDepth 100000 in
theorem zl_374 : Cond.methodLink "RiverDiggers" 255 arraycopyName ∈ zi_G := zi_inG (List.mem_append_right _ (List.mem_append_right _ (List.mem_append_right _ (List.mem_append_right _ (List.mem_append_left _ (List.mem_of_getElem? (l := tables_1_4) (i := 25) (by decide +kernel))))))) rfl
set_option maxRecDepth 100000 in
theorem zl_375 : Cond.methodLink "RiverDiggers" 261 yX8_isAlike ∈ zi_G := zi_inG (List.mem_append_right _ (List.mem_append_right _ (List.mem_append_right _ (List.mem_append_right _ (List.mem_append_left _ (List.mem_of_getElem? (l := tables_1_4) (i := 30) (by decide +kernel))))))) rfl
set_option maxRecDepth 100000 in
theorem zl_376 : Cond.instanceMethod yX8_isAlike ∈ zi_G := zi_inG (List.mem_append_right _ (List.mem_append_right _ (List.mem_append_right _ (List.mem_append_right _ (List.mem_append_left _ (List.mem_of_getElem? (l := tables_1_4) (i := 32) (by decide +kernel))))))) rfl
set_option maxRecDepth 100000 in
theorem zl_377 : Cond.selects "RiverDiggers" yX8_isAlike yX8_isAlike ∈ zi_G := zi_inG (List.mem_append_left _ (List.mem_of_getElem? (i := 21) (by decide +kernel))) rfl
set_option maxRecDepth 100000 in
theorem zl_378 : Cond.constantLong "RiverDiggers" 264 (-1) ∈ zi_G := zi_inG (List.mem_append_right _ (List.mem_append_right _ (List.mem_append_right _ (List.mem_append_right _ (List.mem_append_left _ (List.mem_of_getElem? (l := tables_1_4) (i := 38) (by decide +kernel))))))) rfl
set_option maxRecDepth 100000 in
theorem zl_379 : Cond.methodLink "RiverDiggers" 266 yX8_commonDivisor ∈ zi_G := zi_inG (List.mem_append_right _ (List.mem_append_right _ (List.mem_append_right _ (List.mem_append_right _ (List.mem_append_left _ (List.mem_of_getElem? (l := tables_1_4) (i := 39) (by decide +kernel))))))) rfl
set_option maxRecDepth 100000 in
theorem zl_380 : Cond.static yX8_commonDivisor ∈ zi_G := zi_inG (List.mem_append_right _ (List.mem_append_right _ (List.mem_append_right _ (List.mem_append_right _ (List.mem_append_left _ (List.mem_of_getElem? (l := tables_1_4) (i := 40) (by decide +kernel))))))) rfl
set_option maxRecDepth 100000 in
theorem zl_381 : Cond.fieldLink "RiverDiggers" 269 "RiverDiggers$Times" "seens" "I" ∈ zi_G := zi_inG (List.mem_append_right _ (List.mem_append_left _ (List.mem_of_getElem? (l := tables_1_1) (i := 130) (by decide +kernel)))) rfl
set_option maxRecDepth 100000 in
theorem zl_382 : Cond.fieldLink "RiverDiggers" 272 "RiverDiggers$Times" "seen" "[I" ∈ zi_G := zi_inG (List.mem_append_right _ (List.mem_append_left _ (List.mem_of_getElem? (l := tables_1_1) (i := 121) (by decide +kernel)))) rfl
set_option maxRecDepth 100000 in
theorem zl_383 : Cond.methodLink "RiverDiggers" 275 yX7_agrees ∈ zi_G := zi_inG (List.mem_append_right _ (List.mem_append_right _ (List.mem_append_right _ (List.mem_append_right _ (List.mem_append_left _ (List.mem_of_getElem? (l := tables_1_4) (i := 54) (by decide +kernel))))))) rfl
set_option maxRecDepth 100000 in
theorem zl_384 : Cond.instanceMethod yX7_agrees ∈ zi_G := zi_inG (List.mem_append_right _ (List.mem_append_right _ (List.mem_append_right _ (List.mem_append_right _ (List.mem_append_left _ (List.mem_of_getElem? (l := tables_1_4) (i := 55) (by decide +kernel))))))) rfl
set_option maxRecDepth 100000 in
theorem zl_385 : Cond.selects "RiverDiggers$Times" yX7_agrees yX7_agrees ∈ zi_G := zi_inG (List.mem_append_right _ (List.mem_append_right _ (List.mem_append_right _ (List.mem_append_right _ (List.mem_append_left _ (List.mem_of_getElem? (l := tables_1_4) (i := 56) (by decide +kernel))))))) rfl
set_option maxRecDepth 100000 in
theorem zl_386 : Cond.methodLink "RiverDiggers" 282 yX7_copy ∈ zi_G := zi_inG (List.mem_append_right _ (List.mem_append_right _ (List.mem_append_right _ (List.mem_append_right _ (List.mem_append_left _ (List.mem_of_getElem? (l := tables_1_4) (i := 67) (by decide +kernel))))))) rfl
set_option maxRecDepth 100000 in
theorem zl_387 : Cond.instanceMethod yX7_copy ∈ zi_G := zi_inG (List.mem_append_right _ (List.mem_append_right _ (List.mem_append_right _ (List.mem_append_right _ (List.mem_append_left _ (List.mem_of_getElem? (l := tables_1_4) (i := 68) (by decide +kernel))))))) rfl
set_option maxRecDepth 100000 in
theorem zl_388 : Cond.selects "RiverDiggers$Times" yX7_copy yX7_copy ∈ zi_G := zi_inG (List.mem_append_right _ (List.mem_append_right _ (List.mem_append_right _ (List.mem_append_right _ (List.mem_append_left _ (List.mem_of_getElem? (l := tables_1_4) (i := 69) (by decide +kernel))))))) rfl
set_option maxRecDepth 100000 in
theorem zl_389 : Cond.methodLink "RiverDiggers" 278 yX8_imageOf ∈ zi_G := zi_inG (List.mem_append_right _ (List.mem_append_right _ (List.mem_append_right _ (List.mem_append_right _ (List.mem_append_left _ (List.mem_of_getElem? (l := tables_1_4) (i := 63) (by decide +kernel))))))) rfl
set_option maxRecDepth 100000 in
theorem zl_390 : Cond.instanceMethod yX8_imageOf ∈ zi_G := zi_inG (List.mem_append_right _ (List.mem_append_right _ (List.mem_append_right _ (List.mem_append_right _ (List.mem_append_left _ (List.mem_of_getElem? (l := tables_1_4) (i := 65) (by decide +kernel))))))) rfl
set_option maxRecDepth 100000 in
theorem zl_391 : Cond.selects "RiverDiggers" yX8_imageOf yX8_imageOf ∈ zi_G := zi_inG (List.mem_append_left _ (List.mem_of_getElem? (i := 22) (by decide +kernel))) rfl
set_option maxRecDepth 100000 in
theorem zl_392 : Cond.methodLink "RiverDiggers" 285 yX5_hasSheet ∈ zi_G := zi_inG (List.mem_append_right _ (List.mem_append_right _ (List.mem_append_right _ (List.mem_append_right _ (List.mem_append_left _ (List.mem_of_getElem? (l := tables_1_4) (i := 81) (by decide +kernel))))))) rfl
set_option maxRecDepth 100000 in
theorem zl_393 : Cond.instanceMethod yX5_hasSheet ∈ zi_G := zi_inG (List.mem_append_right _ (List.mem_append_right _ (List.mem_append_right _ (List.mem_append_right _ (List.mem_append_left _ (List.mem_of_getElem? (l := tables_1_4) (i := 82) (by decide +kernel))))))) rfl
set_option maxRecDepth 100000 in
theorem zl_394 : Cond.selects "RiverDiggers$Sheets" yX5_hasSheet yX5_hasSheet ∈ zi_G := zi_inG (List.mem_append_right _ (List.mem_append_right _ (List.mem_append_right _ (List.mem_append_right _ (List.mem_append_left _ (List.mem_of_getElem? (l := tables_1_4) (i := 83) (by decide +kernel))))))) rfl
set_option maxRecDepth 100000 in
theorem zl_395 : Cond.methodLink "RiverDiggers" 288 yX5_hasLane ∈ zi_G := zi_inG (List.mem_append_right _ (List.mem_append_right _ (List.mem_append_right _ (List.mem_append_right _ (List.mem_append_left _ (List.mem_of_getElem? (l := tables_1_4) (i := 85) (by decide +kernel))))))) rfl
set_option maxRecDepth 100000 in
theorem zl_396 : Cond.instanceMethod yX5_hasLane ∈ zi_G := zi_inG (List.mem_append_right _ (List.mem_append_right _ (List.mem_append_right _ (List.mem_append_right _ (List.mem_append_left _ (List.mem_of_getElem? (l := tables_1_4) (i := 86) (by decide +kernel))))))) rfl
set_option maxRecDepth 100000 in
theorem zl_397 : Cond.selects "RiverDiggers$Sheets" yX5_hasLane yX5_hasLane ∈ zi_G := zi_inG (List.mem_append_right _ (List.mem_append_right _ (List.mem_append_right _ (List.mem_append_right _ (List.mem_append_left _ (List.mem_of_getElem? (l := tables_1_4) (i := 87) (by decide +kernel))))))) rfl
set_option maxRecDepth 100000 in
theorem zl_398 : Cond.methodLink "RiverDiggers" 291 yX5_renew ∈ zi_G := zi_inG (List.mem_append_right _ (List.mem_append_right _ (List.mem_append_right _ (List.mem_append_right _ (List.mem_append_left _ (List.mem_of_getElem? (l := tables_1_4) (i := 89) (by decide +kernel))))))) rfl
set_option maxRecDepth 100000 in
theorem zl_399 : Cond.instanceMethod yX5_renew ∈ zi_G := zi_inG (List.mem_append_right _ (List.mem_append_right _ (List.mem_append_right _ (List.mem_append_right _ (List.mem_append_left _ (List.mem_of_getElem? (l := tables_1_4) (i := 90) (by decide +kernel))))))) rfl
set_option maxRecDepth 100000 in
theorem zl_400 : Cond.selects "RiverDiggers$Sheets" yX5_renew yX5_renew ∈ zi_G := zi_inG (List.mem_append_right _ (List.mem_append_right _ (List.mem_append_right _ (List.mem_append_right _ (List.mem_append_left _ (List.mem_of_getElem? (l := tables_1_4) (i := 91) (by decide +kernel))))))) rfl
set_option maxRecDepth 100000 in
theorem zl_401 : Cond.methodLink "RiverDiggers" 295 yX5_reachFault ∈ zi_G := zi_inG (List.mem_append_right _ (List.mem_append_right _ (List.mem_append_right _ (List.mem_append_right _ (List.mem_append_left _ (List.mem_of_getElem? (l := tables_1_4) (i := 97) (by decide +kernel))))))) rfl
set_option maxRecDepth 100000 in
theorem zl_402 : Cond.methodLink "RiverDiggers" 298 yX5_put ∈ zi_G := zi_inG (List.mem_append_right _ (List.mem_append_right _ (List.mem_append_right _ (List.mem_append_right _ (List.mem_append_left _ (List.mem_of_getElem? (l := tables_1_4) (i := 101) (by decide +kernel))))))) rfl
set_option maxRecDepth 100000 in
theorem zl_403 : Cond.instanceMethod yX5_put ∈ zi_G := zi_inG (List.mem_append_right _ (List.mem_append_right _ (List.mem_append_right _ (List.mem_append_right _ (List.mem_append_left _ (List.mem_of_getElem? (l := tables_1_4) (i := 102) (by decide +kernel))))))) rfl
set_option maxRecDepth 100000 in
theorem zl_404 : Cond.selects "RiverDiggers$Sheets" yX5_put yX5_put ∈ zi_G := zi_inG (List.mem_append_right _ (List.mem_append_right _ (List.mem_append_right _ (List.mem_append_right _ (List.mem_append_left _ (List.mem_of_getElem? (l := tables_1_4) (i := 103) (by decide +kernel))))))) rfl
set_option maxRecDepth 100000 in
theorem zl_405 : Cond.methodLink "RiverDiggers" 301 yX5_takeFault ∈ zi_G := zi_inG (List.mem_append_right _ (List.mem_append_right _ (List.mem_append_right _ (List.mem_append_right _ (List.mem_append_left _ (List.mem_of_getElem? (l := tables_1_4) (i := 109) (by decide +kernel))))))) rfl
set_option maxRecDepth 100000 in
theorem zl_406 : Cond.instanceMethod yX5_takeFault ∈ zi_G := zi_inG (List.mem_append_right _ (List.mem_append_right _ (List.mem_append_right _ (List.mem_append_right _ (List.mem_append_left _ (List.mem_of_getElem? (l := tables_1_4) (i := 110) (by decide +kernel))))))) rfl
set_option maxRecDepth 100000 in
theorem zl_407 : Cond.selects "RiverDiggers$Sheets" yX5_takeFault yX5_takeFault ∈ zi_G := zi_inG (List.mem_append_right _ (List.mem_append_right _ (List.mem_append_right _ (List.mem_append_right _ (List.mem_append_left _ (List.mem_of_getElem? (l := tables_1_4) (i := 111) (by decide +kernel))))))) rfl
set_option maxRecDepth 100000 in
theorem zl_408 : Cond.methodLink "RiverDiggers" 305 yX5_valueAt ∈ zi_G := zi_inG (List.mem_append_right _ (List.mem_append_right _ (List.mem_append_right _ (List.mem_append_right _ (List.mem_append_left _ (List.mem_of_getElem? (l := tables_1_4) (i := 114) (by decide +kernel))))))) rfl
set_option maxRecDepth 100000 in
theorem zl_409 : Cond.instanceMethod yX5_valueAt ∈ zi_G := zi_inG (List.mem_append_right _ (List.mem_append_right _ (List.mem_append_right _ (List.mem_append_right _ (List.mem_append_left _ (List.mem_of_getElem? (l := tables_1_4) (i := 115) (by decide +kernel))))))) rfl
set_option maxRecDepth 100000 in
theorem zl_410 : Cond.selects "RiverDiggers$Sheets" yX5_valueAt yX5_valueAt ∈ zi_G := zi_inG (List.mem_append_right _ (List.mem_append_right _ (List.mem_append_right _ (List.mem_append_right _ (List.mem_append_left _ (List.mem_of_getElem? (l := tables_1_4) (i := 116) (by decide +kernel))))))) rfl
set_option maxRecDepth 100000 in
theorem zl_411 : Cond.fieldLink "RiverDiggers" 308 "RiverDiggers" "readFault" "I" ∈ zi_G := zi_inG (List.mem_append_right _ (List.mem_append_right _ (List.mem_append_left _ (List.mem_of_getElem? (l := tables_1_2) (i := 97) (by decide +kernel))))) rfl
set_option maxRecDepth 100000 in
theorem zl_412 : Cond.fieldLink "RiverDiggers" 311 "RiverDiggers$Sheets" "sizes" "[I" ∈ zi_G := zi_inG (List.mem_append_right _ (List.mem_append_right _ (List.mem_append_left _ (List.mem_of_getElem? (l := tables_1_2) (i := 44) (by decide +kernel))))) rfl
set_option maxRecDepth 100000 in
theorem zl_413 : Cond.methodLink "RiverDiggers" 314 yX2_allParts ∈ zi_G := zi_inG (List.mem_append_right _ (List.mem_append_right _ (List.mem_append_right _ (List.mem_append_right _ (List.mem_append_left _ (List.mem_of_getElem? (l := tables_1_4) (i := 126) (by decide +kernel))))))) rfl
set_option maxRecDepth 100000 in
theorem zl_414 : Cond.instanceMethod yX2_allParts ∈ zi_G := zi_inG (List.mem_append_right _ (List.mem_append_right _ (List.mem_append_right _ (List.mem_append_right _ (List.mem_append_left _ (List.mem_of_getElem? (l := tables_1_4) (i := 127) (by decide +kernel))))))) rfl
set_option maxRecDepth 100000 in
theorem zl_415 : Cond.selects "RiverDiggers$Flow" yX2_allParts yX2_allParts ∈ zi_G := zi_inG (List.mem_append_right _ (List.mem_append_right _ (List.mem_append_right _ (List.mem_append_right _ (List.mem_append_left _ (List.mem_of_getElem? (l := tables_1_4) (i := 128) (by decide +kernel))))))) rfl
set_option maxRecDepth 100000 in
theorem zl_416 : Cond.methodLink "RiverDiggers" 318 yX2_possibleYears ∈ zi_G := zi_inG (List.mem_append_right _ (List.mem_append_right _ (List.mem_append_right _ (List.mem_append_right _ (List.mem_append_left _ (List.mem_of_getElem? (l := tables_1_4) (i := 130) (by decide +kernel))))))) rfl
set_option maxRecDepth 100000 in
theorem zl_417 : Cond.instanceMethod yX2_possibleYears ∈ zi_G := zi_inG (List.mem_append_right _ (List.mem_append_right _ (List.mem_append_right _ (List.mem_append_right _ (List.mem_append_left _ (List.mem_of_getElem? (l := tables_1_4) (i := 131) (by decide +kernel))))))) rfl
set_option maxRecDepth 100000 in
theorem zl_418 : Cond.selects "RiverDiggers$Flow" yX2_possibleYears yX2_possibleYears ∈ zi_G := zi_inG (List.mem_append_right _ (List.mem_append_right _ (List.mem_append_right _ (List.mem_append_right _ (List.mem_append_left _ (List.mem_of_getElem? (l := tables_1_4) (i := 132) (by decide +kernel))))))) rfl
set_option maxRecDepth 100000 in
theorem zl_419 : Cond.fieldLink "RiverDiggersModel" 74 "RiverDiggersModel" "readHigh" "[I" ∈ zi_G := zi_inG (List.mem_append_right _ (List.mem_append_right _ (List.mem_append_right _ (List.mem_append_right _ (List.mem_append_left _ (List.mem_of_getElem? (l := tables_1_4) (i := 195) (by decide +kernel))))))) rfl
set_option maxRecDepth 100000 in
theorem zl_420 : Cond.fieldLink "RiverDiggersModel" 71 "RiverDiggersModel" "cells" "[I" ∈ zi_G := zi_inG (List.mem_append_right _ (List.mem_append_right _ (List.mem_append_right _ (List.mem_append_right _ (List.mem_append_left _ (List.mem_of_getElem? (l := tables_1_4) (i := 193) (by decide +kernel))))))) rfl
set_option maxRecDepth 100000 in
theorem zl_421 : Cond.fieldLink "RiverDiggersModel" 68 "RiverDiggersModel" "sizes" "[I" ∈ zi_G := zi_inG (List.mem_append_right _ (List.mem_append_right _ (List.mem_append_right _ (List.mem_append_right _ (List.mem_append_left _ (List.mem_of_getElem? (l := tables_1_4) (i := 192) (by decide +kernel))))))) rfl
set_option maxRecDepth 100000 in
theorem zl_422 : Cond.fieldLink "RiverDiggersModel" 65 "RiverDiggersModel" "lanes" "[I" ∈ zi_G := zi_inG (List.mem_append_right _ (List.mem_append_right _ (List.mem_append_right _ (List.mem_append_right _ (List.mem_append_left _ (List.mem_of_getElem? (l := tables_1_4) (i := 191) (by decide +kernel))))))) rfl
set_option maxRecDepth 100000 in
theorem zl_423 : Cond.fieldLink "RiverDiggersModel" 62 "RiverDiggersModel" "rows" "[I" ∈ zi_G := zi_inG (List.mem_append_right _ (List.mem_append_right _ (List.mem_append_right _ (List.mem_append_right _ (List.mem_append_left _ (List.mem_of_getElem? (l := tables_1_4) (i := 190) (by decide +kernel))))))) rfl
set_option maxRecDepth 100000 in
theorem zl_424 : Cond.fieldLink "RiverDiggersModel" 59 "RiverDiggersModel" "ownMany" "[I" ∈ zi_G := zi_inG (List.mem_append_right _ (List.mem_append_right _ (List.mem_append_right _ (List.mem_append_right _ (List.mem_append_left _ (List.mem_of_getElem? (l := tables_1_4) (i := 189) (by decide +kernel))))))) rfl
set_option maxRecDepth 100000 in
theorem zl_425 : Cond.fieldLink "RiverDiggersModel" 56 "RiverDiggersModel" "ownOptions" "[I" ∈ zi_G := zi_inG (List.mem_append_right _ (List.mem_append_right _ (List.mem_append_right _ (List.mem_append_right _ (List.mem_append_left _ (List.mem_of_getElem? (l := tables_1_4) (i := 188) (by decide +kernel))))))) rfl
set_option maxRecDepth 100000 in
theorem zl_426 : Cond.fieldLink "RiverDiggersModel" 53 "RiverDiggersModel" "picks" "[I" ∈ zi_G := zi_inG (List.mem_append_right _ (List.mem_append_right _ (List.mem_append_right _ (List.mem_append_right _ (List.mem_append_left _ (List.mem_of_getElem? (l := tables_1_4) (i := 187) (by decide +kernel))))))) rfl
set_option maxRecDepth 100000 in
theorem zl_427 : Cond.fieldLink "RiverDiggersModel" 50 "RiverDiggersModel" "highs" "[I" ∈ zi_G := zi_inG (List.mem_append_right _ (List.mem_append_right _ (List.mem_append_right _ (List.mem_append_right _ (List.mem_append_left _ (List.mem_of_getElem? (l := tables_1_4) (i := 186) (by decide +kernel))))))) rfl
set_option maxRecDepth 100000 in
theorem zl_428 : Cond.fieldLink "RiverDiggersModel" 47 "RiverDiggersModel" "optionMany" "[I" ∈ zi_G := zi_inG (List.mem_append_right _ (List.mem_append_right _ (List.mem_append_right _ (List.mem_append_right _ (List.mem_append_left _ (List.mem_of_getElem? (l := tables_1_4) (i := 185) (by decide +kernel))))))) rfl
set_option maxRecDepth 100000 in
theorem zl_429 : Cond.fieldLink "RiverDiggersModel" 44 "RiverDiggersModel" "options" "[I" ∈ zi_G := zi_inG (List.mem_append_right _ (List.mem_append_right _ (List.mem_append_right _ (List.mem_append_right _ (List.mem_append_left _ (List.mem_of_getElem? (l := tables_1_4) (i := 184) (by decide +kernel))))))) rfl
set_option maxRecDepth 100000 in
theorem zl_430 : Cond.fieldLink "RiverDiggersModel" 41 "RiverDiggersModel" "firstHigh" "[I" ∈ zi_G := zi_inG (List.mem_append_right _ (List.mem_append_right _ (List.mem_append_right _ (List.mem_append_right _ (List.mem_append_left _ (List.mem_of_getElem? (l := tables_1_4) (i := 183) (by decide +kernel))))))) rfl
set_option maxRecDepth 100000 in
theorem zl_431 : Cond.fieldLink "RiverDiggersModel" 38 "RiverDiggersModel" "wasHigh" "[I" ∈ zi_G := zi_inG (List.mem_append_right _ (List.mem_append_right _ (List.mem_append_right _ (List.mem_append_right _ (List.mem_append_left _ (List.mem_of_getElem? (l := tables_1_4) (i := 182) (by decide +kernel))))))) rfl
set_option maxRecDepth 100000 in
theorem zl_432 : Cond.fieldLink "RiverDiggersModel" 35 "RiverDiggersModel" "bed" "[I" ∈ zi_G := zi_inG (List.mem_append_right _ (List.mem_append_right _ (List.mem_append_right _ (List.mem_append_right _ (List.mem_append_left _ (List.mem_of_getElem? (l := tables_1_4) (i := 179) (by decide +kernel))))))) rfl
set_option maxRecDepth 100000 in
theorem zl_433 : Cond.fieldLink "RiverDiggersModel" 32 "RiverDiggersModel" "tape" "[I" ∈ zi_G := zi_inG (List.mem_append_right _ (List.mem_append_right _ (List.mem_append_right _ (List.mem_append_right _ (List.mem_append_left _ (List.mem_of_getElem? (l := tables_1_4) (i := 171) (by decide +kernel))))))) rfl
set_option maxRecDepth 100000 in
theorem zl_434 : Cond.fieldLink "RiverDiggersModel" 29 "RiverDiggersModel" "dGrounds" "[I" ∈ zi_G := zi_inG (List.mem_append_right _ (List.mem_append_right _ (List.mem_append_right _ (List.mem_append_right _ (List.mem_append_left _ (List.mem_of_getElem? (l := tables_1_4) (i := 164) (by decide +kernel))))))) rfl
set_option maxRecDepth 100000 in
theorem zl_435 : Cond.fieldLink "RiverDiggersModel" 26 "RiverDiggersModel" "dOwner" "[I" ∈ zi_G := zi_inG (List.mem_append_right _ (List.mem_append_right _ (List.mem_append_right _ (List.mem_append_right _ (List.mem_append_left _ (List.mem_of_getElem? (l := tables_1_4) (i := 163) (by decide +kernel))))))) rfl
set_option maxRecDepth 100000 in
theorem zl_436 : Cond.fieldLink "RiverDiggersModel" 23 "RiverDiggersModel" "dWorth" "[I" ∈ zi_G := zi_inG (List.mem_append_right _ (List.mem_append_right _ (List.mem_append_right _ (List.mem_append_right _ (List.mem_append_left _ (List.mem_of_getElem? (l := tables_1_4) (i := 162) (by decide +kernel))))))) rfl
set_option maxRecDepth 100000 in
theorem zl_437 : Cond.fieldLink "RiverDiggersModel" 20 "RiverDiggersModel" "dYards" "[I" ∈ zi_G := zi_inG (List.mem_append_right _ (List.mem_append_right _ (List.mem_append_right _ (List.mem_append_right _ (List.mem_append_left _ (List.mem_of_getElem? (l := tables_1_4) (i := 161) (by decide +kernel))))))) rfl
set_option maxRecDepth 100000 in
theorem zl_438 : Cond.fieldLink "RiverDiggersModel" 17 "RiverDiggersModel" "owner" "[I" ∈ zi_G := zi_inG (List.mem_append_right _ (List.mem_append_right _ (List.mem_append_right _ (List.mem_append_right _ (List.mem_append_left _ (List.mem_of_getElem? (l := tables_1_4) (i := 154) (by decide +kernel))))))) rfl
set_option maxRecDepth 100000 in
theorem zl_439 : Cond.fieldLink "RiverDiggersModel" 13 "RiverDiggersModel" "isKept" "[Z" ∈ zi_G := zi_inG (List.mem_append_right _ (List.mem_append_right _ (List.mem_append_right _ (List.mem_append_right _ (List.mem_append_left _ (List.mem_of_getElem? (l := tables_1_4) (i := 150) (by decide +kernel))))))) rfl
set_option maxRecDepth 100000 in
theorem zl_440 : Cond.arrayClass .boolean ∈ zi_G := zi_inG (List.mem_append_right _ (List.mem_append_right _ (List.mem_append_right _ (List.mem_append_right _ (List.mem_append_right _ (List.mem_append_left _ (List.mem_of_getElem? (l := tables_1_5) (i := 51) (by decide +kernel)))))))) rfl
set_option maxRecDepth 100000 in
theorem zl_441 : Cond.fieldLink "RiverDiggersModel" 7 "RiverDiggersModel" "st" "[I" ∈ zi_G := zi_inG (List.mem_append_right _ (List.mem_append_right _ (List.mem_append_right _ (List.mem_append_right _ (List.mem_append_left _ (List.mem_of_getElem? (l := tables_1_4) (i := 149) (by decide +kernel))))))) rfl
set_option maxRecDepth 100000 in
theorem zl_442 : Cond.methodLink "RiverDiggersModel" 1 Lib.objectInit ∈ zi_G := zi_inG (List.mem_append_right _ (List.mem_append_right _ (List.mem_append_right _ (List.mem_append_right _ (List.mem_append_left _ (List.mem_of_getElem? (l := tables_1_4) (i := 140) (by decide +kernel))))))) rfl
set_option maxRecDepth 100000 in
theorem zl_443 : Cond.methodLink "RiverDiggersModel" 80 yX9_keepDraft ∈ zi_G := zi_inG (List.mem_append_right _ (List.mem_append_right _ (List.mem_append_right _ (List.mem_append_right _ (List.mem_append_left _ (List.mem_of_getElem? (l := tables_1_4) (i := 145) (by decide +kernel))))))) rfl
set_option maxRecDepth 100000 in
theorem zl_444 : Cond.instanceMethod yX9_keepDraft ∈ zi_G := zi_inG (List.mem_append_right _ (List.mem_append_right _ (List.mem_append_right _ (List.mem_append_right _ (List.mem_append_left _ (List.mem_of_getElem? (l := tables_1_4) (i := 147) (by decide +kernel))))))) rfl
set_option maxRecDepth 100000 in
theorem zl_445 : Cond.selects "RiverDiggersModel" yX9_keepDraft yX9_keepDraft ∈ zi_G := zi_inG (List.mem_append_left _ (List.mem_of_getElem? (i := 24) (by decide +kernel))) rfl
set_option maxRecDepth 100000 in
theorem zl_446 : Cond.methodLink "RiverDiggersModel" 77 yX9_firstDraft ∈ zi_G := zi_inG (List.mem_append_right _ (List.mem_append_right _ (List.mem_append_right _ (List.mem_append_right _ (List.mem_append_left _ (List.mem_of_getElem? (l := tables_1_4) (i := 141) (by decide +kernel))))))) rfl
set_option maxRecDepth 100000 in
theorem zl_447 : Cond.instanceMethod yX9_firstDraft ∈ zi_G := zi_inG (List.mem_append_right _ (List.mem_append_right _ (List.mem_append_right _ (List.mem_append_right _ (List.mem_append_left _ (List.mem_of_getElem? (l := tables_1_4) (i := 143) (by decide +kernel))))))) rfl
set_option maxRecDepth 100000 in
theorem zl_448 : Cond.selects "RiverDiggersModel" yX9_firstDraft yX9_firstDraft ∈ zi_G := zi_inG (List.mem_append_left _ (List.mem_of_getElem? (i := 23) (by decide +kernel))) rfl
set_option maxRecDepth 100000 in
theorem zl_449 : Cond.fieldLink "RiverDiggersModel" 99 "RiverDiggersModel" "dSilt" "I" ∈ zi_G := zi_inG (List.mem_append_right _ (List.mem_append_right _ (List.mem_append_right _ (List.mem_append_right _ (List.mem_append_left _ (List.mem_of_getElem? (l := tables_1_4) (i := 160) (by decide +kernel))))))) rfl
set_option maxRecDepth 100000 in
theorem zl_450 : Cond.fieldLink "RiverDiggersModel" 96 "RiverDiggersModel" "dLaw" "I" ∈ zi_G := zi_inG (List.mem_append_right _ (List.mem_append_right _ (List.mem_append_right _ (List.mem_append_right _ (List.mem_append_left _ (List.mem_of_getElem? (l := tables_1_4) (i := 159) (by decide +kernel))))))) rfl
set_option maxRecDepth 100000 in
theorem zl_451 : Cond.fieldLink "RiverDiggersModel" 93 "RiverDiggersModel" "dFarms" "I" ∈ zi_G := zi_inG (List.mem_append_right _ (List.mem_append_right _ (List.mem_append_right _ (List.mem_append_right _ (List.mem_append_left _ (List.mem_of_getElem? (l := tables_1_4) (i := 158) (by decide +kernel))))))) rfl
set_option maxRecDepth 100000 in
theorem zl_452 : Cond.fieldLink "RiverDiggersModel" 90 "RiverDiggersModel" "dSpring" "I" ∈ zi_G := zi_inG (List.mem_append_right _ (List.mem_append_right _ (List.mem_append_right _ (List.mem_append_right _ (List.mem_append_left _ (List.mem_of_getElem? (l := tables_1_4) (i := 157) (by decide +kernel))))))) rfl
set_option maxRecDepth 100000 in
theorem zl_453 : Cond.fieldLink "RiverDiggersModel" 87 "RiverDiggersModel" "dHigh" "I" ∈ zi_G := zi_inG (List.mem_append_right _ (List.mem_append_right _ (List.mem_append_right _ (List.mem_append_right _ (List.mem_append_left _ (List.mem_of_getElem? (l := tables_1_4) (i := 156) (by decide +kernel))))))) rfl
set_option maxRecDepth 100000 in
theorem zl_454 : Cond.fieldLink "RiverDiggersModel" 83 "RiverDiggersModel" "dWide" "I" ∈ zi_G := zi_inG (List.mem_append_right _ (List.mem_append_right _ (List.mem_append_right _ (List.mem_append_right _ (List.mem_append_left _ (List.mem_of_getElem? (l := tables_1_4) (i := 155) (by decide +kernel))))))) rfl
set_option maxRecDepth 100000 in
theorem zl_455 : Cond.fieldLink "RiverDiggersModel" 117 "RiverDiggersModel" "highestFarm" "I" ∈ zi_G := zi_inG (List.mem_append_right _ (List.mem_append_right _ (List.mem_append_right _ (List.mem_append_right _ (List.mem_append_left _ (List.mem_of_getElem? (l := tables_1_4) (i := 170) (by decide +kernel))))))) rfl
set_option maxRecDepth 100000 in
theorem zl_456 : Cond.fieldLink "RiverDiggersModel" 114 "RiverDiggersModel" "highestCell" "I" ∈ zi_G := zi_inG (List.mem_append_right _ (List.mem_append_right _ (List.mem_append_right _ (List.mem_append_right _ (List.mem_append_left _ (List.mem_of_getElem? (l := tables_1_4) (i := 169) (by decide +kernel))))))) rfl
set_option maxRecDepth 100000 in
theorem zl_457 : Cond.fieldLink "RiverDiggersModel" 111 "RiverDiggersModel" "highestColumn" "I" ∈ zi_G := zi_inG (List.mem_append_right _ (List.mem_append_right _ (List.mem_append_right _ (List.mem_append_right _ (List.mem_append_left _ (List.mem_of_getElem? (l := tables_1_4) (i := 168) (by decide +kernel))))))) rfl
set_option maxRecDepth 100000 in
theorem zl_458 : Cond.fieldLink "RiverDiggersModel" 108 "RiverDiggersModel" "highestRow" "I" ∈ zi_G := zi_inG (List.mem_append_right _ (List.mem_append_right _ (List.mem_append_right _ (List.mem_append_right _ (List.mem_append_left _ (List.mem_of_getElem? (l := tables_1_4) (i := 167) (by decide +kernel))))))) rfl
set_option maxRecDepth 100000 in
theorem zl_459 : Cond.fieldLink "RiverDiggersModel" 105 "RiverDiggersModel" "toldRows" "I" ∈ zi_G := zi_inG (List.mem_append_right _ (List.mem_append_right _ (List.mem_append_right _ (List.mem_append_right _ (List.mem_append_left _ (List.mem_of_getElem? (l := tables_1_4) (i := 166) (by decide +kernel))))))) rfl
set_option maxRecDepth 100000 in
theorem zl_460 : Cond.fieldLink "RiverDiggersModel" 102 "RiverDiggersModel" "toldLines" "I" ∈ zi_G := zi_inG (List.mem_append_right _ (List.mem_append_right _ (List.mem_append_right _ (List.mem_append_right _ (List.mem_append_left _ (List.mem_of_getElem? (l := tables_1_4) (i := 165) (by decide +kernel))))))) rfl
set_option maxRecDepth 100000 in
theorem zl_461 : Cond.fieldLink "RiverDiggersModel" 126 "RiverDiggersModel" "farms" "I" ∈ zi_G := zi_inG (List.mem_append_right _ (List.mem_append_right _ (List.mem_append_right _ (List.mem_append_right _ (List.mem_append_left _ (List.mem_of_getElem? (l := tables_1_4) (i := 153) (by decide +kernel))))))) rfl
set_option maxRecDepth 100000 in
theorem zl_462 : Cond.fieldLink "RiverDiggersModel" 123 "RiverDiggersModel" "high" "I" ∈ zi_G := zi_inG (List.mem_append_right _ (List.mem_append_right _ (List.mem_append_right _ (List.mem_append_right _ (List.mem_append_left _ (List.mem_of_getElem? (l := tables_1_4) (i := 152) (by decide +kernel))))))) rfl
set_option maxRecDepth 100000 in
theorem zl_463 : Cond.fieldLink "RiverDiggersModel" 120 "RiverDiggersModel" "wide" "I" ∈ zi_G := zi_inG (List.mem_append_right _ (List.mem_append_right _ (List.mem_append_right _ (List.mem_append_right _ (List.mem_append_left _ (List.mem_of_getElem? (l := tables_1_4) (i := 151) (by decide +kernel))))))) rfl
set_option maxRecDepth 100000 in
theorem zl_464 : Cond.fieldLink "RiverDiggersModel" 129 "RiverDiggersModel" "taped" "I" ∈ zi_G := zi_inG (List.mem_append_right _ (List.mem_append_right _ (List.mem_append_right _ (List.mem_append_right _ (List.mem_append_left _ (List.mem_of_getElem? (l := tables_1_4) (i := 172) (by decide +kernel))))))) rfl
set_option maxRecDepth 100000 in
theorem zl_465 : Cond.constantLong "RiverDiggersModel" 132 (255) ∈ zi_G := zi_inG (List.mem_append_right _ (List.mem_append_right _ (List.mem_append_right _ (List.mem_append_right _ (List.mem_append_right _ (List.mem_append_left _ (List.mem_of_getElem? (l := tables_1_5) (i := 56) (by decide +kernel)))))))) rfl
set_option maxRecDepth 100000 in
theorem zl_466 : Cond.methodLink "RiverDiggersModel" 134 yX9_in ∈ zi_G := zi_inG (List.mem_append_right _ (List.mem_append_right _ (List.mem_append_right _ (List.mem_append_right _ (List.mem_append_right _ (List.mem_append_left _ (List.mem_of_getElem? (l := tables_1_5) (i := 61) (by decide +kernel)))))))) rfl
set_option maxRecDepth 100000 in
theorem zl_467 : Cond.static yX9_in ∈ zi_G := zi_inG (List.mem_append_right _ (List.mem_append_right _ (List.mem_append_right _ (List.mem_append_right _ (List.mem_append_right _ (List.mem_append_left _ (List.mem_of_getElem? (l := tables_1_5) (i := 62) (by decide +kernel)))))))) rfl
set_option maxRecDepth 100000 in
theorem zl_468 : Cond.fieldLink "RiverDiggersModel" 138 "RiverDiggersModel" "fault" "I" ∈ zi_G := zi_inG (List.mem_append_right _ (List.mem_append_right _ (List.mem_append_right _ (List.mem_append_right _ (List.mem_append_left _ (List.mem_of_getElem? (l := tables_1_4) (i := 177) (by decide +kernel))))))) rfl
set_option maxRecDepth 100000 in
theorem zl_469 : Cond.fieldLink "RiverDiggersModel" 144 "RiverDiggersModel" "wrongAt" "I" ∈ zi_G := zi_inG (List.mem_append_right _ (List.mem_append_right _ (List.mem_append_right _ (List.mem_append_right _ (List.mem_append_left _ (List.mem_of_getElem? (l := tables_1_4) (i := 178) (by decide +kernel))))))) rfl
set_option maxRecDepth 100000 in
theorem zl_470 : Cond.fieldLink "RiverDiggersModel" 141 "RiverDiggersModel" "from" "I" ∈ zi_G := zi_inG (List.mem_append_right _ (List.mem_append_right _ (List.mem_append_right _ (List.mem_append_right _ (List.mem_append_left _ (List.mem_of_getElem? (l := tables_1_4) (i := 174) (by decide +kernel))))))) rfl
set_option maxRecDepth 100000 in
theorem zl_471 : Cond.fieldLink "RiverDiggersModel" 147 "RiverDiggersModel" "pos" "I" ∈ zi_G := zi_inG (List.mem_append_right _ (List.mem_append_right _ (List.mem_append_right _ (List.mem_append_right _ (List.mem_append_left _ (List.mem_of_getElem? (l := tables_1_4) (i := 173) (by decide +kernel))))))) rfl
set_option maxRecDepth 100000 in
theorem zl_472 : Cond.methodLink "RiverDiggersModel" 150 yX9_look ∈ zi_G := zi_inG (List.mem_append_right _ (List.mem_append_right _ (List.mem_append_right _ (List.mem_append_right _ (List.mem_append_right _ (List.mem_append_left _ (List.mem_of_getElem? (l := tables_1_5) (i := 72) (by decide +kernel)))))))) rfl
set_option maxRecDepth 100000 in
theorem zl_473 : Cond.instanceMethod yX9_look ∈ zi_G := zi_inG (List.mem_append_right _ (List.mem_append_right _ (List.mem_append_right _ (List.mem_append_right _ (List.mem_append_right _ (List.mem_append_left _ (List.mem_of_getElem? (l := tables_1_5) (i := 74) (by decide +kernel)))))))) rfl
set_option maxRecDepth 100000 in
theorem zl_474 : Cond.selects "RiverDiggersModel" yX9_look yX9_look ∈ zi_G := zi_inG (List.mem_append_left _ (List.mem_of_getElem? (i := 26) (by decide +kernel))) rfl
set_option maxRecDepth 100000 in
theorem zl_475 : Cond.methodLink "RiverDiggersModel" 154 yX9_is ∈ zi_G := zi_inG (List.mem_append_right _ (List.mem_append_right _ (List.mem_append_right _ (List.mem_append_right _ (List.mem_append_right _ (List.mem_append_left _ (List.mem_of_getElem? (l := tables_1_5) (i := 92) (by decide +kernel)))))))) rfl
set_option maxRecDepth 100000 in
theorem zl_476 : Cond.instanceMethod yX9_is ∈ zi_G := zi_inG (List.mem_append_right _ (List.mem_append_right _ (List.mem_append_right _ (List.mem_append_right _ (List.mem_append_right _ (List.mem_append_left _ (List.mem_of_getElem? (l := tables_1_5) (i := 94) (by decide +kernel)))))))) rfl
set_option maxRecDepth 100000 in
theorem zl_477 : Cond.selects "RiverDiggersModel" yX9_is yX9_is ∈ zi_G := zi_inG (List.mem_append_left _ (List.mem_of_getElem? (i := 30) (by decide +kernel))) rfl
set_option maxRecDepth 100000 in
theorem zl_478 : Cond.methodLink "RiverDiggersModel" 158 yX9_ends ∈ zi_G := zi_inG (List.mem_append_right _ (List.mem_append_right _ (List.mem_append_right _ (List.mem_append_right _ (List.mem_append_right _ (List.mem_append_left _ (List.mem_of_getElem? (l := tables_1_5) (i := 96) (by decide +kernel)))))))) rfl
set_option maxRecDepth 100000 in
theorem zl_479 : Cond.instanceMethod yX9_ends ∈ zi_G := zi_inG (List.mem_append_right _ (List.mem_append_right _ (List.mem_append_right _ (List.mem_append_right _ (List.mem_append_right _ (List.mem_append_left _ (List.mem_of_getElem? (l := tables_1_5) (i := 98) (by decide +kernel)))))))) rfl
set_option maxRecDepth 100000 in
theorem zl_480 : Cond.selects "RiverDiggersModel" yX9_ends yX9_ends ∈ zi_G := zi_inG (List.mem_append_left _ (List.mem_of_getElem? (i := 31) (by decide +kernel))) rfl
set_option maxRecDepth 100000 in
theorem zl_481 : Cond.methodLink "RiverDiggersModel" 162 yX9_ruleLine ∈ zi_G := zi_inG (List.mem_append_right _ (List.mem_append_right _ (List.mem_append_right _ (List.mem_append_right _ (List.mem_append_right _ (List.mem_append_left _ (List.mem_of_getElem? (l := tables_1_5) (i := 100) (by decide +kernel)))))))) rfl
set_option maxRecDepth 100000 in
theorem zl_482 : Cond.instanceMethod yX9_ruleLine ∈ zi_G := zi_inG (List.mem_append_right _ (List.mem_append_right _ (List.mem_append_right _ (List.mem_append_right _ (List.mem_append_right _ (List.mem_append_left _ (List.mem_of_getElem? (l := tables_1_5) (i := 102) (by decide +kernel)))))))) rfl
set_option maxRecDepth 100000 in
theorem zl_483 : Cond.selects "RiverDiggersModel" yX9_ruleLine yX9_ruleLine ∈ zi_G := zi_inG (List.mem_append_left _ (List.mem_of_getElem? (i := 32) (by decide +kernel))) rfl
set_option maxRecDepth 100000 in
theorem zl_484 : Cond.fieldLink "RiverDiggersModel" 166 "RiverDiggersModel" "sort" "I" ∈ zi_G := zi_inG (List.mem_append_right _ (List.mem_append_right _ (List.mem_append_right _ (List.mem_append_right _ (List.mem_append_left _ (List.mem_of_getElem? (l := tables_1_4) (i := 175) (by decide +kernel))))))) rfl
set_option maxRecDepth 100000 in
theorem zl_485 : Cond.constantLong "RiverDiggersModel" 171 (122) ∈ zi_G := zi_inG (List.mem_append_right _ (List.mem_append_right _ (List.mem_append_right _ (List.mem_append_right _ (List.mem_append_right _ (List.mem_append_left _ (List.mem_of_getElem? (l := tables_1_5) (i := 77) (by decide +kernel)))))))) rfl
set_option maxRecDepth 100000 in
theorem zl_486 : Cond.constantLong "RiverDiggersModel" 169 (97) ∈ zi_G := zi_inG (List.mem_append_right _ (List.mem_append_right _ (List.mem_append_right _ (List.mem_append_right _ (List.mem_append_right _ (List.mem_append_left _ (List.mem_of_getElem? (l := tables_1_5) (i := 76) (by decide +kernel)))))))) rfl
set_option maxRecDepth 100000 in
theorem zl_487 : Cond.constantLong "RiverDiggersModel" 175 (57) ∈ zi_G := zi_inG (List.mem_append_right _ (List.mem_append_right _ (List.mem_append_right _ (List.mem_append_right _ (List.mem_append_right _ (List.mem_append_left _ (List.mem_of_getElem? (l := tables_1_5) (i := 79) (by decide +kernel)))))))) rfl
set_option maxRecDepth 100000 in
theorem zl_488 : Cond.constantLong "RiverDiggersModel" 173 (48) ∈ zi_G := zi_inG (List.mem_append_right _ (List.mem_append_right _ (List.mem_append_right _ (List.mem_append_right _ (List.mem_append_right _ (List.mem_append_left _ (List.mem_of_getElem? (l := tables_1_5) (i := 78) (by decide +kernel)))))))) rfl
set_option maxRecDepth 100000 in
theorem zl_489 : Cond.fieldLink "RiverDiggersModel" 177 "RiverDiggersModel" "value" "I" ∈ zi_G := zi_inG (List.mem_append_right _ (List.mem_append_right _ (List.mem_append_right _ (List.mem_append_right _ (List.mem_append_left _ (List.mem_of_getElem? (l := tables_1_4) (i := 176) (by decide +kernel))))))) rfl
set_option maxRecDepth 100000 in
theorem zl_490 : Cond.methodLink "RiverDiggersModel" 180 yX9_needs ∈ zi_G := zi_inG (List.mem_append_right _ (List.mem_append_right _ (List.mem_append_right _ (List.mem_append_right _ (List.mem_append_right _ (List.mem_append_left _ (List.mem_of_getElem? (l := tables_1_5) (i := 80) (by decide +kernel)))))))) rfl
set_option maxRecDepth 100000 in
theorem zl_491 : Cond.instanceMethod yX9_needs ∈ zi_G := zi_inG (List.mem_append_right _ (List.mem_append_right _ (List.mem_append_right _ (List.mem_append_right _ (List.mem_append_right _ (List.mem_append_left _ (List.mem_of_getElem? (l := tables_1_5) (i := 82) (by decide +kernel)))))))) rfl
set_option maxRecDepth 100000 in
theorem zl_492 : Cond.selects "RiverDiggersModel" yX9_needs yX9_needs ∈ zi_G := zi_inG (List.mem_append_left _ (List.mem_of_getElem? (i := 27) (by decide +kernel))) rfl
set_option maxRecDepth 100000 in
theorem zl_493 : Cond.methodLink "RiverDiggersModel" 188 yX9_next ∈ zi_G := zi_inG (List.mem_append_right _ (List.mem_append_right _ (List.mem_append_right _ (List.mem_append_right _ (List.mem_append_right _ (List.mem_append_left _ (List.mem_of_getElem? (l := tables_1_5) (i := 68) (by decide +kernel)))))))) rfl
set_option maxRecDepth 100000 in
theorem zl_494 : Cond.instanceMethod yX9_next ∈ zi_G := zi_inG (List.mem_append_right _ (List.mem_append_right _ (List.mem_append_right _ (List.mem_append_right _ (List.mem_append_right _ (List.mem_append_left _ (List.mem_of_getElem? (l := tables_1_5) (i := 70) (by decide +kernel)))))))) rfl
set_option maxRecDepth 100000 in
theorem zl_495 : Cond.selects "RiverDiggersModel" yX9_next yX9_next ∈ zi_G := zi_inG (List.mem_append_left _ (List.mem_of_getElem? (i := 25) (by decide +kernel))) rfl
set_option maxRecDepth 100000 in
theorem zl_496 : Cond.methodLink "RiverDiggersModel" 184 yX9_looked ∈ zi_G := zi_inG (List.mem_append_right _ (List.mem_append_right _ (List.mem_append_right _ (List.mem_append_right _ (List.mem_append_right _ (List.mem_append_left _ (List.mem_of_getElem? (l := tables_1_5) (i := 112) (by decide +kernel)))))))) rfl
set_option maxRecDepth 100000 in
theorem zl_497 : Cond.instanceMethod yX9_looked ∈ zi_G := zi_inG (List.mem_append_right _ (List.mem_append_right _ (List.mem_append_right _ (List.mem_append_right _ (List.mem_append_right _ (List.mem_append_left _ (List.mem_of_getElem? (l := tables_1_5) (i := 114) (by decide +kernel)))))))) rfl
set_option maxRecDepth 100000 in
theorem zl_498 : Cond.selects "RiverDiggersModel" yX9_looked yX9_looked ∈ zi_G := zi_inG (List.mem_append_left _ (List.mem_of_getElem? (i := 35) (by decide +kernel))) rfl
set_option maxRecDepth 100000 in
theorem zl_499 : Cond.methodLink "RiverDiggersModel" 191 yX9_readNumber ∈ zi_G := zi_inG (List.mem_append_right _ (List.mem_append_right _ (List.mem_append_right _ (List.mem_append_right _ (List.mem_append_right _ (List.mem_append_left _ (List.mem_of_getElem? (l := tables_1_5) (i := 108) (by decide +kernel)))))))) rfl
set_option maxRecDepth 100000 in
theorem zl_500 : Cond.instanceMethod yX9_readNumber ∈ zi_G := zi_inG (List.mem_append_right _ (List.mem_append_right _ (List.mem_append_right _ (List.mem_append_right _ (List.mem_append_right _ (List.mem_append_left _ (List.mem_of_getElem? (l := tables_1_5) (i := 110) (by decide +kernel)))))))) rfl
set_option maxRecDepth 100000 in
theorem zl_501 : Cond.selects "RiverDiggersModel" yX9_readNumber yX9_readNumber ∈ zi_G := zi_inG (List.mem_append_left _ (List.mem_of_getElem? (i := 34) (by decide +kernel))) rfl
set_option maxRecDepth 100000 in
theorem zl_502 : Cond.methodLink "RiverDiggersModel" 194 yX9_sawCell ∈ zi_G := zi_inG (List.mem_append_right _ (List.mem_append_right _ (List.mem_append_right _ (List.mem_append_right _ (List.mem_append_right _ (List.mem_append_left _ (List.mem_of_getElem? (l := tables_1_5) (i := 116) (by decide +kernel)))))))) rfl
set_option maxRecDepth 100000 in
theorem zl_503 : Cond.instanceMethod yX9_sawCell ∈ zi_G := zi_inG (List.mem_append_right _ (List.mem_append_right _ (List.mem_append_right _ (List.mem_append_right _ (List.mem_append_right _ (List.mem_append_left _ (List.mem_of_getElem? (l := tables_1_5) (i := 118) (by decide +kernel)))))))) rfl
set_option maxRecDepth 100000 in
theorem zl_504 : Cond.selects "RiverDiggersModel" yX9_sawCell yX9_sawCell ∈ zi_G := zi_inG (List.mem_append_left _ (List.mem_of_getElem? (i := 36) (by decide +kernel))) rfl
set_option maxRecDepth 100000 in
theorem zl_505 : Cond.methodLink "RiverDiggersModel" 198 yX9_readRow ∈ zi_G := zi_inG (List.mem_append_right _ (List.mem_append_right _ (List.mem_append_right _ (List.mem_append_right _ (List.mem_append_right _ (List.mem_append_left _ (List.mem_of_getElem? (l := tables_1_5) (i := 120) (by decide +kernel)))))))) rfl
set_option maxRecDepth 100000 in
theorem zl_506 : Cond.instanceMethod yX9_readRow ∈ zi_G := zi_inG (List.mem_append_right _ (List.mem_append_right _ (List.mem_append_right _ (List.mem_append_right _ (List.mem_append_right _ (List.mem_append_left _ (List.mem_of_getElem? (l := tables_1_5) (i := 122) (by decide +kernel)))))))) rfl
set_option maxRecDepth 100000 in
theorem zl_507 : Cond.selects "RiverDiggersModel" yX9_readRow yX9_readRow ∈ zi_G := zi_inG (List.mem_append_left _ (List.mem_of_getElem? (i := 37) (by decide +kernel))) rfl
set_option maxRecDepth 100000 in
theorem zl_508 : Cond.methodLink "RiverDiggersModel" 201 yX9_readGround ∈ zi_G := zi_inG (List.mem_append_right _ (List.mem_append_right _ (List.mem_append_right _ (List.mem_append_right _ (List.mem_append_right _ (List.mem_append_left _ (List.mem_of_getElem? (l := tables_1_5) (i := 124) (by decide +kernel)))))))) rfl
set_option maxRecDepth 100000 in
theorem zl_509 : Cond.instanceMethod yX9_readGround ∈ zi_G := zi_inG (List.mem_append_right _ (List.mem_append_right _ (List.mem_append_right _ (List.mem_append_right _ (List.mem_append_right _ (List.mem_append_left _ (List.mem_of_getElem? (l := tables_1_5) (i := 126) (by decide +kernel)))))))) rfl
set_option maxRecDepth 100000 in
theorem zl_510 : Cond.selects "RiverDiggersModel" yX9_readGround yX9_readGround ∈ zi_G := zi_inG (List.mem_append_left _ (List.mem_of_getElem? (i := 38) (by decide +kernel))) rfl
set_option maxRecDepth 100000 in
theorem zl_511 : Cond.methodLink "RiverDiggersModel" 204 yX9_lineNow ∈ zi_G := zi_inG (List.mem_append_right _ (List.mem_append_right _ (List.mem_append_right _ (List.mem_append_right _ (List.mem_append_right _ (List.mem_append_left _ (List.mem_of_getElem? (l := tables_1_5) (i := 88) (by decide +kernel)))))))) rfl
set_option maxRecDepth 100000 in
theorem zl_512 : Cond.instanceMethod yX9_lineNow ∈ zi_G := zi_inG (List.mem_append_right _ (List.mem_append_right _ (List.mem_append_right _ (List.mem_append_right _ (List.mem_append_right _ (List.mem_append_left _ (List.mem_of_getElem? (l := tables_1_5) (i := 90) (by decide +kernel)))))))) rfl
set_option maxRecDepth 100000 in
theorem zl_513 : Cond.selects "RiverDiggersModel" yX9_lineNow yX9_lineNow ∈ zi_G := zi_inG (List.mem_append_left _ (List.mem_of_getElem? (i := 29) (by decide +kernel))) rfl
set_option maxRecDepth 100000 in
theorem zl_514 : Cond.methodLink "RiverDiggersModel" 207 yX9_readLineOf ∈ zi_G := zi_inG (List.mem_append_right _ (List.mem_append_right _ (List.mem_append_right _ (List.mem_append_right _ (List.mem_append_right _ (List.mem_append_left _ (List.mem_of_getElem? (l := tables_1_5) (i := 104) (by decide +kernel)))))))) rfl
set_option maxRecDepth 100000 in
theorem zl_515 : Cond.instanceMethod yX9_readLineOf ∈ zi_G := zi_inG (List.mem_append_right _ (List.mem_append_right _ (List.mem_append_right _ (List.mem_append_right _ (List.mem_append_right _ (List.mem_append_left _ (List.mem_of_getElem? (l := tables_1_5) (i := 106) (by decide +kernel)))))))) rfl
set_option maxRecDepth 100000 in
theorem zl_516 : Cond.selects "RiverDiggersModel" yX9_readLineOf yX9_readLineOf ∈ zi_G := zi_inG (List.mem_append_left _ (List.mem_of_getElem? (i := 33) (by decide +kernel))) rfl
set_option maxRecDepth 100000 in
theorem zl_517 : Cond.methodLink "RiverDiggersModel" 210 yX9_readLine ∈ zi_G := zi_inG (List.mem_append_right _ (List.mem_append_right _ (List.mem_append_right _ (List.mem_append_right _ (List.mem_append_right _ (List.mem_append_left _ (List.mem_of_getElem? (l := tables_1_5) (i := 84) (by decide +kernel)))))))) rfl
set_option maxRecDepth 100000 in
theorem zl_518 : Cond.instanceMethod yX9_readLine ∈ zi_G := zi_inG (List.mem_append_right _ (List.mem_append_right _ (List.mem_append_right _ (List.mem_append_right _ (List.mem_append_right _ (List.mem_append_left _ (List.mem_of_getElem? (l := tables_1_5) (i := 86) (by decide +kernel)))))))) rfl
set_option maxRecDepth 100000 in
theorem zl_519 : Cond.selects "RiverDiggersModel" yX9_readLine yX9_readLine ∈ zi_G := zi_inG (List.mem_append_left _ (List.mem_of_getElem? (i := 28) (by decide +kernel))) rfl
set_option maxRecDepth 100000 in
theorem zl_520 : Cond.constantLong "RiverDiggersModel" 213 (17575) ∈ zi_G := zi_inG (List.mem_append_right _ (List.mem_append_right _ (List.mem_append_right _ (List.mem_append_right _ (List.mem_append_right _ (List.mem_append_left _ (List.mem_of_getElem? (l := tables_1_5) (i := 222) (by decide +kernel)))))))) rfl
set_option maxRecDepth 100000 in
theorem zl_521 : Cond.methodLink "RiverDiggersModel" 215 yX9_beside ∈ zi_G := zi_inG (List.mem_append_right _ (List.mem_append_right _ (List.mem_append_right _ (List.mem_append_right _ (List.mem_append_right _ (List.mem_append_left _ (List.mem_of_getElem? (l := tables_1_5) (i := 172) (by decide +kernel)))))))) rfl
set_option maxRecDepth 100000 in
theorem zl_522 : Cond.instanceMethod yX9_beside ∈ zi_G := zi_inG (List.mem_append_right _ (List.mem_append_right _ (List.mem_append_right _ (List.mem_append_right _ (List.mem_append_right _ (List.mem_append_left _ (List.mem_of_getElem? (l := tables_1_5) (i := 174) (by decide +kernel)))))))) rfl
set_option maxRecDepth 100000 in
theorem zl_523 : Cond.selects "RiverDiggersModel" yX9_beside yX9_beside ∈ zi_G := zi_inG (List.mem_append_left _ (List.mem_of_getElem? (i := 45) (by decide +kernel))) rfl
set_option maxRecDepth 100000 in
theorem zl_524 : Cond.fieldLink "RiverDiggersModel" 218 "RiverDiggersModel" "bedBits" "I" ∈ zi_G := zi_inG (List.mem_append_right _ (List.mem_append_right _ (List.mem_append_right _ (List.mem_append_right _ (List.mem_append_left _ (List.mem_of_getElem? (l := tables_1_4) (i := 181) (by decide +kernel))))))) rfl
set_option maxRecDepth 100000 in
theorem zl_525 : Cond.fieldLink "RiverDiggersModel" 221 "RiverDiggersModel" "bedMany" "I" ∈ zi_G := zi_inG (List.mem_append_right _ (List.mem_append_right _ (List.mem_append_right _ (List.mem_append_right _ (List.mem_append_left _ (List.mem_of_getElem? (l := tables_1_4) (i := 180) (by decide +kernel))))))) rfl
set_option maxRecDepth 100000 in
theorem zl_526 : Cond.methodLink "RiverDiggersModel" 224 yX9_lowestBeside ∈ zi_G := zi_inG (List.mem_append_right _ (List.mem_append_right _ (List.mem_append_right _ (List.mem_append_right _ (List.mem_append_right _ (List.mem_append_left _ (List.mem_of_getElem? (l := tables_1_5) (i := 168) (by decide +kernel)))))))) rfl
set_option maxRecDepth 100000 in
theorem zl_527 : Cond.instanceMethod yX9_lowestBeside ∈ zi_G := zi_inG (List.mem_append_right _ (List.mem_append_right _ (List.mem_append_right _ (List.mem_append_right _ (List.mem_append_right _ (List.mem_append_left _ (List.mem_of_getElem? (l := tables_1_5) (i := 170) (by decide +kernel)))))))) rfl
set_option maxRecDepth 100000 in
theorem zl_528 : Cond.selects "RiverDiggersModel" yX9_lowestBeside yX9_lowestBeside ∈ zi_G := zi_inG (List.mem_append_left _ (List.mem_of_getElem? (i := 44) (by decide +kernel))) rfl
set_option maxRecDepth 100000 in
theorem zl_529 : Cond.methodLink "RiverDiggersModel" 227 yX9_findBed ∈ zi_G := zi_inG (List.mem_append_right _ (List.mem_append_right _ (List.mem_append_right _ (List.mem_append_right _ (List.mem_append_right _ (List.mem_append_left _ (List.mem_of_getElem? (l := tables_1_5) (i := 164) (by decide +kernel)))))))) rfl
set_option maxRecDepth 100000 in
theorem zl_530 : Cond.instanceMethod yX9_findBed ∈ zi_G := zi_inG (List.mem_append_right _ (List.mem_append_right _ (List.mem_append_right _ (List.mem_append_right _ (List.mem_append_right _ (List.mem_append_left _ (List.mem_of_getElem? (l := tables_1_5) (i := 166) (by decide +kernel)))))))) rfl
set_option maxRecDepth 100000 in
theorem zl_531 : Cond.selects "RiverDiggersModel" yX9_findBed yX9_findBed ∈ zi_G := zi_inG (List.mem_append_left _ (List.mem_of_getElem? (i := 43) (by decide +kernel))) rfl
set_option maxRecDepth 100000 in
theorem zl_532 : Cond.methodLink "RiverDiggersModel" 230 yX9_bedNow ∈ zi_G := zi_inG (List.mem_append_right _ (List.mem_append_right _ (List.mem_append_right _ (List.mem_append_right _ (List.mem_append_right _ (List.mem_append_left _ (List.mem_of_getElem? (l := tables_1_5) (i := 160) (by decide +kernel)))))))) rfl
set_option maxRecDepth 100000 in
theorem zl_533 : Cond.instanceMethod yX9_bedNow ∈ zi_G := zi_inG (List.mem_append_right _ (List.mem_append_right _ (List.mem_append_right _ (List.mem_append_right _ (List.mem_append_right _ (List.mem_append_left _ (List.mem_of_getElem? (l := tables_1_5) (i := 162) (by decide +kernel)))))))) rfl
set_option maxRecDepth 100000 in
theorem zl_534 : Cond.selects "RiverDiggersModel" yX9_bedNow yX9_bedNow ∈ zi_G := zi_inG (List.mem_append_left _ (List.mem_of_getElem? (i := 42) (by decide +kernel))) rfl
set_option maxRecDepth 100000 in
theorem zl_535 : Cond.methodLink "RiverDiggersModel" 233 yX9_isBeside ∈ zi_G := zi_inG (List.mem_append_right _ (List.mem_append_right _ (List.mem_append_right _ (List.mem_append_right _ (List.mem_append_right _ (List.mem_append_left _ (List.mem_of_getElem? (l := tables_1_5) (i := 180) (by decide +kernel)))))))) rfl
set_option maxRecDepth 100000 in
theorem zl_536 : Cond.instanceMethod yX9_isBeside ∈ zi_G := zi_inG (List.mem_append_right _ (List.mem_append_right _ (List.mem_append_right _ (List.mem_append_right _ (List.mem_append_right _ (List.mem_append_left _ (List.mem_of_getElem? (l := tables_1_5) (i := 182) (by decide +kernel)))))))) rfl
set_option maxRecDepth 100000 in
theorem zl_537 : Cond.selects "RiverDiggersModel" yX9_isBeside yX9_isBeside ∈ zi_G := zi_inG (List.mem_append_left _ (List.mem_of_getElem? (i := 47) (by decide +kernel))) rfl
set_option maxRecDepth 100000 in
theorem zl_538 : Cond.methodLink "RiverDiggersModel" 237 yX9_flag ∈ zi_G := zi_inG (List.mem_append_right _ (List.mem_append_right _ (List.mem_append_right _ (List.mem_append_right _ (List.mem_append_right _ (List.mem_append_left _ (List.mem_of_getElem? (l := tables_1_5) (i := 153) (by decide +kernel)))))))) rfl
set_option maxRecDepth 100000 in
theorem zl_539 : Cond.static yX9_flag ∈ zi_G := zi_inG (List.mem_append_right _ (List.mem_append_right _ (List.mem_append_right _ (List.mem_append_right _ (List.mem_append_right _ (List.mem_append_left _ (List.mem_of_getElem? (l := tables_1_5) (i := 154) (by decide +kernel)))))))) rfl
set_option maxRecDepth 100000 in
theorem zl_540 : Cond.methodLink "RiverDiggersModel" 241 yX9_isCell ∈ zi_G := zi_inG (List.mem_append_right _ (List.mem_append_right _ (List.mem_append_right _ (List.mem_append_right _ (List.mem_append_right _ (List.mem_append_left _ (List.mem_of_getElem? (l := tables_1_5) (i := 140) (by decide +kernel)))))))) rfl
set_option maxRecDepth 100000 in
theorem zl_541 : Cond.instanceMethod yX9_isCell ∈ zi_G := zi_inG (List.mem_append_right _ (List.mem_append_right _ (List.mem_append_right _ (List.mem_append_right _ (List.mem_append_right _ (List.mem_append_left _ (List.mem_of_getElem? (l := tables_1_5) (i := 142) (by decide +kernel)))))))) rfl
set_option maxRecDepth 100000 in
theorem zl_542 : Cond.selects "RiverDiggersModel" yX9_isCell yX9_isCell ∈ zi_G := zi_inG (List.mem_append_left _ (List.mem_of_getElem? (i := 39) (by decide +kernel))) rfl
set_option maxRecDepth 100000 in
theorem zl_543 : Cond.methodLink "RiverDiggersModel" 245 yX9_isFarm ∈ zi_G := zi_inG (List.mem_append_right _ (List.mem_append_right _ (List.mem_append_right _ (List.mem_append_right _ (List.mem_append_right _ (List.mem_append_left _ (List.mem_of_getElem? (l := tables_1_5) (i := 148) (by decide +kernel)))))))) rfl
set_option maxRecDepth 100000 in
theorem zl_544 : Cond.instanceMethod yX9_isFarm ∈ zi_G := zi_inG (List.mem_append_right _ (List.mem_append_right _ (List.mem_append_right _ (List.mem_append_right _ (List.mem_append_right _ (List.mem_append_left _ (List.mem_of_getElem? (l := tables_1_5) (i := 150) (by decide +kernel)))))))) rfl
set_option maxRecDepth 100000 in
theorem zl_545 : Cond.selects "RiverDiggersModel" yX9_isFarm yX9_isFarm ∈ zi_G := zi_inG (List.mem_append_left _ (List.mem_of_getElem? (i := 40) (by decide +kernel))) rfl
set_option maxRecDepth 100000 in
theorem zl_546 : Cond.constantLong "RiverDiggersModel" 248 (3) ∈ zi_G := zi_inG (List.mem_append_right _ (List.mem_append_right _ (List.mem_append_right _ (List.mem_append_right _ (List.mem_append_right _ (List.mem_append_left _ (List.mem_of_getElem? (l := tables_1_5) (i := 152) (by decide +kernel)))))))) rfl
set_option maxRecDepth 100000 in
theorem zl_547 : Cond.methodLink "RiverDiggersModel" 250 yX9_hasNow ∈ zi_G := zi_inG (List.mem_append_right _ (List.mem_append_right _ (List.mem_append_right _ (List.mem_append_right _ (List.mem_append_right _ (List.mem_append_left _ (List.mem_of_getElem? (l := tables_1_5) (i := 156) (by decide +kernel)))))))) rfl
set_option maxRecDepth 100000 in
theorem zl_548 : Cond.instanceMethod yX9_hasNow ∈ zi_G := zi_inG (List.mem_append_right _ (List.mem_append_right _ (List.mem_append_right _ (List.mem_append_right _ (List.mem_append_right _ (List.mem_append_left _ (List.mem_of_getElem? (l := tables_1_5) (i := 158) (by decide +kernel)))))))) rfl
set_option maxRecDepth 100000 in
theorem zl_549 : Cond.selects "RiverDiggersModel" yX9_hasNow yX9_hasNow ∈ zi_G := zi_inG (List.mem_append_left _ (List.mem_of_getElem? (i := 41) (by decide +kernel))) rfl
set_option maxRecDepth 100000 in
theorem zl_550 : Cond.methodLink "RiverDiggersModel" 253 yX9_mayCut ∈ zi_G := zi_inG (List.mem_append_right _ (List.mem_append_right _ (List.mem_append_right _ (List.mem_append_right _ (List.mem_append_right _ (List.mem_append_left _ (List.mem_of_getElem? (l := tables_1_5) (i := 176) (by decide +kernel)))))))) rfl
set_option maxRecDepth 100000 in
theorem zl_551 : Cond.instanceMethod yX9_mayCut ∈ zi_G := zi_inG (List.mem_append_right _ (List.mem_append_right _ (List.mem_append_right _ (List.mem_append_right _ (List.mem_append_right _ (List.mem_append_left _ (List.mem_of_getElem? (l := tables_1_5) (i := 178) (by decide +kernel)))))))) rfl
set_option maxRecDepth 100000 in
theorem zl_552 : Cond.selects "RiverDiggersModel" yX9_mayCut yX9_mayCut ∈ zi_G := zi_inG (List.mem_append_left _ (List.mem_of_getElem? (i := 46) (by decide +kernel))) rfl
set_option maxRecDepth 100000 in
theorem zl_553 : Cond.constantLong "RiverDiggersModel" 256 (99) ∈ zi_G := zi_inG (List.mem_append_right _ (List.mem_append_right _ (List.mem_append_right _ (List.mem_append_right _ (List.mem_append_right _ (List.mem_append_left _ (List.mem_of_getElem? (l := tables_1_5) (i := 192) (by decide +kernel)))))))) rfl
set_option maxRecDepth 100000 in
theorem zl_554 : Cond.methodLink "RiverDiggersModel" 258 yX9_becomes ∈ zi_G := zi_inG (List.mem_append_right _ (List.mem_append_right _ (List.mem_append_right _ (List.mem_append_right _ (List.mem_append_right _ (List.mem_append_left _ (List.mem_of_getElem? (l := tables_1_5) (i := 193) (by decide +kernel)))))))) rfl
set_option maxRecDepth 100000 in
theorem zl_555 : Cond.instanceMethod yX9_becomes ∈ zi_G := zi_inG (List.mem_append_right _ (List.mem_append_right _ (List.mem_append_right _ (List.mem_append_right _ (List.mem_append_right _ (List.mem_append_left _ (List.mem_of_getElem? (l := tables_1_5) (i := 195) (by decide +kernel)))))))) rfl
set_option maxRecDepth 100000 in
theorem zl_556 : Cond.selects "RiverDiggersModel" yX9_becomes yX9_becomes ∈ zi_G := zi_inG (List.mem_append_left _ (List.mem_of_getElem? (i := 48) (by decide +kernel))) rfl
set_option maxRecDepth 100000 in
theorem zl_557 : Cond.constantLong "RiverDiggersModel" 261 (2) ∈ zi_G := zi_inG (List.mem_append_right _ (List.mem_append_right _ (List.mem_append_right _ (List.mem_append_right _ (List.mem_append_right _ (List.mem_append_left _ (List.mem_of_getElem? (l := tables_1_5) (i := 205) (by decide +kernel)))))))) rfl
set_option maxRecDepth 100000 in
theorem zl_558 : Cond.constantLong "RiverDiggersModel" 263 (9) ∈ zi_G := zi_inG (List.mem_append_right _ (List.mem_append_right _ (List.mem_append_right _ (List.mem_append_right _ (List.mem_append_right _ (List.mem_append_left _ (List.mem_of_getElem? (l := tables_1_5) (i := 214) (by decide +kernel)))))))) rfl
set_option maxRecDepth 100000 in
theorem zl_559 : Cond.methodLink "RiverDiggersModel" 265 yX9_cutOf ∈ zi_G := zi_inG (List.mem_append_right _ (List.mem_append_right _ (List.mem_append_right _ (List.mem_append_right _ (List.mem_append_right _ (List.mem_append_left _ (List.mem_of_getElem? (l := tables_1_5) (i := 231) (by decide +kernel)))))))) rfl
set_option maxRecDepth 100000 in
theorem zl_560 : Cond.static yX9_cutOf ∈ zi_G := zi_inG (List.mem_append_right _ (List.mem_append_right _ (List.mem_append_right _ (List.mem_append_right _ (List.mem_append_right _ (List.mem_append_left _ (List.mem_of_getElem? (l := tables_1_5) (i := 232) (by decide +kernel)))))))) rfl
set_option maxRecDepth 100000 in
theorem zl_561 : Cond.methodLink "RiverDiggersModel" 268 yX9_firstWrong ∈ zi_G := zi_inG (List.mem_append_right _ (List.mem_append_right _ (List.mem_append_right _ (List.mem_append_right _ (List.mem_append_right _ (List.mem_append_left _ (List.mem_of_getElem? (l := tables_1_5) (i := 227) (by decide +kernel)))))))) rfl
set_option maxRecDepth 100000 in
theorem zl_562 : Cond.instanceMethod yX9_firstWrong ∈ zi_G := zi_inG (List.mem_append_right _ (List.mem_append_right _ (List.mem_append_right _ (List.mem_append_right _ (List.mem_append_right _ (List.mem_append_left _ (List.mem_of_getElem? (l := tables_1_5) (i := 229) (by decide +kernel)))))))) rfl
set_option maxRecDepth 100000 in
theorem zl_563 : Cond.selects "RiverDiggersModel" yX9_firstWrong yX9_firstWrong ∈ zi_G := zi_inG (List.mem_append_left _ (List.mem_of_getElem? (i := 50) (by decide +kernel))) rfl
set_option maxRecDepth 100000 in
theorem zl_564 : Cond.methodLink "RiverDiggersModel" 271 yX9_silts ∈ zi_G := zi_inG (List.mem_append_right _ (List.mem_append_right _ (List.mem_append_right _ (List.mem_append_right _ (List.mem_append_right _ (List.mem_append_left _ (List.mem_of_getElem? (l := tables_1_5) (i := 238) (by decide +kernel)))))))) rfl
set_option maxRecDepth 100000 in
theorem zl_565 : Cond.instanceMethod yX9_silts ∈ zi_G := zi_inG (List.mem_append_right _ (List.mem_append_right _ (List.mem_append_right _ (List.mem_append_right _ (List.mem_append_right _ (List.mem_append_right _ (List.mem_of_getElem? (l := tables_1_6) (i := 0) (by decide +kernel)))))))) rfl
set_option maxRecDepth 100000 in
theorem zl_566 : Cond.selects "RiverDiggersModel" yX9_silts yX9_silts ∈ zi_G := zi_inG (List.mem_append_left _ (List.mem_of_getElem? (i := 52) (by decide +kernel))) rfl
set_option maxRecDepth 100000 in
theorem zl_567 : Cond.methodLink "RiverDiggersModel" 274 yX9_isYear ∈ zi_G := zi_inG (List.mem_append_right _ (List.mem_append_right _ (List.mem_append_right _ (List.mem_append_right _ (List.mem_append_right _ (List.mem_append_left _ (List.mem_of_getElem? (l := tables_1_5) (i := 219) (by decide +kernel)))))))) rfl
set_option maxRecDepth 100000 in
theorem zl_568 : Cond.static yX9_isYear ∈ zi_G := zi_inG (List.mem_append_right _ (List.mem_append_right _ (List.mem_append_right _ (List.mem_append_right _ (List.mem_append_right _ (List.mem_append_left _ (List.mem_of_getElem? (l := tables_1_5) (i := 220) (by decide +kernel)))))))) rfl
set_option maxRecDepth 100000 in
theorem zl_569 : Cond.methodLink "RiverDiggersModel" 277 yX9_canBe ∈ zi_G := zi_inG (List.mem_append_right _ (List.mem_append_right _ (List.mem_append_right _ (List.mem_append_right _ (List.mem_append_right _ (List.mem_append_left _ (List.mem_of_getElem? (l := tables_1_5) (i := 223) (by decide +kernel)))))))) rfl
set_option maxRecDepth 100000 in
theorem zl_570 : Cond.instanceMethod yX9_canBe ∈ zi_G := zi_inG (List.mem_append_right _ (List.mem_append_right _ (List.mem_append_right _ (List.mem_append_right _ (List.mem_append_right _ (List.mem_append_left _ (List.mem_of_getElem? (l := tables_1_5) (i := 225) (by decide +kernel)))))))) rfl
set_option maxRecDepth 100000 in
theorem zl_571 : Cond.selects "RiverDiggersModel" yX9_canBe yX9_canBe ∈ zi_G := zi_inG (List.mem_append_left _ (List.mem_of_getElem? (i := 49) (by decide +kernel))) rfl
set_option maxRecDepth 100000 in
theorem zl_572 : Cond.methodLink "RiverDiggersModel" 280 yX9_goes ∈ zi_G := zi_inG (List.mem_append_right _ (List.mem_append_right _ (List.mem_append_right _ (List.mem_append_right _ (List.mem_append_right _ (List.mem_append_left _ (List.mem_of_getElem? (l := tables_1_5) (i := 234) (by decide +kernel)))))))) rfl
set_option maxRecDepth 100000 in
theorem zl_573 : Cond.instanceMethod yX9_goes ∈ zi_G := zi_inG (List.mem_append_right _ (List.mem_append_right _ (List.mem_append_right _ (List.mem_append_right _ (List.mem_append_right _ (List.mem_append_left _ (List.mem_of_getElem? (l := tables_1_5) (i := 236) (by decide +kernel)))))))) rfl
set_option maxRecDepth 100000 in
theorem zl_574 : Cond.selects "RiverDiggersModel" yX9_goes yX9_goes ∈ zi_G := zi_inG (List.mem_append_left _ (List.mem_of_getElem? (i := 51) (by decide +kernel))) rfl
set_option maxRecDepth 100000 in
theorem zl_575 : Cond.methodLink "RiverDiggersModel" 286 yX9_returns ∈ zi_G := zi_inG (List.mem_append_right _ (List.mem_append_right _ (List.mem_append_right _ (List.mem_append_right _ (List.mem_append_right _ (List.mem_append_right _ (List.mem_of_getElem? (l := tables_1_6) (i := 14) (by decide +kernel)))))))) rfl
set_option maxRecDepth 100000 in
theorem zl_576 : Cond.instanceMethod yX9_returns ∈ zi_G := zi_inG (List.mem_append_right _ (List.mem_append_right _ (List.mem_append_right _ (List.mem_append_right _ (List.mem_append_right _ (List.mem_append_right _ (List.mem_of_getElem? (l := tables_1_6) (i := 16) (by decide +kernel)))))))) rfl
set_option maxRecDepth 100000 in
theorem zl_577 : Cond.selects "RiverDiggersModel" yX9_returns yX9_returns ∈ zi_G := zi_inG (List.mem_append_left _ (List.mem_of_getElem? (i := 55) (by decide +kernel))) rfl
set_option maxRecDepth 100000 in
theorem zl_578 : Cond.methodLink "RiverDiggersModel" 283 yX9_marks ∈ zi_G := zi_inG (List.mem_append_right _ (List.mem_append_right _ (List.mem_append_right _ (List.mem_append_right _ (List.mem_append_right _ (List.mem_append_right _ (List.mem_of_getElem? (l := tables_1_6) (i := 10) (by decide +kernel)))))))) rfl
set_option maxRecDepth 100000 in
theorem zl_579 : Cond.instanceMethod yX9_marks ∈ zi_G := zi_inG (List.mem_append_right _ (List.mem_append_right _ (List.mem_append_right _ (List.mem_append_right _ (List.mem_append_right _ (List.mem_append_right _ (List.mem_of_getElem? (l := tables_1_6) (i := 12) (by decide +kernel)))))))) rfl
set_option maxRecDepth 100000 in
theorem zl_580 : Cond.selects "RiverDiggersModel" yX9_marks yX9_marks ∈ zi_G := zi_inG (List.mem_append_left _ (List.mem_of_getElem? (i := 54) (by decide +kernel))) rfl
set_option maxRecDepth 100000 in
theorem zl_581 : Cond.methodLink "RiverDiggersModel" 289 yX9_hasBy ∈ zi_G := zi_inG (List.mem_append_right _ (List.mem_append_right _ (List.mem_append_right _ (List.mem_append_right _ (List.mem_append_right _ (List.mem_append_right _ (List.mem_of_getElem? (l := tables_1_6) (i := 6) (by decide +kernel)))))))) rfl
set_option maxRecDepth 100000 in
theorem zl_582 : Cond.instanceMethod yX9_hasBy ∈ zi_G := zi_inG (List.mem_append_right _ (List.mem_append_right _ (List.mem_append_right _ (List.mem_append_right _ (List.mem_append_right _ (List.mem_append_right _ (List.mem_of_getElem? (l := tables_1_6) (i := 8) (by decide +kernel)))))))) rfl
set_option maxRecDepth 100000 in
theorem zl_583 : Cond.selects "RiverDiggersModel" yX9_hasBy yX9_hasBy ∈ zi_G := zi_inG (List.mem_append_left _ (List.mem_of_getElem? (i := 53) (by decide +kernel))) rfl
set_option maxRecDepth 100000 in
theorem zl_584 : Cond.methodLink "RiverDiggersModel" 292 yX9_timesOf ∈ zi_G := zi_inG (List.mem_append_right _ (List.mem_append_right _ (List.mem_append_right _ (List.mem_append_right _ (List.mem_append_right _ (List.mem_append_right _ (List.mem_of_getElem? (l := tables_1_6) (i := 48) (by decide +kernel)))))))) rfl
set_option maxRecDepth 100000 in
theorem zl_585 : Cond.static yX9_timesOf ∈ zi_G := zi_inG (List.mem_append_right _ (List.mem_append_right _ (List.mem_append_right _ (List.mem_append_right _ (List.mem_append_right _ (List.mem_append_right _ (List.mem_of_getElem? (l := tables_1_6) (i := 49) (by decide +kernel)))))))) rfl
set_option maxRecDepth 100000 in
theorem zl_586 : Cond.methodLink "RiverDiggersModel" 295 yX9_yearOf ∈ zi_G := zi_inG (List.mem_append_right _ (List.mem_append_right _ (List.mem_append_right _ (List.mem_append_right _ (List.mem_append_right _ (List.mem_append_right _ (List.mem_of_getElem? (l := tables_1_6) (i := 67) (by decide +kernel)))))))) rfl
set_option maxRecDepth 100000 in
theorem zl_587 : Cond.instanceMethod yX9_yearOf ∈ zi_G := zi_inG (List.mem_append_right _ (List.mem_append_right _ (List.mem_append_right _ (List.mem_append_right _ (List.mem_append_right _ (List.mem_append_right _ (List.mem_of_getElem? (l := tables_1_6) (i := 69) (by decide +kernel)))))))) rfl
set_option maxRecDepth 100000 in
theorem zl_588 : Cond.selects "RiverDiggersModel" yX9_yearOf yX9_yearOf ∈ zi_G := zi_inG (List.mem_append_left _ (List.mem_of_getElem? (i := 62) (by decide +kernel))) rfl
set_option maxRecDepth 100000 in
theorem zl_589 : Cond.methodLink "RiverDiggersModel" 299 yX9_enters ∈ zi_G := zi_inG (List.mem_append_right _ (List.mem_append_right _ (List.mem_append_right _ (List.mem_append_right _ (List.mem_append_right _ (List.mem_append_right _ (List.mem_of_getElem? (l := tables_1_6) (i := 40) (by decide +kernel)))))))) rfl
set_option maxRecDepth 100000 in
theorem zl_590 : Cond.instanceMethod yX9_enters ∈ zi_G := zi_inG (List.mem_append_right _ (List.mem_append_right _ (List.mem_append_right _ (List.mem_append_right _ (List.mem_append_right _ (List.mem_append_right _ (List.mem_of_getElem? (l := tables_1_6) (i := 42) (by decide +kernel)))))))) rfl
set_option maxRecDepth 100000 in
theorem zl_591 : Cond.selects "RiverDiggersModel" yX9_enters yX9_enters ∈ zi_G := zi_inG (List.mem_append_left _ (List.mem_of_getElem? (i := 57) (by decide +kernel))) rfl
set_option maxRecDepth 100000 in
theorem zl_592 : Cond.methodLink "RiverDiggersModel" 303 yX9_leaves ∈ zi_G := zi_inG (List.mem_append_right _ (List.mem_append_right _ (List.mem_append_right _ (List.mem_append_right _ (List.mem_append_right _ (List.mem_append_right _ (List.mem_of_getElem? (l := tables_1_6) (i := 44) (by decide +kernel)))))))) rfl
set_option maxRecDepth 100000 in
theorem zl_593 : Cond.instanceMethod yX9_leaves ∈ zi_G := zi_inG (List.mem_append_right _ (List.mem_append_right _ (List.mem_append_right _ (List.mem_append_right _ (List.mem_append_right _ (List.mem_append_right _ (List.mem_of_getElem? (l := tables_1_6) (i := 46) (by decide +kernel)))))))) rfl
set_option maxRecDepth 100000 in
theorem zl_594 : Cond.selects "RiverDiggersModel" yX9_leaves yX9_leaves ∈ zi_G := zi_inG (List.mem_append_left _ (List.mem_of_getElem? (i := 58) (by decide +kernel))) rfl
set_option maxRecDepth 100000 in
theorem zl_595 : Cond.constantLong "RiverDiggersModel" 308 (12) ∈ zi_G := zi_inG (List.mem_append_right _ (List.mem_append_right _ (List.mem_append_right _ (List.mem_append_right _ (List.mem_append_right _ (List.mem_append_right _ (List.mem_of_getElem? (l := tables_1_6) (i := 35) (by decide +kernel)))))))) rfl
set_option maxRecDepth 100000 in
theorem zl_596 : Cond.constantLong "RiverDiggersModel" 306 (10) ∈ zi_G := zi_inG (List.mem_append_right _ (List.mem_append_right _ (List.mem_append_right _ (List.mem_append_right _ (List.mem_append_right _ (List.mem_append_right _ (List.mem_of_getElem? (l := tables_1_6) (i := 34) (by decide +kernel)))))))) rfl
set_option maxRecDepth 100000 in
theorem zl_597 : Cond.methodLink "RiverDiggersModel" 310 yX9_isBrought ∈ zi_G := zi_inG (List.mem_append_right _ (List.mem_append_right _ (List.mem_append_right _ (List.mem_append_right _ (List.mem_append_right _ (List.mem_append_right _ (List.mem_of_getElem? (l := tables_1_6) (i := 36) (by decide +kernel)))))))) rfl
set_option maxRecDepth 100000 in
theorem zl_598 : Cond.instanceMethod yX9_isBrought ∈ zi_G := zi_inG (List.mem_append_right _ (List.mem_append_right _ (List.mem_append_right _ (List.mem_append_right _ (List.mem_append_right _ (List.mem_append_right _ (List.mem_of_getElem? (l := tables_1_6) (i := 38) (by decide +kernel)))))))) rfl
set_option maxRecDepth 100000 in
theorem zl_599 : Cond.selects "RiverDiggersModel" yX9_isBrought yX9_isBrought ∈ zi_G := zi_inG (List.mem_append_left _ (List.mem_of_getElem? (i := 56) (by decide +kernel))) rfl
set_option maxRecDepth 100000 in
theorem zl_600 : Cond.methodLink "RiverDiggersModel" 313 yX9_findOptions ∈ zi_G := zi_inG (List.mem_append_right _ (List.mem_append_right _ (List.mem_append_right _ (List.mem_append_right _ (List.mem_append_right _ (List.mem_append_right _ (List.mem_of_getElem? (l := tables_1_6) (i := 55) (by decide +kernel)))))))) rfl
set_option maxRecDepth 100000 in
theorem zl_601 : Cond.instanceMethod yX9_findOptions ∈ zi_G := zi_inG (List.mem_append_right _ (List.mem_append_right _ (List.mem_append_right _ (List.mem_append_right _ (List.mem_append_right _ (List.mem_append_right _ (List.mem_of_getElem? (l := tables_1_6) (i := 57) (by decide +kernel)))))))) rfl
set_option maxRecDepth 100000 in
theorem zl_602 : Cond.selects "RiverDiggersModel" yX9_findOptions yX9_findOptions ∈ zi_G := zi_inG (List.mem_append_left _ (List.mem_of_getElem? (i := 59) (by decide +kernel))) rfl
set_option maxRecDepth 100000 in
theorem zl_603 : Cond.methodLink "RiverDiggersModel" 316 yX9_allOptions ∈ zi_G := zi_inG (List.mem_append_right _ (List.mem_append_right _ (List.mem_append_right _ (List.mem_append_right _ (List.mem_append_right _ (List.mem_append_right _ (List.mem_of_getElem? (l := tables_1_6) (i := 59) (by decide +kernel)))))))) rfl
set_option maxRecDepth 100000 in
theorem zl_604 : Cond.instanceMethod yX9_allOptions ∈ zi_G := zi_inG (List.mem_append_right _ (List.mem_append_right _ (List.mem_append_right _ (List.mem_append_right _ (List.mem_append_right _ (List.mem_append_right _ (List.mem_of_getElem? (l := tables_1_6) (i := 61) (by decide +kernel)))))))) rfl
set_option maxRecDepth 100000 in
theorem zl_605 : Cond.selects "RiverDiggersModel" yX9_allOptions yX9_allOptions ∈ zi_G := zi_inG (List.mem_append_left _ (List.mem_of_getElem? (i := 60) (by decide +kernel))) rfl
set_option maxRecDepth 100000 in
theorem zl_606 : Cond.methodLink "RiverDiggersModel" 322 yX9_bedBy ∈ zi_G := zi_inG (List.mem_append_right _ (List.mem_append_right _ (List.mem_append_right _ (List.mem_append_right _ (List.mem_append_right _ (List.mem_append_right _ (List.mem_of_getElem? (l := tables_1_6) (i := 71) (by decide +kernel)))))))) rfl
set_option maxRecDepth 100000 in
theorem zl_607 : Cond.instanceMethod yX9_bedBy ∈ zi_G := zi_inG (List.mem_append_right _ (List.mem_append_right _ (List.mem_append_right _ (List.mem_append_right _ (List.mem_append_right _ (List.mem_append_right _ (List.mem_of_getElem? (l := tables_1_6) (i := 73) (by decide +kernel)))))))) rfl
set_option maxRecDepth 100000 in
theorem zl_608 : Cond.selects "RiverDiggersModel" yX9_bedBy yX9_bedBy ∈ zi_G := zi_inG (List.mem_append_left _ (List.mem_of_getElem? (i := 63) (by decide +kernel))) rfl
set_option maxRecDepth 100000 in
theorem zl_609 : Cond.methodLink "RiverDiggersModel" 319 yX9_yearAt ∈ zi_G := zi_inG (List.mem_append_right _ (List.mem_append_right _ (List.mem_append_right _ (List.mem_append_right _ (List.mem_append_right _ (List.mem_append_right _ (List.mem_of_getElem? (l := tables_1_6) (i := 63) (by decide +kernel)))))))) rfl
set_option maxRecDepth 100000 in
theorem zl_610 : Cond.instanceMethod yX9_yearAt ∈ zi_G := zi_inG (List.mem_append_right _ (List.mem_append_right _ (List.mem_append_right _ (List.mem_append_right _ (List.mem_append_right _ (List.mem_append_right _ (List.mem_of_getElem? (l := tables_1_6) (i := 65) (by decide +kernel)))))))) rfl
set_option maxRecDepth 100000 in
theorem zl_611 : Cond.selects "RiverDiggersModel" yX9_yearAt yX9_yearAt ∈ zi_G := zi_inG (List.mem_append_left _ (List.mem_of_getElem? (i := 61) (by decide +kernel))) rfl
set_option maxRecDepth 100000 in
theorem zl_612 : Cond.methodLink "RiverDiggersModel" 325 yX9_cutsOf ∈ zi_G := zi_inG (List.mem_append_right _ (List.mem_append_right _ (List.mem_append_right _ (List.mem_append_right _ (List.mem_append_right _ (List.mem_append_right _ (List.mem_of_getElem? (l := tables_1_6) (i := 75) (by decide +kernel)))))))) rfl
set_option maxRecDepth 100000 in
theorem zl_613 : Cond.static yX9_cutsOf ∈ zi_G := zi_inG (List.mem_append_right _ (List.mem_append_right _ (List.mem_append_right _ (List.mem_append_right _ (List.mem_append_right _ (List.mem_append_right _ (List.mem_of_getElem? (l := tables_1_6) (i := 76) (by decide +kernel)))))))) rfl
set_option maxRecDepth 100000 in
theorem zl_614 : Cond.methodLink "RiverDiggersModel" 328 yX9_lastOf ∈ zi_G := zi_inG (List.mem_append_right _ (List.mem_append_right _ (List.mem_append_right _ (List.mem_append_right _ (List.mem_append_right _ (List.mem_append_right _ (List.mem_of_getElem? (l := tables_1_6) (i := 90) (by decide +kernel)))))))) rfl
set_option maxRecDepth 100000 in
theorem zl_615 : Cond.instanceMethod yX9_lastOf ∈ zi_G := zi_inG (List.mem_append_right _ (List.mem_append_right _ (List.mem_append_right _ (List.mem_append_right _ (List.mem_append_right _ (List.mem_append_right _ (List.mem_of_getElem? (l := tables_1_6) (i := 92) (by decide +kernel)))))))) rfl
set_option maxRecDepth 100000 in
theorem zl_616 : Cond.selects "RiverDiggersModel" yX9_lastOf yX9_lastOf ∈ zi_G := zi_inG (List.mem_append_left _ (List.mem_of_getElem? (i := 66) (by decide +kernel))) rfl
set_option maxRecDepth 100000 in
theorem zl_617 : Cond.methodLink "RiverDiggersModel" 331 yX9_secondOf ∈ zi_G := zi_inG (List.mem_append_right _ (List.mem_append_right _ (List.mem_append_right _ (List.mem_append_right _ (List.mem_append_right _ (List.mem_append_right _ (List.mem_of_getElem? (l := tables_1_6) (i := 86) (by decide +kernel)))))))) rfl
set_option maxRecDepth 100000 in
theorem zl_618 : Cond.instanceMethod yX9_secondOf ∈ zi_G := zi_inG (List.mem_append_right _ (List.mem_append_right _ (List.mem_append_right _ (List.mem_append_right _ (List.mem_append_right _ (List.mem_append_right _ (List.mem_of_getElem? (l := tables_1_6) (i := 88) (by decide +kernel)))))))) rfl
set_option maxRecDepth 100000 in
theorem zl_619 : Cond.selects "RiverDiggersModel" yX9_secondOf yX9_secondOf ∈ zi_G := zi_inG (List.mem_append_left _ (List.mem_of_getElem? (i := 65) (by decide +kernel))) rfl
set_option maxRecDepth 100000 in
theorem zl_620 : Cond.methodLink "RiverDiggersModel" 334 yX9_selfishYear ∈ zi_G := zi_inG (List.mem_append_right _ (List.mem_append_right _ (List.mem_append_right _ (List.mem_append_right _ (List.mem_append_right _ (List.mem_append_right _ (List.mem_of_getElem? (l := tables_1_6) (i := 82) (by decide +kernel)))))))) rfl
set_option maxRecDepth 100000 in
theorem zl_621 : Cond.instanceMethod yX9_selfishYear ∈ zi_G := zi_inG (List.mem_append_right _ (List.mem_append_right _ (List.mem_append_right _ (List.mem_append_right _ (List.mem_append_right _ (List.mem_append_right _ (List.mem_of_getElem? (l := tables_1_6) (i := 84) (by decide +kernel)))))))) rfl
set_option maxRecDepth 100000 in
theorem zl_622 : Cond.selects "RiverDiggersModel" yX9_selfishYear yX9_selfishYear ∈ zi_G := zi_inG (List.mem_append_left _ (List.mem_of_getElem? (i := 64) (by decide +kernel))) rfl
set_option maxRecDepth 100000 in
theorem zl_623 : Cond.methodLink "RiverDiggersModel" 337 yX9_breaksOf ∈ zi_G := zi_inG (List.mem_append_right _ (List.mem_append_right _ (List.mem_append_right _ (List.mem_append_right _ (List.mem_append_right _ (List.mem_append_right _ (List.mem_of_getElem? (l := tables_1_6) (i := 98) (by decide +kernel)))))))) rfl
set_option maxRecDepth 100000 in
theorem zl_624 : Cond.instanceMethod yX9_breaksOf ∈ zi_G := zi_inG (List.mem_append_right _ (List.mem_append_right _ (List.mem_append_right _ (List.mem_append_right _ (List.mem_append_right _ (List.mem_append_right _ (List.mem_of_getElem? (l := tables_1_6) (i := 100) (by decide +kernel)))))))) rfl
set_option maxRecDepth 100000 in
theorem zl_625 : Cond.selects "RiverDiggersModel" yX9_breaksOf yX9_breaksOf ∈ zi_G := zi_inG (List.mem_append_left _ (List.mem_of_getElem? (i := 67) (by decide +kernel))) rfl
set_option maxRecDepth 100000 in
theorem zl_626 : Cond.methodLink "RiverDiggersModel" 340 yX9_areAlike ∈ zi_G := zi_inG (List.mem_append_right _ (List.mem_append_right _ (List.mem_append_right _ (List.mem_append_right _ (List.mem_append_right _ (List.mem_append_right _ (List.mem_of_getElem? (l := tables_1_6) (i := 114) (by decide +kernel)))))))) rfl
set_option maxRecDepth 100000 in
theorem zl_627 : Cond.instanceMethod yX9_areAlike ∈ zi_G := zi_inG (List.mem_append_right _ (List.mem_append_right _ (List.mem_append_right _ (List.mem_append_right _ (List.mem_append_right _ (List.mem_append_right _ (List.mem_of_getElem? (l := tables_1_6) (i := 116) (by decide +kernel)))))))) rfl
set_option maxRecDepth 100000 in
theorem zl_628 : Cond.selects "RiverDiggersModel" yX9_areAlike yX9_areAlike ∈ zi_G := zi_inG (List.mem_append_left _ (List.mem_of_getElem? (i := 68) (by decide +kernel))) rfl
set_option maxRecDepth 100000 in
theorem zl_629 : Cond.constantLong "RiverDiggersModel" 343 (-1) ∈ zi_G := zi_inG (List.mem_append_right _ (List.mem_append_right _ (List.mem_append_right _ (List.mem_append_right _ (List.mem_append_right _ (List.mem_append_right _ (List.mem_of_getElem? (l := tables_1_6) (i := 122) (by decide +kernel)))))))) rfl
set_option maxRecDepth 100000 in
theorem zl_630 : Cond.methodLink "RiverDiggersModel" 345 yX9_common ∈ zi_G := zi_inG (List.mem_append_right _ (List.mem_append_right _ (List.mem_append_right _ (List.mem_append_right _ (List.mem_append_right _ (List.mem_append_right _ (List.mem_of_getElem? (l := tables_1_6) (i := 123) (by decide +kernel)))))))) rfl
set_option maxRecDepth 100000 in
theorem zl_631 : Cond.static yX9_common ∈ zi_G := zi_inG (List.mem_append_right _ (List.mem_append_right _ (List.mem_append_right _ (List.mem_append_right _ (List.mem_append_right _ (List.mem_append_right _ (List.mem_of_getElem? (l := tables_1_6) (i := 124) (by decide +kernel)))))))) rfl
set_option maxRecDepth 100000 in
theorem zl_632 : Cond.methodLink "RiverDiggersModel" 349 yX9_isSo ∈ zi_G := zi_inG (List.mem_append_right _ (List.mem_append_right _ (List.mem_append_right _ (List.mem_append_right _ (List.mem_append_right _ (List.mem_append_right _ (List.mem_of_getElem? (l := tables_1_6) (i := 138) (by decide +kernel)))))))) rfl
set_option maxRecDepth 100000 in
theorem zl_633 : Cond.instanceMethod yX9_isSo ∈ zi_G := zi_inG (List.mem_append_right _ (List.mem_append_right _ (List.mem_append_right _ (List.mem_append_right _ (List.mem_append_right _ (List.mem_append_right _ (List.mem_of_getElem? (l := tables_1_6) (i := 140) (by decide +kernel)))))))) rfl
set_option maxRecDepth 100000 in
theorem zl_634 : Cond.selects "RiverDiggersModel" yX9_isSo yX9_isSo ∈ zi_G := zi_inG (List.mem_append_left _ (List.mem_of_getElem? (i := 69) (by decide +kernel))) rfl
set_option maxRecDepth 100000 in
theorem zl_635 : Cond.methodLink "RiverDiggersModel" 352 yX9_cutters ∈ zi_G := zi_inG (List.mem_append_right _ (List.mem_append_right _ (List.mem_append_right _ (List.mem_append_right _ (List.mem_append_right _ (List.mem_append_right _ (List.mem_of_getElem? (l := tables_1_6) (i := 142) (by decide +kernel)))))))) rfl
set_option maxRecDepth 100000 in
theorem zl_636 : Cond.static yX9_cutters ∈ zi_G := zi_inG (List.mem_append_right _ (List.mem_append_right _ (List.mem_append_right _ (List.mem_append_right _ (List.mem_append_right _ (List.mem_append_right _ (List.mem_of_getElem? (l := tables_1_6) (i := 143) (by decide +kernel)))))))) rfl
set_option maxRecDepth 100000 in
theorem zl_637 : Cond.methodLink "RiverDiggersModel" 355 yX9_copies ∈ zi_G := zi_inG (List.mem_append_right _ (List.mem_append_right _ (List.mem_append_right _ (List.mem_append_right _ (List.mem_append_right _ (List.mem_append_right _ (List.mem_of_getElem? (l := tables_1_6) (i := 149) (by decide +kernel)))))))) rfl
set_option maxRecDepth 100000 in
theorem zl_638 : Cond.instanceMethod yX9_copies ∈ zi_G := zi_inG (List.mem_append_right _ (List.mem_append_right _ (List.mem_append_right _ (List.mem_append_right _ (List.mem_append_right _ (List.mem_append_right _ (List.mem_of_getElem? (l := tables_1_6) (i := 151) (by decide +kernel)))))))) rfl
set_option maxRecDepth 100000 in
theorem zl_639 : Cond.selects "RiverDiggersModel" yX9_copies yX9_copies ∈ zi_G := zi_inG (List.mem_append_left _ (List.mem_of_getElem? (i := 70) (by decide +kernel))) rfl
set_option maxRecDepth 100000 in
theorem zl_640 : Cond.methodLink "RiverDiggersModel" 358 yX9_isSheet ∈ zi_G := zi_inG (List.mem_append_right _ (List.mem_append_right _ (List.mem_append_right _ (List.mem_append_right _ (List.mem_append_right _ (List.mem_append_right _ (List.mem_of_getElem? (l := tables_1_6) (i := 161) (by decide +kernel)))))))) rfl
set_option maxRecDepth 100000 in
theorem zl_641 : Cond.static yX9_isSheet ∈ zi_G := zi_inG (List.mem_append_right _ (List.mem_append_right _ (List.mem_append_right _ (List.mem_append_right _ (List.mem_append_right _ (List.mem_append_right _ (List.mem_of_getElem? (l := tables_1_6) (i := 162) (by decide +kernel)))))))) rfl
set_option maxRecDepth 100000 in
theorem zl_642 : Cond.constantLong "RiverDiggersModel" 361 (20) ∈ zi_G := zi_inG (List.mem_append_right _ (List.mem_append_right _ (List.mem_append_right _ (List.mem_append_right _ (List.mem_append_right _ (List.mem_append_right _ (List.mem_of_getElem? (l := tables_1_6) (i := 172) (by decide +kernel)))))))) rfl
set_option maxRecDepth 100000 in
theorem zl_643 : Cond.methodLink "RiverDiggersModel" 363 yX9_year ∈ zi_G := zi_inG (List.mem_append_right _ (List.mem_append_right _ (List.mem_append_right _ (List.mem_append_right _ (List.mem_append_right _ (List.mem_append_right _ (List.mem_of_getElem? (l := tables_1_6) (i := 173) (by decide +kernel)))))))) rfl
set_option maxRecDepth 100000 in
theorem zl_644 : Cond.instanceMethod yX9_year ∈ zi_G := zi_inG (List.mem_append_right _ (List.mem_append_right _ (List.mem_append_right _ (List.mem_append_right _ (List.mem_append_right _ (List.mem_append_left _ (List.mem_of_getElem? (l := tables_1_5) (i := 216) (by decide +kernel)))))))) rfl
set_option maxRecDepth 100000 in
theorem zl_645 : Cond.selects "RiverDiggersModel" yX9_year yX9_year ∈ zi_G := zi_inG (List.mem_append_right _ (List.mem_append_right _ (List.mem_append_right _ (List.mem_append_right _ (List.mem_append_right _ (List.mem_append_left _ (List.mem_of_getElem? (l := tables_1_5) (i := 217) (by decide +kernel)))))))) rfl
set_option maxRecDepth 100000 in
theorem zl_646 : Cond.fieldLink "RiverDiggersModel" 366 "RiverDiggersModel" "torn" "I" ∈ zi_G := zi_inG (List.mem_append_right _ (List.mem_append_right _ (List.mem_append_right _ (List.mem_append_right _ (List.mem_append_left _ (List.mem_of_getElem? (l := tables_1_4) (i := 194) (by decide +kernel))))))) rfl
set_option maxRecDepth 100000 in
theorem zl_647 : Cond.constant "java/lang/Integer" 267 (252645135) ∈ zi_G := zi_inG (List.mem_append_right _ (List.mem_append_right _ (List.mem_append_right _ (List.mem_append_left _ (List.mem_of_getElem? (l := tables_1_3) (i := 32) (by decide +kernel)))))) rfl
set_option maxRecDepth 100000 in
theorem zl_648 : Cond.constant "java/lang/Integer" 266 (858993459) ∈ zi_G := zi_inG (List.mem_append_right _ (List.mem_append_right _ (List.mem_append_right _ (List.mem_append_left _ (List.mem_of_getElem? (l := tables_1_3) (i := 31) (by decide +kernel)))))) rfl
set_option maxRecDepth 100000 in
theorem zl_649 : Cond.constant "java/lang/Integer" 265 (1431655765) ∈ zi_G := zi_inG (List.mem_append_right _ (List.mem_append_right _ (List.mem_append_right _ (List.mem_append_left _ (List.mem_of_getElem? (l := tables_1_3) (i := 30) (by decide +kernel)))))) rfl
set_option maxRecDepth 100000 in
theorem zl_650 : Cond.methodLink "RiverDiggersLaw" 12 yX9_init ∈ zi_G := zi_inG (List.mem_append_right _ (List.mem_append_right _ (List.mem_append_right _ (List.mem_append_right _ (List.mem_append_left _ (List.mem_of_getElem? (l := tables_1_4) (i := 137) (by decide +kernel))))))) rfl
set_option maxRecDepth 100000 in
theorem zl_651 : Cond.instanceMethod yX9_init ∈ zi_G := zi_inG (List.mem_append_right _ (List.mem_append_right _ (List.mem_append_right _ (List.mem_append_right _ (List.mem_append_left _ (List.mem_of_getElem? (l := tables_1_4) (i := 138) (by decide +kernel))))))) rfl
set_option maxRecDepth 100000 in
theorem zl_652 : Cond.classLink "RiverDiggersLaw" 10 "RiverDiggersModel" ∈ zi_G := zi_inG (List.mem_append_right _ (List.mem_append_right _ (List.mem_append_right _ (List.mem_append_right _ (List.mem_append_left _ (List.mem_of_getElem? (l := tables_1_4) (i := 135) (by decide +kernel))))))) rfl
set_option maxRecDepth 100000 in
theorem zl_653 : Cond.instantiable "RiverDiggersModel" 47 ∈ zi_G := zi_inG (List.mem_append_right _ (List.mem_append_right _ (List.mem_append_right _ (List.mem_append_right _ (List.mem_append_left _ (List.mem_of_getElem? (l := tables_1_4) (i := 136) (by decide +kernel))))))) rfl
set_option maxRecDepth 100000 in
theorem zl_654 : Cond.initialized "RiverDiggersModel" ∈ zi_G := zi_inG (List.mem_append_right _ (List.mem_append_left _ (List.mem_of_getElem? (l := tables_1_1) (i := 12) (by decide +kernel)))) rfl
set_option maxRecDepth 100000 in
theorem zl_655 : Cond.methodLink "RiverDiggersLaw" 9 yX8_init ∈ zi_G := zi_inG (List.mem_append_right _ (List.mem_append_left _ (List.mem_of_getElem? (l := tables_1_1) (i := 20) (by decide +kernel)))) rfl
set_option maxRecDepth 100000 in
theorem zl_656 : Cond.instanceMethod yX8_init ∈ zi_G := zi_inG (List.mem_append_right _ (List.mem_append_left _ (List.mem_of_getElem? (l := tables_1_1) (i := 21) (by decide +kernel)))) rfl
set_option maxRecDepth 100000 in
theorem zl_657 : Cond.classLink "RiverDiggersLaw" 7 "RiverDiggers" ∈ zi_G := zi_inG (List.mem_append_right _ (List.mem_append_left _ (List.mem_of_getElem? (l := tables_1_1) (i := 18) (by decide +kernel)))) rfl
set_option maxRecDepth 100000 in
theorem zl_658 : Cond.instantiable "RiverDiggers" 14 ∈ zi_G := zi_inG (List.mem_append_right _ (List.mem_append_left _ (List.mem_of_getElem? (l := tables_1_1) (i := 19) (by decide +kernel)))) rfl
set_option maxRecDepth 100000 in
theorem zl_659 : Cond.initialized "RiverDiggers" ∈ zi_G := zi_inG (List.mem_append_right _ (List.mem_append_left _ (List.mem_of_getElem? (l := tables_1_1) (i := 1) (by decide +kernel)))) rfl
set_option maxRecDepth 100000 in
theorem zl_660 : Cond.methodLink "RiverDiggersLaw" 19 yX9_feed ∈ zi_G := zi_inG (List.mem_append_right _ (List.mem_append_right _ (List.mem_append_right _ (List.mem_append_right _ (List.mem_append_right _ (List.mem_append_left _ (List.mem_of_getElem? (l := tables_1_5) (i := 52) (by decide +kernel)))))))) rfl
set_option maxRecDepth 100000 in
theorem zl_661 : Cond.instanceMethod yX9_feed ∈ zi_G := zi_inG (List.mem_append_right _ (List.mem_append_right _ (List.mem_append_right _ (List.mem_append_right _ (List.mem_append_right _ (List.mem_append_left _ (List.mem_of_getElem? (l := tables_1_5) (i := 53) (by decide +kernel)))))))) rfl
set_option maxRecDepth 100000 in
theorem zl_662 : Cond.selects "RiverDiggersModel" yX9_feed yX9_feed ∈ zi_G := zi_inG (List.mem_append_right _ (List.mem_append_right _ (List.mem_append_right _ (List.mem_append_right _ (List.mem_append_right _ (List.mem_append_left _ (List.mem_of_getElem? (l := tables_1_5) (i := 54) (by decide +kernel)))))))) rfl
set_option maxRecDepth 100000 in
theorem zl_663 : Cond.constantLong "RiverDiggersLaw" 13 (4294967295) ∈ zi_G := zi_inG (List.mem_append_right _ (List.mem_append_right _ (List.mem_append_right _ (List.mem_append_right _ (List.mem_append_right _ (List.mem_append_right _ (List.mem_of_getElem? (l := tables_1_6) (i := 182) (by decide +kernel)))))))) rfl
set_option maxRecDepth 100000 in
theorem zl_664 : Cond.methodLink "RiverDiggersLaw" 15 yX8_feed ∈ zi_G := zi_inG (List.mem_append_right _ (List.mem_append_right _ (List.mem_append_left _ (List.mem_of_getElem? (l := tables_1_2) (i := 127) (by decide +kernel))))) rfl
set_option maxRecDepth 100000 in
theorem zl_665 : Cond.instanceMethod yX8_feed ∈ zi_G := zi_inG (List.mem_append_right _ (List.mem_append_right _ (List.mem_append_left _ (List.mem_of_getElem? (l := tables_1_2) (i := 128) (by decide +kernel))))) rfl
set_option maxRecDepth 100000 in
theorem zl_666 : Cond.selects "RiverDiggers" yX8_feed yX8_feed ∈ zi_G := zi_inG (List.mem_append_right _ (List.mem_append_right _ (List.mem_append_left _ (List.mem_of_getElem? (l := tables_1_2) (i := 129) (by decide +kernel))))) rfl
set_option maxRecDepth 100000 in
theorem zl_667 : Cond.methodLink "RiverDiggersLaw" 24 yX9_end ∈ zi_G := zi_inG (List.mem_append_right _ (List.mem_append_right _ (List.mem_append_right _ (List.mem_append_right _ (List.mem_append_right _ (List.mem_append_left _ (List.mem_of_getElem? (l := tables_1_5) (i := 57) (by decide +kernel)))))))) rfl
set_option maxRecDepth 100000 in
theorem zl_668 : Cond.instanceMethod yX9_end ∈ zi_G := zi_inG (List.mem_append_right _ (List.mem_append_right _ (List.mem_append_right _ (List.mem_append_right _ (List.mem_append_right _ (List.mem_append_left _ (List.mem_of_getElem? (l := tables_1_5) (i := 58) (by decide +kernel)))))))) rfl
set_option maxRecDepth 100000 in
theorem zl_669 : Cond.selects "RiverDiggersModel" yX9_end yX9_end ∈ zi_G := zi_inG (List.mem_append_right _ (List.mem_append_right _ (List.mem_append_right _ (List.mem_append_right _ (List.mem_append_right _ (List.mem_append_left _ (List.mem_of_getElem? (l := tables_1_5) (i := 59) (by decide +kernel)))))))) rfl
set_option maxRecDepth 100000 in
theorem zl_670 : Cond.methodLink "RiverDiggersLaw" 20 yX8_end ∈ zi_G := zi_inG (List.mem_append_right _ (List.mem_append_right _ (List.mem_append_left _ (List.mem_of_getElem? (l := tables_1_2) (i := 135) (by decide +kernel))))) rfl
set_option maxRecDepth 100000 in
theorem zl_671 : Cond.instanceMethod yX8_end ∈ zi_G := zi_inG (List.mem_append_right _ (List.mem_append_right _ (List.mem_append_left _ (List.mem_of_getElem? (l := tables_1_2) (i := 136) (by decide +kernel))))) rfl
set_option maxRecDepth 100000 in
theorem zl_672 : Cond.selects "RiverDiggers" yX8_end yX8_end ∈ zi_G := zi_inG (List.mem_append_right _ (List.mem_append_right _ (List.mem_append_left _ (List.mem_of_getElem? (l := tables_1_2) (i := 137) (by decide +kernel))))) rfl
set_option maxRecDepth 100000 in
theorem zl_673 : Cond.methodLink "RiverDiggersLaw" 29 yX9_text ∈ zi_G := zi_inG (List.mem_append_right _ (List.mem_append_right _ (List.mem_append_right _ (List.mem_append_right _ (List.mem_append_right _ (List.mem_append_left _ (List.mem_of_getElem? (l := tables_1_5) (i := 64) (by decide +kernel)))))))) rfl
set_option maxRecDepth 100000 in
theorem zl_674 : Cond.instanceMethod yX9_text ∈ zi_G := zi_inG (List.mem_append_right _ (List.mem_append_right _ (List.mem_append_right _ (List.mem_append_right _ (List.mem_append_right _ (List.mem_append_left _ (List.mem_of_getElem? (l := tables_1_5) (i := 65) (by decide +kernel)))))))) rfl
set_option maxRecDepth 100000 in
theorem zl_675 : Cond.selects "RiverDiggersModel" yX9_text yX9_text ∈ zi_G := zi_inG (List.mem_append_right _ (List.mem_append_right _ (List.mem_append_right _ (List.mem_append_right _ (List.mem_append_right _ (List.mem_append_left _ (List.mem_of_getElem? (l := tables_1_5) (i := 66) (by decide +kernel)))))))) rfl
set_option maxRecDepth 100000 in
theorem zl_676 : Cond.methodLink "RiverDiggersLaw" 25 yX8_text ∈ zi_G := zi_inG (List.mem_append_right _ (List.mem_append_right _ (List.mem_append_left _ (List.mem_of_getElem? (l := tables_1_2) (i := 139) (by decide +kernel))))) rfl
set_option maxRecDepth 100000 in
theorem zl_677 : Cond.instanceMethod yX8_text ∈ zi_G := zi_inG (List.mem_append_right _ (List.mem_append_right _ (List.mem_append_left _ (List.mem_of_getElem? (l := tables_1_2) (i := 140) (by decide +kernel))))) rfl
set_option maxRecDepth 100000 in
theorem zl_678 : Cond.selects "RiverDiggers" yX8_text yX8_text ∈ zi_G := zi_inG (List.mem_append_right _ (List.mem_append_right _ (List.mem_append_left _ (List.mem_of_getElem? (l := tables_1_2) (i := 141) (by decide +kernel))))) rfl
set_option maxRecDepth 100000 in
theorem zl_679 : Cond.methodLink "RiverDiggersLaw" 33 yX9_fault ∈ zi_G := zi_inG (List.mem_append_right _ (List.mem_append_right _ (List.mem_append_right _ (List.mem_append_right _ (List.mem_append_right _ (List.mem_append_left _ (List.mem_of_getElem? (l := tables_1_5) (i := 128) (by decide +kernel)))))))) rfl
set_option maxRecDepth 100000 in
theorem zl_680 : Cond.instanceMethod yX9_fault ∈ zi_G := zi_inG (List.mem_append_right _ (List.mem_append_right _ (List.mem_append_right _ (List.mem_append_right _ (List.mem_append_right _ (List.mem_append_left _ (List.mem_of_getElem? (l := tables_1_5) (i := 129) (by decide +kernel)))))))) rfl
set_option maxRecDepth 100000 in
theorem zl_681 : Cond.selects "RiverDiggersModel" yX9_fault yX9_fault ∈ zi_G := zi_inG (List.mem_append_right _ (List.mem_append_right _ (List.mem_append_right _ (List.mem_append_right _ (List.mem_append_right _ (List.mem_append_left _ (List.mem_of_getElem? (l := tables_1_5) (i := 130) (by decide +kernel)))))))) rfl
set_option maxRecDepth 100000 in
theorem zl_682 : Cond.methodLink "RiverDiggersLaw" 30 yX8_fault ∈ zi_G := zi_inG (List.mem_append_right _ (List.mem_append_right _ (List.mem_append_right _ (List.mem_append_left _ (List.mem_of_getElem? (l := tables_1_3) (i := 51) (by decide +kernel)))))) rfl
set_option maxRecDepth 100000 in
theorem zl_683 : Cond.instanceMethod yX8_fault ∈ zi_G := zi_inG (List.mem_append_right _ (List.mem_append_right _ (List.mem_append_right _ (List.mem_append_left _ (List.mem_of_getElem? (l := tables_1_3) (i := 52) (by decide +kernel)))))) rfl
set_option maxRecDepth 100000 in
theorem zl_684 : Cond.selects "RiverDiggers" yX8_fault yX8_fault ∈ zi_G := zi_inG (List.mem_append_right _ (List.mem_append_right _ (List.mem_append_right _ (List.mem_append_left _ (List.mem_of_getElem? (l := tables_1_3) (i := 53) (by decide +kernel)))))) rfl
set_option maxRecDepth 100000 in
theorem zl_685 : Cond.methodLink "RiverDiggersLaw" 37 yX9_rule ∈ zi_G := zi_inG (List.mem_append_right _ (List.mem_append_right _ (List.mem_append_right _ (List.mem_append_right _ (List.mem_append_right _ (List.mem_append_left _ (List.mem_of_getElem? (l := tables_1_5) (i := 132) (by decide +kernel)))))))) rfl
set_option maxRecDepth 100000 in
theorem zl_686 : Cond.instanceMethod yX9_rule ∈ zi_G := zi_inG (List.mem_append_right _ (List.mem_append_right _ (List.mem_append_right _ (List.mem_append_right _ (List.mem_append_right _ (List.mem_append_left _ (List.mem_of_getElem? (l := tables_1_5) (i := 133) (by decide +kernel)))))))) rfl
set_option maxRecDepth 100000 in
theorem zl_687 : Cond.selects "RiverDiggersModel" yX9_rule yX9_rule ∈ zi_G := zi_inG (List.mem_append_right _ (List.mem_append_right _ (List.mem_append_right _ (List.mem_append_right _ (List.mem_append_right _ (List.mem_append_left _ (List.mem_of_getElem? (l := tables_1_5) (i := 134) (by decide +kernel)))))))) rfl
set_option maxRecDepth 100000 in
theorem zl_688 : Cond.methodLink "RiverDiggersLaw" 34 yX8_rule ∈ zi_G := zi_inG (List.mem_append_right _ (List.mem_append_right _ (List.mem_append_right _ (List.mem_append_left _ (List.mem_of_getElem? (l := tables_1_3) (i := 55) (by decide +kernel)))))) rfl
set_option maxRecDepth 100000 in
theorem zl_689 : Cond.instanceMethod yX8_rule ∈ zi_G := zi_inG (List.mem_append_right _ (List.mem_append_right _ (List.mem_append_right _ (List.mem_append_left _ (List.mem_of_getElem? (l := tables_1_3) (i := 56) (by decide +kernel)))))) rfl
set_option maxRecDepth 100000 in
theorem zl_690 : Cond.selects "RiverDiggers" yX8_rule yX8_rule ∈ zi_G := zi_inG (List.mem_append_right _ (List.mem_append_right _ (List.mem_append_right _ (List.mem_append_left _ (List.mem_of_getElem? (l := tables_1_3) (i := 57) (by decide +kernel)))))) rfl
set_option maxRecDepth 100000 in
theorem zl_691 : Cond.methodLink "RiverDiggersLaw" 42 yX9_cell ∈ zi_G := zi_inG (List.mem_append_right _ (List.mem_append_right _ (List.mem_append_right _ (List.mem_append_right _ (List.mem_append_right _ (List.mem_append_left _ (List.mem_of_getElem? (l := tables_1_5) (i := 136) (by decide +kernel)))))))) rfl
set_option maxRecDepth 100000 in
theorem zl_692 : Cond.instanceMethod yX9_cell ∈ zi_G := zi_inG (List.mem_append_right _ (List.mem_append_right _ (List.mem_append_right _ (List.mem_append_right _ (List.mem_append_right _ (List.mem_append_left _ (List.mem_of_getElem? (l := tables_1_5) (i := 137) (by decide +kernel)))))))) rfl
set_option maxRecDepth 100000 in
theorem zl_693 : Cond.selects "RiverDiggersModel" yX9_cell yX9_cell ∈ zi_G := zi_inG (List.mem_append_right _ (List.mem_append_right _ (List.mem_append_right _ (List.mem_append_right _ (List.mem_append_right _ (List.mem_append_left _ (List.mem_of_getElem? (l := tables_1_5) (i := 138) (by decide +kernel)))))))) rfl
set_option maxRecDepth 100000 in
theorem zl_694 : Cond.methodLink "RiverDiggersLaw" 38 yX8_cell ∈ zi_G := zi_inG (List.mem_append_right _ (List.mem_append_right _ (List.mem_append_right _ (List.mem_append_left _ (List.mem_of_getElem? (l := tables_1_3) (i := 59) (by decide +kernel)))))) rfl
set_option maxRecDepth 100000 in
theorem zl_695 : Cond.instanceMethod yX8_cell ∈ zi_G := zi_inG (List.mem_append_right _ (List.mem_append_right _ (List.mem_append_right _ (List.mem_append_left _ (List.mem_of_getElem? (l := tables_1_3) (i := 60) (by decide +kernel)))))) rfl
set_option maxRecDepth 100000 in
theorem zl_696 : Cond.selects "RiverDiggers" yX8_cell yX8_cell ∈ zi_G := zi_inG (List.mem_append_right _ (List.mem_append_right _ (List.mem_append_right _ (List.mem_append_left _ (List.mem_of_getElem? (l := tables_1_3) (i := 61) (by decide +kernel)))))) rfl
set_option maxRecDepth 100000 in
theorem zl_697 : Cond.methodLink "RiverDiggersLaw" 46 yX9_farm ∈ zi_G := zi_inG (List.mem_append_right _ (List.mem_append_right _ (List.mem_append_right _ (List.mem_append_right _ (List.mem_append_right _ (List.mem_append_left _ (List.mem_of_getElem? (l := tables_1_5) (i := 144) (by decide +kernel)))))))) rfl
set_option maxRecDepth 100000 in
theorem zl_698 : Cond.instanceMethod yX9_farm ∈ zi_G := zi_inG (List.mem_append_right _ (List.mem_append_right _ (List.mem_append_right _ (List.mem_append_right _ (List.mem_append_right _ (List.mem_append_left _ (List.mem_of_getElem? (l := tables_1_5) (i := 145) (by decide +kernel)))))))) rfl
set_option maxRecDepth 100000 in
theorem zl_699 : Cond.selects "RiverDiggersModel" yX9_farm yX9_farm ∈ zi_G := zi_inG (List.mem_append_right _ (List.mem_append_right _ (List.mem_append_right _ (List.mem_append_right _ (List.mem_append_right _ (List.mem_append_left _ (List.mem_of_getElem? (l := tables_1_5) (i := 146) (by decide +kernel)))))))) rfl
set_option maxRecDepth 100000 in
theorem zl_700 : Cond.methodLink "RiverDiggersLaw" 43 yX8_farm ∈ zi_G := zi_inG (List.mem_append_right _ (List.mem_append_right _ (List.mem_append_right _ (List.mem_append_left _ (List.mem_of_getElem? (l := tables_1_3) (i := 72) (by decide +kernel)))))) rfl
set_option maxRecDepth 100000 in
theorem zl_701 : Cond.instanceMethod yX8_farm ∈ zi_G := zi_inG (List.mem_append_right _ (List.mem_append_right _ (List.mem_append_right _ (List.mem_append_left _ (List.mem_of_getElem? (l := tables_1_3) (i := 73) (by decide +kernel)))))) rfl
set_option maxRecDepth 100000 in
theorem zl_702 : Cond.selects "RiverDiggers" yX8_farm yX8_farm ∈ zi_G := zi_inG (List.mem_append_right _ (List.mem_append_right _ (List.mem_append_right _ (List.mem_append_left _ (List.mem_of_getElem? (l := tables_1_3) (i := 74) (by decide +kernel)))))) rfl
set_option maxRecDepth 100000 in
theorem zl_703 : Cond.methodLink "RiverDiggersLaw" 50 yX9_bed ∈ zi_G := zi_inG (List.mem_append_right _ (List.mem_append_right _ (List.mem_append_right _ (List.mem_append_right _ (List.mem_append_right _ (List.mem_append_left _ (List.mem_of_getElem? (l := tables_1_5) (i := 184) (by decide +kernel)))))))) rfl
set_option maxRecDepth 100000 in
theorem zl_704 : Cond.instanceMethod yX9_bed ∈ zi_G := zi_inG (List.mem_append_right _ (List.mem_append_right _ (List.mem_append_right _ (List.mem_append_right _ (List.mem_append_right _ (List.mem_append_left _ (List.mem_of_getElem? (l := tables_1_5) (i := 185) (by decide +kernel)))))))) rfl
set_option maxRecDepth 100000 in
theorem zl_705 : Cond.selects "RiverDiggersModel" yX9_bed yX9_bed ∈ zi_G := zi_inG (List.mem_append_right _ (List.mem_append_right _ (List.mem_append_right _ (List.mem_append_right _ (List.mem_append_right _ (List.mem_append_left _ (List.mem_of_getElem? (l := tables_1_5) (i := 186) (by decide +kernel)))))))) rfl
set_option maxRecDepth 100000 in
theorem zl_706 : Cond.methodLink "RiverDiggersLaw" 47 yX8_bed ∈ zi_G := zi_inG (List.mem_append_right _ (List.mem_append_right _ (List.mem_append_right _ (List.mem_append_left _ (List.mem_of_getElem? (l := tables_1_3) (i := 95) (by decide +kernel)))))) rfl
set_option maxRecDepth 100000 in
theorem zl_707 : Cond.instanceMethod yX8_bed ∈ zi_G := zi_inG (List.mem_append_right _ (List.mem_append_right _ (List.mem_append_right _ (List.mem_append_left _ (List.mem_of_getElem? (l := tables_1_3) (i := 96) (by decide +kernel)))))) rfl
set_option maxRecDepth 100000 in
theorem zl_708 : Cond.selects "RiverDiggers" yX8_bed yX8_bed ∈ zi_G := zi_inG (List.mem_append_right _ (List.mem_append_right _ (List.mem_append_right _ (List.mem_append_left _ (List.mem_of_getElem? (l := tables_1_3) (i := 97) (by decide +kernel)))))) rfl
set_option maxRecDepth 100000 in
theorem zl_709 : Cond.methodLink "RiverDiggersLaw" 54 yX9_dam ∈ zi_G := zi_inG (List.mem_append_right _ (List.mem_append_right _ (List.mem_append_right _ (List.mem_append_right _ (List.mem_append_right _ (List.mem_append_left _ (List.mem_of_getElem? (l := tables_1_5) (i := 188) (by decide +kernel)))))))) rfl
set_option maxRecDepth 100000 in
theorem zl_710 : Cond.instanceMethod yX9_dam ∈ zi_G := zi_inG (List.mem_append_right _ (List.mem_append_right _ (List.mem_append_right _ (List.mem_append_right _ (List.mem_append_right _ (List.mem_append_left _ (List.mem_of_getElem? (l := tables_1_5) (i := 189) (by decide +kernel)))))))) rfl
set_option maxRecDepth 100000 in
theorem zl_711 : Cond.selects "RiverDiggersModel" yX9_dam yX9_dam ∈ zi_G := zi_inG (List.mem_append_right _ (List.mem_append_right _ (List.mem_append_right _ (List.mem_append_right _ (List.mem_append_right _ (List.mem_append_left _ (List.mem_of_getElem? (l := tables_1_5) (i := 190) (by decide +kernel)))))))) rfl
set_option maxRecDepth 100000 in
theorem zl_712 : Cond.methodLink "RiverDiggersLaw" 51 yX8_dam ∈ zi_G := zi_inG (List.mem_append_right _ (List.mem_append_right _ (List.mem_append_right _ (List.mem_append_left _ (List.mem_of_getElem? (l := tables_1_3) (i := 99) (by decide +kernel)))))) rfl
set_option maxRecDepth 100000 in
theorem zl_713 : Cond.instanceMethod yX8_dam ∈ zi_G := zi_inG (List.mem_append_right _ (List.mem_append_right _ (List.mem_append_right _ (List.mem_append_left _ (List.mem_of_getElem? (l := tables_1_3) (i := 100) (by decide +kernel)))))) rfl
set_option maxRecDepth 100000 in
theorem zl_714 : Cond.selects "RiverDiggers" yX8_dam yX8_dam ∈ zi_G := zi_inG (List.mem_append_right _ (List.mem_append_right _ (List.mem_append_right _ (List.mem_append_left _ (List.mem_of_getElem? (l := tables_1_3) (i := 101) (by decide +kernel)))))) rfl
set_option maxRecDepth 100000 in
theorem zl_715 : Cond.methodLink "RiverDiggersLaw" 58 yX9_move ∈ zi_G := zi_inG (List.mem_append_right _ (List.mem_append_right _ (List.mem_append_right _ (List.mem_append_right _ (List.mem_append_right _ (List.mem_append_left _ (List.mem_of_getElem? (l := tables_1_5) (i := 197) (by decide +kernel)))))))) rfl
set_option maxRecDepth 100000 in
theorem zl_716 : Cond.instanceMethod yX9_move ∈ zi_G := zi_inG (List.mem_append_right _ (List.mem_append_right _ (List.mem_append_right _ (List.mem_append_right _ (List.mem_append_right _ (List.mem_append_left _ (List.mem_of_getElem? (l := tables_1_5) (i := 198) (by decide +kernel)))))))) rfl
set_option maxRecDepth 100000 in
theorem zl_717 : Cond.selects "RiverDiggersModel" yX9_move yX9_move ∈ zi_G := zi_inG (List.mem_append_right _ (List.mem_append_right _ (List.mem_append_right _ (List.mem_append_right _ (List.mem_append_right _ (List.mem_append_left _ (List.mem_of_getElem? (l := tables_1_5) (i := 199) (by decide +kernel)))))))) rfl
set_option maxRecDepth 100000 in
theorem zl_718 : Cond.methodLink "RiverDiggersLaw" 55 yX8_move ∈ zi_G := zi_inG (List.mem_append_right _ (List.mem_append_right _ (List.mem_append_right _ (List.mem_append_left _ (List.mem_of_getElem? (l := tables_1_3) (i := 108) (by decide +kernel)))))) rfl
set_option maxRecDepth 100000 in
theorem zl_719 : Cond.instanceMethod yX8_move ∈ zi_G := zi_inG (List.mem_append_right _ (List.mem_append_right _ (List.mem_append_right _ (List.mem_append_left _ (List.mem_of_getElem? (l := tables_1_3) (i := 109) (by decide +kernel)))))) rfl
set_option maxRecDepth 100000 in
theorem zl_720 : Cond.selects "RiverDiggers" yX8_move yX8_move ∈ zi_G := zi_inG (List.mem_append_right _ (List.mem_append_right _ (List.mem_append_right _ (List.mem_append_left _ (List.mem_of_getElem? (l := tables_1_3) (i := 110) (by decide +kernel)))))) rfl
set_option maxRecDepth 100000 in
theorem zl_721 : Cond.methodLink "RiverDiggersLaw" 62 yX9_law ∈ zi_G := zi_inG (List.mem_append_right _ (List.mem_append_right _ (List.mem_append_right _ (List.mem_append_right _ (List.mem_append_right _ (List.mem_append_left _ (List.mem_of_getElem? (l := tables_1_5) (i := 201) (by decide +kernel)))))))) rfl
set_option maxRecDepth 100000 in
theorem zl_722 : Cond.instanceMethod yX9_law ∈ zi_G := zi_inG (List.mem_append_right _ (List.mem_append_right _ (List.mem_append_right _ (List.mem_append_right _ (List.mem_append_right _ (List.mem_append_left _ (List.mem_of_getElem? (l := tables_1_5) (i := 202) (by decide +kernel)))))))) rfl
set_option maxRecDepth 100000 in
theorem zl_723 : Cond.selects "RiverDiggersModel" yX9_law yX9_law ∈ zi_G := zi_inG (List.mem_append_right _ (List.mem_append_right _ (List.mem_append_right _ (List.mem_append_right _ (List.mem_append_right _ (List.mem_append_left _ (List.mem_of_getElem? (l := tables_1_5) (i := 203) (by decide +kernel)))))))) rfl
set_option maxRecDepth 100000 in
theorem zl_724 : Cond.methodLink "RiverDiggersLaw" 59 yX8_law ∈ zi_G := zi_inG (List.mem_append_right _ (List.mem_append_right _ (List.mem_append_right _ (List.mem_append_left _ (List.mem_of_getElem? (l := tables_1_3) (i := 112) (by decide +kernel)))))) rfl
set_option maxRecDepth 100000 in
theorem zl_725 : Cond.instanceMethod yX8_law ∈ zi_G := zi_inG (List.mem_append_right _ (List.mem_append_right _ (List.mem_append_right _ (List.mem_append_left _ (List.mem_of_getElem? (l := tables_1_3) (i := 113) (by decide +kernel)))))) rfl
set_option maxRecDepth 100000 in
theorem zl_726 : Cond.selects "RiverDiggers" yX8_law yX8_law ∈ zi_G := zi_inG (List.mem_append_right _ (List.mem_append_right _ (List.mem_append_right _ (List.mem_append_left _ (List.mem_of_getElem? (l := tables_1_3) (i := 114) (by decide +kernel)))))) rfl
set_option maxRecDepth 100000 in
theorem zl_727 : Cond.methodLink "RiverDiggersLaw" 63 yX8_silt ∈ zi_G := zi_inG (List.mem_append_right _ (List.mem_append_right _ (List.mem_append_right _ (List.mem_append_left _ (List.mem_of_getElem? (l := tables_1_3) (i := 116) (by decide +kernel)))))) rfl
set_option maxRecDepth 100000 in
theorem zl_728 : Cond.instanceMethod yX8_silt ∈ zi_G := zi_inG (List.mem_append_right _ (List.mem_append_right _ (List.mem_append_right _ (List.mem_append_left _ (List.mem_of_getElem? (l := tables_1_3) (i := 117) (by decide +kernel)))))) rfl
set_option maxRecDepth 100000 in
theorem zl_729 : Cond.selects "RiverDiggers" yX8_silt yX8_silt ∈ zi_G := zi_inG (List.mem_append_right _ (List.mem_append_right _ (List.mem_append_right _ (List.mem_append_left _ (List.mem_of_getElem? (l := tables_1_3) (i := 118) (by decide +kernel)))))) rfl
set_option maxRecDepth 100000 in
theorem zl_730 : Cond.methodLink "RiverDiggersLaw" 67 yX9_silt ∈ zi_G := zi_inG (List.mem_append_right _ (List.mem_append_right _ (List.mem_append_right _ (List.mem_append_right _ (List.mem_append_right _ (List.mem_append_left _ (List.mem_of_getElem? (l := tables_1_5) (i := 206) (by decide +kernel)))))))) rfl
set_option maxRecDepth 100000 in
theorem zl_731 : Cond.instanceMethod yX9_silt ∈ zi_G := zi_inG (List.mem_append_right _ (List.mem_append_right _ (List.mem_append_right _ (List.mem_append_right _ (List.mem_append_right _ (List.mem_append_left _ (List.mem_of_getElem? (l := tables_1_5) (i := 207) (by decide +kernel)))))))) rfl
set_option maxRecDepth 100000 in
theorem zl_732 : Cond.selects "RiverDiggersModel" yX9_silt yX9_silt ∈ zi_G := zi_inG (List.mem_append_right _ (List.mem_append_right _ (List.mem_append_right _ (List.mem_append_right _ (List.mem_append_right _ (List.mem_append_left _ (List.mem_of_getElem? (l := tables_1_5) (i := 208) (by decide +kernel)))))))) rfl
set_option maxRecDepth 100000 in
theorem zl_733 : Cond.methodLink "RiverDiggersLaw" 71 yX9_price ∈ zi_G := zi_inG (List.mem_append_right _ (List.mem_append_right _ (List.mem_append_right _ (List.mem_append_right _ (List.mem_append_right _ (List.mem_append_left _ (List.mem_of_getElem? (l := tables_1_5) (i := 210) (by decide +kernel)))))))) rfl
set_option maxRecDepth 100000 in
theorem zl_734 : Cond.instanceMethod yX9_price ∈ zi_G := zi_inG (List.mem_append_right _ (List.mem_append_right _ (List.mem_append_right _ (List.mem_append_right _ (List.mem_append_right _ (List.mem_append_left _ (List.mem_of_getElem? (l := tables_1_5) (i := 211) (by decide +kernel)))))))) rfl
set_option maxRecDepth 100000 in
theorem zl_735 : Cond.selects "RiverDiggersModel" yX9_price yX9_price ∈ zi_G := zi_inG (List.mem_append_right _ (List.mem_append_right _ (List.mem_append_right _ (List.mem_append_right _ (List.mem_append_right _ (List.mem_append_left _ (List.mem_of_getElem? (l := tables_1_5) (i := 212) (by decide +kernel)))))))) rfl
set_option maxRecDepth 100000 in
theorem zl_736 : Cond.methodLink "RiverDiggersLaw" 68 yX8_price ∈ zi_G := zi_inG (List.mem_append_right _ (List.mem_append_right _ (List.mem_append_right _ (List.mem_append_left _ (List.mem_of_getElem? (l := tables_1_3) (i := 120) (by decide +kernel)))))) rfl
set_option maxRecDepth 100000 in
theorem zl_737 : Cond.instanceMethod yX8_price ∈ zi_G := zi_inG (List.mem_append_right _ (List.mem_append_right _ (List.mem_append_right _ (List.mem_append_left _ (List.mem_of_getElem? (l := tables_1_3) (i := 121) (by decide +kernel)))))) rfl
set_option maxRecDepth 100000 in
theorem zl_738 : Cond.selects "RiverDiggers" yX8_price yX8_price ∈ zi_G := zi_inG (List.mem_append_right _ (List.mem_append_right _ (List.mem_append_right _ (List.mem_append_left _ (List.mem_of_getElem? (l := tables_1_3) (i := 122) (by decide +kernel)))))) rfl
set_option maxRecDepth 100000 in
theorem zl_739 : Cond.methodLink "RiverDiggersLaw" 75 yX9_year ∈ zi_G := zi_inG (List.mem_append_right _ (List.mem_append_right _ (List.mem_append_right _ (List.mem_append_right _ (List.mem_append_right _ (List.mem_append_left _ (List.mem_of_getElem? (l := tables_1_5) (i := 215) (by decide +kernel)))))))) rfl
set_option maxRecDepth 100000 in
theorem zl_740 : Cond.methodLink "RiverDiggersLaw" 72 yX8_year ∈ zi_G := zi_inG (List.mem_append_right _ (List.mem_append_right _ (List.mem_append_right _ (List.mem_append_left _ (List.mem_of_getElem? (l := tables_1_3) (i := 124) (by decide +kernel)))))) rfl
set_option maxRecDepth 100000 in
theorem zl_741 : Cond.instanceMethod yX8_year ∈ zi_G := zi_inG (List.mem_append_right _ (List.mem_append_right _ (List.mem_append_right _ (List.mem_append_left _ (List.mem_of_getElem? (l := tables_1_3) (i := 125) (by decide +kernel)))))) rfl
set_option maxRecDepth 100000 in
theorem zl_742 : Cond.selects "RiverDiggers" yX8_year yX8_year ∈ zi_G := zi_inG (List.mem_append_right _ (List.mem_append_right _ (List.mem_append_right _ (List.mem_append_left _ (List.mem_of_getElem? (l := tables_1_3) (i := 126) (by decide +kernel)))))) rfl
set_option maxRecDepth 100000 in
theorem zl_743 : Cond.methodLink "RiverDiggersLaw" 79 yX9_would ∈ zi_G := zi_inG (List.mem_append_right _ (List.mem_append_right _ (List.mem_append_right _ (List.mem_append_right _ (List.mem_append_right _ (List.mem_append_right _ (List.mem_of_getElem? (l := tables_1_6) (i := 2) (by decide +kernel)))))))) rfl
set_option maxRecDepth 100000 in
theorem zl_744 : Cond.instanceMethod yX9_would ∈ zi_G := zi_inG (List.mem_append_right _ (List.mem_append_right _ (List.mem_append_right _ (List.mem_append_right _ (List.mem_append_right _ (List.mem_append_right _ (List.mem_of_getElem? (l := tables_1_6) (i := 3) (by decide +kernel)))))))) rfl
set_option maxRecDepth 100000 in
theorem zl_745 : Cond.selects "RiverDiggersModel" yX9_would yX9_would ∈ zi_G := zi_inG (List.mem_append_right _ (List.mem_append_right _ (List.mem_append_right _ (List.mem_append_right _ (List.mem_append_right _ (List.mem_append_right _ (List.mem_of_getElem? (l := tables_1_6) (i := 4) (by decide +kernel)))))))) rfl
set_option maxRecDepth 100000 in
theorem zl_746 : Cond.methodLink "RiverDiggersLaw" 76 yX8_would ∈ zi_G := zi_inG (List.mem_append_right _ (List.mem_append_right _ (List.mem_append_right _ (List.mem_append_left _ (List.mem_of_getElem? (l := tables_1_3) (i := 151) (by decide +kernel)))))) rfl
set_option maxRecDepth 100000 in
theorem zl_747 : Cond.instanceMethod yX8_would ∈ zi_G := zi_inG (List.mem_append_right _ (List.mem_append_right _ (List.mem_append_right _ (List.mem_append_left _ (List.mem_of_getElem? (l := tables_1_3) (i := 152) (by decide +kernel)))))) rfl
set_option maxRecDepth 100000 in
theorem zl_748 : Cond.selects "RiverDiggers" yX8_would yX8_would ∈ zi_G := zi_inG (List.mem_append_right _ (List.mem_append_right _ (List.mem_append_right _ (List.mem_append_left _ (List.mem_of_getElem? (l := tables_1_3) (i := 153) (by decide +kernel)))))) rfl
set_option maxRecDepth 100000 in
theorem zl_749 : Cond.methodLink "RiverDiggersLaw" 83 yX9_tell ∈ zi_G := zi_inG (List.mem_append_right _ (List.mem_append_right _ (List.mem_append_right _ (List.mem_append_right _ (List.mem_append_right _ (List.mem_append_right _ (List.mem_of_getElem? (l := tables_1_6) (i := 18) (by decide +kernel)))))))) rfl
set_option maxRecDepth 100000 in
theorem zl_750 : Cond.instanceMethod yX9_tell ∈ zi_G := zi_inG (List.mem_append_right _ (List.mem_append_right _ (List.mem_append_right _ (List.mem_append_right _ (List.mem_append_right _ (List.mem_append_right _ (List.mem_of_getElem? (l := tables_1_6) (i := 19) (by decide +kernel)))))))) rfl
set_option maxRecDepth 100000 in
theorem zl_751 : Cond.selects "RiverDiggersModel" yX9_tell yX9_tell ∈ zi_G := zi_inG (List.mem_append_right _ (List.mem_append_right _ (List.mem_append_right _ (List.mem_append_right _ (List.mem_append_right _ (List.mem_append_right _ (List.mem_of_getElem? (l := tables_1_6) (i := 20) (by decide +kernel)))))))) rfl
set_option maxRecDepth 100000 in
theorem zl_752 : Cond.methodLink "RiverDiggersLaw" 80 yX8_tell ∈ zi_G := zi_inG (List.mem_append_right _ (List.mem_append_right _ (List.mem_append_right _ (List.mem_append_left _ (List.mem_of_getElem? (l := tables_1_3) (i := 160) (by decide +kernel)))))) rfl
set_option maxRecDepth 100000 in
theorem zl_753 : Cond.instanceMethod yX8_tell ∈ zi_G := zi_inG (List.mem_append_right _ (List.mem_append_right _ (List.mem_append_right _ (List.mem_append_left _ (List.mem_of_getElem? (l := tables_1_3) (i := 161) (by decide +kernel)))))) rfl
set_option maxRecDepth 100000 in
theorem zl_754 : Cond.selects "RiverDiggers" yX8_tell yX8_tell ∈ zi_G := zi_inG (List.mem_append_right _ (List.mem_append_right _ (List.mem_append_right _ (List.mem_append_left _ (List.mem_of_getElem? (l := tables_1_3) (i := 162) (by decide +kernel)))))) rfl
set_option maxRecDepth 100000 in
theorem zl_755 : Cond.methodLink "RiverDiggersLaw" 87 yX9_drop ∈ zi_G := zi_inG (List.mem_append_right _ (List.mem_append_right _ (List.mem_append_right _ (List.mem_append_right _ (List.mem_append_right _ (List.mem_append_right _ (List.mem_of_getElem? (l := tables_1_6) (i := 22) (by decide +kernel)))))))) rfl
set_option maxRecDepth 100000 in
theorem zl_756 : Cond.instanceMethod yX9_drop ∈ zi_G := zi_inG (List.mem_append_right _ (List.mem_append_right _ (List.mem_append_right _ (List.mem_append_right _ (List.mem_append_right _ (List.mem_append_right _ (List.mem_of_getElem? (l := tables_1_6) (i := 23) (by decide +kernel)))))))) rfl
set_option maxRecDepth 100000 in
theorem zl_757 : Cond.selects "RiverDiggersModel" yX9_drop yX9_drop ∈ zi_G := zi_inG (List.mem_append_right _ (List.mem_append_right _ (List.mem_append_right _ (List.mem_append_right _ (List.mem_append_right _ (List.mem_append_right _ (List.mem_of_getElem? (l := tables_1_6) (i := 24) (by decide +kernel)))))))) rfl
set_option maxRecDepth 100000 in
theorem zl_758 : Cond.methodLink "RiverDiggersLaw" 84 yX8_drop ∈ zi_G := zi_inG (List.mem_append_right _ (List.mem_append_right _ (List.mem_append_right _ (List.mem_append_left _ (List.mem_of_getElem? (l := tables_1_3) (i := 164) (by decide +kernel)))))) rfl
set_option maxRecDepth 100000 in
theorem zl_759 : Cond.instanceMethod yX8_drop ∈ zi_G := zi_inG (List.mem_append_right _ (List.mem_append_right _ (List.mem_append_right _ (List.mem_append_left _ (List.mem_of_getElem? (l := tables_1_3) (i := 165) (by decide +kernel)))))) rfl
set_option maxRecDepth 100000 in
theorem zl_760 : Cond.selects "RiverDiggers" yX8_drop yX8_drop ∈ zi_G := zi_inG (List.mem_append_right _ (List.mem_append_right _ (List.mem_append_right _ (List.mem_append_left _ (List.mem_of_getElem? (l := tables_1_3) (i := 166) (by decide +kernel)))))) rfl
set_option maxRecDepth 100000 in
theorem zl_761 : Cond.methodLink "RiverDiggersLaw" 91 yX9_judge ∈ zi_G := zi_inG (List.mem_append_right _ (List.mem_append_right _ (List.mem_append_right _ (List.mem_append_right _ (List.mem_append_right _ (List.mem_append_right _ (List.mem_of_getElem? (l := tables_1_6) (i := 26) (by decide +kernel)))))))) rfl
set_option maxRecDepth 100000 in
theorem zl_762 : Cond.instanceMethod yX9_judge ∈ zi_G := zi_inG (List.mem_append_right _ (List.mem_append_right _ (List.mem_append_right _ (List.mem_append_right _ (List.mem_append_right _ (List.mem_append_right _ (List.mem_of_getElem? (l := tables_1_6) (i := 27) (by decide +kernel)))))))) rfl
set_option maxRecDepth 100000 in
theorem zl_763 : Cond.selects "RiverDiggersModel" yX9_judge yX9_judge ∈ zi_G := zi_inG (List.mem_append_right _ (List.mem_append_right _ (List.mem_append_right _ (List.mem_append_right _ (List.mem_append_right _ (List.mem_append_right _ (List.mem_of_getElem? (l := tables_1_6) (i := 28) (by decide +kernel)))))))) rfl
set_option maxRecDepth 100000 in
theorem zl_764 : Cond.methodLink "RiverDiggersLaw" 88 yX8_judge ∈ zi_G := zi_inG (List.mem_append_right _ (List.mem_append_right _ (List.mem_append_right _ (List.mem_append_left _ (List.mem_of_getElem? (l := tables_1_3) (i := 168) (by decide +kernel)))))) rfl
set_option maxRecDepth 100000 in
theorem zl_765 : Cond.instanceMethod yX8_judge ∈ zi_G := zi_inG (List.mem_append_right _ (List.mem_append_right _ (List.mem_append_right _ (List.mem_append_left _ (List.mem_of_getElem? (l := tables_1_3) (i := 169) (by decide +kernel)))))) rfl
set_option maxRecDepth 100000 in
theorem zl_766 : Cond.selects "RiverDiggers" yX8_judge yX8_judge ∈ zi_G := zi_inG (List.mem_append_right _ (List.mem_append_right _ (List.mem_append_right _ (List.mem_append_left _ (List.mem_of_getElem? (l := tables_1_3) (i := 170) (by decide +kernel)))))) rfl
set_option maxRecDepth 100000 in
theorem zl_767 : Cond.methodLink "RiverDiggersLaw" 96 yX9_alone ∈ zi_G := zi_inG (List.mem_append_right _ (List.mem_append_right _ (List.mem_append_right _ (List.mem_append_right _ (List.mem_append_right _ (List.mem_append_right _ (List.mem_of_getElem? (l := tables_1_6) (i := 30) (by decide +kernel)))))))) rfl
set_option maxRecDepth 100000 in
theorem zl_768 : Cond.instanceMethod yX9_alone ∈ zi_G := zi_inG (List.mem_append_right _ (List.mem_append_right _ (List.mem_append_right _ (List.mem_append_right _ (List.mem_append_right _ (List.mem_append_right _ (List.mem_of_getElem? (l := tables_1_6) (i := 31) (by decide +kernel)))))))) rfl
set_option maxRecDepth 100000 in
theorem zl_769 : Cond.selects "RiverDiggersModel" yX9_alone yX9_alone ∈ zi_G := zi_inG (List.mem_append_right _ (List.mem_append_right _ (List.mem_append_right _ (List.mem_append_right _ (List.mem_append_right _ (List.mem_append_right _ (List.mem_of_getElem? (l := tables_1_6) (i := 32) (by decide +kernel)))))))) rfl
set_option maxRecDepth 100000 in
theorem zl_770 : Cond.methodLink "RiverDiggersLaw" 92 yX8_alone ∈ zi_G := zi_inG (List.mem_append_right _ (List.mem_append_right _ (List.mem_append_right _ (List.mem_append_left _ (List.mem_of_getElem? (l := tables_1_3) (i := 172) (by decide +kernel)))))) rfl
set_option maxRecDepth 100000 in
theorem zl_771 : Cond.instanceMethod yX8_alone ∈ zi_G := zi_inG (List.mem_append_right _ (List.mem_append_right _ (List.mem_append_right _ (List.mem_append_left _ (List.mem_of_getElem? (l := tables_1_3) (i := 173) (by decide +kernel)))))) rfl
set_option maxRecDepth 100000 in
theorem zl_772 : Cond.selects "RiverDiggers" yX8_alone yX8_alone ∈ zi_G := zi_inG (List.mem_append_right _ (List.mem_append_right _ (List.mem_append_right _ (List.mem_append_left _ (List.mem_of_getElem? (l := tables_1_3) (i := 174) (by decide +kernel)))))) rfl
set_option maxRecDepth 100000 in
theorem zl_773 : Cond.methodLink "RiverDiggersLaw" 100 yX9_together ∈ zi_G := zi_inG (List.mem_append_right _ (List.mem_append_right _ (List.mem_append_right _ (List.mem_append_right _ (List.mem_append_right _ (List.mem_append_right _ (List.mem_of_getElem? (l := tables_1_6) (i := 51) (by decide +kernel)))))))) rfl
set_option maxRecDepth 100000 in
theorem zl_774 : Cond.instanceMethod yX9_together ∈ zi_G := zi_inG (List.mem_append_right _ (List.mem_append_right _ (List.mem_append_right _ (List.mem_append_right _ (List.mem_append_right _ (List.mem_append_right _ (List.mem_of_getElem? (l := tables_1_6) (i := 52) (by decide +kernel)))))))) rfl
set_option maxRecDepth 100000 in
theorem zl_775 : Cond.selects "RiverDiggersModel" yX9_together yX9_together ∈ zi_G := zi_inG (List.mem_append_right _ (List.mem_append_right _ (List.mem_append_right _ (List.mem_append_right _ (List.mem_append_right _ (List.mem_append_right _ (List.mem_of_getElem? (l := tables_1_6) (i := 53) (by decide +kernel)))))))) rfl
set_option maxRecDepth 100000 in
theorem zl_776 : Cond.methodLink "RiverDiggersLaw" 97 yX8_together ∈ zi_G := zi_inG (List.mem_append_right _ (List.mem_append_right _ (List.mem_append_right _ (List.mem_append_left _ (List.mem_of_getElem? (l := tables_1_3) (i := 195) (by decide +kernel)))))) rfl
set_option maxRecDepth 100000 in
theorem zl_777 : Cond.instanceMethod yX8_together ∈ zi_G := zi_inG (List.mem_append_right _ (List.mem_append_right _ (List.mem_append_right _ (List.mem_append_left _ (List.mem_of_getElem? (l := tables_1_3) (i := 196) (by decide +kernel)))))) rfl
set_option maxRecDepth 100000 in
theorem zl_778 : Cond.selects "RiverDiggers" yX8_together yX8_together ∈ zi_G := zi_inG (List.mem_append_right _ (List.mem_append_right _ (List.mem_append_right _ (List.mem_append_left _ (List.mem_of_getElem? (l := tables_1_3) (i := 197) (by decide +kernel)))))) rfl
set_option maxRecDepth 100000 in
theorem zl_779 : Cond.methodLink "RiverDiggersLaw" 104 yX9_selfish ∈ zi_G := zi_inG (List.mem_append_right _ (List.mem_append_right _ (List.mem_append_right _ (List.mem_append_right _ (List.mem_append_right _ (List.mem_append_right _ (List.mem_of_getElem? (l := tables_1_6) (i := 78) (by decide +kernel)))))))) rfl
set_option maxRecDepth 100000 in
theorem zl_780 : Cond.instanceMethod yX9_selfish ∈ zi_G := zi_inG (List.mem_append_right _ (List.mem_append_right _ (List.mem_append_right _ (List.mem_append_right _ (List.mem_append_right _ (List.mem_append_right _ (List.mem_of_getElem? (l := tables_1_6) (i := 79) (by decide +kernel)))))))) rfl
set_option maxRecDepth 100000 in
theorem zl_781 : Cond.selects "RiverDiggersModel" yX9_selfish yX9_selfish ∈ zi_G := zi_inG (List.mem_append_right _ (List.mem_append_right _ (List.mem_append_right _ (List.mem_append_right _ (List.mem_append_right _ (List.mem_append_right _ (List.mem_of_getElem? (l := tables_1_6) (i := 80) (by decide +kernel)))))))) rfl
set_option maxRecDepth 100000 in
theorem zl_782 : Cond.methodLink "RiverDiggersLaw" 101 yX8_selfish ∈ zi_G := zi_inG (List.mem_append_right _ (List.mem_append_right _ (List.mem_append_right _ (List.mem_append_left _ (List.mem_of_getElem? (l := tables_1_3) (i := 222) (by decide +kernel)))))) rfl
set_option maxRecDepth 100000 in
theorem zl_783 : Cond.instanceMethod yX8_selfish ∈ zi_G := zi_inG (List.mem_append_right _ (List.mem_append_right _ (List.mem_append_right _ (List.mem_append_left _ (List.mem_of_getElem? (l := tables_1_3) (i := 223) (by decide +kernel)))))) rfl
set_option maxRecDepth 100000 in
theorem zl_784 : Cond.selects "RiverDiggers" yX8_selfish yX8_selfish ∈ zi_G := zi_inG (List.mem_append_right _ (List.mem_append_right _ (List.mem_append_right _ (List.mem_append_left _ (List.mem_of_getElem? (l := tables_1_3) (i := 224) (by decide +kernel)))))) rfl
set_option maxRecDepth 100000 in
theorem zl_785 : Cond.methodLink "RiverDiggersLaw" 108 yX9_rests ∈ zi_G := zi_inG (List.mem_append_right _ (List.mem_append_right _ (List.mem_append_right _ (List.mem_append_right _ (List.mem_append_right _ (List.mem_append_right _ (List.mem_of_getElem? (l := tables_1_6) (i := 94) (by decide +kernel)))))))) rfl
set_option maxRecDepth 100000 in
theorem zl_786 : Cond.instanceMethod yX9_rests ∈ zi_G := zi_inG (List.mem_append_right _ (List.mem_append_right _ (List.mem_append_right _ (List.mem_append_right _ (List.mem_append_right _ (List.mem_append_right _ (List.mem_of_getElem? (l := tables_1_6) (i := 95) (by decide +kernel)))))))) rfl
set_option maxRecDepth 100000 in
theorem zl_787 : Cond.selects "RiverDiggersModel" yX9_rests yX9_rests ∈ zi_G := zi_inG (List.mem_append_right _ (List.mem_append_right _ (List.mem_append_right _ (List.mem_append_right _ (List.mem_append_right _ (List.mem_append_right _ (List.mem_of_getElem? (l := tables_1_6) (i := 96) (by decide +kernel)))))))) rfl
set_option maxRecDepth 100000 in
theorem zl_788 : Cond.methodLink "RiverDiggersLaw" 105 yX8_rests ∈ zi_G := zi_inG (List.mem_append_right _ (List.mem_append_right _ (List.mem_append_right _ (List.mem_append_left _ (List.mem_of_getElem? (l := tables_1_3) (i := 232) (by decide +kernel)))))) rfl
set_option maxRecDepth 100000 in
theorem zl_789 : Cond.instanceMethod yX8_rests ∈ zi_G := zi_inG (List.mem_append_right _ (List.mem_append_right _ (List.mem_append_right _ (List.mem_append_left _ (List.mem_of_getElem? (l := tables_1_3) (i := 233) (by decide +kernel)))))) rfl
set_option maxRecDepth 100000 in
theorem zl_790 : Cond.selects "RiverDiggers" yX8_rests yX8_rests ∈ zi_G := zi_inG (List.mem_append_right _ (List.mem_append_right _ (List.mem_append_right _ (List.mem_append_left _ (List.mem_of_getElem? (l := tables_1_3) (i := 234) (by decide +kernel)))))) rfl
set_option maxRecDepth 100000 in
theorem zl_791 : Cond.methodLink "RiverDiggersLaw" 112 yX9_breaks ∈ zi_G := zi_inG (List.mem_append_right _ (List.mem_append_right _ (List.mem_append_right _ (List.mem_append_right _ (List.mem_append_right _ (List.mem_append_right _ (List.mem_of_getElem? (l := tables_1_6) (i := 102) (by decide +kernel)))))))) rfl
set_option maxRecDepth 100000 in
theorem zl_792 : Cond.instanceMethod yX9_breaks ∈ zi_G := zi_inG (List.mem_append_right _ (List.mem_append_right _ (List.mem_append_right _ (List.mem_append_right _ (List.mem_append_right _ (List.mem_append_right _ (List.mem_of_getElem? (l := tables_1_6) (i := 103) (by decide +kernel)))))))) rfl
set_option maxRecDepth 100000 in
theorem zl_793 : Cond.selects "RiverDiggersModel" yX9_breaks yX9_breaks ∈ zi_G := zi_inG (List.mem_append_right _ (List.mem_append_right _ (List.mem_append_right _ (List.mem_append_right _ (List.mem_append_right _ (List.mem_append_right _ (List.mem_of_getElem? (l := tables_1_6) (i := 104) (by decide +kernel)))))))) rfl
set_option maxRecDepth 100000 in
theorem zl_794 : Cond.methodLink "RiverDiggersLaw" 109 yX8_breaks ∈ zi_G := zi_inG (List.mem_append_right _ (List.mem_append_right _ (List.mem_append_right _ (List.mem_append_right _ (List.mem_append_left _ (List.mem_of_getElem? (l := tables_1_4) (i := 5) (by decide +kernel))))))) rfl
set_option maxRecDepth 100000 in
theorem zl_795 : Cond.instanceMethod yX8_breaks ∈ zi_G := zi_inG (List.mem_append_right _ (List.mem_append_right _ (List.mem_append_right _ (List.mem_append_right _ (List.mem_append_left _ (List.mem_of_getElem? (l := tables_1_4) (i := 6) (by decide +kernel))))))) rfl
set_option maxRecDepth 100000 in
theorem zl_796 : Cond.selects "RiverDiggers" yX8_breaks yX8_breaks ∈ zi_G := zi_inG (List.mem_append_right _ (List.mem_append_right _ (List.mem_append_right _ (List.mem_append_right _ (List.mem_append_left _ (List.mem_of_getElem? (l := tables_1_4) (i := 7) (by decide +kernel))))))) rfl
set_option maxRecDepth 100000 in
theorem zl_797 : Cond.methodLink "RiverDiggersLaw" 116 yX9_stands ∈ zi_G := zi_inG (List.mem_append_right _ (List.mem_append_right _ (List.mem_append_right _ (List.mem_append_right _ (List.mem_append_right _ (List.mem_append_right _ (List.mem_of_getElem? (l := tables_1_6) (i := 106) (by decide +kernel)))))))) rfl
set_option maxRecDepth 100000 in
theorem zl_798 : Cond.instanceMethod yX9_stands ∈ zi_G := zi_inG (List.mem_append_right _ (List.mem_append_right _ (List.mem_append_right _ (List.mem_append_right _ (List.mem_append_right _ (List.mem_append_right _ (List.mem_of_getElem? (l := tables_1_6) (i := 107) (by decide +kernel)))))))) rfl
set_option maxRecDepth 100000 in
theorem zl_799 : Cond.selects "RiverDiggersModel" yX9_stands yX9_stands ∈ zi_G := zi_inG (List.mem_append_right _ (List.mem_append_right _ (List.mem_append_right _ (List.mem_append_right _ (List.mem_append_right _ (List.mem_append_right _ (List.mem_of_getElem? (l := tables_1_6) (i := 108) (by decide +kernel)))))))) rfl
set_option maxRecDepth 100000 in
theorem zl_800 : Cond.methodLink "RiverDiggersLaw" 113 yX8_stands ∈ zi_G := zi_inG (List.mem_append_right _ (List.mem_append_right _ (List.mem_append_right _ (List.mem_append_right _ (List.mem_append_left _ (List.mem_of_getElem? (l := tables_1_4) (i := 13) (by decide +kernel))))))) rfl
set_option maxRecDepth 100000 in
theorem zl_801 : Cond.instanceMethod yX8_stands ∈ zi_G := zi_inG (List.mem_append_right _ (List.mem_append_right _ (List.mem_append_right _ (List.mem_append_right _ (List.mem_append_left _ (List.mem_of_getElem? (l := tables_1_4) (i := 14) (by decide +kernel))))))) rfl
set_option maxRecDepth 100000 in
theorem zl_802 : Cond.selects "RiverDiggers" yX8_stands yX8_stands ∈ zi_G := zi_inG (List.mem_append_right _ (List.mem_append_right _ (List.mem_append_right _ (List.mem_append_right _ (List.mem_append_left _ (List.mem_of_getElem? (l := tables_1_4) (i := 15) (by decide +kernel))))))) rfl
set_option maxRecDepth 100000 in
theorem zl_803 : Cond.methodLink "RiverDiggersLaw" 120 yX9_again ∈ zi_G := zi_inG (List.mem_append_right _ (List.mem_append_right _ (List.mem_append_right _ (List.mem_append_right _ (List.mem_append_right _ (List.mem_append_right _ (List.mem_of_getElem? (l := tables_1_6) (i := 110) (by decide +kernel)))))))) rfl
set_option maxRecDepth 100000 in
theorem zl_804 : Cond.instanceMethod yX9_again ∈ zi_G := zi_inG (List.mem_append_right _ (List.mem_append_right _ (List.mem_append_right _ (List.mem_append_right _ (List.mem_append_right _ (List.mem_append_right _ (List.mem_of_getElem? (l := tables_1_6) (i := 111) (by decide +kernel)))))))) rfl
set_option maxRecDepth 100000 in
theorem zl_805 : Cond.selects "RiverDiggersModel" yX9_again yX9_again ∈ zi_G := zi_inG (List.mem_append_right _ (List.mem_append_right _ (List.mem_append_right _ (List.mem_append_right _ (List.mem_append_right _ (List.mem_append_right _ (List.mem_of_getElem? (l := tables_1_6) (i := 112) (by decide +kernel)))))))) rfl
set_option maxRecDepth 100000 in
theorem zl_806 : Cond.methodLink "RiverDiggersLaw" 117 yX8_again ∈ zi_G := zi_inG (List.mem_append_right _ (List.mem_append_right _ (List.mem_append_right _ (List.mem_append_right _ (List.mem_append_left _ (List.mem_of_getElem? (l := tables_1_4) (i := 17) (by decide +kernel))))))) rfl
set_option maxRecDepth 100000 in
theorem zl_807 : Cond.instanceMethod yX8_again ∈ zi_G := zi_inG (List.mem_append_right _ (List.mem_append_right _ (List.mem_append_right _ (List.mem_append_right _ (List.mem_append_left _ (List.mem_of_getElem? (l := tables_1_4) (i := 18) (by decide +kernel))))))) rfl
set_option maxRecDepth 100000 in
theorem zl_808 : Cond.selects "RiverDiggers" yX8_again yX8_again ∈ zi_G := zi_inG (List.mem_append_right _ (List.mem_append_right _ (List.mem_append_right _ (List.mem_append_right _ (List.mem_append_left _ (List.mem_of_getElem? (l := tables_1_4) (i := 19) (by decide +kernel))))))) rfl
set_option maxRecDepth 100000 in
theorem zl_809 : Cond.methodLink "RiverDiggersLaw" 121 yX8_odds ∈ zi_G := zi_inG (List.mem_append_right _ (List.mem_append_right _ (List.mem_append_right _ (List.mem_append_right _ (List.mem_append_left _ (List.mem_of_getElem? (l := tables_1_4) (i := 34) (by decide +kernel))))))) rfl
set_option maxRecDepth 100000 in
theorem zl_810 : Cond.instanceMethod yX8_odds ∈ zi_G := zi_inG (List.mem_append_right _ (List.mem_append_right _ (List.mem_append_right _ (List.mem_append_right _ (List.mem_append_left _ (List.mem_of_getElem? (l := tables_1_4) (i := 35) (by decide +kernel))))))) rfl
set_option maxRecDepth 100000 in
theorem zl_811 : Cond.selects "RiverDiggers" yX8_odds yX8_odds ∈ zi_G := zi_inG (List.mem_append_right _ (List.mem_append_right _ (List.mem_append_right _ (List.mem_append_right _ (List.mem_append_left _ (List.mem_of_getElem? (l := tables_1_4) (i := 36) (by decide +kernel))))))) rfl
set_option maxRecDepth 100000 in
theorem zl_812 : Cond.methodLink "RiverDiggersLaw" 125 yX9_odds ∈ zi_G := zi_inG (List.mem_append_right _ (List.mem_append_right _ (List.mem_append_right _ (List.mem_append_right _ (List.mem_append_right _ (List.mem_append_right _ (List.mem_of_getElem? (l := tables_1_6) (i := 118) (by decide +kernel)))))))) rfl
set_option maxRecDepth 100000 in
theorem zl_813 : Cond.instanceMethod yX9_odds ∈ zi_G := zi_inG (List.mem_append_right _ (List.mem_append_right _ (List.mem_append_right _ (List.mem_append_right _ (List.mem_append_right _ (List.mem_append_right _ (List.mem_of_getElem? (l := tables_1_6) (i := 119) (by decide +kernel)))))))) rfl
set_option maxRecDepth 100000 in
theorem zl_814 : Cond.selects "RiverDiggersModel" yX9_odds yX9_odds ∈ zi_G := zi_inG (List.mem_append_right _ (List.mem_append_right _ (List.mem_append_right _ (List.mem_append_right _ (List.mem_append_right _ (List.mem_append_right _ (List.mem_of_getElem? (l := tables_1_6) (i := 120) (by decide +kernel)))))))) rfl
set_option maxRecDepth 100000 in
theorem zl_815 : Cond.methodLink "RiverDiggersLaw" 126 yX8_see ∈ zi_G := zi_inG (List.mem_append_right _ (List.mem_append_right _ (List.mem_append_right _ (List.mem_append_right _ (List.mem_append_left _ (List.mem_of_getElem? (l := tables_1_4) (i := 42) (by decide +kernel))))))) rfl
set_option maxRecDepth 100000 in
theorem zl_816 : Cond.instanceMethod yX8_see ∈ zi_G := zi_inG (List.mem_append_right _ (List.mem_append_right _ (List.mem_append_right _ (List.mem_append_right _ (List.mem_append_left _ (List.mem_of_getElem? (l := tables_1_4) (i := 43) (by decide +kernel))))))) rfl
set_option maxRecDepth 100000 in
theorem zl_817 : Cond.selects "RiverDiggers" yX8_see yX8_see ∈ zi_G := zi_inG (List.mem_append_right _ (List.mem_append_right _ (List.mem_append_right _ (List.mem_append_right _ (List.mem_append_left _ (List.mem_of_getElem? (l := tables_1_4) (i := 44) (by decide +kernel))))))) rfl
set_option maxRecDepth 100000 in
theorem zl_818 : Cond.methodLink "RiverDiggersLaw" 130 yX9_see ∈ zi_G := zi_inG (List.mem_append_right _ (List.mem_append_right _ (List.mem_append_right _ (List.mem_append_right _ (List.mem_append_right _ (List.mem_append_right _ (List.mem_of_getElem? (l := tables_1_6) (i := 126) (by decide +kernel)))))))) rfl
set_option maxRecDepth 100000 in
theorem zl_819 : Cond.instanceMethod yX9_see ∈ zi_G := zi_inG (List.mem_append_right _ (List.mem_append_right _ (List.mem_append_right _ (List.mem_append_right _ (List.mem_append_right _ (List.mem_append_right _ (List.mem_of_getElem? (l := tables_1_6) (i := 127) (by decide +kernel)))))))) rfl
set_option maxRecDepth 100000 in
theorem zl_820 : Cond.selects "RiverDiggersModel" yX9_see yX9_see ∈ zi_G := zi_inG (List.mem_append_right _ (List.mem_append_right _ (List.mem_append_right _ (List.mem_append_right _ (List.mem_append_right _ (List.mem_append_right _ (List.mem_of_getElem? (l := tables_1_6) (i := 128) (by decide +kernel)))))))) rfl
set_option maxRecDepth 100000 in
theorem zl_821 : Cond.methodLink "RiverDiggersLaw" 134 yX9_forget ∈ zi_G := zi_inG (List.mem_append_right _ (List.mem_append_right _ (List.mem_append_right _ (List.mem_append_right _ (List.mem_append_right _ (List.mem_append_right _ (List.mem_of_getElem? (l := tables_1_6) (i := 130) (by decide +kernel)))))))) rfl
set_option maxRecDepth 100000 in
theorem zl_822 : Cond.instanceMethod yX9_forget ∈ zi_G := zi_inG (List.mem_append_right _ (List.mem_append_right _ (List.mem_append_right _ (List.mem_append_right _ (List.mem_append_right _ (List.mem_append_right _ (List.mem_of_getElem? (l := tables_1_6) (i := 131) (by decide +kernel)))))))) rfl
set_option maxRecDepth 100000 in
theorem zl_823 : Cond.selects "RiverDiggersModel" yX9_forget yX9_forget ∈ zi_G := zi_inG (List.mem_append_right _ (List.mem_append_right _ (List.mem_append_right _ (List.mem_append_right _ (List.mem_append_right _ (List.mem_append_right _ (List.mem_of_getElem? (l := tables_1_6) (i := 132) (by decide +kernel)))))))) rfl
set_option maxRecDepth 100000 in
theorem zl_824 : Cond.methodLink "RiverDiggersLaw" 131 yX8_forget ∈ zi_G := zi_inG (List.mem_append_right _ (List.mem_append_right _ (List.mem_append_right _ (List.mem_append_right _ (List.mem_append_left _ (List.mem_of_getElem? (l := tables_1_4) (i := 46) (by decide +kernel))))))) rfl
set_option maxRecDepth 100000 in
theorem zl_825 : Cond.instanceMethod yX8_forget ∈ zi_G := zi_inG (List.mem_append_right _ (List.mem_append_right _ (List.mem_append_right _ (List.mem_append_right _ (List.mem_append_left _ (List.mem_of_getElem? (l := tables_1_4) (i := 47) (by decide +kernel))))))) rfl
set_option maxRecDepth 100000 in
theorem zl_826 : Cond.selects "RiverDiggers" yX8_forget yX8_forget ∈ zi_G := zi_inG (List.mem_append_right _ (List.mem_append_right _ (List.mem_append_right _ (List.mem_append_right _ (List.mem_append_left _ (List.mem_of_getElem? (l := tables_1_4) (i := 48) (by decide +kernel))))))) rfl
set_option maxRecDepth 100000 in
theorem zl_827 : Cond.methodLink "RiverDiggersLaw" 138 yX9_fits ∈ zi_G := zi_inG (List.mem_append_right _ (List.mem_append_right _ (List.mem_append_right _ (List.mem_append_right _ (List.mem_append_right _ (List.mem_append_right _ (List.mem_of_getElem? (l := tables_1_6) (i := 134) (by decide +kernel)))))))) rfl
set_option maxRecDepth 100000 in
theorem zl_828 : Cond.instanceMethod yX9_fits ∈ zi_G := zi_inG (List.mem_append_right _ (List.mem_append_right _ (List.mem_append_right _ (List.mem_append_right _ (List.mem_append_right _ (List.mem_append_right _ (List.mem_of_getElem? (l := tables_1_6) (i := 135) (by decide +kernel)))))))) rfl
set_option maxRecDepth 100000 in
theorem zl_829 : Cond.selects "RiverDiggersModel" yX9_fits yX9_fits ∈ zi_G := zi_inG (List.mem_append_right _ (List.mem_append_right _ (List.mem_append_right _ (List.mem_append_right _ (List.mem_append_right _ (List.mem_append_right _ (List.mem_of_getElem? (l := tables_1_6) (i := 136) (by decide +kernel)))))))) rfl
set_option maxRecDepth 100000 in
theorem zl_830 : Cond.methodLink "RiverDiggersLaw" 135 yX8_fits ∈ zi_G := zi_inG (List.mem_append_right _ (List.mem_append_right _ (List.mem_append_right _ (List.mem_append_right _ (List.mem_append_left _ (List.mem_of_getElem? (l := tables_1_4) (i := 50) (by decide +kernel))))))) rfl
set_option maxRecDepth 100000 in
theorem zl_831 : Cond.instanceMethod yX8_fits ∈ zi_G := zi_inG (List.mem_append_right _ (List.mem_append_right _ (List.mem_append_right _ (List.mem_append_right _ (List.mem_append_left _ (List.mem_of_getElem? (l := tables_1_4) (i := 51) (by decide +kernel))))))) rfl
set_option maxRecDepth 100000 in
theorem zl_832 : Cond.selects "RiverDiggers" yX8_fits yX8_fits ∈ zi_G := zi_inG (List.mem_append_right _ (List.mem_append_right _ (List.mem_append_right _ (List.mem_append_right _ (List.mem_append_left _ (List.mem_of_getElem? (l := tables_1_4) (i := 52) (by decide +kernel))))))) rfl
set_option maxRecDepth 100000 in
theorem zl_833 : Cond.methodLink "RiverDiggersLaw" 142 yX9_keep ∈ zi_G := zi_inG (List.mem_append_right _ (List.mem_append_right _ (List.mem_append_right _ (List.mem_append_right _ (List.mem_append_right _ (List.mem_append_right _ (List.mem_of_getElem? (l := tables_1_6) (i := 145) (by decide +kernel)))))))) rfl
set_option maxRecDepth 100000 in
theorem zl_834 : Cond.instanceMethod yX9_keep ∈ zi_G := zi_inG (List.mem_append_right _ (List.mem_append_right _ (List.mem_append_right _ (List.mem_append_right _ (List.mem_append_right _ (List.mem_append_right _ (List.mem_of_getElem? (l := tables_1_6) (i := 146) (by decide +kernel)))))))) rfl
set_option maxRecDepth 100000 in
theorem zl_835 : Cond.selects "RiverDiggersModel" yX9_keep yX9_keep ∈ zi_G := zi_inG (List.mem_append_right _ (List.mem_append_right _ (List.mem_append_right _ (List.mem_append_right _ (List.mem_append_right _ (List.mem_append_right _ (List.mem_of_getElem? (l := tables_1_6) (i := 147) (by decide +kernel)))))))) rfl
set_option maxRecDepth 100000 in
theorem zl_836 : Cond.methodLink "RiverDiggersLaw" 139 yX8_keep ∈ zi_G := zi_inG (List.mem_append_right _ (List.mem_append_right _ (List.mem_append_right _ (List.mem_append_right _ (List.mem_append_left _ (List.mem_of_getElem? (l := tables_1_4) (i := 59) (by decide +kernel))))))) rfl
set_option maxRecDepth 100000 in
theorem zl_837 : Cond.instanceMethod yX8_keep ∈ zi_G := zi_inG (List.mem_append_right _ (List.mem_append_right _ (List.mem_append_right _ (List.mem_append_right _ (List.mem_append_left _ (List.mem_of_getElem? (l := tables_1_4) (i := 60) (by decide +kernel))))))) rfl
set_option maxRecDepth 100000 in
theorem zl_838 : Cond.selects "RiverDiggers" yX8_keep yX8_keep ∈ zi_G := zi_inG (List.mem_append_right _ (List.mem_append_right _ (List.mem_append_right _ (List.mem_append_right _ (List.mem_append_left _ (List.mem_of_getElem? (l := tables_1_4) (i := 61) (by decide +kernel))))))) rfl
set_option maxRecDepth 100000 in
theorem zl_839 : Cond.methodLink "RiverDiggersLaw" 146 yX9_back ∈ zi_G := zi_inG (List.mem_append_right _ (List.mem_append_right _ (List.mem_append_right _ (List.mem_append_right _ (List.mem_append_right _ (List.mem_append_right _ (List.mem_of_getElem? (l := tables_1_6) (i := 153) (by decide +kernel)))))))) rfl
set_option maxRecDepth 100000 in
theorem zl_840 : Cond.instanceMethod yX9_back ∈ zi_G := zi_inG (List.mem_append_right _ (List.mem_append_right _ (List.mem_append_right _ (List.mem_append_right _ (List.mem_append_right _ (List.mem_append_right _ (List.mem_of_getElem? (l := tables_1_6) (i := 154) (by decide +kernel)))))))) rfl
set_option maxRecDepth 100000 in
theorem zl_841 : Cond.selects "RiverDiggersModel" yX9_back yX9_back ∈ zi_G := zi_inG (List.mem_append_right _ (List.mem_append_right _ (List.mem_append_right _ (List.mem_append_right _ (List.mem_append_right _ (List.mem_append_right _ (List.mem_of_getElem? (l := tables_1_6) (i := 155) (by decide +kernel)))))))) rfl
set_option maxRecDepth 100000 in
theorem zl_842 : Cond.methodLink "RiverDiggersLaw" 143 yX8_back ∈ zi_G := zi_inG (List.mem_append_right _ (List.mem_append_right _ (List.mem_append_right _ (List.mem_append_right _ (List.mem_append_left _ (List.mem_of_getElem? (l := tables_1_4) (i := 73) (by decide +kernel))))))) rfl
set_option maxRecDepth 100000 in
theorem zl_843 : Cond.instanceMethod yX8_back ∈ zi_G := zi_inG (List.mem_append_right _ (List.mem_append_right _ (List.mem_append_right _ (List.mem_append_right _ (List.mem_append_left _ (List.mem_of_getElem? (l := tables_1_4) (i := 74) (by decide +kernel))))))) rfl
set_option maxRecDepth 100000 in
theorem zl_844 : Cond.selects "RiverDiggers" yX8_back yX8_back ∈ zi_G := zi_inG (List.mem_append_right _ (List.mem_append_right _ (List.mem_append_right _ (List.mem_append_right _ (List.mem_append_left _ (List.mem_of_getElem? (l := tables_1_4) (i := 75) (by decide +kernel))))))) rfl
set_option maxRecDepth 100000 in
theorem zl_845 : Cond.methodLink "RiverDiggersLaw" 150 yX9_sheet ∈ zi_G := zi_inG (List.mem_append_right _ (List.mem_append_right _ (List.mem_append_right _ (List.mem_append_right _ (List.mem_append_right _ (List.mem_append_right _ (List.mem_of_getElem? (l := tables_1_6) (i := 157) (by decide +kernel)))))))) rfl
set_option maxRecDepth 100000 in
theorem zl_846 : Cond.instanceMethod yX9_sheet ∈ zi_G := zi_inG (List.mem_append_right _ (List.mem_append_right _ (List.mem_append_right _ (List.mem_append_right _ (List.mem_append_right _ (List.mem_append_right _ (List.mem_of_getElem? (l := tables_1_6) (i := 158) (by decide +kernel)))))))) rfl
set_option maxRecDepth 100000 in
theorem zl_847 : Cond.selects "RiverDiggersModel" yX9_sheet yX9_sheet ∈ zi_G := zi_inG (List.mem_append_right _ (List.mem_append_right _ (List.mem_append_right _ (List.mem_append_right _ (List.mem_append_right _ (List.mem_append_right _ (List.mem_of_getElem? (l := tables_1_6) (i := 159) (by decide +kernel)))))))) rfl
set_option maxRecDepth 100000 in
theorem zl_848 : Cond.methodLink "RiverDiggersLaw" 147 yX8_sheet ∈ zi_G := zi_inG (List.mem_append_right _ (List.mem_append_right _ (List.mem_append_right _ (List.mem_append_right _ (List.mem_append_left _ (List.mem_of_getElem? (l := tables_1_4) (i := 77) (by decide +kernel))))))) rfl
set_option maxRecDepth 100000 in
theorem zl_849 : Cond.instanceMethod yX8_sheet ∈ zi_G := zi_inG (List.mem_append_right _ (List.mem_append_right _ (List.mem_append_right _ (List.mem_append_right _ (List.mem_append_left _ (List.mem_of_getElem? (l := tables_1_4) (i := 78) (by decide +kernel))))))) rfl
set_option maxRecDepth 100000 in
theorem zl_850 : Cond.selects "RiverDiggers" yX8_sheet yX8_sheet ∈ zi_G := zi_inG (List.mem_append_right _ (List.mem_append_right _ (List.mem_append_right _ (List.mem_append_right _ (List.mem_append_left _ (List.mem_of_getElem? (l := tables_1_4) (i := 79) (by decide +kernel))))))) rfl
set_option maxRecDepth 100000 in
theorem zl_851 : Cond.methodLink "RiverDiggersLaw" 154 yX9_lay ∈ zi_G := zi_inG (List.mem_append_right _ (List.mem_append_right _ (List.mem_append_right _ (List.mem_append_right _ (List.mem_append_right _ (List.mem_append_right _ (List.mem_of_getElem? (l := tables_1_6) (i := 164) (by decide +kernel)))))))) rfl
set_option maxRecDepth 100000 in
theorem zl_852 : Cond.instanceMethod yX9_lay ∈ zi_G := zi_inG (List.mem_append_right _ (List.mem_append_right _ (List.mem_append_right _ (List.mem_append_right _ (List.mem_append_right _ (List.mem_append_right _ (List.mem_of_getElem? (l := tables_1_6) (i := 165) (by decide +kernel)))))))) rfl
set_option maxRecDepth 100000 in
theorem zl_853 : Cond.selects "RiverDiggersModel" yX9_lay yX9_lay ∈ zi_G := zi_inG (List.mem_append_right _ (List.mem_append_right _ (List.mem_append_right _ (List.mem_append_right _ (List.mem_append_right _ (List.mem_append_right _ (List.mem_of_getElem? (l := tables_1_6) (i := 166) (by decide +kernel)))))))) rfl
set_option maxRecDepth 100000 in
theorem zl_854 : Cond.methodLink "RiverDiggersLaw" 151 yX8_lay ∈ zi_G := zi_inG (List.mem_append_right _ (List.mem_append_right _ (List.mem_append_right _ (List.mem_append_right _ (List.mem_append_left _ (List.mem_of_getElem? (l := tables_1_4) (i := 93) (by decide +kernel))))))) rfl
set_option maxRecDepth 100000 in
theorem zl_855 : Cond.instanceMethod yX8_lay ∈ zi_G := zi_inG (List.mem_append_right _ (List.mem_append_right _ (List.mem_append_right _ (List.mem_append_right _ (List.mem_append_left _ (List.mem_of_getElem? (l := tables_1_4) (i := 94) (by decide +kernel))))))) rfl
set_option maxRecDepth 100000 in
theorem zl_856 : Cond.selects "RiverDiggers" yX8_lay yX8_lay ∈ zi_G := zi_inG (List.mem_append_right _ (List.mem_append_right _ (List.mem_append_right _ (List.mem_append_right _ (List.mem_append_left _ (List.mem_of_getElem? (l := tables_1_4) (i := 95) (by decide +kernel))))))) rfl
set_option maxRecDepth 100000 in
theorem zl_857 : Cond.methodLink "RiverDiggersLaw" 159 yX9_read ∈ zi_G := zi_inG (List.mem_append_right _ (List.mem_append_right _ (List.mem_append_right _ (List.mem_append_right _ (List.mem_append_right _ (List.mem_append_right _ (List.mem_of_getElem? (l := tables_1_6) (i := 168) (by decide +kernel)))))))) rfl
set_option maxRecDepth 100000 in
theorem zl_858 : Cond.instanceMethod yX9_read ∈ zi_G := zi_inG (List.mem_append_right _ (List.mem_append_right _ (List.mem_append_right _ (List.mem_append_right _ (List.mem_append_right _ (List.mem_append_right _ (List.mem_of_getElem? (l := tables_1_6) (i := 169) (by decide +kernel)))))))) rfl
set_option maxRecDepth 100000 in
theorem zl_859 : Cond.selects "RiverDiggersModel" yX9_read yX9_read ∈ zi_G := zi_inG (List.mem_append_right _ (List.mem_append_right _ (List.mem_append_right _ (List.mem_append_right _ (List.mem_append_right _ (List.mem_append_right _ (List.mem_of_getElem? (l := tables_1_6) (i := 170) (by decide +kernel)))))))) rfl
set_option maxRecDepth 100000 in
theorem zl_860 : Cond.methodLink "RiverDiggersLaw" 155 yX8_read ∈ zi_G := zi_inG (List.mem_append_right _ (List.mem_append_right _ (List.mem_append_right _ (List.mem_append_right _ (List.mem_append_left _ (List.mem_of_getElem? (l := tables_1_4) (i := 105) (by decide +kernel))))))) rfl
set_option maxRecDepth 100000 in
theorem zl_861 : Cond.instanceMethod yX8_read ∈ zi_G := zi_inG (List.mem_append_right _ (List.mem_append_right _ (List.mem_append_right _ (List.mem_append_right _ (List.mem_append_left _ (List.mem_of_getElem? (l := tables_1_4) (i := 106) (by decide +kernel))))))) rfl
set_option maxRecDepth 100000 in
theorem zl_862 : Cond.selects "RiverDiggers" yX8_read yX8_read ∈ zi_G := zi_inG (List.mem_append_right _ (List.mem_append_right _ (List.mem_append_right _ (List.mem_append_right _ (List.mem_append_left _ (List.mem_of_getElem? (l := tables_1_4) (i := 107) (by decide +kernel))))))) rfl
set_option maxRecDepth 100000 in
theorem zl_863 : Cond.methodLink "RiverDiggersLaw" 163 yX9_torn ∈ zi_G := zi_inG (List.mem_append_right _ (List.mem_append_right _ (List.mem_append_right _ (List.mem_append_right _ (List.mem_append_right _ (List.mem_append_right _ (List.mem_of_getElem? (l := tables_1_6) (i := 174) (by decide +kernel)))))))) rfl
set_option maxRecDepth 100000 in
theorem zl_864 : Cond.instanceMethod yX9_torn ∈ zi_G := zi_inG (List.mem_append_right _ (List.mem_append_right _ (List.mem_append_right _ (List.mem_append_right _ (List.mem_append_right _ (List.mem_append_right _ (List.mem_of_getElem? (l := tables_1_6) (i := 175) (by decide +kernel)))))))) rfl
set_option maxRecDepth 100000 in
theorem zl_865 : Cond.selects "RiverDiggersModel" yX9_torn yX9_torn ∈ zi_G := zi_inG (List.mem_append_right _ (List.mem_append_right _ (List.mem_append_right _ (List.mem_append_right _ (List.mem_append_right _ (List.mem_append_right _ (List.mem_of_getElem? (l := tables_1_6) (i := 176) (by decide +kernel)))))))) rfl
set_option maxRecDepth 100000 in
theorem zl_866 : Cond.methodLink "RiverDiggersLaw" 160 yX8_torn ∈ zi_G := zi_inG (List.mem_append_right _ (List.mem_append_right _ (List.mem_append_right _ (List.mem_append_right _ (List.mem_append_left _ (List.mem_of_getElem? (l := tables_1_4) (i := 118) (by decide +kernel))))))) rfl
set_option maxRecDepth 100000 in
theorem zl_867 : Cond.instanceMethod yX8_torn ∈ zi_G := zi_inG (List.mem_append_right _ (List.mem_append_right _ (List.mem_append_right _ (List.mem_append_right _ (List.mem_append_left _ (List.mem_of_getElem? (l := tables_1_4) (i := 119) (by decide +kernel))))))) rfl
set_option maxRecDepth 100000 in
theorem zl_868 : Cond.selects "RiverDiggers" yX8_torn yX8_torn ∈ zi_G := zi_inG (List.mem_append_right _ (List.mem_append_right _ (List.mem_append_right _ (List.mem_append_right _ (List.mem_append_left _ (List.mem_of_getElem? (l := tables_1_4) (i := 120) (by decide +kernel))))))) rfl
set_option maxRecDepth 100000 in
theorem zl_869 : Cond.methodLink "RiverDiggersLaw" 167 yX9_count ∈ zi_G := zi_inG (List.mem_append_right _ (List.mem_append_right _ (List.mem_append_right _ (List.mem_append_right _ (List.mem_append_right _ (List.mem_append_right _ (List.mem_of_getElem? (l := tables_1_6) (i := 178) (by decide +kernel)))))))) rfl
set_option maxRecDepth 100000 in
theorem zl_870 : Cond.instanceMethod yX9_count ∈ zi_G := zi_inG (List.mem_append_right _ (List.mem_append_right _ (List.mem_append_right _ (List.mem_append_right _ (List.mem_append_right _ (List.mem_append_right _ (List.mem_of_getElem? (l := tables_1_6) (i := 179) (by decide +kernel)))))))) rfl
set_option maxRecDepth 100000 in
theorem zl_871 : Cond.selects "RiverDiggersModel" yX9_count yX9_count ∈ zi_G := zi_inG (List.mem_append_right _ (List.mem_append_right _ (List.mem_append_right _ (List.mem_append_right _ (List.mem_append_right _ (List.mem_append_right _ (List.mem_of_getElem? (l := tables_1_6) (i := 180) (by decide +kernel)))))))) rfl
set_option maxRecDepth 100000 in
theorem zl_872 : Cond.methodLink "RiverDiggersLaw" 164 yX8_count ∈ zi_G := zi_inG (List.mem_append_right _ (List.mem_append_right _ (List.mem_append_right _ (List.mem_append_right _ (List.mem_append_left _ (List.mem_of_getElem? (l := tables_1_4) (i := 122) (by decide +kernel))))))) rfl
set_option maxRecDepth 100000 in
theorem zl_873 : Cond.instanceMethod yX8_count ∈ zi_G := zi_inG (List.mem_append_right _ (List.mem_append_right _ (List.mem_append_right _ (List.mem_append_right _ (List.mem_append_left _ (List.mem_of_getElem? (l := tables_1_4) (i := 123) (by decide +kernel))))))) rfl
set_option maxRecDepth 100000 in
theorem zl_874 : Cond.selects "RiverDiggers" yX8_count yX8_count ∈ zi_G := zi_inG (List.mem_append_right _ (List.mem_append_right _ (List.mem_append_right _ (List.mem_append_right _ (List.mem_append_left _ (List.mem_of_getElem? (l := tables_1_4) (i := 124) (by decide +kernel))))))) rfl
set_option maxRecDepth 100000 in
theorem zl_875 : Cond.code yX0_init cX0_init 3 none ∈ zi_G := zi_inG (List.mem_append_right _ (List.mem_append_left _ (List.mem_of_getElem? (l := tables_1_1) (i := 184) (rfl)))) rfl
set_option maxRecDepth 100000 in
theorem zl_876 : Cond.code yX0_fewest cX0_fewest 5 (some .int) ∈ zi_G := zi_inG (List.mem_append_right _ (List.mem_append_right _ (List.mem_append_right _ (List.mem_append_left _ (List.mem_of_getElem? (l := tables_1_3) (i := 179) (rfl)))))) rfl
set_option maxRecDepth 100000 in
theorem zl_877 : Cond.code yX0_brings cX0_brings 6 (some .boolean) ∈ zi_G := zi_inG (List.mem_append_right _ (List.mem_append_right _ (List.mem_append_right _ (List.mem_append_left _ (List.mem_of_getElem? (l := tables_1_3) (i := 184) (rfl)))))) rfl
set_option maxRecDepth 100000 in
theorem zl_878 : Cond.code yX0_cutOf cX0_cutOf 4 (some .int) ∈ zi_G := zi_inG (List.mem_append_right _ (List.mem_append_right _ (List.mem_append_right _ (List.mem_append_left _ (List.mem_of_getElem? (l := tables_1_3) (i := 194) (rfl)))))) rfl
set_option maxRecDepth 100000 in
theorem zl_879 : Cond.code yX1_init cX1_init 1 none ∈ zi_G := zi_inG (List.mem_append_right _ (List.mem_append_right _ (List.mem_append_left _ (List.mem_of_getElem? (l := tables_1_2) (i := 0) (rfl))))) rfl
set_option maxRecDepth 100000 in
theorem zl_880 : Cond.code yX1_clear cX1_clear 1 none ∈ zi_G := zi_inG (List.mem_append_right _ (List.mem_append_right _ (List.mem_append_left _ (List.mem_of_getElem? (l := tables_1_2) (i := 56) (rfl))))) rfl
set_option maxRecDepth 100000 in
theorem zl_881 : Cond.code yX1_take cX1_take 4 (some .int) ∈ zi_G := zi_inG (List.mem_append_right _ (List.mem_append_right _ (List.mem_append_left _ (List.mem_of_getElem? (l := tables_1_2) (i := 146) (rfl))))) rfl
set_option maxRecDepth 100000 in
theorem zl_882 : Cond.code yX1_takeLine cX1_takeLine 2 none ∈ zi_G := zi_inG (List.mem_append_right _ (List.mem_append_right _ (List.mem_append_left _ (List.mem_of_getElem? (l := tables_1_2) (i := 169) (rfl))))) rfl
set_option maxRecDepth 100000 in
theorem zl_883 : Cond.code yX1_comesOnce cX1_comesOnce 3 (some .boolean) ∈ zi_G := zi_inG (List.mem_append_right _ (List.mem_append_right _ (List.mem_append_left _ (List.mem_of_getElem? (l := tables_1_2) (i := 230) (rfl))))) rfl
set_option maxRecDepth 100000 in
theorem zl_884 : Cond.code yX1_takePlain cX1_takePlain 2 none ∈ zi_G := zi_inG (List.mem_append_right _ (List.mem_append_right _ (List.mem_append_left _ (List.mem_of_getElem? (l := tables_1_2) (i := 226) (rfl))))) rfl
set_option maxRecDepth 100000 in
theorem zl_885 : Cond.code yX1_takeRow cX1_takeRow 4 none ∈ zi_G := zi_inG (List.mem_append_right _ (List.mem_append_right _ (List.mem_append_right _ (List.mem_append_left _ (List.mem_of_getElem? (l := tables_1_3) (i := 9) (rfl)))))) rfl
set_option maxRecDepth 100000 in
theorem zl_886 : Cond.code yX1_takeSpring cX1_takeSpring 2 none ∈ zi_G := zi_inG (List.mem_append_right _ (List.mem_append_right _ (List.mem_append_right _ (List.mem_append_left _ (List.mem_of_getElem? (l := tables_1_3) (i := 15) (rfl)))))) rfl
set_option maxRecDepth 100000 in
theorem zl_887 : Cond.code yX1_takeFarm cX1_takeFarm 2 none ∈ zi_G := zi_inG (List.mem_append_right _ (List.mem_append_right _ (List.mem_append_right _ (List.mem_append_left _ (List.mem_of_getElem? (l := tables_1_3) (i := 20) (rfl)))))) rfl
set_option maxRecDepth 100000 in
theorem zl_888 : Cond.code yX1_takeGround cX1_takeGround 4 none ∈ zi_G := zi_inG (List.mem_append_right _ (List.mem_append_right _ (List.mem_append_right _ (List.mem_append_left _ (List.mem_of_getElem? (l := tables_1_3) (i := 25) (rfl)))))) rfl
set_option maxRecDepth 100000 in
theorem zl_889 : Cond.code yX1_takeLaw cX1_takeLaw 2 none ∈ zi_G := zi_inG (List.mem_append_right _ (List.mem_append_right _ (List.mem_append_right _ (List.mem_append_left _ (List.mem_of_getElem? (l := tables_1_3) (i := 37) (rfl)))))) rfl
set_option maxRecDepth 100000 in
theorem zl_890 : Cond.code yX1_takeSilt cX1_takeSilt 2 none ∈ zi_G := zi_inG (List.mem_append_right _ (List.mem_append_right _ (List.mem_append_right _ (List.mem_append_left _ (List.mem_of_getElem? (l := tables_1_3) (i := 42) (rfl)))))) rfl
set_option maxRecDepth 100000 in
theorem zl_891 : Cond.code yX1_isWhole cX1_isWhole 2 (some .boolean) ∈ zi_G := zi_inG (List.mem_append_right _ (List.mem_append_right _ (List.mem_append_right _ (List.mem_append_left _ (List.mem_of_getElem? (l := tables_1_3) (i := 46) (rfl)))))) rfl
set_option maxRecDepth 100000 in
theorem zl_892 : Cond.code yX1_settle cX1_settle 3 none ∈ zi_G := zi_inG (List.mem_append_right _ (List.mem_append_right _ (List.mem_append_left _ (List.mem_of_getElem? (l := tables_1_2) (i := 61) (rfl))))) rfl
set_option maxRecDepth 100000 in
theorem zl_893 : Cond.code yX1_raise cX1_raise 4 none ∈ zi_G := zi_inG (List.mem_append_right _ (List.mem_append_right _ (List.mem_append_left _ (List.mem_of_getElem? (l := tables_1_2) (i := 72) (rfl))))) rfl
set_option maxRecDepth 100000 in
theorem zl_894 : Cond.code yX2_init cX2_init 2 none ∈ zi_G := zi_inG (List.mem_append_right _ (List.mem_append_left _ (List.mem_of_getElem? (l := tables_1_1) (i := 71) (rfl)))) rfl
set_option maxRecDepth 100000 in
theorem zl_895 : Cond.code yX2_copy cX2_copy 2 none ∈ zi_G := zi_inG (List.mem_append_right _ (List.mem_append_right _ (List.mem_append_right _ (List.mem_append_left _ (List.mem_of_getElem? (l := tables_1_3) (i := 158) (rfl)))))) rfl
set_option maxRecDepth 100000 in
theorem zl_896 : Cond.code yX2_trace cX2_trace 2 none ∈ zi_G := zi_inG (List.mem_append_right _ (List.mem_append_right _ (List.mem_append_left _ (List.mem_of_getElem? (l := tables_1_2) (i := 76) (rfl))))) rfl
set_option maxRecDepth 100000 in
theorem zl_897 : Cond.code yX2_lowestNextTo cX2_lowestNextTo 6 (some .int) ∈ zi_G := zi_inG (List.mem_append_right _ (List.mem_append_right _ (List.mem_append_left _ (List.mem_of_getElem? (l := tables_1_2) (i := 80) (rfl))))) rfl
set_option maxRecDepth 100000 in
theorem zl_898 : Cond.code yX2_cuttable cX2_cuttable 4 (some .int) ∈ zi_G := zi_inG (List.mem_append_right _ (List.mem_append_right _ (List.mem_append_right _ (List.mem_append_left _ (List.mem_of_getElem? (l := tables_1_3) (i := 89) (rfl)))))) rfl
set_option maxRecDepth 100000 in
theorem zl_899 : Cond.code yX2_refused cX2_refused 4 (some .int) ∈ zi_G := zi_inG (List.mem_append_right _ (List.mem_append_right _ (List.mem_append_right _ (List.mem_append_left _ (List.mem_of_getElem? (l := tables_1_3) (i := 137) (rfl)))))) rfl
set_option maxRecDepth 100000 in
theorem zl_900 : Cond.code yX2_possibleYears cX2_possibleYears 3 (some .int) ∈ zi_G := zi_inG (List.mem_append_right _ (List.mem_append_right _ (List.mem_append_right _ (List.mem_append_right _ (List.mem_append_left _ (List.mem_of_getElem? (l := tables_1_4) (i := 133) (rfl))))))) rfl
set_option maxRecDepth 100000 in
theorem zl_901 : Cond.code yX2_allParts cX2_allParts 3 (some .int) ∈ zi_G := zi_inG (List.mem_append_right _ (List.mem_append_right _ (List.mem_append_right _ (List.mem_append_right _ (List.mem_append_left _ (List.mem_of_getElem? (l := tables_1_4) (i := 129) (rfl))))))) rfl
set_option maxRecDepth 100000 in
theorem zl_902 : Cond.code yX2_pass cX2_pass 4 none ∈ zi_G := zi_inG (List.mem_append_right _ (List.mem_append_right _ (List.mem_append_right _ (List.mem_append_left _ (List.mem_of_getElem? (l := tables_1_3) (i := 145) (rfl)))))) rfl
set_option maxRecDepth 100000 in
theorem zl_903 : Cond.code yX2_carrySilt cX2_carrySilt 3 none ∈ zi_G := zi_inG (List.mem_append_right _ (List.mem_append_right _ (List.mem_append_right _ (List.mem_append_left _ (List.mem_of_getElem? (l := tables_1_3) (i := 150) (rfl)))))) rfl
set_option maxRecDepth 100000 in
theorem zl_904 : Cond.code yX3_init cX3_init 1 none ∈ zi_G := zi_inG (List.mem_append_right _ (List.mem_append_left _ (List.mem_of_getElem? (l := tables_1_1) (i := 30) (rfl)))) rfl
set_option maxRecDepth 100000 in
theorem zl_905 : Cond.code yX3_hasCell cX3_hasCell 2 (some .boolean) ∈ zi_G := zi_inG (List.mem_append_right _ (List.mem_append_right _ (List.mem_append_right _ (List.mem_append_left _ (List.mem_of_getElem? (l := tables_1_3) (i := 66) (rfl)))))) rfl
set_option maxRecDepth 100000 in
theorem zl_906 : Cond.code yX3_hasFarm cX3_hasFarm 2 (some .boolean) ∈ zi_G := zi_inG (List.mem_append_right _ (List.mem_append_right _ (List.mem_append_right _ (List.mem_append_left _ (List.mem_of_getElem? (l := tables_1_3) (i := 79) (rfl)))))) rfl
set_option maxRecDepth 100000 in
theorem zl_907 : Cond.code yX3_ownerOf cX3_ownerOf 3 (some .int) ∈ zi_G := zi_inG (List.mem_append_right _ (List.mem_append_right _ (List.mem_append_right _ (List.mem_append_left _ (List.mem_of_getElem? (l := tables_1_3) (i := 70) (rfl)))))) rfl
set_option maxRecDepth 100000 in
theorem zl_908 : Cond.code yX3_join cX3_join 4 none ∈ zi_G := zi_inG (List.mem_append_right _ (List.mem_append_right _ (List.mem_append_left _ (List.mem_of_getElem? (l := tables_1_2) (i := 68) (rfl))))) rfl
set_option maxRecDepth 100000 in
theorem zl_909 : Cond.code yX3_beside cX3_beside 4 (some .int) ∈ zi_G := zi_inG (List.mem_append_right _ (List.mem_append_right _ (List.mem_append_right _ (List.mem_append_left _ (List.mem_of_getElem? (l := tables_1_3) (i := 94) (rfl)))))) rfl
set_option maxRecDepth 100000 in
theorem zl_910 : Cond.code yX4_init cX4_init 1 none ∈ zi_G := zi_inG (List.mem_append_right _ (List.mem_append_left _ (List.mem_of_getElem? (l := tables_1_1) (i := 152) (rfl)))) rfl
set_option maxRecDepth 100000 in
theorem zl_911 : Cond.code yX4_build cX4_build 8 none ∈ zi_G := zi_inG (List.mem_append_right _ (List.mem_append_right _ (List.mem_append_right _ (List.mem_append_left _ (List.mem_of_getElem? (l := tables_1_3) (i := 206) (rfl)))))) rfl
set_option maxRecDepth 100000 in
theorem zl_912 : Cond.code yX4_list cX4_list 5 none ∈ zi_G := zi_inG (List.mem_append_right _ (List.mem_append_right _ (List.mem_append_right _ (List.mem_append_left _ (List.mem_of_getElem? (l := tables_1_3) (i := 211) (rfl)))))) rfl
set_option maxRecDepth 100000 in
theorem zl_913 : Cond.code yX4_indexOf cX4_indexOf 3 (some .int) ∈ zi_G := zi_inG (List.mem_append_right _ (List.mem_append_right _ (List.mem_append_right _ (List.mem_append_right _ (List.mem_append_left _ (List.mem_of_getElem? (l := tables_1_4) (i := 12) (rfl))))))) rfl
set_option maxRecDepth 100000 in
theorem zl_914 : Cond.code yX4_breakers cX4_breakers 8 (some .int) ∈ zi_G := zi_inG (List.mem_append_right _ (List.mem_append_right _ (List.mem_append_right _ (List.mem_append_left _ (List.mem_of_getElem? (l := tables_1_3) (i := 239) (rfl)))))) rfl
set_option maxRecDepth 100000 in
theorem zl_915 : Cond.code yX4_placeOf cX4_placeOf 4 (some .int) ∈ zi_G := zi_inG (List.mem_append_right _ (List.mem_append_right _ (List.mem_append_right _ (List.mem_append_right _ (List.mem_append_left _ (List.mem_of_getElem? (l := tables_1_4) (i := 4) (rfl))))))) rfl
set_option maxRecDepth 100000 in
theorem zl_916 : Cond.code yX4_chosen cX4_chosen 7 (some .int) ∈ zi_G := zi_inG (List.mem_append_right _ (List.mem_append_right _ (List.mem_append_right _ (List.mem_append_left _ (List.mem_of_getElem? (l := tables_1_3) (i := 229) (rfl)))))) rfl
set_option maxRecDepth 100000 in
theorem zl_917 : Cond.code yX5_init cX5_init 1 none ∈ zi_G := zi_inG (List.mem_append_right _ (List.mem_append_right _ (List.mem_append_left _ (List.mem_of_getElem? (l := tables_1_2) (i := 37) (rfl))))) rfl
set_option maxRecDepth 100000 in
theorem zl_918 : Cond.code yX5_hasSheet cX5_hasSheet 2 (some .boolean) ∈ zi_G := zi_inG (List.mem_append_right _ (List.mem_append_right _ (List.mem_append_right _ (List.mem_append_right _ (List.mem_append_left _ (List.mem_of_getElem? (l := tables_1_4) (i := 84) (rfl))))))) rfl
set_option maxRecDepth 100000 in
theorem zl_919 : Cond.code yX5_hasLane cX5_hasLane 2 (some .boolean) ∈ zi_G := zi_inG (List.mem_append_right _ (List.mem_append_right _ (List.mem_append_right _ (List.mem_append_right _ (List.mem_append_left _ (List.mem_of_getElem? (l := tables_1_4) (i := 88) (rfl))))))) rfl
set_option maxRecDepth 100000 in
theorem zl_920 : Cond.code yX5_renew cX5_renew 5 none ∈ zi_G := zi_inG (List.mem_append_right _ (List.mem_append_right _ (List.mem_append_right _ (List.mem_append_right _ (List.mem_append_left _ (List.mem_of_getElem? (l := tables_1_4) (i := 92) (rfl))))))) rfl
set_option maxRecDepth 100000 in
theorem zl_921 : Cond.code yX5_takeFault cX5_takeFault 4 (some .int) ∈ zi_G := zi_inG (List.mem_append_right _ (List.mem_append_right _ (List.mem_append_right _ (List.mem_append_right _ (List.mem_append_left _ (List.mem_of_getElem? (l := tables_1_4) (i := 112) (rfl))))))) rfl
set_option maxRecDepth 100000 in
theorem zl_922 : Cond.code yX5_reachFault cX5_reachFault 3 (some .int) ∈ zi_G := zi_inG (List.mem_append_right _ (List.mem_append_right _ (List.mem_append_right _ (List.mem_append_right _ (List.mem_append_left _ (List.mem_of_getElem? (l := tables_1_4) (i := 100) (rfl))))))) rfl
set_option maxRecDepth 100000 in
theorem zl_923 : Cond.code yX5_valueAt cX5_valueAt 3 (some .int) ∈ zi_G := zi_inG (List.mem_append_right _ (List.mem_append_right _ (List.mem_append_right _ (List.mem_append_right _ (List.mem_append_left _ (List.mem_of_getElem? (l := tables_1_4) (i := 117) (rfl))))))) rfl
set_option maxRecDepth 100000 in
theorem zl_924 : Cond.code yX5_put cX5_put 5 none ∈ zi_G := zi_inG (List.mem_append_right _ (List.mem_append_right _ (List.mem_append_right _ (List.mem_append_right _ (List.mem_append_left _ (List.mem_of_getElem? (l := tables_1_4) (i := 104) (rfl))))))) rfl
set_option maxRecDepth 100000 in
theorem zl_925 : Cond.code yX6_init cX6_init 1 none ∈ zi_G := zi_inG (List.mem_append_right _ (List.mem_append_left _ (List.mem_of_getElem? (l := tables_1_1) (i := 202) (rfl)))) rfl
set_option maxRecDepth 100000 in
theorem zl_926 : Cond.code yX6_append cX6_append 4 (some .boolean) ∈ zi_G := zi_inG (List.mem_append_right _ (List.mem_append_right _ (List.mem_append_left _ (List.mem_of_getElem? (l := tables_1_2) (i := 134) (rfl))))) rfl
set_option maxRecDepth 100000 in
theorem zl_927 : Cond.code yX6_rewind cX6_rewind 1 none ∈ zi_G := zi_inG (List.mem_append_right _ (List.mem_append_right _ (List.mem_append_left _ (List.mem_of_getElem? (l := tables_1_2) (i := 151) (rfl))))) rfl
set_option maxRecDepth 100000 in
theorem zl_928 : Cond.code yX6_fail cX6_fail 2 none ∈ zi_G := zi_inG (List.mem_append_right _ (List.mem_append_right _ (List.mem_append_left _ (List.mem_of_getElem? (l := tables_1_2) (i := 165) (rfl))))) rfl
set_option maxRecDepth 100000 in
theorem zl_929 : Cond.code yX6_failBehindAll cX6_failBehindAll 2 none ∈ zi_G := zi_inG (List.mem_append_right _ (List.mem_append_right _ (List.mem_append_right _ (List.mem_append_left _ (List.mem_of_getElem? (l := tables_1_3) (i := 50) (rfl)))))) rfl
set_option maxRecDepth 100000 in
theorem zl_930 : Cond.code yX6_next cX6_next 1 none ∈ zi_G := zi_inG (List.mem_append_right _ (List.mem_append_right _ (List.mem_append_left _ (List.mem_of_getElem? (l := tables_1_2) (i := 155) (rfl))))) rfl
set_option maxRecDepth 100000 in
theorem zl_931 : Cond.code yX6_isLetter cX6_isLetter 1 (some .boolean) ∈ zi_G := zi_inG (List.mem_append_right _ (List.mem_append_right _ (List.mem_append_left _ (List.mem_of_getElem? (l := tables_1_2) (i := 158) (rfl))))) rfl
set_option maxRecDepth 100000 in
theorem zl_932 : Cond.code yX6_isFigure cX6_isFigure 1 (some .boolean) ∈ zi_G := zi_inG (List.mem_append_right _ (List.mem_append_right _ (List.mem_append_left _ (List.mem_of_getElem? (l := tables_1_2) (i := 161) (rfl))))) rfl
set_option maxRecDepth 100000 in
theorem zl_933 : Cond.code yX6_says cX6_says 3 (some .boolean) ∈ zi_G := zi_inG (List.mem_append_right _ (List.mem_append_right _ (List.mem_append_left _ (List.mem_of_getElem? (l := tables_1_2) (i := 174) (rfl))))) rfl
set_option maxRecDepth 100000 in
theorem zl_934 : Cond.code yX6_isNumber cX6_isNumber 3 (some .boolean) ∈ zi_G := zi_inG (List.mem_append_right _ (List.mem_append_right _ (List.mem_append_right _ (List.mem_append_left _ (List.mem_of_getElem? (l := tables_1_3) (i := 0) (rfl)))))) rfl
set_option maxRecDepth 100000 in
theorem zl_935 : Cond.code yX6_nextNumber cX6_nextNumber 3 (some .boolean) ∈ zi_G := zi_inG (List.mem_append_right _ (List.mem_append_right _ (List.mem_append_left _ (List.mem_of_getElem? (l := tables_1_2) (i := 235) (rfl))))) rfl
set_option maxRecDepth 100000 in
theorem zl_936 : Cond.code yX6_nextStop cX6_nextStop 1 none ∈ zi_G := zi_inG (List.mem_append_right _ (List.mem_append_right _ (List.mem_append_right _ (List.mem_append_left _ (List.mem_of_getElem? (l := tables_1_3) (i := 4) (rfl)))))) rfl
set_option maxRecDepth 100000 in
theorem zl_937 : Cond.code yX7_init cX7_init 2 none ∈ zi_G := zi_inG (List.mem_append_right _ (List.mem_append_left _ (List.mem_of_getElem? (l := tables_1_1) (i := 65) (rfl)))) rfl
set_option maxRecDepth 100000 in
theorem zl_938 : Cond.code yX7_copy cX7_copy 2 none ∈ zi_G := zi_inG (List.mem_append_right _ (List.mem_append_right _ (List.mem_append_right _ (List.mem_append_right _ (List.mem_append_left _ (List.mem_of_getElem? (l := tables_1_4) (i := 70) (rfl))))))) rfl
set_option maxRecDepth 100000 in
theorem zl_939 : Cond.code yX7_gain cX7_gain 3 (some .int) ∈ zi_G := zi_inG (List.mem_append_right _ (List.mem_append_right _ (List.mem_append_right _ (List.mem_append_left _ (List.mem_of_getElem? (l := tables_1_3) (i := 83) (rfl)))))) rfl
set_option maxRecDepth 100000 in
theorem zl_940 : Cond.code yX7_agrees cX7_agrees 4 (some .boolean) ∈ zi_G := zi_inG (List.mem_append_right _ (List.mem_append_right _ (List.mem_append_right _ (List.mem_append_right _ (List.mem_append_left _ (List.mem_of_getElem? (l := tables_1_4) (i := 57) (rfl))))))) rfl
set_option maxRecDepth 100000 in
theorem zl_941 : Cond.code yX8_init cX8_init 1 none ∈ zi_G := zi_inG (List.mem_append_right _ (List.mem_append_left _ (List.mem_of_getElem? (l := tables_1_1) (i := 22) (rfl)))) rfl
set_option maxRecDepth 100000 in
theorem zl_942 : Cond.code yX8_feed cX8_feed 3 (some .int) ∈ zi_G := zi_inG (List.mem_append_right _ (List.mem_append_right _ (List.mem_append_left _ (List.mem_of_getElem? (l := tables_1_2) (i := 130) (rfl))))) rfl
set_option maxRecDepth 100000 in
theorem zl_943 : Cond.code yX8_end cX8_end 3 (some .int) ∈ zi_G := zi_inG (List.mem_append_right _ (List.mem_append_right _ (List.mem_append_left _ (List.mem_of_getElem? (l := tables_1_2) (i := 138) (rfl))))) rfl
set_option maxRecDepth 100000 in
theorem zl_944 : Cond.code yX8_text cX8_text 2 (some .int) ∈ zi_G := zi_inG (List.mem_append_right _ (List.mem_append_right _ (List.mem_append_left _ (List.mem_of_getElem? (l := tables_1_2) (i := 142) (rfl))))) rfl
set_option maxRecDepth 100000 in
theorem zl_945 : Cond.code yX8_fault cX8_fault 1 (some .int) ∈ zi_G := zi_inG (List.mem_append_right _ (List.mem_append_right _ (List.mem_append_right _ (List.mem_append_left _ (List.mem_of_getElem? (l := tables_1_3) (i := 54) (rfl)))))) rfl
set_option maxRecDepth 100000 in
theorem zl_946 : Cond.code yX8_rule cX8_rule 2 (some .int) ∈ zi_G := zi_inG (List.mem_append_right _ (List.mem_append_right _ (List.mem_append_right _ (List.mem_append_left _ (List.mem_of_getElem? (l := tables_1_3) (i := 58) (rfl)))))) rfl
set_option maxRecDepth 100000 in
theorem zl_947 : Cond.code yX8_cell cX8_cell 3 (some .int) ∈ zi_G := zi_inG (List.mem_append_right _ (List.mem_append_right _ (List.mem_append_right _ (List.mem_append_left _ (List.mem_of_getElem? (l := tables_1_3) (i := 62) (rfl)))))) rfl
set_option maxRecDepth 100000 in
theorem zl_948 : Cond.code yX8_farm cX8_farm 3 (some .int) ∈ zi_G := zi_inG (List.mem_append_right _ (List.mem_append_right _ (List.mem_append_right _ (List.mem_append_left _ (List.mem_of_getElem? (l := tables_1_3) (i := 75) (rfl)))))) rfl
set_option maxRecDepth 100000 in
theorem zl_949 : Cond.code yX8_bed cX8_bed 2 (some .int) ∈ zi_G := zi_inG (List.mem_append_right _ (List.mem_append_right _ (List.mem_append_right _ (List.mem_append_left _ (List.mem_of_getElem? (l := tables_1_3) (i := 98) (rfl)))))) rfl
set_option maxRecDepth 100000 in
theorem zl_950 : Cond.code yX8_dam cX8_dam 4 (some .int) ∈ zi_G := zi_inG (List.mem_append_right _ (List.mem_append_right _ (List.mem_append_right _ (List.mem_append_left _ (List.mem_of_getElem? (l := tables_1_3) (i := 102) (rfl)))))) rfl
set_option maxRecDepth 100000 in
theorem zl_951 : Cond.code yX8_move cX8_move 3 (some .int) ∈ zi_G := zi_inG (List.mem_append_right _ (List.mem_append_right _ (List.mem_append_right _ (List.mem_append_left _ (List.mem_of_getElem? (l := tables_1_3) (i := 111) (rfl)))))) rfl
set_option maxRecDepth 100000 in
theorem zl_952 : Cond.code yX8_law cX8_law 3 (some .int) ∈ zi_G := zi_inG (List.mem_append_right _ (List.mem_append_right _ (List.mem_append_right _ (List.mem_append_left _ (List.mem_of_getElem? (l := tables_1_3) (i := 115) (rfl)))))) rfl
set_option maxRecDepth 100000 in
theorem zl_953 : Cond.code yX8_silt cX8_silt 3 (some .int) ∈ zi_G := zi_inG (List.mem_append_right _ (List.mem_append_right _ (List.mem_append_right _ (List.mem_append_left _ (List.mem_of_getElem? (l := tables_1_3) (i := 119) (rfl)))))) rfl
set_option maxRecDepth 100000 in
theorem zl_954 : Cond.code yX8_price cX8_price 4 (some .int) ∈ zi_G := zi_inG (List.mem_append_right _ (List.mem_append_right _ (List.mem_append_right _ (List.mem_append_left _ (List.mem_of_getElem? (l := tables_1_3) (i := 123) (rfl)))))) rfl
set_option maxRecDepth 100000 in
theorem zl_955 : Cond.code yX8_retrace cX8_retrace 1 none ∈ zi_G := zi_inG (List.mem_append_right _ (List.mem_append_right _ (List.mem_append_right _ (List.mem_append_left _ (List.mem_of_getElem? (l := tables_1_3) (i := 106) (rfl)))))) rfl
set_option maxRecDepth 100000 in
theorem zl_956 : Cond.code yX8_year cX8_year 3 (some .int) ∈ zi_G := zi_inG (List.mem_append_right _ (List.mem_append_right _ (List.mem_append_right _ (List.mem_append_left _ (List.mem_of_getElem? (l := tables_1_3) (i := 127) (rfl)))))) rfl
set_option maxRecDepth 100000 in
theorem zl_957 : Cond.code yX8_would cX8_would 3 (some .int) ∈ zi_G := zi_inG (List.mem_append_right _ (List.mem_append_right _ (List.mem_append_right _ (List.mem_append_left _ (List.mem_of_getElem? (l := tables_1_3) (i := 154) (rfl)))))) rfl
set_option maxRecDepth 100000 in
theorem zl_958 : Cond.code yX8_tell cX8_tell 2 (some .int) ∈ zi_G := zi_inG (List.mem_append_right _ (List.mem_append_right _ (List.mem_append_right _ (List.mem_append_left _ (List.mem_of_getElem? (l := tables_1_3) (i := 163) (rfl)))))) rfl
set_option maxRecDepth 100000 in
theorem zl_959 : Cond.code yX8_drop cX8_drop 3 (some .int) ∈ zi_G := zi_inG (List.mem_append_right _ (List.mem_append_right _ (List.mem_append_right _ (List.mem_append_left _ (List.mem_of_getElem? (l := tables_1_3) (i := 167) (rfl)))))) rfl
set_option maxRecDepth 100000 in
theorem zl_960 : Cond.code yX8_judge cX8_judge 4 (some .int) ∈ zi_G := zi_inG (List.mem_append_right _ (List.mem_append_right _ (List.mem_append_right _ (List.mem_append_left _ (List.mem_of_getElem? (l := tables_1_3) (i := 171) (rfl)))))) rfl
set_option maxRecDepth 100000 in
theorem zl_961 : Cond.code yX8_refusal cX8_refusal 3 (some .int) ∈ zi_G := zi_inG (List.mem_append_right _ (List.mem_append_right _ (List.mem_append_right _ (List.mem_append_left _ (List.mem_of_getElem? (l := tables_1_3) (i := 130) (rfl)))))) rfl
set_option maxRecDepth 100000 in
theorem zl_962 : Cond.code yX8_isNumber cX8_isNumber 1 (some .boolean) ∈ zi_G := zi_inG (List.mem_append_right _ (List.mem_append_right _ (List.mem_append_right _ (List.mem_append_left _ (List.mem_of_getElem? (l := tables_1_3) (i := 133) (rfl)))))) rfl
set_option maxRecDepth 100000 in
theorem zl_963 : Cond.code yX8_option cX8_option 2 (some .int) ∈ zi_G := zi_inG (List.mem_append_right _ (List.mem_append_right _ (List.mem_append_right _ (List.mem_append_left _ (List.mem_of_getElem? (l := tables_1_3) (i := 140) (rfl)))))) rfl
set_option maxRecDepth 100000 in
theorem zl_964 : Cond.code yX8_numberOf cX8_numberOf 2 (some .int) ∈ zi_G := zi_inG (List.mem_append_right _ (List.mem_append_right _ (List.mem_append_right _ (List.mem_append_left _ (List.mem_of_getElem? (l := tables_1_3) (i := 189) (rfl)))))) rfl
set_option maxRecDepth 100000 in
theorem zl_965 : Cond.code yX8_has cX8_has 2 (some .boolean) ∈ zi_G := zi_inG (List.mem_append_right _ (List.mem_append_right _ (List.mem_append_left _ (List.mem_of_getElem? (l := tables_1_2) (i := 83) (rfl))))) rfl
set_option maxRecDepth 100000 in
theorem zl_966 : Cond.code yX8_alone cX8_alone 6 (some .int) ∈ zi_G := zi_inG (List.mem_append_right _ (List.mem_append_right _ (List.mem_append_right _ (List.mem_append_left _ (List.mem_of_getElem? (l := tables_1_3) (i := 175) (rfl)))))) rfl
set_option maxRecDepth 100000 in
theorem zl_967 : Cond.code yX8_together cX8_together 7 (some .int) ∈ zi_G := zi_inG (List.mem_append_right _ (List.mem_append_right _ (List.mem_append_right _ (List.mem_append_left _ (List.mem_of_getElem? (l := tables_1_3) (i := 198) (rfl)))))) rfl
set_option maxRecDepth 100000 in
theorem zl_968 : Cond.code yX8_lookAhead cX8_lookAhead 1 none ∈ zi_G := zi_inG (List.mem_append_right _ (List.mem_append_right _ (List.mem_append_right _ (List.mem_append_left _ (List.mem_of_getElem? (l := tables_1_3) (i := 202) (rfl)))))) rfl
set_option maxRecDepth 100000 in
theorem zl_969 : Cond.code yX8_cutters cX8_cutters 3 (some .int) ∈ zi_G := zi_inG (List.mem_append_right _ (List.mem_append_right _ (List.mem_append_right _ (List.mem_append_left _ (List.mem_of_getElem? (l := tables_1_3) (i := 218) (rfl)))))) rfl
set_option maxRecDepth 100000 in
theorem zl_970 : Cond.code yX8_selfish cX8_selfish 3 (some .int) ∈ zi_G := zi_inG (List.mem_append_right _ (List.mem_append_right _ (List.mem_append_right _ (List.mem_append_left _ (List.mem_of_getElem? (l := tables_1_3) (i := 225) (rfl)))))) rfl
set_option maxRecDepth 100000 in
theorem zl_971 : Cond.code yX8_rests cX8_rests 4 (some .int) ∈ zi_G := zi_inG (List.mem_append_right _ (List.mem_append_right _ (List.mem_append_right _ (List.mem_append_left _ (List.mem_of_getElem? (l := tables_1_3) (i := 235) (rfl)))))) rfl
set_option maxRecDepth 100000 in
theorem zl_972 : Cond.code yX8_breaks cX8_breaks 3 (some .int) ∈ zi_G := zi_inG (List.mem_append_right _ (List.mem_append_right _ (List.mem_append_right _ (List.mem_append_right _ (List.mem_append_left _ (List.mem_of_getElem? (l := tables_1_4) (i := 8) (rfl))))))) rfl
set_option maxRecDepth 100000 in
theorem zl_973 : Cond.code yX8_stands cX8_stands 3 (some .int) ∈ zi_G := zi_inG (List.mem_append_right _ (List.mem_append_right _ (List.mem_append_right _ (List.mem_append_right _ (List.mem_append_left _ (List.mem_of_getElem? (l := tables_1_4) (i := 16) (rfl))))))) rfl
set_option maxRecDepth 100000 in
theorem zl_974 : Cond.code yX8_again cX8_again 4 (some .int) ∈ zi_G := zi_inG (List.mem_append_right _ (List.mem_append_right _ (List.mem_append_right _ (List.mem_append_right _ (List.mem_append_left _ (List.mem_of_getElem? (l := tables_1_4) (i := 20) (rfl))))))) rfl
set_option maxRecDepth 100000 in
theorem zl_975 : Cond.code yX8_note cX8_note 2 none ∈ zi_G := zi_inG (List.mem_append_right _ (List.mem_append_right _ (List.mem_append_right _ (List.mem_append_right _ (List.mem_append_left _ (List.mem_of_getElem? (l := tables_1_4) (i := 24) (rfl))))))) rfl
set_option maxRecDepth 100000 in
theorem zl_976 : Cond.code yX8_firstAlike cX8_firstAlike 3 (some .int) ∈ zi_G := zi_inG (List.mem_append_right _ (List.mem_append_right _ (List.mem_append_right _ (List.mem_append_right _ (List.mem_append_left _ (List.mem_of_getElem? (l := tables_1_4) (i := 29) (rfl))))))) rfl
set_option maxRecDepth 100000 in
theorem zl_977 : Cond.code yX8_isAlike cX8_isAlike 3 (some .boolean) ∈ zi_G := zi_inG (List.mem_append_right _ (List.mem_append_right _ (List.mem_append_right _ (List.mem_append_right _ (List.mem_append_left _ (List.mem_of_getElem? (l := tables_1_4) (i := 33) (rfl))))))) rfl
set_option maxRecDepth 100000 in
theorem zl_978 : Cond.code yX8_odds cX8_odds 5 (some .long) ∈ zi_G := zi_inG (List.mem_append_right _ (List.mem_append_right _ (List.mem_append_right _ (List.mem_append_right _ (List.mem_append_left _ (List.mem_of_getElem? (l := tables_1_4) (i := 37) (rfl))))))) rfl
set_option maxRecDepth 100000 in
theorem zl_979 : Cond.code yX8_commonDivisor cX8_commonDivisor 6 (some .int) ∈ zi_G := zi_inG (List.mem_append_right _ (List.mem_append_right _ (List.mem_append_right _ (List.mem_append_right _ (List.mem_append_left _ (List.mem_of_getElem? (l := tables_1_4) (i := 41) (rfl))))))) rfl
set_option maxRecDepth 100000 in
theorem zl_980 : Cond.code yX8_see cX8_see 3 (some .int) ∈ zi_G := zi_inG (List.mem_append_right _ (List.mem_append_right _ (List.mem_append_right _ (List.mem_append_right _ (List.mem_append_left _ (List.mem_of_getElem? (l := tables_1_4) (i := 45) (rfl))))))) rfl
set_option maxRecDepth 100000 in
theorem zl_981 : Cond.code yX8_forget cX8_forget 3 (some .int) ∈ zi_G := zi_inG (List.mem_append_right _ (List.mem_append_right _ (List.mem_append_right _ (List.mem_append_right _ (List.mem_append_left _ (List.mem_of_getElem? (l := tables_1_4) (i := 49) (rfl))))))) rfl
set_option maxRecDepth 100000 in
theorem zl_982 : Cond.code yX8_fits cX8_fits 8 (some .int) ∈ zi_G := zi_inG (List.mem_append_right _ (List.mem_append_right _ (List.mem_append_right _ (List.mem_append_right _ (List.mem_append_left _ (List.mem_of_getElem? (l := tables_1_4) (i := 53) (rfl))))))) rfl
set_option maxRecDepth 100000 in
theorem zl_983 : Cond.code yX8_keep cX8_keep 3 (some .int) ∈ zi_G := zi_inG (List.mem_append_right _ (List.mem_append_right _ (List.mem_append_right _ (List.mem_append_right _ (List.mem_append_left _ (List.mem_of_getElem? (l := tables_1_4) (i := 62) (rfl))))))) rfl
set_option maxRecDepth 100000 in
theorem zl_984 : Cond.code yX8_back cX8_back 2 (some .int) ∈ zi_G := zi_inG (List.mem_append_right _ (List.mem_append_right _ (List.mem_append_right _ (List.mem_append_right _ (List.mem_append_left _ (List.mem_of_getElem? (l := tables_1_4) (i := 76) (rfl))))))) rfl
set_option maxRecDepth 100000 in
theorem zl_985 : Cond.code yX8_imageOf cX8_imageOf 2 (some (.object "RiverDiggers$Times")) ∈ zi_G := zi_inG (List.mem_append_right _ (List.mem_append_right _ (List.mem_append_right _ (List.mem_append_right _ (List.mem_append_left _ (List.mem_of_getElem? (l := tables_1_4) (i := 66) (rfl))))))) rfl
set_option maxRecDepth 100000 in
theorem zl_986 : Cond.code yX8_sheet cX8_sheet 4 (some .int) ∈ zi_G := zi_inG (List.mem_append_right _ (List.mem_append_right _ (List.mem_append_right _ (List.mem_append_right _ (List.mem_append_left _ (List.mem_of_getElem? (l := tables_1_4) (i := 80) (rfl))))))) rfl
set_option maxRecDepth 100000 in
theorem zl_987 : Cond.code yX8_lay cX8_lay 5 (some .int) ∈ zi_G := zi_inG (List.mem_append_right _ (List.mem_append_right _ (List.mem_append_right _ (List.mem_append_right _ (List.mem_append_left _ (List.mem_of_getElem? (l := tables_1_4) (i := 96) (rfl))))))) rfl
set_option maxRecDepth 100000 in
theorem zl_988 : Cond.code yX8_read cX8_read 9 (some .int) ∈ zi_G := zi_inG (List.mem_append_right _ (List.mem_append_right _ (List.mem_append_right _ (List.mem_append_right _ (List.mem_append_left _ (List.mem_of_getElem? (l := tables_1_4) (i := 108) (rfl))))))) rfl
set_option maxRecDepth 100000 in
theorem zl_989 : Cond.code yX8_torn cX8_torn 1 (some .int) ∈ zi_G := zi_inG (List.mem_append_right _ (List.mem_append_right _ (List.mem_append_right _ (List.mem_append_right _ (List.mem_append_left _ (List.mem_of_getElem? (l := tables_1_4) (i := 121) (rfl))))))) rfl
set_option maxRecDepth 100000 in
theorem zl_990 : Cond.code yX8_count cX8_count 2 (some .int) ∈ zi_G := zi_inG (List.mem_append_right _ (List.mem_append_right _ (List.mem_append_right _ (List.mem_append_right _ (List.mem_append_left _ (List.mem_of_getElem? (l := tables_1_4) (i := 125) (rfl))))))) rfl
set_option maxRecDepth 100000 in
theorem zl_991 : Cond.code yX9_init cX9_init 2 none ∈ zi_G := zi_inG (List.mem_append_right _ (List.mem_append_right _ (List.mem_append_right _ (List.mem_append_right _ (List.mem_append_left _ (List.mem_of_getElem? (l := tables_1_4) (i := 139) (rfl))))))) rfl
set_option maxRecDepth 100000 in
theorem zl_992 : Cond.code yX9_in cX9_in 6 (some .boolean) ∈ zi_G := zi_inG (List.mem_append_right _ (List.mem_append_right _ (List.mem_append_right _ (List.mem_append_right _ (List.mem_append_right _ (List.mem_append_left _ (List.mem_of_getElem? (l := tables_1_5) (i := 63) (rfl)))))))) rfl
set_option maxRecDepth 100000 in
theorem zl_993 : Cond.code yX9_flag cX9_flag 1 (some .int) ∈ zi_G := zi_inG (List.mem_append_right _ (List.mem_append_right _ (List.mem_append_right _ (List.mem_append_right _ (List.mem_append_right _ (List.mem_append_left _ (List.mem_of_getElem? (l := tables_1_5) (i := 155) (rfl)))))))) rfl
set_option maxRecDepth 100000 in
theorem zl_994 : Cond.code yX9_firstDraft cX9_firstDraft 2 none ∈ zi_G := zi_inG (List.mem_append_right _ (List.mem_append_right _ (List.mem_append_right _ (List.mem_append_right _ (List.mem_append_left _ (List.mem_of_getElem? (l := tables_1_4) (i := 144) (rfl))))))) rfl
set_option maxRecDepth 100000 in
theorem zl_995 : Cond.code yX9_keepDraft cX9_keepDraft 2 none ∈ zi_G := zi_inG (List.mem_append_right _ (List.mem_append_right _ (List.mem_append_right _ (List.mem_append_right _ (List.mem_append_left _ (List.mem_of_getElem? (l := tables_1_4) (i := 148) (rfl))))))) rfl
set_option maxRecDepth 100000 in
theorem zl_996 : Cond.code yX9_feed cX9_feed 4 (some .int) ∈ zi_G := zi_inG (List.mem_append_right _ (List.mem_append_right _ (List.mem_append_right _ (List.mem_append_right _ (List.mem_append_right _ (List.mem_append_left _ (List.mem_of_getElem? (l := tables_1_5) (i := 55) (rfl)))))))) rfl
set_option maxRecDepth 100000 in
theorem zl_997 : Cond.code yX9_end cX9_end 3 (some .int) ∈ zi_G := zi_inG (List.mem_append_right _ (List.mem_append_right _ (List.mem_append_right _ (List.mem_append_right _ (List.mem_append_right _ (List.mem_append_left _ (List.mem_of_getElem? (l := tables_1_5) (i := 60) (rfl)))))))) rfl
set_option maxRecDepth 100000 in
theorem zl_998 : Cond.code yX9_needs cX9_needs 3 none ∈ zi_G := zi_inG (List.mem_append_right _ (List.mem_append_right _ (List.mem_append_right _ (List.mem_append_right _ (List.mem_append_right _ (List.mem_append_left _ (List.mem_of_getElem? (l := tables_1_5) (i := 83) (rfl)))))))) rfl
set_option maxRecDepth 100000 in
theorem zl_999 : Cond.code yX9_look cX9_look 2 (some .int) ∈ zi_G := zi_inG (List.mem_append_right _ (List.mem_append_right _ (List.mem_append_right _ (List.mem_append_right _ (List.mem_append_right _ (List.mem_append_left _ (List.mem_of_getElem? (l := tables_1_5) (i := 75) (rfl)))))))) rfl
set_option maxRecDepth 100000 in
theorem zl_1000 : Cond.code yX9_is cX9_is 5 (some .boolean) ∈ zi_G := zi_inG (List.mem_append_right _ (List.mem_append_right _ (List.mem_append_right _ (List.mem_append_right _ (List.mem_append_right _ (List.mem_append_left _ (List.mem_of_getElem? (l := tables_1_5) (i := 95) (rfl)))))))) rfl
set_option maxRecDepth 100000 in
theorem zl_1001 : Cond.code yX9_ends cX9_ends 4 (some .boolean) ∈ zi_G := zi_inG (List.mem_append_right _ (List.mem_append_right _ (List.mem_append_right _ (List.mem_append_right _ (List.mem_append_right _ (List.mem_append_left _ (List.mem_of_getElem? (l := tables_1_5) (i := 99) (rfl)))))))) rfl
set_option maxRecDepth 100000 in
theorem zl_1002 : Cond.code yX9_ruleLine cX9_ruleLine 1 (some .int) ∈ zi_G := zi_inG (List.mem_append_right _ (List.mem_append_right _ (List.mem_append_right _ (List.mem_append_right _ (List.mem_append_right _ (List.mem_append_left _ (List.mem_of_getElem? (l := tables_1_5) (i := 103) (rfl)))))))) rfl
set_option maxRecDepth 100000 in
theorem zl_1003 : Cond.code yX9_lineNow cX9_lineNow 1 (some .int) ∈ zi_G := zi_inG (List.mem_append_right _ (List.mem_append_right _ (List.mem_append_right _ (List.mem_append_right _ (List.mem_append_right _ (List.mem_append_left _ (List.mem_of_getElem? (l := tables_1_5) (i := 91) (rfl)))))))) rfl
set_option maxRecDepth 100000 in
theorem zl_1004 : Cond.code yX9_next cX9_next 2 none ∈ zi_G := zi_inG (List.mem_append_right _ (List.mem_append_right _ (List.mem_append_right _ (List.mem_append_right _ (List.mem_append_right _ (List.mem_append_left _ (List.mem_of_getElem? (l := tables_1_5) (i := 71) (rfl)))))))) rfl
set_option maxRecDepth 100000 in
theorem zl_1005 : Cond.code yX9_looked cX9_looked 3 (some .int) ∈ zi_G := zi_inG (List.mem_append_right _ (List.mem_append_right _ (List.mem_append_right _ (List.mem_append_right _ (List.mem_append_right _ (List.mem_append_left _ (List.mem_of_getElem? (l := tables_1_5) (i := 115) (rfl)))))))) rfl
set_option maxRecDepth 100000 in
theorem zl_1006 : Cond.code yX9_readNumber cX9_readNumber 4 (some .int) ∈ zi_G := zi_inG (List.mem_append_right _ (List.mem_append_right _ (List.mem_append_right _ (List.mem_append_right _ (List.mem_append_right _ (List.mem_append_left _ (List.mem_of_getElem? (l := tables_1_5) (i := 111) (rfl)))))))) rfl
set_option maxRecDepth 100000 in
theorem zl_1007 : Cond.code yX9_readRow cX9_readRow 5 none ∈ zi_G := zi_inG (List.mem_append_right _ (List.mem_append_right _ (List.mem_append_right _ (List.mem_append_right _ (List.mem_append_right _ (List.mem_append_left _ (List.mem_of_getElem? (l := tables_1_5) (i := 123) (rfl)))))))) rfl
set_option maxRecDepth 100000 in
theorem zl_1008 : Cond.code yX9_sawCell cX9_sawCell 2 none ∈ zi_G := zi_inG (List.mem_append_right _ (List.mem_append_right _ (List.mem_append_right _ (List.mem_append_right _ (List.mem_append_right _ (List.mem_append_left _ (List.mem_of_getElem? (l := tables_1_5) (i := 119) (rfl)))))))) rfl
set_option maxRecDepth 100000 in
theorem zl_1009 : Cond.code yX9_readGround cX9_readGround 4 none ∈ zi_G := zi_inG (List.mem_append_right _ (List.mem_append_right _ (List.mem_append_right _ (List.mem_append_right _ (List.mem_append_right _ (List.mem_append_left _ (List.mem_of_getElem? (l := tables_1_5) (i := 127) (rfl)))))))) rfl
set_option maxRecDepth 100000 in
theorem zl_1010 : Cond.code yX9_readLineOf cX9_readLineOf 2 none ∈ zi_G := zi_inG (List.mem_append_right _ (List.mem_append_right _ (List.mem_append_right _ (List.mem_append_right _ (List.mem_append_right _ (List.mem_append_left _ (List.mem_of_getElem? (l := tables_1_5) (i := 107) (rfl)))))))) rfl
set_option maxRecDepth 100000 in
theorem zl_1011 : Cond.code yX9_readLine cX9_readLine 2 none ∈ zi_G := zi_inG (List.mem_append_right _ (List.mem_append_right _ (List.mem_append_right _ (List.mem_append_right _ (List.mem_append_right _ (List.mem_append_left _ (List.mem_of_getElem? (l := tables_1_5) (i := 87) (rfl)))))))) rfl
set_option maxRecDepth 100000 in
theorem zl_1012 : Cond.code yX9_text cX9_text 2 (some .int) ∈ zi_G := zi_inG (List.mem_append_right _ (List.mem_append_right _ (List.mem_append_right _ (List.mem_append_right _ (List.mem_append_right _ (List.mem_append_left _ (List.mem_of_getElem? (l := tables_1_5) (i := 67) (rfl)))))))) rfl
set_option maxRecDepth 100000 in
theorem zl_1013 : Cond.code yX9_fault cX9_fault 1 (some .int) ∈ zi_G := zi_inG (List.mem_append_right _ (List.mem_append_right _ (List.mem_append_right _ (List.mem_append_right _ (List.mem_append_right _ (List.mem_append_left _ (List.mem_of_getElem? (l := tables_1_5) (i := 131) (rfl)))))))) rfl
set_option maxRecDepth 100000 in
theorem zl_1014 : Cond.code yX9_isCell cX9_isCell 2 (some .boolean) ∈ zi_G := zi_inG (List.mem_append_right _ (List.mem_append_right _ (List.mem_append_right _ (List.mem_append_right _ (List.mem_append_right _ (List.mem_append_left _ (List.mem_of_getElem? (l := tables_1_5) (i := 143) (rfl)))))))) rfl
set_option maxRecDepth 100000 in
theorem zl_1015 : Cond.code yX9_isFarm cX9_isFarm 2 (some .boolean) ∈ zi_G := zi_inG (List.mem_append_right _ (List.mem_append_right _ (List.mem_append_right _ (List.mem_append_right _ (List.mem_append_right _ (List.mem_append_left _ (List.mem_of_getElem? (l := tables_1_5) (i := 151) (rfl)))))))) rfl
set_option maxRecDepth 100000 in
theorem zl_1016 : Cond.code yX9_isYear cX9_isYear 1 (some .boolean) ∈ zi_G := zi_inG (List.mem_append_right _ (List.mem_append_right _ (List.mem_append_right _ (List.mem_append_right _ (List.mem_append_right _ (List.mem_append_left _ (List.mem_of_getElem? (l := tables_1_5) (i := 221) (rfl)))))))) rfl
set_option maxRecDepth 100000 in
theorem zl_1017 : Cond.code yX9_beside cX9_beside 5 (some .int) ∈ zi_G := zi_inG (List.mem_append_right _ (List.mem_append_right _ (List.mem_append_right _ (List.mem_append_right _ (List.mem_append_right _ (List.mem_append_left _ (List.mem_of_getElem? (l := tables_1_5) (i := 175) (rfl)))))))) rfl
set_option maxRecDepth 100000 in
theorem zl_1018 : Cond.code yX9_lowestBeside cX9_lowestBeside 6 (some .int) ∈ zi_G := zi_inG (List.mem_append_right _ (List.mem_append_right _ (List.mem_append_right _ (List.mem_append_right _ (List.mem_append_right _ (List.mem_append_left _ (List.mem_of_getElem? (l := tables_1_5) (i := 171) (rfl)))))))) rfl
set_option maxRecDepth 100000 in
theorem zl_1019 : Cond.code yX9_findBed cX9_findBed 2 none ∈ zi_G := zi_inG (List.mem_append_right _ (List.mem_append_right _ (List.mem_append_right _ (List.mem_append_right _ (List.mem_append_right _ (List.mem_append_left _ (List.mem_of_getElem? (l := tables_1_5) (i := 167) (rfl)))))))) rfl
set_option maxRecDepth 100000 in
theorem zl_1020 : Cond.code yX9_bedNow cX9_bedNow 1 (some .int) ∈ zi_G := zi_inG (List.mem_append_right _ (List.mem_append_right _ (List.mem_append_right _ (List.mem_append_right _ (List.mem_append_right _ (List.mem_append_left _ (List.mem_of_getElem? (l := tables_1_5) (i := 163) (rfl)))))))) rfl
set_option maxRecDepth 100000 in
theorem zl_1021 : Cond.code yX9_hasNow cX9_hasNow 5 (some .int) ∈ zi_G := zi_inG (List.mem_append_right _ (List.mem_append_right _ (List.mem_append_right _ (List.mem_append_right _ (List.mem_append_right _ (List.mem_append_left _ (List.mem_of_getElem? (l := tables_1_5) (i := 159) (rfl)))))))) rfl
set_option maxRecDepth 100000 in
theorem zl_1022 : Cond.code yX9_isBeside cX9_isBeside 6 (some .boolean) ∈ zi_G := zi_inG (List.mem_append_right _ (List.mem_append_right _ (List.mem_append_right _ (List.mem_append_right _ (List.mem_append_right _ (List.mem_append_left _ (List.mem_of_getElem? (l := tables_1_5) (i := 183) (rfl)))))))) rfl
set_option maxRecDepth 100000 in
theorem zl_1023 : Cond.code yX9_mayCut cX9_mayCut 8 (some .int) ∈ zi_G := zi_inG (List.mem_append_right _ (List.mem_append_right _ (List.mem_append_right _ (List.mem_append_right _ (List.mem_append_right _ (List.mem_append_left _ (List.mem_of_getElem? (l := tables_1_5) (i := 179) (rfl)))))))) rfl
set_option maxRecDepth 100000 in
theorem zl_1024 : Cond.code yX9_rule cX9_rule 2 (some .int) ∈ zi_G := zi_inG (List.mem_append_right _ (List.mem_append_right _ (List.mem_append_right _ (List.mem_append_right _ (List.mem_append_right _ (List.mem_append_left _ (List.mem_of_getElem? (l := tables_1_5) (i := 135) (rfl)))))))) rfl
set_option maxRecDepth 100000 in
theorem zl_1025 : Cond.code yX9_cell cX9_cell 3 (some .int) ∈ zi_G := zi_inG (List.mem_append_right _ (List.mem_append_right _ (List.mem_append_right _ (List.mem_append_right _ (List.mem_append_right _ (List.mem_append_left _ (List.mem_of_getElem? (l := tables_1_5) (i := 139) (rfl)))))))) rfl
set_option maxRecDepth 100000 in
theorem zl_1026 : Cond.code yX9_farm cX9_farm 5 (some .int) ∈ zi_G := zi_inG (List.mem_append_right _ (List.mem_append_right _ (List.mem_append_right _ (List.mem_append_right _ (List.mem_append_right _ (List.mem_append_left _ (List.mem_of_getElem? (l := tables_1_5) (i := 147) (rfl)))))))) rfl
set_option maxRecDepth 100000 in
theorem zl_1027 : Cond.code yX9_bed cX9_bed 2 (some .int) ∈ zi_G := zi_inG (List.mem_append_right _ (List.mem_append_right _ (List.mem_append_right _ (List.mem_append_right _ (List.mem_append_right _ (List.mem_append_left _ (List.mem_of_getElem? (l := tables_1_5) (i := 187) (rfl)))))))) rfl
set_option maxRecDepth 100000 in
theorem zl_1028 : Cond.code yX9_becomes cX9_becomes 4 (some .int) ∈ zi_G := zi_inG (List.mem_append_right _ (List.mem_append_right _ (List.mem_append_right _ (List.mem_append_right _ (List.mem_append_right _ (List.mem_append_left _ (List.mem_of_getElem? (l := tables_1_5) (i := 196) (rfl)))))))) rfl
set_option maxRecDepth 100000 in
theorem zl_1029 : Cond.code yX9_dam cX9_dam 3 (some .int) ∈ zi_G := zi_inG (List.mem_append_right _ (List.mem_append_right _ (List.mem_append_right _ (List.mem_append_right _ (List.mem_append_right _ (List.mem_append_left _ (List.mem_of_getElem? (l := tables_1_5) (i := 191) (rfl)))))))) rfl
set_option maxRecDepth 100000 in
theorem zl_1030 : Cond.code yX9_move cX9_move 2 (some .int) ∈ zi_G := zi_inG (List.mem_append_right _ (List.mem_append_right _ (List.mem_append_right _ (List.mem_append_right _ (List.mem_append_right _ (List.mem_append_left _ (List.mem_of_getElem? (l := tables_1_5) (i := 200) (rfl)))))))) rfl
set_option maxRecDepth 100000 in
theorem zl_1031 : Cond.code yX9_law cX9_law 2 (some .int) ∈ zi_G := zi_inG (List.mem_append_right _ (List.mem_append_right _ (List.mem_append_right _ (List.mem_append_right _ (List.mem_append_right _ (List.mem_append_left _ (List.mem_of_getElem? (l := tables_1_5) (i := 204) (rfl)))))))) rfl
set_option maxRecDepth 100000 in
theorem zl_1032 : Cond.code yX9_silt cX9_silt 2 (some .int) ∈ zi_G := zi_inG (List.mem_append_right _ (List.mem_append_right _ (List.mem_append_right _ (List.mem_append_right _ (List.mem_append_right _ (List.mem_append_left _ (List.mem_of_getElem? (l := tables_1_5) (i := 209) (rfl)))))))) rfl
set_option maxRecDepth 100000 in
theorem zl_1033 : Cond.code yX9_price cX9_price 3 (some .int) ∈ zi_G := zi_inG (List.mem_append_right _ (List.mem_append_right _ (List.mem_append_right _ (List.mem_append_right _ (List.mem_append_right _ (List.mem_append_left _ (List.mem_of_getElem? (l := tables_1_5) (i := 213) (rfl)))))))) rfl
set_option maxRecDepth 100000 in
theorem zl_1034 : Cond.code yX9_marks cX9_marks 2 none ∈ zi_G := zi_inG (List.mem_append_right _ (List.mem_append_right _ (List.mem_append_right _ (List.mem_append_right _ (List.mem_append_right _ (List.mem_append_right _ (List.mem_of_getElem? (l := tables_1_6) (i := 13) (rfl)))))))) rfl
set_option maxRecDepth 100000 in
theorem zl_1035 : Cond.code yX9_returns cX9_returns 2 none ∈ zi_G := zi_inG (List.mem_append_right _ (List.mem_append_right _ (List.mem_append_right _ (List.mem_append_right _ (List.mem_append_right _ (List.mem_append_right _ (List.mem_of_getElem? (l := tables_1_6) (i := 17) (rfl)))))))) rfl
set_option maxRecDepth 100000 in
theorem zl_1036 : Cond.code yX9_cutOf cX9_cutOf 3 (some .int) ∈ zi_G := zi_inG (List.mem_append_right _ (List.mem_append_right _ (List.mem_append_right _ (List.mem_append_right _ (List.mem_append_right _ (List.mem_append_left _ (List.mem_of_getElem? (l := tables_1_5) (i := 233) (rfl)))))))) rfl
set_option maxRecDepth 100000 in
theorem zl_1037 : Cond.code yX9_timesOf cX9_timesOf 1 (some .int) ∈ zi_G := zi_inG (List.mem_append_right _ (List.mem_append_right _ (List.mem_append_right _ (List.mem_append_right _ (List.mem_append_right _ (List.mem_append_right _ (List.mem_of_getElem? (l := tables_1_6) (i := 50) (rfl)))))))) rfl
set_option maxRecDepth 100000 in
theorem zl_1038 : Cond.code yX9_firstWrong cX9_firstWrong 6 (some .int) ∈ zi_G := zi_inG (List.mem_append_right _ (List.mem_append_right _ (List.mem_append_right _ (List.mem_append_right _ (List.mem_append_right _ (List.mem_append_left _ (List.mem_of_getElem? (l := tables_1_5) (i := 230) (rfl)))))))) rfl
set_option maxRecDepth 100000 in
theorem zl_1039 : Cond.code yX9_canBe cX9_canBe 2 (some .boolean) ∈ zi_G := zi_inG (List.mem_append_right _ (List.mem_append_right _ (List.mem_append_right _ (List.mem_append_right _ (List.mem_append_right _ (List.mem_append_left _ (List.mem_of_getElem? (l := tables_1_5) (i := 226) (rfl)))))))) rfl
set_option maxRecDepth 100000 in
theorem zl_1040 : Cond.code yX9_silts cX9_silts 4 none ∈ zi_G := zi_inG (List.mem_append_right _ (List.mem_append_right _ (List.mem_append_right _ (List.mem_append_right _ (List.mem_append_right _ (List.mem_append_right _ (List.mem_of_getElem? (l := tables_1_6) (i := 1) (rfl)))))))) rfl
set_option maxRecDepth 100000 in
theorem zl_1041 : Cond.code yX9_goes cX9_goes 4 none ∈ zi_G := zi_inG (List.mem_append_right _ (List.mem_append_right _ (List.mem_append_right _ (List.mem_append_right _ (List.mem_append_right _ (List.mem_append_left _ (List.mem_of_getElem? (l := tables_1_5) (i := 237) (rfl)))))))) rfl
set_option maxRecDepth 100000 in
theorem zl_1042 : Cond.code yX9_year cX9_year 2 (some .int) ∈ zi_G := zi_inG (List.mem_append_right _ (List.mem_append_right _ (List.mem_append_right _ (List.mem_append_right _ (List.mem_append_right _ (List.mem_append_left _ (List.mem_of_getElem? (l := tables_1_5) (i := 218) (rfl)))))))) rfl
set_option maxRecDepth 100000 in
theorem zl_1043 : Cond.code yX9_hasBy cX9_hasBy 4 (some .int) ∈ zi_G := zi_inG (List.mem_append_right _ (List.mem_append_right _ (List.mem_append_right _ (List.mem_append_right _ (List.mem_append_right _ (List.mem_append_right _ (List.mem_of_getElem? (l := tables_1_6) (i := 9) (rfl)))))))) rfl
set_option maxRecDepth 100000 in
theorem zl_1044 : Cond.code yX9_bedBy cX9_bedBy 3 (some .int) ∈ zi_G := zi_inG (List.mem_append_right _ (List.mem_append_right _ (List.mem_append_right _ (List.mem_append_right _ (List.mem_append_right _ (List.mem_append_right _ (List.mem_of_getElem? (l := tables_1_6) (i := 74) (rfl)))))))) rfl
set_option maxRecDepth 100000 in
theorem zl_1045 : Cond.code yX9_would cX9_would 3 (some .int) ∈ zi_G := zi_inG (List.mem_append_right _ (List.mem_append_right _ (List.mem_append_right _ (List.mem_append_right _ (List.mem_append_right _ (List.mem_append_right _ (List.mem_of_getElem? (l := tables_1_6) (i := 5) (rfl)))))))) rfl
set_option maxRecDepth 100000 in
theorem zl_1046 : Cond.code yX9_tell cX9_tell 2 (some .int) ∈ zi_G := zi_inG (List.mem_append_right _ (List.mem_append_right _ (List.mem_append_right _ (List.mem_append_right _ (List.mem_append_right _ (List.mem_append_right _ (List.mem_of_getElem? (l := tables_1_6) (i := 21) (rfl)))))))) rfl
set_option maxRecDepth 100000 in
theorem zl_1047 : Cond.code yX9_drop cX9_drop 3 (some .int) ∈ zi_G := zi_inG (List.mem_append_right _ (List.mem_append_right _ (List.mem_append_right _ (List.mem_append_right _ (List.mem_append_right _ (List.mem_append_right _ (List.mem_of_getElem? (l := tables_1_6) (i := 25) (rfl)))))))) rfl
set_option maxRecDepth 100000 in
theorem zl_1048 : Cond.code yX9_judge cX9_judge 6 (some .int) ∈ zi_G := zi_inG (List.mem_append_right _ (List.mem_append_right _ (List.mem_append_right _ (List.mem_append_right _ (List.mem_append_right _ (List.mem_append_right _ (List.mem_of_getElem? (l := tables_1_6) (i := 29) (rfl)))))))) rfl
set_option maxRecDepth 100000 in
theorem zl_1049 : Cond.code yX9_findOptions cX9_findOptions 4 none ∈ zi_G := zi_inG (List.mem_append_right _ (List.mem_append_right _ (List.mem_append_right _ (List.mem_append_right _ (List.mem_append_right _ (List.mem_append_right _ (List.mem_of_getElem? (l := tables_1_6) (i := 58) (rfl)))))))) rfl
set_option maxRecDepth 100000 in
theorem zl_1050 : Cond.code yX9_allOptions cX9_allOptions 1 (some .int) ∈ zi_G := zi_inG (List.mem_append_right _ (List.mem_append_right _ (List.mem_append_right _ (List.mem_append_right _ (List.mem_append_right _ (List.mem_append_right _ (List.mem_of_getElem? (l := tables_1_6) (i := 62) (rfl)))))))) rfl
set_option maxRecDepth 100000 in
theorem zl_1051 : Cond.code yX9_yearOf cX9_yearOf 4 (some .int) ∈ zi_G := zi_inG (List.mem_append_right _ (List.mem_append_right _ (List.mem_append_right _ (List.mem_append_right _ (List.mem_append_right _ (List.mem_append_right _ (List.mem_of_getElem? (l := tables_1_6) (i := 70) (rfl)))))))) rfl
set_option maxRecDepth 100000 in
theorem zl_1052 : Cond.code yX9_yearAt cX9_yearAt 2 (some .int) ∈ zi_G := zi_inG (List.mem_append_right _ (List.mem_append_right _ (List.mem_append_right _ (List.mem_append_right _ (List.mem_append_right _ (List.mem_append_right _ (List.mem_of_getElem? (l := tables_1_6) (i := 66) (rfl)))))))) rfl
set_option maxRecDepth 100000 in
theorem zl_1053 : Cond.code yX9_enters cX9_enters 5 none ∈ zi_G := zi_inG (List.mem_append_right _ (List.mem_append_right _ (List.mem_append_right _ (List.mem_append_right _ (List.mem_append_right _ (List.mem_append_right _ (List.mem_of_getElem? (l := tables_1_6) (i := 43) (rfl)))))))) rfl
set_option maxRecDepth 100000 in
theorem zl_1054 : Cond.code yX9_leaves cX9_leaves 3 none ∈ zi_G := zi_inG (List.mem_append_right _ (List.mem_append_right _ (List.mem_append_right _ (List.mem_append_right _ (List.mem_append_right _ (List.mem_append_right _ (List.mem_of_getElem? (l := tables_1_6) (i := 47) (rfl)))))))) rfl
set_option maxRecDepth 100000 in
theorem zl_1055 : Cond.code yX9_isBrought cX9_isBrought 7 (some .boolean) ∈ zi_G := zi_inG (List.mem_append_right _ (List.mem_append_right _ (List.mem_append_right _ (List.mem_append_right _ (List.mem_append_right _ (List.mem_append_right _ (List.mem_of_getElem? (l := tables_1_6) (i := 39) (rfl)))))))) rfl
set_option maxRecDepth 100000 in
theorem zl_1056 : Cond.code yX9_alone cX9_alone 5 (some .int) ∈ zi_G := zi_inG (List.mem_append_right _ (List.mem_append_right _ (List.mem_append_right _ (List.mem_append_right _ (List.mem_append_right _ (List.mem_append_right _ (List.mem_of_getElem? (l := tables_1_6) (i := 33) (rfl)))))))) rfl
set_option maxRecDepth 100000 in
theorem zl_1057 : Cond.code yX9_cutsOf cX9_cutsOf 3 (some .int) ∈ zi_G := zi_inG (List.mem_append_right _ (List.mem_append_right _ (List.mem_append_right _ (List.mem_append_right _ (List.mem_append_right _ (List.mem_append_right _ (List.mem_of_getElem? (l := tables_1_6) (i := 77) (rfl)))))))) rfl
set_option maxRecDepth 100000 in
theorem zl_1058 : Cond.code yX9_together cX9_together 9 (some .int) ∈ zi_G := zi_inG (List.mem_append_right _ (List.mem_append_right _ (List.mem_append_right _ (List.mem_append_right _ (List.mem_append_right _ (List.mem_append_right _ (List.mem_of_getElem? (l := tables_1_6) (i := 54) (rfl)))))))) rfl
set_option maxRecDepth 100000 in
theorem zl_1059 : Cond.code yX9_lastOf cX9_lastOf 7 (some .int) ∈ zi_G := zi_inG (List.mem_append_right _ (List.mem_append_right _ (List.mem_append_right _ (List.mem_append_right _ (List.mem_append_right _ (List.mem_append_right _ (List.mem_of_getElem? (l := tables_1_6) (i := 93) (rfl)))))))) rfl
set_option maxRecDepth 100000 in
theorem zl_1060 : Cond.code yX9_secondOf cX9_secondOf 6 (some .int) ∈ zi_G := zi_inG (List.mem_append_right _ (List.mem_append_right _ (List.mem_append_right _ (List.mem_append_right _ (List.mem_append_right _ (List.mem_append_right _ (List.mem_of_getElem? (l := tables_1_6) (i := 89) (rfl)))))))) rfl
set_option maxRecDepth 100000 in
theorem zl_1061 : Cond.code yX9_selfishYear cX9_selfishYear 6 (some .int) ∈ zi_G := zi_inG (List.mem_append_right _ (List.mem_append_right _ (List.mem_append_right _ (List.mem_append_right _ (List.mem_append_right _ (List.mem_append_right _ (List.mem_of_getElem? (l := tables_1_6) (i := 85) (rfl)))))))) rfl
set_option maxRecDepth 100000 in
theorem zl_1062 : Cond.code yX9_selfish cX9_selfish 3 (some .int) ∈ zi_G := zi_inG (List.mem_append_right _ (List.mem_append_right _ (List.mem_append_right _ (List.mem_append_right _ (List.mem_append_right _ (List.mem_append_right _ (List.mem_of_getElem? (l := tables_1_6) (i := 81) (rfl)))))))) rfl
set_option maxRecDepth 100000 in
theorem zl_1063 : Cond.code yX9_breaksOf cX9_breaksOf 7 (some .int) ∈ zi_G := zi_inG (List.mem_append_right _ (List.mem_append_right _ (List.mem_append_right _ (List.mem_append_right _ (List.mem_append_right _ (List.mem_append_right _ (List.mem_of_getElem? (l := tables_1_6) (i := 101) (rfl)))))))) rfl
set_option maxRecDepth 100000 in
theorem zl_1064 : Cond.code yX9_rests cX9_rests 6 (some .int) ∈ zi_G := zi_inG (List.mem_append_right _ (List.mem_append_right _ (List.mem_append_right _ (List.mem_append_right _ (List.mem_append_right _ (List.mem_append_right _ (List.mem_of_getElem? (l := tables_1_6) (i := 97) (rfl)))))))) rfl
set_option maxRecDepth 100000 in
theorem zl_1065 : Cond.code yX9_breaks cX9_breaks 2 (some .int) ∈ zi_G := zi_inG (List.mem_append_right _ (List.mem_append_right _ (List.mem_append_right _ (List.mem_append_right _ (List.mem_append_right _ (List.mem_append_right _ (List.mem_of_getElem? (l := tables_1_6) (i := 105) (rfl)))))))) rfl
set_option maxRecDepth 100000 in
theorem zl_1066 : Cond.code yX9_stands cX9_stands 4 (some .int) ∈ zi_G := zi_inG (List.mem_append_right _ (List.mem_append_right _ (List.mem_append_right _ (List.mem_append_right _ (List.mem_append_right _ (List.mem_append_right _ (List.mem_of_getElem? (l := tables_1_6) (i := 109) (rfl)))))))) rfl
set_option maxRecDepth 100000 in
theorem zl_1067 : Cond.code yX9_areAlike cX9_areAlike 5 (some .boolean) ∈ zi_G := zi_inG (List.mem_append_right _ (List.mem_append_right _ (List.mem_append_right _ (List.mem_append_right _ (List.mem_append_right _ (List.mem_append_right _ (List.mem_of_getElem? (l := tables_1_6) (i := 117) (rfl)))))))) rfl
set_option maxRecDepth 100000 in
theorem zl_1068 : Cond.code yX9_again cX9_again 6 (some .int) ∈ zi_G := zi_inG (List.mem_append_right _ (List.mem_append_right _ (List.mem_append_right _ (List.mem_append_right _ (List.mem_append_right _ (List.mem_append_right _ (List.mem_of_getElem? (l := tables_1_6) (i := 113) (rfl)))))))) rfl
set_option maxRecDepth 100000 in
theorem zl_1069 : Cond.code yX9_common cX9_common 10 (some .long) ∈ zi_G := zi_inG (List.mem_append_right _ (List.mem_append_right _ (List.mem_append_right _ (List.mem_append_right _ (List.mem_append_right _ (List.mem_append_right _ (List.mem_of_getElem? (l := tables_1_6) (i := 125) (rfl)))))))) rfl
set_option maxRecDepth 100000 in
theorem zl_1070 : Cond.code yX9_odds cX9_odds 8 (some .long) ∈ zi_G := zi_inG (List.mem_append_right _ (List.mem_append_right _ (List.mem_append_right _ (List.mem_append_right _ (List.mem_append_right _ (List.mem_append_right _ (List.mem_of_getElem? (l := tables_1_6) (i := 121) (rfl)))))))) rfl
set_option maxRecDepth 100000 in
theorem zl_1071 : Cond.code yX9_see cX9_see 3 (some .int) ∈ zi_G := zi_inG (List.mem_append_right _ (List.mem_append_right _ (List.mem_append_right _ (List.mem_append_right _ (List.mem_append_right _ (List.mem_append_right _ (List.mem_of_getElem? (l := tables_1_6) (i := 129) (rfl)))))))) rfl
set_option maxRecDepth 100000 in
theorem zl_1072 : Cond.code yX9_forget cX9_forget 3 (some .int) ∈ zi_G := zi_inG (List.mem_append_right _ (List.mem_append_right _ (List.mem_append_right _ (List.mem_append_right _ (List.mem_append_right _ (List.mem_append_right _ (List.mem_of_getElem? (l := tables_1_6) (i := 133) (rfl)))))))) rfl
set_option maxRecDepth 100000 in
theorem zl_1073 : Cond.code yX9_isSo cX9_isSo 4 (some .boolean) ∈ zi_G := zi_inG (List.mem_append_right _ (List.mem_append_right _ (List.mem_append_right _ (List.mem_append_right _ (List.mem_append_right _ (List.mem_append_right _ (List.mem_of_getElem? (l := tables_1_6) (i := 141) (rfl)))))))) rfl
set_option maxRecDepth 100000 in
theorem zl_1074 : Cond.code yX9_cutters cX9_cutters 3 (some .int) ∈ zi_G := zi_inG (List.mem_append_right _ (List.mem_append_right _ (List.mem_append_right _ (List.mem_append_right _ (List.mem_append_right _ (List.mem_append_right _ (List.mem_of_getElem? (l := tables_1_6) (i := 144) (rfl)))))))) rfl
set_option maxRecDepth 100000 in
theorem zl_1075 : Cond.code yX9_fits cX9_fits 8 (some .int) ∈ zi_G := zi_inG (List.mem_append_right _ (List.mem_append_right _ (List.mem_append_right _ (List.mem_append_right _ (List.mem_append_right _ (List.mem_append_right _ (List.mem_of_getElem? (l := tables_1_6) (i := 137) (rfl)))))))) rfl
set_option maxRecDepth 100000 in
theorem zl_1076 : Cond.code yX9_copies cX9_copies 4 none ∈ zi_G := zi_inG (List.mem_append_right _ (List.mem_append_right _ (List.mem_append_right _ (List.mem_append_right _ (List.mem_append_right _ (List.mem_append_right _ (List.mem_of_getElem? (l := tables_1_6) (i := 152) (rfl)))))))) rfl
set_option maxRecDepth 100000 in
theorem zl_1077 : Cond.code yX9_keep cX9_keep 3 (some .int) ∈ zi_G := zi_inG (List.mem_append_right _ (List.mem_append_right _ (List.mem_append_right _ (List.mem_append_right _ (List.mem_append_right _ (List.mem_append_right _ (List.mem_of_getElem? (l := tables_1_6) (i := 148) (rfl)))))))) rfl
set_option maxRecDepth 100000 in
theorem zl_1078 : Cond.code yX9_back cX9_back 2 (some .int) ∈ zi_G := zi_inG (List.mem_append_right _ (List.mem_append_right _ (List.mem_append_right _ (List.mem_append_right _ (List.mem_append_right _ (List.mem_append_right _ (List.mem_of_getElem? (l := tables_1_6) (i := 156) (rfl)))))))) rfl
set_option maxRecDepth 100000 in
theorem zl_1079 : Cond.code yX9_isSheet cX9_isSheet 2 (some .boolean) ∈ zi_G := zi_inG (List.mem_append_right _ (List.mem_append_right _ (List.mem_append_right _ (List.mem_append_right _ (List.mem_append_right _ (List.mem_append_right _ (List.mem_of_getElem? (l := tables_1_6) (i := 163) (rfl)))))))) rfl
set_option maxRecDepth 100000 in
theorem zl_1080 : Cond.code yX9_sheet cX9_sheet 5 (some .int) ∈ zi_G := zi_inG (List.mem_append_right _ (List.mem_append_right _ (List.mem_append_right _ (List.mem_append_right _ (List.mem_append_right _ (List.mem_append_right _ (List.mem_of_getElem? (l := tables_1_6) (i := 160) (rfl)))))))) rfl
set_option maxRecDepth 100000 in
theorem zl_1081 : Cond.code yX9_lay cX9_lay 4 (some .int) ∈ zi_G := zi_inG (List.mem_append_right _ (List.mem_append_right _ (List.mem_append_right _ (List.mem_append_right _ (List.mem_append_right _ (List.mem_append_right _ (List.mem_of_getElem? (l := tables_1_6) (i := 167) (rfl)))))))) rfl
set_option maxRecDepth 100000 in
theorem zl_1082 : Cond.code yX9_read cX9_read 12 (some .int) ∈ zi_G := zi_inG (List.mem_append_right _ (List.mem_append_right _ (List.mem_append_right _ (List.mem_append_right _ (List.mem_append_right _ (List.mem_append_right _ (List.mem_of_getElem? (l := tables_1_6) (i := 171) (rfl)))))))) rfl
set_option maxRecDepth 100000 in
theorem zl_1083 : Cond.code yX9_torn cX9_torn 1 (some .int) ∈ zi_G := zi_inG (List.mem_append_right _ (List.mem_append_right _ (List.mem_append_right _ (List.mem_append_right _ (List.mem_append_right _ (List.mem_append_right _ (List.mem_of_getElem? (l := tables_1_6) (i := 177) (rfl)))))))) rfl
set_option maxRecDepth 100000 in
theorem zl_1084 : Cond.code yX9_count cX9_count 4 (some .int) ∈ zi_G := zi_inG (List.mem_append_right _ (List.mem_append_right _ (List.mem_append_right _ (List.mem_append_right _ (List.mem_append_right _ (List.mem_append_right _ (List.mem_of_getElem? (l := tables_1_6) (i := 181) (rfl)))))))) rfl
set_option maxRecDepth 100000 in
theorem zl_1085 : Cond.code yJ6_bitCount_0f7a4 cJ6_bitCount_0f7a4 1 (some .int) ∈ zi_G := zi_inG (List.mem_append_right _ (List.mem_append_right _ (List.mem_append_right _ (List.mem_append_left _ (List.mem_of_getElem? (l := tables_1_3) (i := 29) (rfl)))))) rfl
set_option maxRecDepth 100000 in
theorem zl_1086 : Cond.initialized "java/lang/Integer" ∈ zi_G := zi_inG (List.mem_append_right _ (List.mem_append_left _ (List.mem_of_getElem? (l := tables_1_1) (i := 17) (by decide +kernel)))) rfl
set_option maxRecDepth 100000 in
theorem zl_1087 : Cond.code yJ7_fill_53178 cJ7_fill_53178 4 none ∈ zi_G := zi_inG (List.mem_append_right _ (List.mem_append_right _ (List.mem_append_left _ (List.mem_of_getElem? (l := tables_1_2) (i := 41) (rfl))))) rfl
set_option maxRecDepth 100000 in
theorem zl_1088 : Cond.initialized "java/util/Arrays" ∈ zi_G := zi_inG (List.mem_append_right _ (List.mem_append_left _ (List.mem_of_getElem? (l := tables_1_1) (i := 10) (by decide +kernel)))) rfl
end
section
set_option maxRecDepth 100000 in
theorem cb_X3_hasCell_0 : ci_ok yX3_hasCell cX3_hasCell 2 0 (ci_seq (ci_load 0 1 1) 1 (ci_if (fun x => decide (x < 0)) 21 4)) := cq_ok (cr_iload_n (k := 1) (by decide +kernel) rfl rfl) (cr_if_lt (off := 20) (by decide +kernel) (by decide) rfl)
set_option maxRecDepth 100000 in
theorem cb_X3_hasCell_4 : ci_ok yX3_hasCell cX3_hasCell 2 4 (ci_seq (ci_load 0 1 5) 5 (ci_seq (ci_load 2 0 6) 6 (ci_seq (ci_getf 3 2 9) 9 (ci_seq (ci_load 2 0 10) 10 (ci_seq (ci_getf 3 3 13) 13 (ci_seq (ci_bin (fun a b => a * b) 14) 14 (ci_ic (fun x y => decide (y ≤ x)) 21 17))))))) := cq_ok (cr_iload_n (k := 1) (by decide +kernel) rfl rfl) (cq_ok (cr_aload_n (k := 0) (by decide +kernel) rfl rfl) (cq_ok (cr_getf (idx := 18) zc_3 (by decide) zl_166 (by decide +kernel) rfl) (cq_ok (cr_aload_n (k := 0) (by decide +kernel) rfl rfl) (cq_ok (cr_getf (idx := 22) zc_3 (by decide) zl_165 (by decide +kernel) rfl) (cq_ok (cr_imul (by decide +kernel) rfl) (cr_ic_ge (off := 7) (by decide +kernel) (by decide) rfl))))))
set_option maxRecDepth 100000 in
theorem cb_X3_hasCell_17 : ci_ok yX3_hasCell cX3_hasCell 2 17 (ci_seq (ci_push (.int 1) 18) 18 (ci_go 22)) := cq_ok (cr_iconst2 (n := 1) (by decide +kernel) (by decide +kernel) rfl) (cr_goto (off := 4) (by decide +kernel) (by decide))
set_option maxRecDepth 100000 in
theorem cb_X3_hasCell_21 : ci_ok yX3_hasCell cX3_hasCell 2 21 (ci_push (.int 0) 22) := cr_iconst2 (n := 0) (by decide +kernel) (by decide +kernel) rfl
set_option maxRecDepth 100000 in
theorem cd_X3_hasCell_22 : decode cX3_hasCell 22 = .ok (zi_rop (some .boolean), 1) := by decide +kernel
set_option maxRecDepth 100000 in
theorem cb_X3_hasFarm_0 : ci_ok yX3_hasFarm cX3_hasFarm 2 0 (ci_seq (ci_load 0 1 1) 1 (ci_if (fun x => decide (x < 0)) 16 4)) := cq_ok (cr_iload_n (k := 1) (by decide +kernel) rfl rfl) (cr_if_lt (off := 15) (by decide +kernel) (by decide) rfl)
set_option maxRecDepth 100000 in
theorem cb_X3_hasFarm_4 : ci_ok yX3_hasFarm cX3_hasFarm 2 4 (ci_seq (ci_load 0 1 5) 5 (ci_seq (ci_load 2 0 6) 6 (ci_seq (ci_getf 3 4 9) 9 (ci_ic (fun x y => decide (y ≤ x)) 16 12)))) := cq_ok (cr_iload_n (k := 1) (by decide +kernel) rfl rfl) (cq_ok (cr_aload_n (k := 0) (by decide +kernel) rfl rfl) (cq_ok (cr_getf (idx := 25) zc_3 (by decide) zl_167 (by decide +kernel) rfl) (cr_ic_ge (off := 7) (by decide +kernel) (by decide) rfl)))
set_option maxRecDepth 100000 in
theorem cb_X3_hasFarm_12 : ci_ok yX3_hasFarm cX3_hasFarm 2 12 (ci_seq (ci_push (.int 1) 13) 13 (ci_go 17)) := cq_ok (cr_iconst2 (n := 1) (by decide +kernel) (by decide +kernel) rfl) (cr_goto (off := 4) (by decide +kernel) (by decide))
set_option maxRecDepth 100000 in
theorem cb_X3_hasFarm_16 : ci_ok yX3_hasFarm cX3_hasFarm 2 16 (ci_push (.int 0) 17) := cr_iconst2 (n := 0) (by decide +kernel) (by decide +kernel) rfl
set_option maxRecDepth 100000 in
theorem cd_X3_hasFarm_17 : decode cX3_hasFarm 17 = .ok (zi_rop (some .boolean), 1) := by decide +kernel
set_option maxRecDepth 100000 in
theorem cb_X5_renew_0 : ci_ok yX5_renew cX5_renew 5 0 (ci_seq (ci_load 2 0 1) 1 (ci_seq (ci_getf 5 0 4) 4 (ci_seq (ci_load 0 1 5) 5 (ci_seq (ci_load 0 2 6) 6 (ci_seq (ci_ast .int 7) 7 (ci_seq (ci_load 2 0 8) 8 (ci_seq (ci_getf 5 1 11) 11 (ci_seq (ci_load 0 1 12) 12 (ci_seq (ci_load 0 3 13) 13 (ci_seq (ci_ast .int 14) 14 (ci_seq (ci_push (.int 0) 15) 15 (ci_store 0 4 17)))))))))))) := cq_ok (cr_aload_n (k := 0) (by decide +kernel) rfl rfl) (cq_ok (cr_getf (idx := 9) zc_5 (by decide) zl_199 (by decide +kernel) rfl) (cq_ok (cr_iload_n (k := 1) (by decide +kernel) rfl rfl) (cq_ok (cr_iload_n (k := 2) (by decide +kernel) rfl rfl) (cq_ok (cr_ast (ins := .iastore) rfl (by decide +kernel) (Or.inl ⟨rfl, rfl⟩)) (cq_ok (cr_aload_n (k := 0) (by decide +kernel) rfl rfl) (cq_ok (cr_getf (idx := 15) zc_5 (by decide) zl_197 (by decide +kernel) rfl) (cq_ok (cr_iload_n (k := 1) (by decide +kernel) rfl rfl) (cq_ok (cr_iload_n (k := 3) (by decide +kernel) rfl rfl) (cq_ok (cr_ast (ins := .iastore) rfl (by decide +kernel) (Or.inl ⟨rfl, rfl⟩)) (cq_ok (cr_iconst2 (n := 0) (by decide +kernel) (by decide +kernel) rfl) (cr_istore (by decide +kernel) (by decide) rfl)))))))))))
set_option maxRecDepth 100000 in
theorem cb_X5_renew_17 : ci_ok yX5_renew cX5_renew 5 17 (ci_seq (ci_load 0 4 19) 19 (ci_seq (ci_push (.int 40) 21) 21 (ci_ic (fun x y => decide (y ≤ x)) 43 24))) := cq_ok (cr_iload (by decide +kernel) rfl) (cq_ok (cr_bipush (n := 40) (by decide +kernel) (by decide +kernel) rfl) (cr_ic_ge (off := 22) (by decide +kernel) (by decide) rfl))
set_option maxRecDepth 100000 in
theorem cb_X5_renew_24 : ci_ok yX5_renew cX5_renew 5 24 (ci_seq (ci_load 2 0 25) 25 (ci_seq (ci_getf 5 2 28) 28 (ci_seq (ci_load 0 1 29) 29 (ci_seq (ci_push (.int 40) 31) 31 (ci_seq (ci_bin (fun a b => a * b) 32) 32 (ci_seq (ci_load 0 4 34) 34 (ci_seq (ci_bin (fun a b => a + b) 35) 35 (ci_seq (ci_push (.int 0) 36) 36 (ci_seq (ci_ast .int 37) 37 (ci_seq (ci_inc 4 1 40) 40 (ci_go 17))))))))))) := cq_ok (cr_aload_n (k := 0) (by decide +kernel) rfl rfl) (cq_ok (cr_getf (idx := 18) zc_5 (by decide) zl_198 (by decide +kernel) rfl) (cq_ok (cr_iload_n (k := 1) (by decide +kernel) rfl rfl) (cq_ok (cr_bipush (n := 40) (by decide +kernel) (by decide +kernel) rfl) (cq_ok (cr_imul (by decide +kernel) rfl) (cq_ok (cr_iload (by decide +kernel) rfl) (cq_ok (cr_iadd (by decide +kernel) rfl) (cq_ok (cr_iconst2 (n := 0) (by decide +kernel) (by decide +kernel) rfl) (cq_ok (cr_ast (ins := .iastore) rfl (by decide +kernel) (Or.inl ⟨rfl, rfl⟩)) (cq_ok (ci_inc_ok (by decide) (by decide +kernel) rfl) (cr_goto (off := -23) (by decide +kernel) (by decide)))))))))))
set_option maxRecDepth 100000 in
theorem cd_X5_renew_43 : decode cX5_renew 43 = .ok (zi_rop none, 1) := by decide +kernel
set_option maxRecDepth 100000 in
theorem cb_X6_append_0 : ci_ok yX6_append cX6_append 4 0 (ci_seq (ci_load 2 0 1) 1 (ci_seq (ci_getf 6 1 4) 4 (ci_seq (ci_push (.int 8) 6) 6 (ci_seq (ci_bin (fun a b => a + b) 7) 7 (ci_seq (ci_push (.int 320) 10) 10 (ci_ic (fun x y => decide (x ≤ y)) 15 13)))))) := cq_ok (cr_aload_n (k := 0) (by decide +kernel) rfl rfl) (cq_ok (cr_getf (idx := 15) zc_6 (by decide) zl_207 (by decide +kernel) rfl) (cq_ok (cr_bipush (n := 8) (by decide +kernel) (by decide +kernel) rfl) (cq_ok (cr_iadd (by decide +kernel) rfl) (cq_ok (cr_sipush (n := 320) (by decide +kernel) (by decide +kernel) rfl) (cr_ic_le (off := 5) (by decide +kernel) (by decide) rfl)))))
set_option maxRecDepth 100000 in
theorem cb_X6_append_13 : ci_ok yX6_append cX6_append 4 13 (ci_push (.int 0) 14) := cr_iconst2 (n := 0) (by decide +kernel) (by decide +kernel) rfl
set_option maxRecDepth 100000 in
theorem cd_X6_append_14 : decode cX6_append 14 = .ok (zi_rop (some .boolean), 1) := by decide +kernel
set_option maxRecDepth 100000 in
theorem cb_X6_append_15 : ci_ok yX6_append cX6_append 4 15 (ci_seq (ci_push (.int 0) 16) 16 (ci_store 0 3 17)) := cq_ok (cr_iconst2 (n := 0) (by decide +kernel) (by decide +kernel) rfl) (cr_istore_n (k := 3) (by decide +kernel) rfl (by decide) rfl)
set_option maxRecDepth 100000 in
theorem cb_X6_append_17 : ci_ok yX6_append cX6_append 4 17 (ci_seq (ci_load 0 3 18) 18 (ci_seq (ci_push (.int 8) 20) 20 (ci_ic (fun x y => decide (y ≤ x)) 51 23))) := cq_ok (cr_iload_n (k := 3) (by decide +kernel) rfl rfl) (cq_ok (cr_bipush (n := 8) (by decide +kernel) (by decide +kernel) rfl) (cr_ic_ge (off := 31) (by decide +kernel) (by decide) rfl))
set_option maxRecDepth 100000 in
theorem cb_X6_append_23 : ci_ok yX6_append cX6_append 4 23 (ci_seq (ci_load 2 0 24) 24 (ci_seq (ci_getf 6 0 27) 27 (ci_seq (ci_load 2 0 28) 28 (ci_seq (ci_getf 6 1 31) 31 (ci_seq (ci_load 0 3 32) 32 (ci_seq (ci_bin (fun a b => a + b) 33) 33 (ci_seq (ci_load 1 1 34) 34 (ci_seq (ci_push (.int 8) 36) 36 (ci_seq (ci_push (.int 7) 38) 38 (ci_seq (ci_load 0 3 39) 39 (ci_seq (ci_bin (fun a b => a - b) 40) 40 (ci_seq (ci_bin (fun a b => a * b) 41) 41 (ci_seq (ci_shfl (fun a b => a >>> (b.toInt64 &&& 63)) 42) 42 (ci_seq (ci_l2i 43) 43 (ci_seq (ci_un (fun x => x.toInt8.toInt32) 44) 44 (ci_seq (ci_ast .byte 45) 45 (ci_seq (ci_inc 3 1 48) 48 (ci_go 17)))))))))))))))))) := cq_ok (cr_aload_n (k := 0) (by decide +kernel) rfl rfl) (cq_ok (cr_getf (idx := 9) zc_6 (by decide) zl_204 (by decide +kernel) rfl) (cq_ok (cr_aload_n (k := 0) (by decide +kernel) rfl rfl) (cq_ok (cr_getf (idx := 15) zc_6 (by decide) zl_207 (by decide +kernel) rfl) (cq_ok (cr_iload_n (k := 3) (by decide +kernel) rfl rfl) (cq_ok (cr_iadd (by decide +kernel) rfl) (cq_ok (cr_lload_n (k := 1) (by decide +kernel) rfl rfl) (cq_ok (cr_bipush (n := 8) (by decide +kernel) (by decide +kernel) rfl) (cq_ok (cr_bipush (n := 7) (by decide +kernel) (by decide +kernel) rfl) (cq_ok (cr_iload_n (k := 3) (by decide +kernel) rfl rfl) (cq_ok (cr_isub (by decide +kernel) rfl) (cq_ok (cr_imul (by decide +kernel) rfl) (cq_ok (cr_lshr (by decide +kernel) rfl) (cq_ok (cr_l2i (by decide +kernel) rfl) (cq_ok (cr_i2b (by decide +kernel) rfl) (cq_ok (cr_ast (ins := .bastore) rfl (by decide +kernel) (Or.inr (Or.inl ⟨rfl, rfl⟩))) (cq_ok (ci_inc_ok (by decide) (by decide +kernel) rfl) (cr_goto (off := -31) (by decide +kernel) (by decide))))))))))))))))))
set_option maxRecDepth 100000 in
theorem cb_X6_append_51 : ci_ok yX6_append cX6_append 4 51 (ci_seq (ci_load 2 0 52) 52 (ci_seq (ci_dup 53) 53 (ci_seq (ci_getf 6 1 56) 56 (ci_seq (ci_push (.int 8) 58) 58 (ci_seq (ci_bin (fun a b => a + b) 59) 59 (ci_seq (ci_putf 6 1 .int 62) 62 (ci_push (.int 1) 63))))))) := cq_ok (cr_aload_n (k := 0) (by decide +kernel) rfl rfl) (cq_ok (cr_dup (by decide +kernel) rfl) (cq_ok (cr_getf (idx := 15) zc_6 (by decide) zl_207 (by decide +kernel) rfl) (cq_ok (cr_bipush (n := 8) (by decide +kernel) (by decide +kernel) rfl) (cq_ok (cr_iadd (by decide +kernel) rfl) (cq_ok (cr_putf (idx := 15) zc_6 (by decide) (by decide +kernel) rfl zl_207 (by decide +kernel) rfl) (cr_iconst2 (n := 1) (by decide +kernel) (by decide +kernel) rfl))))))
set_option maxRecDepth 100000 in
theorem cd_X6_append_63 : decode cX6_append 63 = .ok (zi_rop (some .boolean), 1) := by decide +kernel
set_option maxRecDepth 100000 in
theorem cb_X8_option_0 : ci_ok yX8_option cX8_option 2 0 (ci_seq (ci_load 0 1 1) 1 (ci_tsw 0 2 [28, 33, 41] 50)) := cq_ok (cr_iload_n (k := 1) (by decide +kernel) rfl rfl) (cr_tsw (dflt := 49) (lo := 0) (hi := 2) (offs := #[27, 32, 40]) (len := 27) (by decide +kernel) (by decide) (by decide +kernel))
set_option maxRecDepth 100000 in
theorem cb_X8_option_28 : ci_ok yX8_option cX8_option 2 28 (ci_seq (ci_load 0 0 29) 29 (ci_seq (ci_push (.int 26) 31) 31 (ci_dv (fun a b => a - a / b * b) 32))) := cq_ok (cr_iload_n (k := 0) (by decide +kernel) rfl rfl) (cq_ok (cr_bipush (n := 26) (by decide +kernel) (by decide +kernel) rfl) (cr_irem (by decide +kernel) rfl))
set_option maxRecDepth 100000 in
theorem cd_X8_option_32 : decode cX8_option 32 = .ok (zi_rop (some .int), 1) := by decide +kernel
set_option maxRecDepth 100000 in
theorem cb_X8_option_33 : ci_ok yX8_option cX8_option 2 33 (ci_seq (ci_load 0 0 34) 34 (ci_seq (ci_push (.int 26) 36) 36 (ci_seq (ci_dv (fun a b => a / b) 37) 37 (ci_seq (ci_push (.int 26) 39) 39 (ci_dv (fun a b => a - a / b * b) 40))))) := cq_ok (cr_iload_n (k := 0) (by decide +kernel) rfl rfl) (cq_ok (cr_bipush (n := 26) (by decide +kernel) (by decide +kernel) rfl) (cq_ok (cr_idiv (by decide +kernel) rfl) (cq_ok (cr_bipush (n := 26) (by decide +kernel) (by decide +kernel) rfl) (cr_irem (by decide +kernel) rfl))))
set_option maxRecDepth 100000 in
theorem cd_X8_option_40 : decode cX8_option 40 = .ok (zi_rop (some .int), 1) := by decide +kernel
set_option maxRecDepth 100000 in
theorem cb_X8_option_41 : ci_ok yX8_option cX8_option 2 41 (ci_seq (ci_load 0 0 42) 42 (ci_seq (ci_push (.int 676) 45) 45 (ci_seq (ci_dv (fun a b => a / b) 46) 46 (ci_seq (ci_push (.int 26) 48) 48 (ci_dv (fun a b => a - a / b * b) 49))))) := cq_ok (cr_iload_n (k := 0) (by decide +kernel) rfl rfl) (cq_ok (cr_sipush (n := 676) (by decide +kernel) (by decide +kernel) rfl) (cq_ok (cr_idiv (by decide +kernel) rfl) (cq_ok (cr_bipush (n := 26) (by decide +kernel) (by decide +kernel) rfl) (cr_irem (by decide +kernel) rfl))))
set_option maxRecDepth 100000 in
theorem cd_X8_option_49 : decode cX8_option 49 = .ok (zi_rop (some .int), 1) := by decide +kernel
set_option maxRecDepth 100000 in
theorem cb_X8_option_50 : ci_ok yX8_option cX8_option 2 50 (ci_push (.int 0) 51) := cr_iconst2 (n := 0) (by decide +kernel) (by decide +kernel) rfl
set_option maxRecDepth 100000 in
theorem cd_X8_option_51 : decode cX8_option 51 = .ok (zi_rop (some .int), 1) := by decide +kernel
set_option maxRecDepth 100000 in
theorem cb_X8_has_0 : ci_ok yX8_has cX8_has 2 0 (ci_seq (ci_load 0 0 1) 1 (ci_seq (ci_load 0 1 2) 2 (ci_seq (ci_bin (fun a b => a >>> (b &&& 31)) 3) 3 (ci_seq (ci_push (.int 1) 4) 4 (ci_seq (ci_bin (fun a b => a &&& b) 5) 5 (ci_if (fun x => decide (x = 0)) 12 8)))))) := cq_ok (cr_iload_n (k := 0) (by decide +kernel) rfl rfl) (cq_ok (cr_iload_n (k := 1) (by decide +kernel) rfl rfl) (cq_ok (cr_ishr (by decide +kernel) rfl) (cq_ok (cr_iconst2 (n := 1) (by decide +kernel) (by decide +kernel) rfl) (cq_ok (cr_iand (by decide +kernel) rfl) (cr_if_eq (off := 7) (by decide +kernel) (by decide) rfl)))))
set_option maxRecDepth 100000 in
theorem cb_X8_has_8 : ci_ok yX8_has cX8_has 2 8 (ci_seq (ci_push (.int 1) 9) 9 (ci_go 13)) := cq_ok (cr_iconst2 (n := 1) (by decide +kernel) (by decide +kernel) rfl) (cr_goto (off := 4) (by decide +kernel) (by decide))
set_option maxRecDepth 100000 in
theorem cb_X8_has_12 : ci_ok yX8_has cX8_has 2 12 (ci_push (.int 0) 13) := cr_iconst2 (n := 0) (by decide +kernel) (by decide +kernel) rfl
set_option maxRecDepth 100000 in
theorem cd_X8_has_13 : decode cX8_has 13 = .ok (zi_rop (some .boolean), 1) := by decide +kernel
end
section
/-! a block's run, instruction by instruction: rfl, or one of these -/
theorem ci_sq {f g : ci_F} {pc2 : Nat} {s s1 : ci_S} {r : Option (Nat × ci_S)} (h1 : f s = some (pc2, s1)) (h2 : g s1 = r) : ci_seq f pc2 g s = r := by
  unfold ci_seq
  rw [h1]
  dsimp only
  rw [Nat.beq_refl]
  exact h2
theorem ce_getf {ci k nx q : Nat} {lc : ci_L} {sk : List Value} {w : ci_W} {vs : List Value} {v : Value} (h : w q = some (.inr (ci, vs))) (hv : vs[k]? = some v) : ci_getf ci k nx (lc, .ref (q + 1) :: sk, w) = some (nx, lc, v :: sk, w) := by
  unfold ci_getf
  dsimp only
  rw [h]
  dsimp only
  rw [Nat.beq_refl]
  dsimp only [cond_true]
  rw [hv]
theorem ce_putf {ci k nx q : Nat} {ty : FieldType} {lc : ci_L} {sk : List Value} {w : ci_W} {vs : List Value} {v : Value} (h : w q = some (.inr (ci, vs))) (hf : ci_fit ty v = true) (hk : k < vs.length) : ci_putf ci k ty nx (lc, v :: .ref (q + 1) :: sk, w) = some (nx, lc, sk, ci_set w q (.inr (ci, vs.set k v))) := by
  unfold ci_putf
  dsimp only
  rw [h]
  dsimp only
  have hb : Nat.blt k vs.length = true := Nat.ble_eq_true_of_le hk
  rw [Nat.beq_refl, hf, hb]
  rfl
theorem ce_ald {ty : FieldType} {nx q n : Nat} {i : Int32} {f : Nat → Int32} {lc : ci_L} {sk : List Value} {w : ci_W} (h : w q = some (.inl (ty, n, f))) (h1 : 0 ≤ i.toInt) (h2 : i.toInt < (n : Int)) : ci_ald ty nx (lc, .int i :: .ref (q + 1) :: sk, w) = some (nx, lc, .int (f i.toInt.toNat) :: sk, w) := by
  unfold ci_ald
  dsimp only
  rw [h]
  dsimp only
  rw [if_pos ⟨rfl, h1, h2⟩]
theorem ce_ast {ty : FieldType} {nx q n : Nat} {i x : Int32} {f : Nat → Int32} {lc : ci_L} {sk : List Value} {w : ci_W} (h : w q = some (.inl (ty, n, f))) (h1 : 0 ≤ i.toInt) (h2 : i.toInt < (n : Int)) (h3 : ci_afit ty x = true) : ci_ast ty nx (lc, .int x :: .int i :: .ref (q + 1) :: sk, w) = some (nx, lc, sk, ci_set w q (.inl (ty, n, upd f i.toInt.toNat x))) := by
  unfold ci_ast
  dsimp only
  rw [h]
  dsimp only
  rw [if_pos ⟨rfl, h1, h2, h3⟩]
theorem ce_set_same {w : ci_W} {q : Nat} {c : ci_C} : ci_set w q c q = some c := by
  unfold ci_set
  rw [if_pos rfl]
theorem ce_set_ne {w : ci_W} {q q' : Nat} {c : ci_C} (h : q' ≠ q) : ci_set w q c q' = w q' := by
  unfold ci_set
  rw [if_neg h]
end
section
theorem m_has (d : Nat) (bits c : Int32) (w : ci_W) : ci_Met d (yX8_has, cX8_has, 2, some .boolean, [], 0, 0) [.int bits, .int c] w (fun v w' => v = some (.int (if (bits >>> (c &&& 31)) &&& 1 = 0 then 0 else 1)) ∧ w' = w) := by
  refine ci_met (by decide) (Nat.le_of_ble_eq_true rfl) ?_ ?_
  · rintro v w' ⟨rfl, rfl⟩
    by_cases h : (bits >>> (c &&& 31)) &&& 1 = 0
    · rw [if_pos h]; exact Or.inl rfl
    · rw [if_neg h]; exact Or.inr rfl
  · refine ci_T.step cb_X8_has_0 rfl ?_
    by_cases h : (bits >>> (c &&& 31)) &&& 1 = 0
    · rw [if_pos h]
      simp only [h]
      refine ci_T.step cb_X8_has_12 rfl ?_
      exact ci_T.done (v := some _) cd_X8_has_13 ⟨rfl, rfl⟩
    · rw [if_neg h]
      simp only [h]
      refine ci_T.step cb_X8_has_8 rfl ?_
      exact ci_T.done (v := some _) cd_X8_has_13 ⟨rfl, rfl⟩
theorem m_hasCell (d q : Nat) (c wd hg fm : Int32) (g0 g1 : Value) (w : ci_W) (hq : w q = some (.inr (3, [g0, g1, .int wd, .int hg, .int fm]))) : ci_Met d (yX3_hasCell, cX3_hasCell, 2, some .boolean, [], 0, 0) [.ref (q + 1), .int c] w (fun v w' => v = some (.int (if 0 ≤ c ∧ c < wd * hg then 1 else 0)) ∧ w' = w) := by
  refine ci_met (by decide) (Nat.le_of_ble_eq_true rfl) ?_ ?_
  · rintro v w' ⟨rfl, rfl⟩
    by_cases h : 0 ≤ c ∧ c < wd * hg
    · rw [if_pos h]; exact Or.inr rfl
    · rw [if_neg h]; exact Or.inl rfl
  · change ci_T _ _ _ _ _ _ ([(0, .ref (q + 1)), (1, .int c)], [], w) _
    refine ci_T.step cb_X3_hasCell_0 (ci_sq rfl rfl) ?_
    dsimp only
    by_cases h0 : c < 0
    · rw [decide_eq_true h0, if_neg (fun z => Int32.not_lt.mpr z.1 h0)]
      refine ci_T.step cb_X3_hasCell_21 rfl ?_
      exact ci_T.done (v := some _) cd_X3_hasCell_22 ⟨rfl, rfl⟩
    · rw [decide_eq_false h0]
      refine ci_T.step cb_X3_hasCell_4 (ci_sq rfl (ci_sq rfl (ci_sq (ce_getf hq rfl) (ci_sq rfl (ci_sq (ce_getf hq rfl) (ci_sq rfl rfl)))))) ?_
      dsimp only
      by_cases h1 : wd * hg ≤ c
      · rw [decide_eq_true h1, if_neg (fun z => Int32.not_lt.mpr h1 z.2)]
        refine ci_T.step cb_X3_hasCell_21 rfl ?_
        exact ci_T.done (v := some _) cd_X3_hasCell_22 ⟨rfl, rfl⟩
      · rw [decide_eq_false h1, if_pos ⟨Int32.not_lt.mp h0, Int32.not_le.mp h1⟩]
        refine ci_T.step cb_X3_hasCell_17 (ci_sq rfl rfl) ?_
        exact ci_T.done (v := some _) cd_X3_hasCell_22 ⟨rfl, rfl⟩
/-- a branch -/
theorem ci_br {y : MethodName} {cc : ByteArray} {nL : Nat} {ret : Option FieldType} {d tg nx : Nat} {st : ci_S} {Post : Option Value → ci_W → Prop} {P : Prop} {i : Decidable P} (h1 : P → ci_T y cc nL ret d tg st Post) (h2 : ¬ P → ci_T y cc nL ret d nx st Post) : ci_T y cc nL ret d (bif @decide P i then tg else nx) st Post := by
  by_cases h : P
  · rw [@decide_eq_true P i h]; exact h1 h
  · rw [@decide_eq_false P i h]; exact h2 h
theorem ci_brn {y : MethodName} {cc : ByteArray} {nL : Nat} {ret : Option FieldType} {d tg nx : Nat} {st : ci_S} {Post : Option Value → ci_W → Prop} {P : Prop} {i : Decidable P} (h1 : ¬ P → ci_T y cc nL ret d tg st Post) (h2 : P → ci_T y cc nL ret d nx st Post) : ci_T y cc nL ret d (bif !@decide P i then tg else nx) st Post := by
  by_cases h : P
  · rw [@decide_eq_true P i h]; exact h2 h
  · rw [@decide_eq_false P i h]; exact h1 h
theorem m_hasFarm (d q : Nat) (f wd hg fm : Int32) (g0 g1 : Value) (w : ci_W) (hq : w q = some (.inr (3, [g0, g1, .int wd, .int hg, .int fm]))) : ci_Met d (yX3_hasFarm, cX3_hasFarm, 2, some .boolean, [], 0, 0) [.ref (q + 1), .int f] w (fun v w' => v = some (.int (if 0 ≤ f ∧ f < fm then 1 else 0)) ∧ w' = w) := by
  refine ci_met (by decide) (Nat.le_of_ble_eq_true rfl) ?_ ?_
  · rintro v w' ⟨rfl, rfl⟩
    by_cases h : 0 ≤ f ∧ f < fm
    · rw [if_pos h]; exact Or.inr rfl
    · rw [if_neg h]; exact Or.inl rfl
  · change ci_T _ _ _ _ _ _ ([(0, .ref (q + 1)), (1, .int f)], [], w) _
    refine ci_T.step cb_X3_hasFarm_0 (ci_sq rfl rfl) ?_
    refine ci_br (fun h0 => ?_) (fun h0 => ?_)
    · rw [if_neg (fun z => Int32.not_lt.mpr z.1 h0)]
      refine ci_T.step cb_X3_hasFarm_16 rfl ?_
      exact ci_T.done (v := some _) cd_X3_hasFarm_17 ⟨rfl, rfl⟩
    · refine ci_T.step cb_X3_hasFarm_4 (ci_sq rfl (ci_sq rfl (ci_sq (ce_getf hq rfl) rfl))) ?_
      refine ci_br (fun h1 => ?_) (fun h1 => ?_)
      · rw [if_neg (fun z => Int32.not_lt.mpr h1 z.2)]
        refine ci_T.step cb_X3_hasFarm_16 rfl ?_
        exact ci_T.done (v := some _) cd_X3_hasFarm_17 ⟨rfl, rfl⟩
      · rw [if_pos ⟨Int32.not_lt.mp h0, Int32.not_le.mp h1⟩]
        refine ci_T.step cb_X3_hasFarm_12 (ci_sq rfl rfl) ?_
        exact ci_T.done (v := some _) cd_X3_hasFarm_17 ⟨rfl, rfl⟩
end
section
theorem ce_set_set {w : ci_W} {q : Nat} {c c' : ci_C} : ci_set (ci_set w q c) q c' = ci_set w q c' := by
  funext x
  unfold ci_set
  by_cases h : x = q
  · rw [if_pos h, if_pos h]
  · rw [if_neg h, if_neg h, if_neg h]
theorem ce_set_id {w : ci_W} {q : Nat} {c : ci_C} (h : w q = some c) : ci_set w q c = w := by
  funext x
  unfold ci_set
  by_cases e : x = q
  · rw [if_pos e, e, h]
  · rw [if_neg e]
theorem ce_mul {a b : Int32} (h1 : -2147483648 ≤ a.toInt * b.toInt) (h2 : a.toInt * b.toInt ≤ 2147483647) : (a * b).toInt = a.toInt * b.toInt := by
  rw [Int32.toInt_mul]
  exact zi_bm h1 h2
theorem ce_add {a b : Int32} (h1 : -2147483648 ≤ a.toInt + b.toInt) (h2 : a.toInt + b.toInt ≤ 2147483647) : (a + b).toInt = a.toInt + b.toInt := by
  rw [Int32.toInt_add]
  exact zi_bm h1 h2
theorem ce_40 : (40 : Int32).toInt = 40 := rfl
/-- a sheet made anew: its lane, its size, its forty cells -/
theorem m_renew (d q ql qs qv : Nat) (k lane n : Int32) (fl fs fv : Nat → Int32) (w : ci_W) (h0 : w q = some (.inr (5, [.ref (ql + 1), .ref (qs + 1), .ref (qv + 1)]))) (h1 : w ql = some (.inl (.int, 4, fl))) (h2 : w qs = some (.inl (.int, 4, fs))) (h3 : w qv = some (.inl (.int, 160, fv))) (n01 : q ≠ ql) (n02 : q ≠ qs) (n03 : q ≠ qv) (n12 : ql ≠ qs) (n13 : ql ≠ qv) (n23 : qs ≠ qv) (hk0 : 0 ≤ k.toInt) (hk1 : k.toInt < 4) :
    ci_Met d (yX5_renew, cX5_renew, 5, none, [], 0, 0) [.ref (q + 1), .int k, .int lane, .int n] w (fun v w' => v = none ∧ w' = ci_set (ci_set (ci_set w ql (.inl (.int, 4, upd fl k.toInt.toNat lane))) qs (.inl (.int, 4, upd fs k.toInt.toNat n))) qv (.inl (.int, 160, fun j => if 40 * k.toInt.toNat ≤ j ∧ j < 40 * k.toInt.toNat + 40 then 0 else fv j))) := by
  refine ci_met (by decide) (Nat.le_of_ble_eq_true rfl) ?_ ?_
  · rintro v w' ⟨rfl, rfl⟩
    trivial
  · change ci_T _ _ _ _ _ _ ([(0, .ref (q + 1)), (1, .int k), (2, .int lane), (3, .int n)], [], w) _
    refine ci_T.step cb_X5_renew_0 (ci_sq rfl (ci_sq (ce_getf h0 rfl) (ci_sq rfl (ci_sq rfl (ci_sq (ce_ast h1 hk0 hk1 rfl) (ci_sq rfl (ci_sq (ce_getf (by rw [ce_set_ne n01]; exact h0) rfl) (ci_sq rfl (ci_sq rfl (ci_sq (ce_ast (by rw [ce_set_ne n12.symm]; exact h2) hk0 hk1 rfl) (ci_sq rfl rfl))))))))))) ?_
    obtain ⟨w2, hw2⟩ : ∃ w2 : ci_W, w2 = ci_set (ci_set w ql (.inl (.int, 4, upd fl k.toInt.toNat lane))) qs (.inl (.int, 4, upd fs k.toInt.toNat n)) := ⟨_, rfl⟩
    have g0 : w2 q = some (.inr (5, [.ref (ql + 1), .ref (qs + 1), .ref (qv + 1)])) := by rw [hw2, ce_set_ne n02, ce_set_ne n01]; exact h0
    have g3 : w2 qv = some (.inl (.int, 160, fv)) := by rw [hw2, ce_set_ne n23.symm, ce_set_ne n13.symm]; exact h3
    rw [← hw2]
    have loop : ∀ (m : Nat) (i : Int32), m ≤ 40 → i.toInt = 40 - (m : Int) → ci_T yX5_renew cX5_renew 5 none d 17 ([(4, .int i), (0, .ref (q + 1)), (1, .int k), (2, .int lane), (3, .int n)], [], ci_set w2 qv (.inl (.int, 160, fun j => if 40 * k.toInt.toNat ≤ j ∧ j < 40 * k.toInt.toNat + i.toInt.toNat then 0 else fv j))) (fun v w' => v = none ∧ w' = ci_set w2 qv (.inl (.int, 160, fun j => if 40 * k.toInt.toNat ≤ j ∧ j < 40 * k.toInt.toNat + 40 then 0 else fv j))) := by
      intro m
      induction m with
      | zero =>
        intro i hm hi
        refine ci_T.step cb_X5_renew_17 (ci_sq rfl (ci_sq rfl rfl)) ?_
        refine ci_br (fun _ => ?_) (fun hc => ?_)
        · have e : i.toInt.toNat = 40 := by omega
          rw [e]
          exact ci_T.done (v := none) cd_X5_renew_43 ⟨rfl, rfl⟩
        · exact absurd (Int32.le_iff_toInt_le.mpr (by rw [ce_40]; omega)) hc
      | succ m ih =>
        intro i hm hi
        refine ci_T.step cb_X5_renew_17 (ci_sq rfl (ci_sq rfl rfl)) ?_
        refine ci_br (fun hc => ?_) (fun _ => ?_)
        · have := Int32.le_iff_toInt_le.mp hc
          rw [ce_40] at this
          omega
        · have em : (k * 40).toInt = k.toInt * 40 := ce_mul (by rw [ce_40]; omega) (by rw [ce_40]; omega)
          have ea : (k * 40 + i).toInt = k.toInt * 40 + i.toInt := by rw [ce_add (by omega) (by omega), em]
          refine ci_T.step cb_X5_renew_24 (ci_sq rfl (ci_sq (ce_getf (by rw [ce_set_ne n03]; exact g0) rfl) (ci_sq rfl (ci_sq rfl (ci_sq rfl (ci_sq rfl (ci_sq rfl (ci_sq rfl (ci_sq (ce_ast ce_set_same (by rw [ea]; omega) (by rw [ea]; omega) rfl) (ci_sq rfl rfl)))))))))) ?_
          have e1 : (i + Int32.ofInt 1).toInt = i.toInt + 1 := by
            have e0 : (Int32.ofInt 1).toInt = 1 := by decide
            rw [ce_add (by omega) (by omega), e0]
          have e2 : upd (fun j => if 40 * k.toInt.toNat ≤ j ∧ j < 40 * k.toInt.toNat + i.toInt.toNat then 0 else fv j) (k * 40 + i).toInt.toNat 0 = fun j => if 40 * k.toInt.toNat ≤ j ∧ j < 40 * k.toInt.toNat + (i + Int32.ofInt 1).toInt.toNat then 0 else fv j := by
            funext j
            unfold upd
            rw [ea, e1]
            by_cases c1 : j = (k.toInt * 40 + i.toInt).toNat
            · rw [if_pos c1, if_pos (by omega)]
            · rw [if_neg c1]
              dsimp only
              by_cases c2 : 40 * k.toInt.toNat ≤ j ∧ j < 40 * k.toInt.toNat + i.toInt.toNat
              · rw [if_pos c2, if_pos (by omega)]
              · rw [if_neg c2, if_neg (by omega)]
          rw [ce_set_set, e2]
          exact ih (i + Int32.ofInt 1) (by omega) (by omega)
    have start := loop 40 0 (Nat.le_refl _) (by decide)
    have e0 : (fun j => if 40 * k.toInt.toNat ≤ j ∧ j < 40 * k.toInt.toNat + (0 : Int32).toInt.toNat then 0 else fv j) = fv := by
      funext j
      rw [if_neg (by have : (0 : Int32).toInt.toNat = 0 := rfl; omega)]
    rw [e0, ce_set_id g3] at start
    exact start
end
