section
-- ===== PART A: goes FIRST, ahead of the names: the tables' words, and 'selects' of the private methods out of them =====
/-- a private method of a class that the tables say can be made, by its rows of tables_1 -/
def lw_okq (q : MethodName × Nat) : Prop := (q.1.cls ≠ "java/lang/invoke/MethodHandle" ∧ q.1.cls ≠ "java/lang/invoke/VarHandle") ∧ Cond.instantiable q.1.cls q.2 ∈ tables_1 ∧ Cond.privateMethod q.1 ∈ tables_1 ∧ Cond.instanceMethod q.1 ∈ tables_1
theorem lw_p0 : lw_okq (⟨"java/lang/Throwable", "fillInStackTrace", "(I)Ljava/lang/Throwable;"⟩, 6) := ⟨⟨by decide +kernel, by decide +kernel⟩, List.mem_of_getElem? (i := 367) (by decide +kernel), List.mem_of_getElem? (i := 365) (by decide +kernel), List.mem_of_getElem? (i := 366) (by decide +kernel)⟩
theorem lw_p1 : lw_okq (⟨"PressbrakeLane", "checkPad", "()V"⟩, 12) := ⟨⟨by decide +kernel, by decide +kernel⟩, List.mem_of_getElem? (i := 19) (by decide +kernel), List.mem_of_getElem? (i := 424) (by decide +kernel), List.mem_of_getElem? (i := 425) (by decide +kernel)⟩
theorem lw_p2 : lw_okq (⟨"PressbrakeLane", "partAt", "(I)LPressbrakeLane$Part;"⟩, 12) := ⟨⟨by decide +kernel, by decide +kernel⟩, List.mem_of_getElem? (i := 19) (by decide +kernel), List.mem_of_getElem? (i := 446) (by decide +kernel), List.mem_of_getElem? (i := 447) (by decide +kernel)⟩
theorem lw_p3 : lw_okq (⟨"PressbrakeLane", "changeBatches", "(IZZ)I"⟩, 12) := ⟨⟨by decide +kernel, by decide +kernel⟩, List.mem_of_getElem? (i := 19) (by decide +kernel), List.mem_of_getElem? (i := 470) (by decide +kernel), List.mem_of_getElem? (i := 471) (by decide +kernel)⟩
theorem lw_p4 : lw_okq (⟨"PressbrakeLane", "hasBatch", "(I)Z"⟩, 12) := ⟨⟨by decide +kernel, by decide +kernel⟩, List.mem_of_getElem? (i := 19) (by decide +kernel), List.mem_of_getElem? (i := 495) (by decide +kernel), List.mem_of_getElem? (i := 496) (by decide +kernel)⟩
theorem lw_p5 : lw_okq (⟨"PressbrakeLane", "toolAt", "(I)LPressbrakeLane$Tool;"⟩, 12) := ⟨⟨by decide +kernel, by decide +kernel⟩, List.mem_of_getElem? (i := 19) (by decide +kernel), List.mem_of_getElem? (i := 541) (by decide +kernel), List.mem_of_getElem? (i := 542) (by decide +kernel)⟩
theorem lw_p6 : lw_okq (⟨"PressbrakeLane$Planner", "look", "(LPressbrakeLane$Part;LPressbrakeLane$Tool;LPressbrakeLane$Brake;)V"⟩, 7) := ⟨⟨by decide +kernel, by decide +kernel⟩, List.mem_of_getElem? (i := 92) (by decide +kernel), List.mem_of_getElem? (i := 622) (by decide +kernel), List.mem_of_getElem? (i := 623) (by decide +kernel)⟩
theorem lw_p7 : lw_okq (⟨"PressbrakeLane$Planner", "bestNext", "(II)I"⟩, 7) := ⟨⟨by decide +kernel, by decide +kernel⟩, List.mem_of_getElem? (i := 92) (by decide +kernel), List.mem_of_getElem? (i := 630) (by decide +kernel), List.mem_of_getElem? (i := 631) (by decide +kernel)⟩
theorem lw_p8 : lw_okq (⟨"PressbrakeLane$Planner", "turnsBy", "(III)I"⟩, 7) := ⟨⟨by decide +kernel, by decide +kernel⟩, List.mem_of_getElem? (i := 92) (by decide +kernel), List.mem_of_getElem? (i := 634) (by decide +kernel), List.mem_of_getElem? (i := 635) (by decide +kernel)⟩
theorem lw_p9 : lw_okq (⟨"PressbrakeLane$Planner", "turn", "(II)I"⟩, 7) := ⟨⟨by decide +kernel, by decide +kernel⟩, List.mem_of_getElem? (i := 92) (by decide +kernel), List.mem_of_getElem? (i := 638) (by decide +kernel), List.mem_of_getElem? (i := 639) (by decide +kernel)⟩
theorem lw_p10 : lw_okq (⟨"PressbrakeLane$Planner", "restOfNone", "(I)I"⟩, 7) := ⟨⟨by decide +kernel, by decide +kernel⟩, List.mem_of_getElem? (i := 92) (by decide +kernel), List.mem_of_getElem? (i := 642) (by decide +kernel), List.mem_of_getElem? (i := 643) (by decide +kernel)⟩
theorem lw_p11 : lw_okq (⟨"PressbrakeLane$Nester", "isBigger", "(III)Z"⟩, 15) := ⟨⟨by decide +kernel, by decide +kernel⟩, List.mem_of_getElem? (i := 123) (by decide +kernel), List.mem_of_getElem? (i := 698) (by decide +kernel), List.mem_of_getElem? (i := 699) (by decide +kernel)⟩
theorem lw_p12 : lw_okq (⟨"PressbrakeLane$Nester", "lay", "(II)V"⟩, 15) := ⟨⟨by decide +kernel, by decide +kernel⟩, List.mem_of_getElem? (i := 123) (by decide +kernel), List.mem_of_getElem? (i := 711) (by decide +kernel), List.mem_of_getElem? (i := 712) (by decide +kernel)⟩
theorem lw_p13 : lw_okq (⟨"PressbrakeLane$Nester", "rowFor", "(II)I"⟩, 15) := ⟨⟨by decide +kernel, by decide +kernel⟩, List.mem_of_getElem? (i := 123) (by decide +kernel), List.mem_of_getElem? (i := 715) (by decide +kernel), List.mem_of_getElem? (i := 716) (by decide +kernel)⟩
theorem lw_p14 : lw_okq (⟨"PressbrakeLane$Nester", "newRow", "(I)I"⟩, 15) := ⟨⟨by decide +kernel, by decide +kernel⟩, List.mem_of_getElem? (i := 123) (by decide +kernel), List.mem_of_getElem? (i := 719) (by decide +kernel), List.mem_of_getElem? (i := 720) (by decide +kernel)⟩
theorem lw_p15 : lw_okq (⟨"PressbrakeLane$Nester", "sheetFor", "(I)I"⟩, 15) := ⟨⟨by decide +kernel, by decide +kernel⟩, List.mem_of_getElem? (i := 123) (by decide +kernel), List.mem_of_getElem? (i := 723) (by decide +kernel), List.mem_of_getElem? (i := 724) (by decide +kernel)⟩
def lw_privs_1 : List (MethodName × Nat) := [(⟨"java/lang/Throwable", "fillInStackTrace", "(I)Ljava/lang/Throwable;"⟩, 6), (⟨"PressbrakeLane", "checkPad", "()V"⟩, 12), (⟨"PressbrakeLane", "partAt", "(I)LPressbrakeLane$Part;"⟩, 12), (⟨"PressbrakeLane", "changeBatches", "(IZZ)I"⟩, 12), (⟨"PressbrakeLane", "hasBatch", "(I)Z"⟩, 12), (⟨"PressbrakeLane", "toolAt", "(I)LPressbrakeLane$Tool;"⟩, 12), (⟨"PressbrakeLane$Planner", "look", "(LPressbrakeLane$Part;LPressbrakeLane$Tool;LPressbrakeLane$Brake;)V"⟩, 7), (⟨"PressbrakeLane$Planner", "bestNext", "(II)I"⟩, 7), (⟨"PressbrakeLane$Planner", "turnsBy", "(III)I"⟩, 7), (⟨"PressbrakeLane$Planner", "turn", "(II)I"⟩, 7), (⟨"PressbrakeLane$Planner", "restOfNone", "(I)I"⟩, 7), (⟨"PressbrakeLane$Nester", "isBigger", "(III)Z"⟩, 15), (⟨"PressbrakeLane$Nester", "lay", "(II)V"⟩, 15), (⟨"PressbrakeLane$Nester", "rowFor", "(II)I"⟩, 15), (⟨"PressbrakeLane$Nester", "newRow", "(I)I"⟩, 15), (⟨"PressbrakeLane$Nester", "sheetFor", "(I)I"⟩, 15)]
theorem lw_r1 : ∀ q ∈ lw_privs_1, lw_okq q := List.forall_mem_cons.mpr ⟨lw_p0, List.forall_mem_cons.mpr ⟨lw_p1, List.forall_mem_cons.mpr ⟨lw_p2, List.forall_mem_cons.mpr ⟨lw_p3, List.forall_mem_cons.mpr ⟨lw_p4, List.forall_mem_cons.mpr ⟨lw_p5, List.forall_mem_cons.mpr ⟨lw_p6, List.forall_mem_cons.mpr ⟨lw_p7, List.forall_mem_cons.mpr ⟨lw_p8, List.forall_mem_cons.mpr ⟨lw_p9, List.forall_mem_cons.mpr ⟨lw_p10, List.forall_mem_cons.mpr ⟨lw_p11, List.forall_mem_cons.mpr ⟨lw_p12, List.forall_mem_cons.mpr ⟨lw_p13, List.forall_mem_cons.mpr ⟨lw_p14, List.forall_mem_cons.mpr ⟨lw_p15, fun _ h => absurd h List.not_mem_nil⟩⟩⟩⟩⟩⟩⟩⟩⟩⟩⟩⟩⟩⟩⟩⟩
theorem lw_p16 : lw_okq (⟨"PressbrakeLane", "batchAt", "(I)LPressbrakeLane$Batch;"⟩, 12) := ⟨⟨by decide +kernel, by decide +kernel⟩, List.mem_of_getElem? (i := 19) (by decide +kernel), List.mem_of_getElem? (i := 746) (by decide +kernel), List.mem_of_getElem? (i := 747) (by decide +kernel)⟩
theorem lw_p17 : lw_okq (⟨"PressbrakeLane", "hasOrder", "(LPressbrakeLane$Batch;)Z"⟩, 12) := ⟨⟨by decide +kernel, by decide +kernel⟩, List.mem_of_getElem? (i := 19) (by decide +kernel), List.mem_of_getElem? (i := 752) (by decide +kernel), List.mem_of_getElem? (i := 753) (by decide +kernel)⟩
theorem lw_p18 : lw_okq (⟨"PressbrakeLane", "checkKit", "(I)V"⟩, 12) := ⟨⟨by decide +kernel, by decide +kernel⟩, List.mem_of_getElem? (i := 19) (by decide +kernel), List.mem_of_getElem? (i := 771) (by decide +kernel), List.mem_of_getElem? (i := 772) (by decide +kernel)⟩
theorem lw_p19 : lw_okq (⟨"PressbrakeLane", "kitsOf", "(I)I"⟩, 12) := ⟨⟨by decide +kernel, by decide +kernel⟩, List.mem_of_getElem? (i := 19) (by decide +kernel), List.mem_of_getElem? (i := 776) (by decide +kernel), List.mem_of_getElem? (i := 777) (by decide +kernel)⟩
theorem lw_p20 : lw_okq (⟨"PressbrakeLane", "coatedPieces", "(I)I"⟩, 12) := ⟨⟨by decide +kernel, by decide +kernel⟩, List.mem_of_getElem? (i := 19) (by decide +kernel), List.mem_of_getElem? (i := 780) (by decide +kernel), List.mem_of_getElem? (i := 781) (by decide +kernel)⟩
theorem lw_p21 : lw_okq (⟨"PressbrakeLane", "takePieces", "(II)I"⟩, 12) := ⟨⟨by decide +kernel, by decide +kernel⟩, List.mem_of_getElem? (i := 19) (by decide +kernel), List.mem_of_getElem? (i := 792) (by decide +kernel), List.mem_of_getElem? (i := 793) (by decide +kernel)⟩
theorem lw_p22 : lw_okq (⟨"PressbrakeLaneModel", "goesWell", "(I)Z"⟩, 45) := ⟨⟨by decide +kernel, by decide +kernel⟩, List.mem_of_getElem? (i := 796) (by decide +kernel), List.mem_of_getElem? (i := 949) (by decide +kernel), List.mem_of_getElem? (i := 950) (by decide +kernel)⟩
theorem lw_p23 : lw_okq (⟨"PressbrakeLaneModel", "draw", "(III)V"⟩, 45) := ⟨⟨by decide +kernel, by decide +kernel⟩, List.mem_of_getElem? (i := 796) (by decide +kernel), List.mem_of_getElem? (i := 964) (by decide +kernel), List.mem_of_getElem? (i := 965) (by decide +kernel)⟩
theorem lw_p24 : lw_okq (⟨"PressbrakeLaneModel", "isPart", "(I)Z"⟩, 45) := ⟨⟨by decide +kernel, by decide +kernel⟩, List.mem_of_getElem? (i := 796) (by decide +kernel), List.mem_of_getElem? (i := 972) (by decide +kernel), List.mem_of_getElem? (i := 973) (by decide +kernel)⟩
theorem lw_p25 : lw_okq (⟨"PressbrakeLaneModel", "isSame", "(III)Z"⟩, 45) := ⟨⟨by decide +kernel, by decide +kernel⟩, List.mem_of_getElem? (i := 796) (by decide +kernel), List.mem_of_getElem? (i := 976) (by decide +kernel), List.mem_of_getElem? (i := 977) (by decide +kernel)⟩
theorem lw_p26 : lw_okq (⟨"PressbrakeLaneModel", "blankBy", "(II)I"⟩, 45) := ⟨⟨by decide +kernel, by decide +kernel⟩, List.mem_of_getElem? (i := 796) (by decide +kernel), List.mem_of_getElem? (i := 980) (by decide +kernel), List.mem_of_getElem? (i := 981) (by decide +kernel)⟩
theorem lw_p27 : lw_okq (⟨"PressbrakeLaneModel", "isClose", "(II)Z"⟩, 45) := ⟨⟨by decide +kernel, by decide +kernel⟩, List.mem_of_getElem? (i := 796) (by decide +kernel), List.mem_of_getElem? (i := 992) (by decide +kernel), List.mem_of_getElem? (i := 993) (by decide +kernel)⟩
theorem lw_p28 : lw_okq (⟨"PressbrakeLaneModel", "isTool", "(I)Z"⟩, 45) := ⟨⟨by decide +kernel, by decide +kernel⟩, List.mem_of_getElem? (i := 796) (by decide +kernel), List.mem_of_getElem? (i := 1008) (by decide +kernel), List.mem_of_getElem? (i := 1009) (by decide +kernel)⟩
theorem lw_p29 : lw_okq (⟨"PressbrakeLaneModel", "isDone", "(III)Z"⟩, 45) := ⟨⟨by decide +kernel, by decide +kernel⟩, List.mem_of_getElem? (i := 796) (by decide +kernel), List.mem_of_getElem? (i := 1020) (by decide +kernel), List.mem_of_getElem? (i := 1021) (by decide +kernel)⟩
theorem lw_p30 : lw_okq (⟨"PressbrakeLaneModel", "reason", "(IIII)I"⟩, 45) := ⟨⟨by decide +kernel, by decide +kernel⟩, List.mem_of_getElem? (i := 796) (by decide +kernel), List.mem_of_getElem? (i := 1024) (by decide +kernel), List.mem_of_getElem? (i := 1025) (by decide +kernel)⟩
theorem lw_p31 : lw_okq (⟨"PressbrakeLaneModel", "start", "()V"⟩, 45) := ⟨⟨by decide +kernel, by decide +kernel⟩, List.mem_of_getElem? (i := 796) (by decide +kernel), List.mem_of_getElem? (i := 1028) (by decide +kernel), List.mem_of_getElem? (i := 1029) (by decide +kernel)⟩
def lw_privs_2 : List (MethodName × Nat) := [(⟨"PressbrakeLane", "batchAt", "(I)LPressbrakeLane$Batch;"⟩, 12), (⟨"PressbrakeLane", "hasOrder", "(LPressbrakeLane$Batch;)Z"⟩, 12), (⟨"PressbrakeLane", "checkKit", "(I)V"⟩, 12), (⟨"PressbrakeLane", "kitsOf", "(I)I"⟩, 12), (⟨"PressbrakeLane", "coatedPieces", "(I)I"⟩, 12), (⟨"PressbrakeLane", "takePieces", "(II)I"⟩, 12), (⟨"PressbrakeLaneModel", "goesWell", "(I)Z"⟩, 45), (⟨"PressbrakeLaneModel", "draw", "(III)V"⟩, 45), (⟨"PressbrakeLaneModel", "isPart", "(I)Z"⟩, 45), (⟨"PressbrakeLaneModel", "isSame", "(III)Z"⟩, 45), (⟨"PressbrakeLaneModel", "blankBy", "(II)I"⟩, 45), (⟨"PressbrakeLaneModel", "isClose", "(II)Z"⟩, 45), (⟨"PressbrakeLaneModel", "isTool", "(I)Z"⟩, 45), (⟨"PressbrakeLaneModel", "isDone", "(III)Z"⟩, 45), (⟨"PressbrakeLaneModel", "reason", "(IIII)I"⟩, 45), (⟨"PressbrakeLaneModel", "start", "()V"⟩, 45)]
theorem lw_r2 : ∀ q ∈ lw_privs_2, lw_okq q := List.forall_mem_cons.mpr ⟨lw_p16, List.forall_mem_cons.mpr ⟨lw_p17, List.forall_mem_cons.mpr ⟨lw_p18, List.forall_mem_cons.mpr ⟨lw_p19, List.forall_mem_cons.mpr ⟨lw_p20, List.forall_mem_cons.mpr ⟨lw_p21, List.forall_mem_cons.mpr ⟨lw_p22, List.forall_mem_cons.mpr ⟨lw_p23, List.forall_mem_cons.mpr ⟨lw_p24, List.forall_mem_cons.mpr ⟨lw_p25, List.forall_mem_cons.mpr ⟨lw_p26, List.forall_mem_cons.mpr ⟨lw_p27, List.forall_mem_cons.mpr ⟨lw_p28, List.forall_mem_cons.mpr ⟨lw_p29, List.forall_mem_cons.mpr ⟨lw_p30, List.forall_mem_cons.mpr ⟨lw_p31, fun _ h => absurd h List.not_mem_nil⟩⟩⟩⟩⟩⟩⟩⟩⟩⟩⟩⟩⟩⟩⟩⟩
theorem lw_p32 : lw_okq (⟨"PressbrakeLaneModel", "wing", "(III)I"⟩, 45) := ⟨⟨by decide +kernel, by decide +kernel⟩, List.mem_of_getElem? (i := 796) (by decide +kernel), List.mem_of_getElem? (i := 1032) (by decide +kernel), List.mem_of_getElem? (i := 1033) (by decide +kernel)⟩
theorem lw_p33 : lw_okq (⟨"PressbrakeLaneModel", "go", "(IIIII)V"⟩, 45) := ⟨⟨by decide +kernel, by decide +kernel⟩, List.mem_of_getElem? (i := 796) (by decide +kernel), List.mem_of_getElem? (i := 1036) (by decide +kernel), List.mem_of_getElem? (i := 1037) (by decide +kernel)⟩
theorem lw_p34 : lw_okq (⟨"PressbrakeLaneModel", "turns", "(II)I"⟩, 45) := ⟨⟨by decide +kernel, by decide +kernel⟩, List.mem_of_getElem? (i := 796) (by decide +kernel), List.mem_of_getElem? (i := 1048) (by decide +kernel), List.mem_of_getElem? (i := 1049) (by decide +kernel)⟩
theorem lw_p35 : lw_okq (⟨"PressbrakeLaneModel", "findOrders", "(II)V"⟩, 45) := ⟨⟨by decide +kernel, by decide +kernel⟩, List.mem_of_getElem? (i := 796) (by decide +kernel), List.mem_of_getElem? (i := 1052) (by decide +kernel), List.mem_of_getElem? (i := 1053) (by decide +kernel)⟩
theorem lw_p36 : lw_okq (⟨"PressbrakeLaneModel", "turn", "(III)I"⟩, 45) := ⟨⟨by decide +kernel, by decide +kernel⟩, List.mem_of_getElem? (i := 796) (by decide +kernel), List.mem_of_getElem? (i := 1056) (by decide +kernel), List.mem_of_getElem? (i := 1057) (by decide +kernel)⟩
theorem lw_p37 : lw_okq (⟨"PressbrakeLaneModel", "wanted", "()I"⟩, 45) := ⟨⟨by decide +kernel, by decide +kernel⟩, List.mem_of_getElem? (i := 796) (by decide +kernel), List.mem_of_getElem? (i := 1072) (by decide +kernel), List.mem_of_getElem? (i := 1073) (by decide +kernel)⟩
theorem lw_p38 : lw_okq (⟨"PressbrakeLaneModel", "nextPiece", "(I)I"⟩, 45) := ⟨⟨by decide +kernel, by decide +kernel⟩, List.mem_of_getElem? (i := 796) (by decide +kernel), List.mem_of_getElem? (i := 1084) (by decide +kernel), List.mem_of_getElem? (i := 1085) (by decide +kernel)⟩
theorem lw_p39 : lw_okq (⟨"PressbrakeLaneModel", "longer", "(II)I"⟩, 45) := ⟨⟨by decide +kernel, by decide +kernel⟩, List.mem_of_getElem? (i := 796) (by decide +kernel), List.mem_of_getElem? (i := 1088) (by decide +kernel), List.mem_of_getElem? (i := 1089) (by decide +kernel)⟩
theorem lw_p40 : lw_okq (⟨"PressbrakeLaneModel", "shorter", "(II)I"⟩, 45) := ⟨⟨by decide +kernel, by decide +kernel⟩, List.mem_of_getElem? (i := 796) (by decide +kernel), List.mem_of_getElem? (i := 1092) (by decide +kernel), List.mem_of_getElem? (i := 1093) (by decide +kernel)⟩
theorem lw_p41 : lw_okq (⟨"PressbrakeLaneModel", "rowFor", "(IIII)I"⟩, 45) := ⟨⟨by decide +kernel, by decide +kernel⟩, List.mem_of_getElem? (i := 796) (by decide +kernel), List.mem_of_getElem? (i := 1097) (by decide +kernel), List.mem_of_getElem? (i := 1098) (by decide +kernel)⟩
theorem lw_p42 : lw_okq (⟨"PressbrakeLaneModel", "isBatch", "(I)Z"⟩, 45) := ⟨⟨by decide +kernel, by decide +kernel⟩, List.mem_of_getElem? (i := 796) (by decide +kernel), List.mem_of_getElem? (i := 1110) (by decide +kernel), List.mem_of_getElem? (i := 1111) (by decide +kernel)⟩
theorem lw_p43 : lw_okq (⟨"PressbrakeLaneModel", "isKit", "(I)Z"⟩, 45) := ⟨⟨by decide +kernel, by decide +kernel⟩, List.mem_of_getElem? (i := 796) (by decide +kernel), List.mem_of_getElem? (i := 1122) (by decide +kernel), List.mem_of_getElem? (i := 1123) (by decide +kernel)⟩
theorem lw_p44 : lw_okq (⟨"PressbrakeLaneModel", "kitsOf", "(I)I"⟩, 45) := ⟨⟨by decide +kernel, by decide +kernel⟩, List.mem_of_getElem? (i := 796) (by decide +kernel), List.mem_of_getElem? (i := 1126) (by decide +kernel), List.mem_of_getElem? (i := 1127) (by decide +kernel)⟩
def lw_privs_3 : List (MethodName × Nat) := [(⟨"PressbrakeLaneModel", "wing", "(III)I"⟩, 45), (⟨"PressbrakeLaneModel", "go", "(IIIII)V"⟩, 45), (⟨"PressbrakeLaneModel", "turns", "(II)I"⟩, 45), (⟨"PressbrakeLaneModel", "findOrders", "(II)V"⟩, 45), (⟨"PressbrakeLaneModel", "turn", "(III)I"⟩, 45), (⟨"PressbrakeLaneModel", "wanted", "()I"⟩, 45), (⟨"PressbrakeLaneModel", "nextPiece", "(I)I"⟩, 45), (⟨"PressbrakeLaneModel", "longer", "(II)I"⟩, 45), (⟨"PressbrakeLaneModel", "shorter", "(II)I"⟩, 45), (⟨"PressbrakeLaneModel", "rowFor", "(IIII)I"⟩, 45), (⟨"PressbrakeLaneModel", "isBatch", "(I)Z"⟩, 45), (⟨"PressbrakeLaneModel", "isKit", "(I)Z"⟩, 45), (⟨"PressbrakeLaneModel", "kitsOf", "(I)I"⟩, 45)]
theorem lw_r3 : ∀ q ∈ lw_privs_3, lw_okq q := List.forall_mem_cons.mpr ⟨lw_p32, List.forall_mem_cons.mpr ⟨lw_p33, List.forall_mem_cons.mpr ⟨lw_p34, List.forall_mem_cons.mpr ⟨lw_p35, List.forall_mem_cons.mpr ⟨lw_p36, List.forall_mem_cons.mpr ⟨lw_p37, List.forall_mem_cons.mpr ⟨lw_p38, List.forall_mem_cons.mpr ⟨lw_p39, List.forall_mem_cons.mpr ⟨lw_p40, List.forall_mem_cons.mpr ⟨lw_p41, List.forall_mem_cons.mpr ⟨lw_p42, List.forall_mem_cons.mpr ⟨lw_p43, List.forall_mem_cons.mpr ⟨lw_p44, fun _ h => absurd h List.not_mem_nil⟩⟩⟩⟩⟩⟩⟩⟩⟩⟩⟩⟩⟩
def lw_privs : List (MethodName × Nat) := lw_privs_1 ++ (lw_privs_2 ++ (lw_privs_3))
def lw_tbl : List Cond := k2_sels lw_privs ++ tables_1
theorem lw_privs_ok : ∀ q ∈ lw_privs, lw_okq q := by
  show ∀ q ∈ lw_privs_1 ++ (lw_privs_2 ++ (lw_privs_3)), lw_okq q
  exact List.forall_mem_append.mpr ⟨lw_r1, List.forall_mem_append.mpr ⟨lw_r2, lw_r3⟩⟩
end
section
/-! ===== BEGIN words of one list among another's, by their places ===== -/
theorem goodIn_r {big : List Cond} (ws : List Cond) (ps : List Nat) (hp : ws = ps.filterMap (fun i => big[i]?)) (h : ws.all goodWord = true) : GoodIn big ws := by
  intro w hw
  have h1 := List.all_eq_true.mp h w hw
  rw [hp] at hw
  obtain ⟨i, -, hi⟩ := List.mem_filterMap.mp hw
  have hm : w ∈ big := by first | exact List.mem_of_getElem? hi | exact List.getElem?_mem hi
  exact ⟨hm, good_of_word h1⟩
theorem goodIn_app {big a b : List Cond} (ha : GoodIn big a) (hb : GoodIn big b) : GoodIn big (a ++ b) := fun w h => (List.mem_append.mp h).elim (ha w) (hb w)
theorem goodIn_ca {big a b : List Cond} {c : Cond} (ha : GoodIn big (c :: a)) (hb : GoodIn big b) : GoodIn big (c :: (a ++ b)) := fun w h => (List.mem_cons.mp h).elim (fun e => ha w (List.mem_cons.mpr (Or.inl e))) (fun h => (List.mem_append.mp h).elim (fun h => ha w (List.mem_cons.mpr (Or.inr h))) (hb w))
theorem goodIn_sub {big ws : List Cond} (hm : ∀ w ∈ ws, w ∈ big) (h : ws.all goodWord = true) : GoodIn big ws := fun w hw => ⟨hm w hw, good_of_word (List.all_eq_true.mp h w hw)⟩
/-! ===== END ===== -/

/-! ===== BEGIN exceptions that leave a method, and their catching by the caller (launches without stack traces) ===== -/
section VXA
/-! The laws vx_back, vx_callV, vx_callS, vx_callSW, vx_throw0, vx_throwS follow proofs of the library, with one case more: JvmDerived/Free/Laws.lean (Back.of_free), Shelf42/LK1.lean (callV, callS), Shelf/KitTraced.lean (throwNew0V, throwNewS). -/
/-- where a method has thrown q: the class by its name, the cell, what was written, the world -/
def vx_T (XC : String → State → State → Prop) (st : State) (q : Addr) (t : State) (mc ms : Nat) (free : Addr → Prop) : Prop :=
  ∃ (E : String) (ce : Cell) (L : List Loc), XC E st t ∧ t.heap[q]? = some ce ∧ ce.vm = .none ∧ st.vm.findClass E = some ce.cls ∧ st.WarmedH t.vm ∧ st.sameButNew ({ t with vm := st.vm } : State) L mc ms ∧ ∀ z ∈ L, free z.base
def vx_Q (Qc : Array Value → State → Outcome → State → Prop) (XC : String → State → State → Prop) (mc ms : Nat) (free : Addr → Prop) : Array Value → State → Outcome → State → Prop := fun a st o t =>
  (Qc a st o t ∧ ∃ L, FrameEnd st o t L mc ms ∧ ∀ q ∈ L, free q.base) ∨ ∃ q, o = .threw q ∧ vx_T XC st q t mc ms free
/-- a callee that returns or throws -/
def vx_Met (l : Launch) (y : MethodName) (ws : List Cond) (rm : Room) (Pc : Array Value → State → Prop) (Qc : Array Value → State → Outcome → State → Prop) (XC : String → State → State → Prop) (mc ms : Nat) (free : Addr → Prop) : Prop :=
  MetFree l y (headSpec ws rm) Pc (fun _ _ _ _ _ => True) (vx_Q Qc XC mc ms free)
def vx_Post (XC : String → State → State → Prop) (mc ms : Nat) (free : Addr → Prop) : Pt → Array Value → Addr → Pt → Prop := fun A a q B =>
  ∃ (g : JFrame) (mk : MethodId) (t : State) (L : List Loc) (E : String) (ce : Cell), B.U.heap = t.heap ∧ B.U.vm = t.vm ∧ XC E (A.U.calling g mk a) t ∧ t.heap[q]? = some ce ∧ ce.vm = .none ∧ A.U.vm.findClass E = some ce.cls ∧ B.locs = A.locs ++ L ∧ (∀ z ∈ L, free z.base) ∧ B.cells = A.cells + mc ∧ B.slots = A.slots + ms
def vx_Back (l : Launch) (R : Room) (p : Program) (e : Env) (below : List Frame) (s : State) (sargs : Array Value) (y : MethodName) (len W9 : Nat)
    (Pre : Pt → Array Value → Prop) (Post : Pt → Array Value → Option Value → Pt → Prop) (PostX : Pt → Array Value → Addr → Pt → Prop) : Prop :=
  ∀ (m : MethodId) (meth : Method) (c : Code) (A : Pt) (g : JFrame) (ig : Instr) (mk : MethodId) (a : Array Value),
    Stand p l e R s m sargs below meth c A.U A.locs A.cells A.slots → g.method = m → g.locals.size = c.maxLocals → decode c.code g.pc = .ok (ig, len) →
    2 * g.monitorRoom + (g.stack.map fun v => v.category).sum ≤ W9 → A.U.methodNamed? y = some mk → Pre A a →
    (∃ (v : Option Value) (B : Pt), Stand p l e R s m sargs below meth c B.U B.locs B.cells B.slots ∧ Post A a v B ∧
      Steps p.tables e below (doInvoke e (A.U.setTop g) [] mk a).1 (B.U.setTop { g with pc := g.pc + len, stack := v.toList ++ g.stack })) ∨
    (∃ (q : Addr) (B : Pt), Stand p l e R s m sargs below meth c B.U B.locs B.cells B.slots ∧ PostX A a q B ∧
      Steps p.tables e below (doInvoke e (A.U.setTop g) [] mk a).1 ((B.U.setTop g).pushFrame (.throwing q)))
section Payer
variable {l : Launch} {R : Room} {p : Program} {e : Env} {below : List Frame} {s : State} {sargs : Array Value} {y : MethodName} {len W9 : Nat}
theorem vx_back {ws : List Cond} {rm : Room} {Pc : Array Value → State → Prop} {Qc : Array Value → State → Outcome → State → Prop} {XC : String → State → State → Prop} {mc ms : Nat} {free : Addr → Prop} {bytes : ByteArray} {maxL : Nat} {ret : Option FieldType}
    (hM : vx_Met l y ws rm Pc Qc XC mc ms free) (hblind : FrameBlind Pc) (hrc : rm.cells = mc) (hrs : rm.slots = ms)
    (hframes : rm.frames + 1 ≤ R.frames) (hlocals : W9 + (maxL + 11) + rm.locals ≤ R.locals)
    (hws : ∀ w ∈ ws, ∀ a' U, s.WarmedH U.vm → w.before a' U = true) (hcode : Cond.code y bytes maxL ret ∈ ws) (hinit : ∀ a' U, s.WarmedH U.vm → (Cond.initialized y.cls).before a' U = true) :
    vx_Back l R p e below s sargs y len W9 (PreOf R mc ms Pc) (PostOf Qc mc ms free) (vx_Post XC mc ms free) := by
  intro m meth c A g ig mk a X hg hsize hdg hW hn hp
  have h1 : (headSpec ws rm).pre.before a A.U = true := atoms_intro fun w hw => hws w hw _ _ X.warmed
  have h2 : (Cond.code y bytes maxL ret).before a A.U = true := hws _ hcode _ _ X.warmed
  have h3 : (Cond.initialized y.cls).before a A.U = true := hinit _ _ X.warmed
  have h4 : A.cells + (headSpec ws rm).room.cells ≤ R.cells := by rw [show (headSpec ws rm).room.cells = mc from hrc]; exact hp.1
  have h5 : A.slots + (headSpec ws rm).room.slots ≤ R.slots := by rw [show (headSpec ws rm).room.slots = ms from hrs]; exact hp.2.1
  have hPc : Pc a (A.U.calling g mk a) := hblind _ _ _ _ hp.2.2
  obtain ⟨U, Ls, c0, s0⟩ := A
  dsimp only [Pt.U, Pt.locs, Pt.cells, Pt.slots] at h1 h2 h3 h4 h5 X hn hPc ⊢
  obtain ⟨methY, cY, hmY, hcY, -, hlY, -, -, -, -⟩ := Cond.code_spec hn h2
  obtain ⟨kY, hkY, -⟩ := className_of_methodNamed hn
  have hinitY : kY.init = .initialized := Cond.initialized_spec (findClass_of_methodNamed hn) hkY h3
  have h : At U g.method c below := by rw [hg]; exact X.here
  have hlocals9 : W9 + (maxL + 11) + (headSpec ws rm).room.locals ≤ R.locals := hlocals
  have happ : (headSpec ws rm).appliesLoose y e.platform (U.calling g mk a) = true :=
    Spec.appliesLoose_calling (g := g) h hdg hn hkY hinitY
      (X.room_calling (g := g) (R' := (headSpec ws rm).room) hsize hmY hcY hframes (by rw [hlY]; omega) h4 h5) h1
  obtain ⟨mid, hmid⟩ := h.above
  have hfr : (U.setTop g).frames = (.java g :: mid) ++ below := by rw [State.frames_setTop' g h.top, hmid]; rfl
  obtain ⟨o, s₂, hsteps, -, hend, hq⟩ := Steps.callFree hM p X.admits X.cas X.clock (acts := []) hfr happ hPc trivial
  have hq' : vx_Q Qc XC mc ms free a (U.calling g mk a) o s₂ := hq
  rw [State.frames_setTop' g h.top] at hend
  obtain ⟨g₀, hg0⟩ := Option.isSome_iff_exists.mp h.top
  obtain ⟨r, hr⟩ := State.topJava?_eq_some.mp hg0
  have hr' : (({ U with heap := s₂.heap, slotsUsed := s₂.slotsUsed } : State).setVm s₂.vm).frames = .java g₀ :: r := hr
  rcases hq' with ⟨hqc, L, hfe, hL⟩ | ⟨q, rfl, E, ce, L, hx, hce, hcv, hcl, hW₂, hsm, hL⟩
  · obtain ⟨⟨v, rfl⟩, hW₂, e2, q2, q3, q4, q5, q6⟩ := id hfe
    have e3 : s₂ = ({ (U.calling g mk a).setFrames s₂.frames with heap := s₂.heap, slotsUsed := s₂.slotsUsed } : State).setVm s₂.vm := by
      have : s₂ = ({ s₂ with vm := (U.calling g mk a).vm } : State).setVm s₂.vm := rfl
      rw [e2] at this
      exact this
    obtain ⟨c₂, i₂, len₂, hc₂, hd₂, hf₂⟩ := hend
    have hW' : U.WarmedH s₂.vm := hW₂
    have hcc : c₂ = c := by
      have h1 : s₂.code? g.method = U.code? g.method := by
        rw [State.code?_eq, State.code?_eq, hW'.alike.method?]
      exact Option.some.inj (hc₂.symm.trans (h1.trans h.code))
    subst hcc
    have hlen : len₂ = len := by rw [hdg] at hd₂; cases hd₂; rfl
    subst hlen
    have hs₂ : s₂ = (({ U with heap := s₂.heap, slotsUsed := s₂.slotsUsed } : State).setVm s₂.vm).setTop { g with pc := g.pc + len₂, stack := v.toList ++ g.stack } := by
      refine e3.trans ?_
      rw [hf₂, State.calling_eq h.top, State.setFrames_setFrames, State.setTop_of_frames _ hr', hr]
      rfl
    have hsame : U.sameButNew ({ U with heap := s₂.heap, slotsUsed := s₂.slotsUsed } : State) L mc ms := by
      refine ⟨?_, q2, q3, q4, q5, q6⟩
      obtain ⟨t, ht, -⟩ := State.frames_cons hr
      show ({ U with heap := s₂.heap, slotsUsed := s₂.slotsUsed } : State) = { U.setFrames U.frames with heap := s₂.heap, slotsUsed := s₂.slotsUsed }
      rw [State.setFrames_self ht]
    subst hg
    refine Or.inl ⟨v, ⟨(({ U with heap := s₂.heap, slotsUsed := s₂.slotsUsed } : State).setVm s₂.vm), Ls ++ L, c0 + mc, s0 + ms⟩,
      ⟨X.admits, X.cas, X.clock, X.frames, X.room, X.hears, X.method, X.code, (X.here.setHeapUsed s₂.heap s₂.slotsUsed).setVm hW'.alike, X.tail, State.WarmedH.trans X.warmed hW', X.limits, X.bytes, X.same.trans (hsame.setVm s.vm)⟩,
      ⟨g, mk, s₂, L, rfl, rfl, hqc, rfl, hL, rfl, rfl⟩, ?_⟩
    show Steps p.tables e below _ ((({ U with heap := s₂.heap, slotsUsed := s₂.slotsUsed } : State).setVm s₂.vm).setTop { g with pc := g.pc + len₂, stack := v.toList ++ g.stack })
    rw [← hs₂]
    exact hsteps
  · obtain ⟨e2, q2, q3, q4, q5, q6⟩ := id hsm
    have e3 : s₂ = ({ (U.calling g mk a).setFrames s₂.frames with heap := s₂.heap, slotsUsed := s₂.slotsUsed } : State).setVm s₂.vm := by
      have : s₂ = ({ s₂ with vm := (U.calling g mk a).vm } : State).setVm s₂.vm := rfl
      rw [e2] at this
      exact this
    have hf₂ : s₂.frames = .throwing q :: .java g :: U.frames.tail := hend
    have hW' : U.WarmedH s₂.vm := hW₂
    have hs₂ : s₂ = ((({ U with heap := s₂.heap, slotsUsed := s₂.slotsUsed } : State).setVm s₂.vm).setTop g).pushFrame (.throwing q) := by
      refine e3.trans ?_
      rw [hf₂, State.calling_eq h.top, State.setFrames_setFrames, State.pushFrame, State.frames_setTop _ hr', State.setTop_of_frames _ hr', State.setFrames_setFrames, hr]
      rfl
    have hsame : U.sameButNew ({ U with heap := s₂.heap, slotsUsed := s₂.slotsUsed } : State) L mc ms := by
      refine ⟨?_, q2, q3, q4, q5, q6⟩
      obtain ⟨t, ht, -⟩ := State.frames_cons hr
      show ({ U with heap := s₂.heap, slotsUsed := s₂.slotsUsed } : State) = { U.setFrames U.frames with heap := s₂.heap, slotsUsed := s₂.slotsUsed }
      rw [State.setFrames_self ht]
    subst hg
    refine Or.inr ⟨q, ⟨(({ U with heap := s₂.heap, slotsUsed := s₂.slotsUsed } : State).setVm s₂.vm), Ls ++ L, c0 + mc, s0 + ms⟩,
      ⟨X.admits, X.cas, X.clock, X.frames, X.room, X.hears, X.method, X.code, (X.here.setHeapUsed s₂.heap s₂.slotsUsed).setVm hW'.alike, X.tail, State.WarmedH.trans X.warmed hW', X.limits, X.bytes, X.same.trans (hsame.setVm s.vm)⟩,
      ⟨g, mk, s₂, L, E, ce, rfl, rfl, hx, hce, hcv, hcl, rfl, hL, rfl, rfl⟩, ?_⟩
    show Steps p.tables e below _ (((({ U with heap := s₂.heap, slotsUsed := s₂.slotsUsed } : State).setVm s₂.vm).setTop g).pushFrame (.throwing q))
    rw [← hs₂]
    exact hsteps
end Payer
section Calls
variable {p : Program} {l : Launch} {e : Env} {R : Room} {s : State} {m : MethodId} {args : Array Value} {below : List Frame} {meth : Method} {c : Code} {T : State} {locs : List Loc} {cells slots : Nat}
theorem vx_callV (X : Stand p l e R s m args below meth c T locs cells slots) (hexec : p.tables.exec = Jvm.exec) {own C : String} {index : Nat} {y : MethodName} {bytes : ByteArray} {maxL : Nat} {ret : Option FieldType}
    (hown : s.vm.findClass own = some m.cls) (hlink : (Cond.methodLink own index y).before args s = true) (hinst : (Cond.instanceMethod y).before args s = true) (hsel : (Cond.selects C y y).before args s = true)
    (hcode : (Cond.code y bytes maxL ret).before args s = true) (hy : y.cls ≠ "java/lang/invoke/MethodHandle" ∧ y.cls ≠ "java/lang/invoke/VarHandle")
    {W9 : Nat} {Pre : Pt → Array Value → Prop} {Post : Pt → Array Value → Option Value → Pt → Prop} {PostX : Pt → Array Value → Addr → Pt → Prop} (hK : vx_Back l R p e below s args y 3 W9 Pre Post PostX)
    {b : Addr} {cellB : Cell} (hcell : T.heap[b]? = some cellB) (hobj : cellB.vm.isStatics = false) (hcls : s.vm.findClass C = some cellB.cls)
    {g : JFrame} (hg : g.method = m) (hsize : g.locals.size = c.maxLocals) {argsL rest : List Value} (hlen : ∀ sig, parseMethodDescriptor y.desc = some sig → argsL.length = sig.parameters.length)
    (hstack : g.stack = argsL.reverse ++ .ref b :: rest) (hW : 2 * g.monitorRoom + (rest.map fun v => v.category).sum ≤ W9) (hdg : decode c.code g.pc = .ok (.invokevirtual index, 3))
    (hpre : ∀ vm₁, s.WarmedH vm₁ → Pre ⟨T.setVm vm₁, locs, cells, slots⟩ (Value.ref b :: argsL).toArray) :
    (∃ (v : Option Value) (vm₁ : Vm) (B : Pt), s.WarmedH vm₁ ∧ Stand p l e R s m args below meth c B.U B.locs B.cells B.slots ∧ Post ⟨T.setVm vm₁, locs, cells, slots⟩ (Value.ref b :: argsL).toArray v B ∧
      ∀ target, Steps p.tables e below (B.U.setTop { g with pc := g.pc + 3, stack := v.toList ++ rest }) target → Steps p.tables e below (T.setTop g) target) ∨
    (∃ (q : Addr) (vm₁ : Vm) (B : Pt), s.WarmedH vm₁ ∧ Stand p l e R s m args below meth c B.U B.locs B.cells B.slots ∧ PostX ⟨T.setVm vm₁, locs, cells, slots⟩ (Value.ref b :: argsL).toArray q B ∧
      Steps p.tables e below (T.setTop g) ((B.U.setTop { g with stack := rest }).pushFrame (.throwing q))) := by
  obtain ⟨mk, methM, hnamed, hmethM, hstM, habM⟩ := Cond.instanceMethod_spec hinst
  obtain ⟨methM', cM, hmethM', -, -, -, -, -, -, hsigM⟩ := Cond.code_spec hnamed hcode
  cases hmethM.symm.trans hmethM'
  obtain ⟨c2, r2, m2, q1, q2, q3, q4, kP, hkP, hkPi⟩ := Cond.selects_spec hsel
  cases hcls.symm.trans q1
  cases (State.methodFound?_of_named hnamed hy).symm.trans q2
  cases hnamed.symm.trans q3
  have hselP : selectMethod e.platform s.vm cellB.cls mk = .method mk := by rw [Launch.admits_selectMethod X.admits]; exact q4
  obtain ⟨vm₁, X₁, hstep₁⟩ := X.invokevirtual hexec hown hlink hnamed hmethM hstM hkP hkPi hy (a := b) (cell := cellB) hcell
    (fun z h => by rw [h] at hobj; cases hobj) hselP hmethM habM hkP hkPi (g := g) hg (argsL := argsL) (rest := rest) (hlen _ hsigM) hstack hdg
  rcases hK m meth c ⟨T.setVm vm₁, locs, cells, slots⟩ { g with stack := rest } (.invokevirtual index) mk (Value.ref b :: argsL).toArray X₁ hg hsize hdg hW (X₁.named hnamed) (hpre vm₁ X₁.warmed) with ⟨v, B, X', hpost, hsteps⟩ | ⟨q, B, X', hpost, hsteps⟩
  · exact Or.inl ⟨v, vm₁, B, X₁.warmed, X', hpost, fun target h => hstep₁ _ fun acts => by rw [doInvoke_state]; exact hsteps.trans h⟩
  · exact Or.inr ⟨q, vm₁, B, X₁.warmed, X', hpost, hstep₁ _ fun acts => by rw [doInvoke_state]; exact hsteps⟩
theorem vx_callS (X : Stand p l e R s m args below meth c T locs cells slots) (hexec : p.tables.exec = Jvm.exec) {own : String} {index : Nat} {y : MethodName} {bytes : ByteArray} {maxL : Nat} {ret : Option FieldType}
    (hown : s.vm.findClass own = some m.cls) (hlink : (Cond.methodLink own index y).before args s = true) (hstat : (Cond.static y).before args s = true) (hinit : (Cond.initialized y.cls).before args s = true)
    (hcode : (Cond.code y bytes maxL ret).before args s = true) (hy : y.cls ≠ "java/lang/invoke/MethodHandle" ∧ y.cls ≠ "java/lang/invoke/VarHandle")
    {W9 : Nat} {Pre : Pt → Array Value → Prop} {Post : Pt → Array Value → Option Value → Pt → Prop} {PostX : Pt → Array Value → Addr → Pt → Prop} (hK : vx_Back l R p e below s args y 3 W9 Pre Post PostX)
    {g : JFrame} (hg : g.method = m) (hsize : g.locals.size = c.maxLocals) {argsL rest : List Value} (hlen : ∀ sig, parseMethodDescriptor y.desc = some sig → argsL.length = sig.parameters.length)
    (hstack : g.stack = argsL.reverse ++ rest) (hW : 2 * g.monitorRoom + (rest.map fun v => v.category).sum ≤ W9) (hdg : decode c.code g.pc = .ok (.invokestatic index, 3))
    (hpre : ∀ vm₁, s.WarmedH vm₁ → Pre ⟨T.setVm vm₁, locs, cells, slots⟩ argsL.toArray) :
    (∃ (v : Option Value) (vm₁ : Vm) (B : Pt), s.WarmedH vm₁ ∧ Stand p l e R s m args below meth c B.U B.locs B.cells B.slots ∧ Post ⟨T.setVm vm₁, locs, cells, slots⟩ argsL.toArray v B ∧
      ∀ target, Steps p.tables e below (B.U.setTop { g with pc := g.pc + 3, stack := v.toList ++ rest }) target → Steps p.tables e below (T.setTop g) target) ∨
    (∃ (q : Addr) (vm₁ : Vm) (B : Pt), s.WarmedH vm₁ ∧ Stand p l e R s m args below meth c B.U B.locs B.cells B.slots ∧ PostX ⟨T.setVm vm₁, locs, cells, slots⟩ argsL.toArray q B ∧
      Steps p.tables e below (T.setTop g) ((B.U.setTop { g with stack := rest }).pushFrame (.throwing q))) := by
  obtain ⟨mk, hnamed⟩ := Cond.code_named hcode
  obtain ⟨methM, cM, hmethM, -, -, -, -, -, -, hsigM⟩ := Cond.code_spec hnamed hcode
  have hstatic : methM.isStatic = true := Cond.static_spec hnamed hmethM hstat
  obtain ⟨kP, hkP, -⟩ := className_of_methodNamed hnamed
  have hinitP : kP.init = .initialized := Cond.initialized_spec (findClass_of_methodNamed hnamed) hkP hinit
  obtain ⟨vm₁, X₁, hstep₁⟩ := X.invokestatic hexec hown hlink hnamed hmethM hstatic hkP hinitP hy (g := g) hg (argsL := argsL) (rest := rest) (hlen _ hsigM) hstack hdg
  rcases hK m meth c ⟨T.setVm vm₁, locs, cells, slots⟩ { g with stack := rest } (.invokestatic index) mk argsL.toArray X₁ hg hsize hdg hW (X₁.named hnamed) (hpre vm₁ X₁.warmed) with ⟨v, B, X', hpost, hsteps⟩ | ⟨q, B, X', hpost, hsteps⟩
  · exact Or.inl ⟨v, vm₁, B, X₁.warmed, X', hpost, fun target h => hstep₁ _ fun acts => by rw [doInvoke_state]; exact hsteps.trans h⟩
  · exact Or.inr ⟨q, vm₁, B, X₁.warmed, X', hpost, hstep₁ _ fun acts => by rw [doInvoke_state]; exact hsteps⟩
end Calls
theorem vx_cls {s : State} {T : State} {vm₁ : Vm} {E : String} {k : ClassId} (hW : s.WarmedH vm₁) (h : (T.setVm vm₁).vm.findClass E = some k) : s.vm.findClass E = some k := by
  have h1 : vm₁.findClass E = some k := h
  rw [hW.alike.findClass] at h1
  exact h1
/-- the method's frame g, with q thrown over it -/
def vx_W (p : Program) (l : Launch) (e : Env) (R : Room) (s : State) (m : MethodId) (args : Array Value) (below : List Frame) (meth : Method) (c : Code) (H : Heap) (locs : List Loc) (cells slots : Nat) (Q : State → Prop) (g : JFrame) (q : Addr) : Prop :=
  ∀ T : State, T.heap = H → Stand p l e R s m args below meth c T locs cells slots → ∃ t, Steps p.tables e below ((T.setTop g).pushFrame (.throwing q)) t ∧ Q t
def vx_Run (p : Program) (l : Launch) (e : Env) (R : Room) (s : State) (m : MethodId) (args : Array Value) (below : List Frame) (meth : Method) (c : Code) (H : Heap) (locs : List Loc) (cells slots mc ms : Nat) (g : JFrame) (rest : List Value) (Qa : State → Outcome → State → Prop) (XC : String → State → State → Prop) (free : Addr → Prop) : Prop :=
  ∀ T : State, T.heap = H → Stand p l e R s m args below meth c T locs cells slots →
    (∃ (v : Option Value) (st₀ t T' : State) (L : List Loc), st₀.heap = H ∧ Stand p l e R s m args below meth c T' (locs ++ L) (cells + mc) (slots + ms) ∧ (∀ q ∈ L, free q.base) ∧ T'.heap = t.heap ∧ T'.vm = t.vm ∧ Qa st₀ (.returned v) t ∧
      Goes p e below T g T' { g with pc := g.pc + 3, stack := v.toList ++ rest }) ∨
    (∃ (q : Addr) (st₀ t T' : State) (L : List Loc) (E : String) (ce : Cell), st₀.heap = H ∧ Stand p l e R s m args below meth c T' (locs ++ L) (cells + mc) (slots + ms) ∧ (∀ z ∈ L, free z.base) ∧ T'.heap = t.heap ∧ T'.vm = t.vm ∧ XC E st₀ t ∧ t.heap[q]? = some ce ∧ ce.vm = .none ∧ s.vm.findClass E = some ce.cls ∧
      Steps p.tables e below (T.setTop g) ((T'.setTop { g with stack := rest }).pushFrame (.throwing q)))
def vx_X {S : Type} (px : S → Prop) (B : String → S → State → Prop) (A : Nat → Prop) : String → State → State → Prop := fun E st t => ∃ u : S, px u ∧ B E u t ∧ va_F A st t
section Runs
variable {p : Program} {l : Launch} {e : Env} {R : Room} {s : State} {m : MethodId} {args : Array Value} {below : List Frame} {meth : Method} {c : Code} {H : Heap} {locs : List Loc} {cells slots : Nat}
variable {y : MethodName} {bytes cc : ByteArray} {maxL nL mc ms n index : Nat} {ret : Option FieldType} {ws : List Cond} {rm : Room} {Pc : Array Value → State → Prop} {Qc : Array Value → State → Outcome → State → Prop} {XC : String → State → State → Prop} {free : Addr → Prop} {Ts : List Cond} {own C : String} {b : Addr} {As rest : List Value} {g : JFrame}
theorem vx_callBack (cb : CallB R s args own index y bytes maxL ret ws rm mc ms n) (hM : vx_Met l y ws rm Pc Qc XC mc ms free) (hbl : FrameBlind Pc) : vx_Back l R p e below s args y 3 8 (PreOf R mc ms Pc) (PostOf Qc mc ms free) (vx_Post XC mc ms free) := by
  obtain ⟨hrc, hrs, hfr, hlo, hws, hcw, -, hini, -⟩ := cb
  exact vx_back (bytes := bytes) (maxL := maxL) (ret := ret) hM hbl hrc hrs hfr hlo hws hcw (fun a' U hW => word_at hW (Or.inl (by first | rfl | simp [Cond.onTables, Cond.keeps, Cond.steady])) hini)
theorem vx_runV (S : CallFix p m c cc nL s args Ts own) (hM : vx_Met l y ws rm Pc Qc XC mc ms free) (cw : CallW R s args own C index y bytes maxL ret ws rm mc ms n) (hp : PreV s H C b Pc As)
    (hg : g.method = m) (hn : As.length = n) (hsize : g.locals.size = nL) (hstack : g.stack = As.reverse ++ .ref b :: rest) (hW : 2 * g.monitorRoom + (rest.map fun v => v.category).sum ≤ 8) (hdg : decode cc g.pc = .ok (.invokevirtual index, 3)) (hf : cells + mc ≤ R.cells ∧ slots + ms ≤ R.slots) :
    vx_Run p l e R s m args below meth c H locs cells slots mc ms g rest (Qc (Value.ref b :: As).toArray) XC free := by
  have hK : vx_Back l R p e below s args y 3 8 (PreOf R mc ms Pc) (PostOf Qc mc ms free) (vx_Post XC mc ms free) := vx_callBack cw.1 hM hp.1
  obtain ⟨⟨-, -, -, -, -, -, hcode, -, hy, hlen, hl⟩, hin, hse⟩ := cw
  obtain ⟨hx, hb, hml, ho, -⟩ := S
  obtain ⟨-, ⟨cellB, hcB, hoB, hclB⟩, hPc⟩ := hp
  intro T hT X
  rcases vx_callV X hx (C := C) (bytes := bytes) (maxL := maxL) (ret := ret) ho hl hin hse hcode hy hK (by rw [hT]; exact hcB) hoB hclB hg (hsize.trans hml.symm) (argsL := As) (rest := rest) (fun sig h => hn.trans (hlen sig h)) hstack hW (by rw [hb]; exact hdg)
    (fun vm₁ hW₁ => ⟨hf.1, hf.2, hPc (T.setVm vm₁) hT hW₁⟩) with ⟨v, vm₁, ⟨U', l2, c2, s2⟩, hW₁, X', ⟨g', mk, t, L, e1, e2, hq, h1, hL, h2, h3⟩, st⟩ | ⟨q, vm₁, ⟨U', l2, c2, s2⟩, hW₁, X', ⟨g', mk, t, L, E, ce, e1, e2, hq, hce, hcv, hcl, h1, hL, h2, h3⟩, st⟩
  · dsimp only [Pt.U, Pt.locs, Pt.cells, Pt.slots] at X' e1 e2 h1 h2 h3 st
    subst h1; subst h2; subst h3
    exact Or.inl ⟨v, (T.setVm vm₁).calling g' mk (Value.ref b :: As).toArray, t, U', L, hT, X', hL, e1, e2, hq, st⟩
  · dsimp only [Pt.U, Pt.locs, Pt.cells, Pt.slots] at X' e1 e2 h1 h2 h3 st hcl
    subst h1; subst h2; subst h3
    exact Or.inr ⟨q, (T.setVm vm₁).calling g' mk (Value.ref b :: As).toArray, t, U', L, E, ce, hT, X', hL, e1, e2, hq, hce, hcv, vx_cls hW₁ hcl, st⟩
theorem vx_runS (S : CallFix p m c cc nL s args Ts own) (hM : vx_Met l y ws rm Pc Qc XC mc ms free) (cw : CallB R s args own index y bytes maxL ret ws rm mc ms n ∧ (Cond.static y).before args s = true) (hp : PreS s H Pc As)
    (hg : g.method = m) (hn : As.length = n) (hsize : g.locals.size = nL) (hstack : g.stack = As.reverse ++ rest) (hW : 2 * g.monitorRoom + (rest.map fun v => v.category).sum ≤ 8) (hdg : decode cc g.pc = .ok (.invokestatic index, 3)) (hf : cells + mc ≤ R.cells ∧ slots + ms ≤ R.slots) :
    vx_Run p l e R s m args below meth c H locs cells slots mc ms g rest (Qc As.toArray) XC free := by
  have hK : vx_Back l R p e below s args y 3 8 (PreOf R mc ms Pc) (PostOf Qc mc ms free) (vx_Post XC mc ms free) := vx_callBack cw.1 hM hp.1
  obtain ⟨⟨-, -, -, -, -, -, hcode, hini, hy, hlen, hl⟩, hstt⟩ := cw
  obtain ⟨hx, hb, hml, ho, -⟩ := S
  intro T hT X
  rcases vx_callS X hx (bytes := bytes) (maxL := maxL) (ret := ret) ho hl hstt hini hcode hy hK hg (hsize.trans hml.symm) (argsL := As) (rest := rest) (fun sig h => hn.trans (hlen sig h)) hstack hW (by rw [hb]; exact hdg)
    (fun vm₁ hW₁ => ⟨hf.1, hf.2, hp.2 (T.setVm vm₁) hT hW₁⟩) with ⟨v, vm₁, ⟨U', l2, c2, s2⟩, hW₁, X', ⟨g', mk, t, L, e1, e2, hq, h1, hL, h2, h3⟩, st⟩ | ⟨q, vm₁, ⟨U', l2, c2, s2⟩, hW₁, X', ⟨g', mk, t, L, E, ce, e1, e2, hq, hce, hcv, hcl, h1, hL, h2, h3⟩, st⟩
  · dsimp only [Pt.U, Pt.locs, Pt.cells, Pt.slots] at X' e1 e2 h1 h2 h3 st
    subst h1; subst h2; subst h3
    exact Or.inl ⟨v, (T.setVm vm₁).calling g' mk As.toArray, t, U', L, hT, X', hL, e1, e2, hq, st⟩
  · dsimp only [Pt.U, Pt.locs, Pt.cells, Pt.slots] at X' e1 e2 h1 h2 h3 st hcl
    subst h1; subst h2; subst h3
    exact Or.inr ⟨q, (T.setVm vm₁).calling g' mk As.toArray, t, U', L, E, ce, hT, X', hL, e1, e2, hq, hce, hcv, vx_cls hW₁ hcl, st⟩
end Runs
section Rows
variable {p : Program} {l : Launch} {e : Env} {R : Room} {s : State} {m : MethodId} {args : Array Value} {below : List Frame} {meth : Method} {c : Code} {H : Heap} {locs : List Loc} {cells slots : Nat} {Q : State → Prop}
variable {mc ms : Nat} {free : Addr → Prop} {A0 A1 : Nat → Prop} {H0 : Heap} {a : Array Value} {pc : Nat} {ls : Array Slot} {st0 rest : List Value}
theorem vx_keep {st₀ t T' : State} {L : List Loc} (h0 : st₀.heap = H) (e1 : T'.heap = t.heap) (hS : va_S A0 H0 H locs) (hA : ∀ q, q < H.size → A1 q → A0 q) (hf : ∀ q, free q → A0 q) (hL : ∀ q ∈ L, free q.base) (hF : va_F A1 st₀ t) :
    H.size ≤ T'.heap.size ∧ (∀ q : Nat, q < H.size → ¬ A1 q → T'.heap[q]? = H[q]?) ∧ va_S A0 H0 T'.heap (locs ++ L) := by
  obtain ⟨hz, hk⟩ := hF
  rw [h0] at hz hk
  exact ⟨by rw [e1]; exact hz, fun q h1 h2 => by rw [e1]; exact hk q h1 h2,
    ⟨Nat.le_trans hS.1 (by rw [e1]; exact hz), fun q h1 h2 => by rw [e1, hk q (Nat.lt_of_lt_of_le h1 hS.1) (fun z => h2 (hA q (Nat.lt_of_lt_of_le h1 hS.1) z))]; exact hS.2.1 q h1 h2, fun q hq => by
      rcases List.mem_append.mp hq with h | h
      · exact hS.2.2 q h
      · exact hf _ (hL q h)⟩⟩
theorem vx_calli {S SX : Type} {post : Int32 → S → Prop} {px : SX → Prop} {B : S → State → Prop} {BX : String → SX → State → Prop} {AX : Nat → Prop} (hr : vx_Run p l e R s m args below meth c H locs cells slots mc ms (F0 m pc ls st0) rest (va_Qi post B A1 a) (vx_X px BX AX) free) (hS : va_S A0 H0 H locs) (hA : ∀ q, q < H.size → A1 q → A0 q) (hf : ∀ q, free q → A0 q) (hAX : ∀ q, q < H.size → AX q → A0 q)
    (kx : ∀ (E : String) (ce : Cell) (q9 : Addr) (u : SX) (t : State) (H1 : Heap) (locs1 : List Loc), t.heap = H1 → s.vm.Alike t.vm → px u → BX E u t → H.size ≤ H1.size → (∀ q : Nat, q < H.size → ¬ AX q → H1[q]? = H[q]?) → va_S A0 H0 H1 locs1 → H1[q9]? = some ce → ce.vm = .none → s.vm.findClass E = some ce.cls → vx_W p l e R s m args below meth c H1 locs1 (cells + mc) (slots + ms) Q (F0 m pc ls rest) q9)
    (kk : ∀ (r : Int32) (u : S) (t : State) (H1 : Heap) (locs1 : List Loc), t.heap = H1 → s.vm.Alike t.vm → post r u → B u t → H.size ≤ H1.size → (∀ q : Nat, q < H.size → ¬ A1 q → H1[q]? = H[q]?) → va_S A0 H0 H1 locs1 → W p l e R s m args below meth c H1 locs1 (cells + mc) (slots + ms) Q (F0 m (pc + 3) ls (.int r :: rest))) : W p l e R s m args below meth c H locs cells slots Q (F0 m pc ls st0) := by
  intro T hT X
  rcases hr T hT X with ⟨v, st₀, t, T', L, h0, X', hL, e1, e2, ⟨⟨r, u, hv, hp, hb⟩, hF⟩, st⟩ | ⟨q, st₀, t, T', L, E, ce, h0, X', hL, e1, e2, ⟨u, hp, hb, hF⟩, hce, hcv, hcl, st⟩
  · cases hv
    obtain ⟨k1, k2, k3⟩ := vx_keep h0 e1 hS hA hf hL hF
    obtain ⟨t2, a1, b1⟩ := kk r u t T'.heap (locs ++ L) e1.symm (by rw [← e2]; exact X'.warmed.alike) hp hb k1 k2 k3 T' rfl X'
    exact ⟨t2, st t2 a1, b1⟩
  · obtain ⟨k1, k2, k3⟩ := vx_keep h0 e1 hS hAX hf hL hF
    obtain ⟨t2, a1, b1⟩ := kx E ce q u t T'.heap (locs ++ L) e1.symm (by rw [← e2]; exact X'.warmed.alike) hp hb k1 k2 k3 (by rw [e1]; exact hce) hcv hcl T' rfl X'
    exact ⟨t2, st.trans a1, b1⟩
theorem vx_calll {S SX : Type} {post : Int64 → S → Prop} {px : SX → Prop} {B : S → State → Prop} {BX : String → SX → State → Prop} {AX : Nat → Prop} (hr : vx_Run p l e R s m args below meth c H locs cells slots mc ms (F0 m pc ls st0) rest (va_Ql post B A1 a) (vx_X px BX AX) free) (hS : va_S A0 H0 H locs) (hA : ∀ q, q < H.size → A1 q → A0 q) (hf : ∀ q, free q → A0 q) (hAX : ∀ q, q < H.size → AX q → A0 q)
    (kx : ∀ (E : String) (ce : Cell) (q9 : Addr) (u : SX) (t : State) (H1 : Heap) (locs1 : List Loc), t.heap = H1 → s.vm.Alike t.vm → px u → BX E u t → H.size ≤ H1.size → (∀ q : Nat, q < H.size → ¬ AX q → H1[q]? = H[q]?) → va_S A0 H0 H1 locs1 → H1[q9]? = some ce → ce.vm = .none → s.vm.findClass E = some ce.cls → vx_W p l e R s m args below meth c H1 locs1 (cells + mc) (slots + ms) Q (F0 m pc ls rest) q9)
    (kk : ∀ (r : Int64) (u : S) (t : State) (H1 : Heap) (locs1 : List Loc), t.heap = H1 → s.vm.Alike t.vm → post r u → B u t → H.size ≤ H1.size → (∀ q : Nat, q < H.size → ¬ A1 q → H1[q]? = H[q]?) → va_S A0 H0 H1 locs1 → W p l e R s m args below meth c H1 locs1 (cells + mc) (slots + ms) Q (F0 m (pc + 3) ls (.long r :: rest))) : W p l e R s m args below meth c H locs cells slots Q (F0 m pc ls st0) := by
  intro T hT X
  rcases hr T hT X with ⟨v, st₀, t, T', L, h0, X', hL, e1, e2, ⟨⟨r, u, hv, hp, hb⟩, hF⟩, st⟩ | ⟨q, st₀, t, T', L, E, ce, h0, X', hL, e1, e2, ⟨u, hp, hb, hF⟩, hce, hcv, hcl, st⟩
  · cases hv
    obtain ⟨k1, k2, k3⟩ := vx_keep h0 e1 hS hA hf hL hF
    obtain ⟨t2, a1, b1⟩ := kk r u t T'.heap (locs ++ L) e1.symm (by rw [← e2]; exact X'.warmed.alike) hp hb k1 k2 k3 T' rfl X'
    exact ⟨t2, st t2 a1, b1⟩
  · obtain ⟨k1, k2, k3⟩ := vx_keep h0 e1 hS hAX hf hL hF
    obtain ⟨t2, a1, b1⟩ := kx E ce q u t T'.heap (locs ++ L) e1.symm (by rw [← e2]; exact X'.warmed.alike) hp hb k1 k2 k3 (by rw [e1]; exact hce) hcv hcl T' rfl X'
    exact ⟨t2, st.trans a1, b1⟩
theorem vx_callf {S SX : Type} {post : UInt32 → S → Prop} {px : SX → Prop} {B : S → State → Prop} {BX : String → SX → State → Prop} {AX : Nat → Prop} (hr : vx_Run p l e R s m args below meth c H locs cells slots mc ms (F0 m pc ls st0) rest (va_Qf post B A1 a) (vx_X px BX AX) free) (hS : va_S A0 H0 H locs) (hA : ∀ q, q < H.size → A1 q → A0 q) (hf : ∀ q, free q → A0 q) (hAX : ∀ q, q < H.size → AX q → A0 q)
    (kx : ∀ (E : String) (ce : Cell) (q9 : Addr) (u : SX) (t : State) (H1 : Heap) (locs1 : List Loc), t.heap = H1 → s.vm.Alike t.vm → px u → BX E u t → H.size ≤ H1.size → (∀ q : Nat, q < H.size → ¬ AX q → H1[q]? = H[q]?) → va_S A0 H0 H1 locs1 → H1[q9]? = some ce → ce.vm = .none → s.vm.findClass E = some ce.cls → vx_W p l e R s m args below meth c H1 locs1 (cells + mc) (slots + ms) Q (F0 m pc ls rest) q9)
    (kk : ∀ (r : UInt32) (u : S) (t : State) (H1 : Heap) (locs1 : List Loc), t.heap = H1 → s.vm.Alike t.vm → post r u → B u t → H.size ≤ H1.size → (∀ q : Nat, q < H.size → ¬ A1 q → H1[q]? = H[q]?) → va_S A0 H0 H1 locs1 → W p l e R s m args below meth c H1 locs1 (cells + mc) (slots + ms) Q (F0 m (pc + 3) ls (.float r :: rest))) : W p l e R s m args below meth c H locs cells slots Q (F0 m pc ls st0) := by
  intro T hT X
  rcases hr T hT X with ⟨v, st₀, t, T', L, h0, X', hL, e1, e2, ⟨⟨r, u, hv, hp, hb⟩, hF⟩, st⟩ | ⟨q, st₀, t, T', L, E, ce, h0, X', hL, e1, e2, ⟨u, hp, hb, hF⟩, hce, hcv, hcl, st⟩
  · cases hv
    obtain ⟨k1, k2, k3⟩ := vx_keep h0 e1 hS hA hf hL hF
    obtain ⟨t2, a1, b1⟩ := kk r u t T'.heap (locs ++ L) e1.symm (by rw [← e2]; exact X'.warmed.alike) hp hb k1 k2 k3 T' rfl X'
    exact ⟨t2, st t2 a1, b1⟩
  · obtain ⟨k1, k2, k3⟩ := vx_keep h0 e1 hS hAX hf hL hF
    obtain ⟨t2, a1, b1⟩ := kx E ce q u t T'.heap (locs ++ L) e1.symm (by rw [← e2]; exact X'.warmed.alike) hp hb k1 k2 k3 (by rw [e1]; exact hce) hcv hcl T' rfl X'
    exact ⟨t2, st.trans a1, b1⟩
theorem vx_calld {S SX : Type} {post : UInt64 → S → Prop} {px : SX → Prop} {B : S → State → Prop} {BX : String → SX → State → Prop} {AX : Nat → Prop} (hr : vx_Run p l e R s m args below meth c H locs cells slots mc ms (F0 m pc ls st0) rest (va_Qd post B A1 a) (vx_X px BX AX) free) (hS : va_S A0 H0 H locs) (hA : ∀ q, q < H.size → A1 q → A0 q) (hf : ∀ q, free q → A0 q) (hAX : ∀ q, q < H.size → AX q → A0 q)
    (kx : ∀ (E : String) (ce : Cell) (q9 : Addr) (u : SX) (t : State) (H1 : Heap) (locs1 : List Loc), t.heap = H1 → s.vm.Alike t.vm → px u → BX E u t → H.size ≤ H1.size → (∀ q : Nat, q < H.size → ¬ AX q → H1[q]? = H[q]?) → va_S A0 H0 H1 locs1 → H1[q9]? = some ce → ce.vm = .none → s.vm.findClass E = some ce.cls → vx_W p l e R s m args below meth c H1 locs1 (cells + mc) (slots + ms) Q (F0 m pc ls rest) q9)
    (kk : ∀ (r : UInt64) (u : S) (t : State) (H1 : Heap) (locs1 : List Loc), t.heap = H1 → s.vm.Alike t.vm → post r u → B u t → H.size ≤ H1.size → (∀ q : Nat, q < H.size → ¬ A1 q → H1[q]? = H[q]?) → va_S A0 H0 H1 locs1 → W p l e R s m args below meth c H1 locs1 (cells + mc) (slots + ms) Q (F0 m (pc + 3) ls (.double r :: rest))) : W p l e R s m args below meth c H locs cells slots Q (F0 m pc ls st0) := by
  intro T hT X
  rcases hr T hT X with ⟨v, st₀, t, T', L, h0, X', hL, e1, e2, ⟨⟨r, u, hv, hp, hb⟩, hF⟩, st⟩ | ⟨q, st₀, t, T', L, E, ce, h0, X', hL, e1, e2, ⟨u, hp, hb, hF⟩, hce, hcv, hcl, st⟩
  · cases hv
    obtain ⟨k1, k2, k3⟩ := vx_keep h0 e1 hS hA hf hL hF
    obtain ⟨t2, a1, b1⟩ := kk r u t T'.heap (locs ++ L) e1.symm (by rw [← e2]; exact X'.warmed.alike) hp hb k1 k2 k3 T' rfl X'
    exact ⟨t2, st t2 a1, b1⟩
  · obtain ⟨k1, k2, k3⟩ := vx_keep h0 e1 hS hAX hf hL hF
    obtain ⟨t2, a1, b1⟩ := kx E ce q u t T'.heap (locs ++ L) e1.symm (by rw [← e2]; exact X'.warmed.alike) hp hb k1 k2 k3 (by rw [e1]; exact hce) hcv hcl T' rfl X'
    exact ⟨t2, st.trans a1, b1⟩
theorem vx_callv {S SX : Type} {post : S → Prop} {px : SX → Prop} {B : S → State → Prop} {BX : String → SX → State → Prop} {AX : Nat → Prop} (hr : vx_Run p l e R s m args below meth c H locs cells slots mc ms (F0 m pc ls st0) rest (va_Qv post B A1 a) (vx_X px BX AX) free) (hS : va_S A0 H0 H locs) (hA : ∀ q, q < H.size → A1 q → A0 q) (hf : ∀ q, free q → A0 q) (hAX : ∀ q, q < H.size → AX q → A0 q)
    (kx : ∀ (E : String) (ce : Cell) (q9 : Addr) (u : SX) (t : State) (H1 : Heap) (locs1 : List Loc), t.heap = H1 → s.vm.Alike t.vm → px u → BX E u t → H.size ≤ H1.size → (∀ q : Nat, q < H.size → ¬ AX q → H1[q]? = H[q]?) → va_S A0 H0 H1 locs1 → H1[q9]? = some ce → ce.vm = .none → s.vm.findClass E = some ce.cls → vx_W p l e R s m args below meth c H1 locs1 (cells + mc) (slots + ms) Q (F0 m pc ls rest) q9)
    (kk : ∀ (u : S) (t : State) (H1 : Heap) (locs1 : List Loc), t.heap = H1 → s.vm.Alike t.vm → post u → B u t → H.size ≤ H1.size → (∀ q : Nat, q < H.size → ¬ A1 q → H1[q]? = H[q]?) → va_S A0 H0 H1 locs1 → W p l e R s m args below meth c H1 locs1 (cells + mc) (slots + ms) Q (F0 m (pc + 3) ls (rest))) : W p l e R s m args below meth c H locs cells slots Q (F0 m pc ls st0) := by
  intro T hT X
  rcases hr T hT X with ⟨v, st₀, t, T', L, h0, X', hL, e1, e2, ⟨⟨u, hv, hp, hb⟩, hF⟩, st⟩ | ⟨q, st₀, t, T', L, E, ce, h0, X', hL, e1, e2, ⟨u, hp, hb, hF⟩, hce, hcv, hcl, st⟩
  · cases hv
    obtain ⟨k1, k2, k3⟩ := vx_keep h0 e1 hS hA hf hL hF
    obtain ⟨t2, a1, b1⟩ := kk u t T'.heap (locs ++ L) e1.symm (by rw [← e2]; exact X'.warmed.alike) hp hb k1 k2 k3 T' rfl X'
    exact ⟨t2, st t2 a1, b1⟩
  · obtain ⟨k1, k2, k3⟩ := vx_keep h0 e1 hS hAX hf hL hF
    obtain ⟨t2, a1, b1⟩ := kx E ce q u t T'.heap (locs ++ L) e1.symm (by rw [← e2]; exact X'.warmed.alike) hp hb k1 k2 k3 (by rw [e1]; exact hce) hcv hcl T' rfl X'
    exact ⟨t2, st.trans a1, b1⟩
/-- caught by the row x of this method's table; the rows ahead don't take it -/
theorem vx_catch {own name : String} {E : String} {ce : Cell} {q : Addr} (hown : s.vm.findClass own = some m.cls) (pre : List ExceptionTableEntry) (x : ExceptionTableEntry) (suf : List ExceptionTableEntry) (hsplit : c.exceptionTable.toList = pre ++ x :: suf)
    (hpass : ∀ z ∈ pre, covers z pc = false ∨ (z.catchType ≠ 0 ∧ ∃ nm : String, (Cond.classLink own z.catchType nm).before args s = true ∧ va_Nc E nm s)) (hx : covers x pc = true) (h0 : x.catchType ≠ 0)
    (hlink : (Cond.classLink own x.catchType name).before args s = true) (hcast : (Cond.castable E name).before args s = true) (hcell : H[q]? = some ce) (hv : ce.vm = .none) (hcl : s.vm.findClass E = some ce.cls)
    (kk : W p l e R s m args below meth c H locs cells slots Q (F0 m x.handlerPc ls [.ref q])) : vx_W p l e R s m args below meth c H locs cells slots Q (F0 m pc ls rest) q := by
  intro T hT X
  have hpl : e.platform.magicAccessors = ({} : Platform).magicAccessors := by rw [X.admits.platform]
  obtain ⟨c3, c4, hc3, hc4, hasg⟩ := Cond.castable_spec hcast
  cases Option.some.inj (hc3.symm.trans hcl)
  obtain ⟨c5, hc5, hcl5⟩ := Cond.classLink_spec hown hlink e.platform hpl
  cases Option.some.inj (hc4.symm.trans hc5)
  obtain ⟨vm', X', st⟩ := X.thenCaughtThrough q (g := F0 m pc ls rest) rfl (Steps.refl _) (by rw [hT]; exact hcell) (by rw [hv]; rfl) (by obtain ⟨k9, h9, -⟩ := Vm.findClass_spec hcl; exact ⟨k9, h9⟩) pre x suf hsplit
    (fun z hz => by
      rcases hpass z hz with h | ⟨hz0, nm, hl1, hn1⟩
      · exact Or.inl h
      · obtain ⟨c6, hc6, hcl6⟩ := Cond.classLink_spec hown hl1 e.platform hpl
        obtain ⟨a8, b8, h1, h2, h3⟩ := hn1
        cases Option.some.inj (h1.symm.trans hcl)
        cases Option.some.inj (h2.symm.trans hc6)
        exact Or.inr ⟨hz0, _, hcl6, h3⟩) hx (Or.inr ⟨h0, c4, hcl5, hasg⟩)
  obtain ⟨t, a1, b1⟩ := kk (T.setVm vm') hT X'
  exact ⟨t, st.trans a1, b1⟩
end Rows
section Ends
variable {p : Program} {l : Launch} {e : Env} {R : Room} {s : State} {m : MethodId} {args : Array Value} {below : List Frame} {meth : Method} {c : Code} {H : Heap} {locs : List Loc} {cells slots : Nat} {Q : State → Prop}
variable {mc ms : Nat} {free : Addr → Prop} {A0 A1 : Nat → Prop} {H0 : Heap} {a : Array Value} {ls : Array Slot} {st0 rest : List Value}
variable {Qc : Array Value → State → Outcome → State → Prop} {XC : String → State → State → Prop}
/-- what a body that may throw owes at its end -/
def vx_MQ (below : List Frame) (Qc : Array Value → State → Outcome → State → Prop) (XC : String → State → State → Prop) (a : Array Value) (s : State) (mc ms : Nat) (free : Addr → Prop) : State → Prop := fun t =>
  ∃ o, t.status = .running ∧ Ended t below o ∧ vx_Q Qc XC mc ms free a s o t
theorem vx_ret {g : JFrame} {mc ms : Nat} (k : W p l e R s m args below meth c H locs cells slots (MQ below Qc args s mc ms free) g) : W p l e R s m args below meth c H locs cells slots (vx_MQ below Qc XC args s mc ms free) g := by
  intro T hT X
  obtain ⟨t, a1, o, b1, b2, b3, b4⟩ := k T hT X
  exact ⟨t, a1, o, b1, b2, Or.inl ⟨b3, b4⟩⟩
/-- not caught here: it goes on to the caller -/
theorem vx_widen {g : JFrame} {q : Addr} {k n : Nat} (h1 : cells ≤ k) (h2 : slots ≤ n) (kk : vx_W p l e R s m args below meth c H locs k n Q g q) : vx_W p l e R s m args below meth c H locs cells slots Q g q := fun T hT X => kk T hT (stand_widen X h1 h2)
theorem vx_out {pc : Nat} {E : String} {ce : Cell} {q : Addr} {mc ms : Nat} (hout : ∀ x ∈ c.exceptionTable.toList, covers x pc = false) (hlocks : meth.locks = false) (hcell : H[q]? = some ce) (hv : ce.vm = .none) (hcl : s.vm.findClass E = some ce.cls)
    (hx : ∀ t : State, t.heap = H → s.vm.Alike t.vm → XC E s t) (hf : ∀ z ∈ locs, free z.base) (hc : cells ≤ mc) (hs : slots ≤ ms) :
    vx_W p l e R s m args below meth c H locs cells slots (vx_MQ below Qc XC args s mc ms free) (F0 m pc ls rest) q := by
  intro T hT X
  obtain ⟨st1, hrun, hend, hW, hsm⟩ := X.leaveThrown q (g := F0 m pc ls rest) rfl rfl rfl hout hlocks
  have hcell9 : (T.setFrames (.throwing q :: below)).heap[q]? = some ce := by
    show T.heap[q]? = some ce
    rw [hT]; exact hcell
  exact ⟨_, st1, .threw q, hrun, hend, Or.inr ⟨q, rfl, E, ce, locs, hx _ hT hW.alike, hcell9, hv, hcl, hW, hsm.mono hc hs, hf⟩⟩
theorem vx_frame {U : State} {k n : Nat} (h : s.sameButNew ({ U with vm := s.vm } : State) locs k n) : s.heap.size ≤ U.heap.size ∧ ∀ q : Nat, q < s.heap.size → (∀ z ∈ locs, z.base ≠ q) → U.heap[q]? = s.heap[q]? := by
  obtain ⟨-, h2, -, -, -, h6⟩ := h
  refine ⟨h2, fun q hq hz => ?_⟩
  obtain ⟨c9, e1, e2, e3, e4⟩ := h6 q _ (Array.getElem?_eq_getElem hq)
  have hs : c9.slots = (s.heap[q]).slots := Array.ext_getElem? fun i => e4 i fun hm => hz _ hm rfl
  have h9 : c9 = s.heap[q] := by
    rw [hs] at e2
    exact e2
  have e5 : U.heap[q]? = some c9 := e1
  rw [e5, h9, Array.getElem?_eq_getElem hq]
/-- the words of a throw but the four that speak of the heap -/
def vx_no (w : Cond) : Bool := decide (w ≠ .isRef (.static Bundle.tN "UNASSIGNED_STACK" Bundle.steD)) && decide (w ≠ .isRef (.static Bundle.tN "SUPPRESSED_SENTINEL" Bundle.listD)) && decide (w ≠ .laysStatic Bundle.tN "UNASSIGNED_STACK" Bundle.steD) && decide (w ≠ .laysStatic Bundle.tN "SUPPRESSED_SENTINEL" Bundle.listD)
def vx_at0 (own : String) (ic : Nat) (X : String) (names : List String) : List Cond := (Bundle.ownAtoms0 own ic X names).filter vx_no
def vx_atS (own : String) (ic : Nat) (X : String) (names : List String) : List Cond := (Bundle.ownAtoms own ic X names).filter vx_no
/-- a word that the tables alone decide, or a good one -/
def vx_ot (w : Cond) : Bool := w.onTables || goodWord w
theorem vx_ot_at {args a' : Array Value} {s U : State} {w : Cond} (hW : s.WarmedH U.vm) (hvm : s.vm = U.vm) (hg : vx_ot w = true) (h : w.before args s = true) : w.before a' U = true := by
  simp only [vx_ot, Bool.or_eq_true] at hg
  rcases hg with hg | hg
  · exact va_tabs hg hvm h
  · exact word_at hW (good_of_word hg) h
/-- a list's words: the good ones out of the method's own list, the others by premises of their own -/
theorem vx_hat {args : Array Value} {s : State} {L B : List Cond} (h1 : ∀ w ∈ L.filter goodWord, w.before args s = true) (h2 : ∀ w ∈ L.filter (fun w => !goodWord w), w ∈ B) (h3 : ∀ w ∈ B, w.before args s = true) : ∀ w ∈ L, w.before args s = true := by
  intro w hw
  by_cases g : goodWord w = true
  · exact h1 w (List.mem_filter.mpr ⟨hw, g⟩)
  · refine h3 w (h2 w (List.mem_filter.mpr ⟨hw, ?_⟩))
    show (!goodWord w) = true
    cases hgw : goodWord w
    · rfl
    · exact absurd hgw g
theorem vx_c {args : Array Value} {s : State} {w : Cond} {B : List Cond} (h : w.before args s = true) (t : ∀ w ∈ B, w.before args s = true) : ∀ w' ∈ w :: B, w'.before args s = true := fun w' h' => (List.mem_cons.mp h').elim (fun e => by rw [e]; exact h) (t w')
theorem vx_n {args : Array Value} {s : State} : ∀ w ∈ ([] : List Cond), w.before args s = true := fun _ h => nomatch h
theorem vx_own {args : Array Value} {s : State} {L : List Cond} (h1 : ∀ w ∈ L.filter vx_no, w.before args s = true)
    (hU : (Cond.isRef (.static Bundle.tN "UNASSIGNED_STACK" Bundle.steD)).before args s = true) (hN : (Cond.isRef (.static Bundle.tN "SUPPRESSED_SENTINEL" Bundle.listD)).before args s = true)
    (lU : (Cond.laysStatic Bundle.tN "UNASSIGNED_STACK" Bundle.steD).before args s = true) (lN : (Cond.laysStatic Bundle.tN "SUPPRESSED_SENTINEL" Bundle.listD).before args s = true) : ∀ w ∈ L, w.before args s = true := by
  intro w hw
  by_cases e1 : w = .isRef (.static Bundle.tN "UNASSIGNED_STACK" Bundle.steD)
  · rw [e1]; exact hU
  · by_cases e2 : w = .isRef (.static Bundle.tN "SUPPRESSED_SENTINEL" Bundle.listD)
    · rw [e2]; exact hN
    · by_cases e3 : w = .laysStatic Bundle.tN "UNASSIGNED_STACK" Bundle.steD
      · rw [e3]; exact lU
      · by_cases e4 : w = .laysStatic Bundle.tN "SUPPRESSED_SENTINEL" Bundle.listD
        · rw [e4]; exact lN
        · exact h1 w (List.mem_filter.mpr ⟨hw, by unfold vx_no; rw [decide_eq_true e1, decide_eq_true e2, decide_eq_true e3, decide_eq_true e4]; rfl⟩)
/-- where a static field lies, its class's statics cell in H -/
def vx_L (C n d : String) (A : Nat → Prop) (U : State) (H : Heap) : Prop := ∃ (c : ClassId) (k : Class) (i : Nat) (f : Field) (a : Nat) (cell : Cell), U.vm.findClass C = some c ∧ U.fieldFound? C n d = some (c, k, i, f) ∧ f.isStatic = true ∧ k.statics = some a ∧ H[a]? = some cell ∧ cell.vm.isStatics = true ∧ cell.cls = c ∧ f.slot < cell.slots.size ∧ k.staticTypes[f.slot]? = some f.type ∧ ¬ A a
theorem vx_L.moved {C n d : String} {A : Nat → Prop} {u U : State} {H : Heap} (hvm : u.vm.Alike U.vm) (h : vx_L C n d A u H) : vx_L C n d A U H := by
  obtain ⟨c, k, i, f, a, cell, h1, h2, h3, h4, h5, h6, h7, h8, h9, h10⟩ := h
  obtain ⟨k', hi', he⟩ := State.fieldFound?_setVm hvm h2
  exact ⟨c, k', i, f, a, cell, by rw [hvm.findClass]; exact h1, hi', h3, by rw [he]; exact h4, h5, h6, h7, h8, by rw [he]; exact h9, h10⟩
theorem vx_L.kept {C n d : String} {A : Nat → Prop} {U : State} {H H1 : Heap} (h : vx_L C n d A U H) (hq : ∀ a : Nat, a < H.size → ¬ A a → H1[a]? = H[a]?) : vx_L C n d A U H1 := by
  obtain ⟨c, k, i, f, a, cell, h1, h2, h3, h4, h5, h6, h7, h8, h9, h10⟩ := h
  exact ⟨c, k, i, f, a, cell, h1, h2, h3, h4, by rw [hq a (Array.getElem?_eq_some_iff.mp h5).1 h10]; exact h5, h6, h7, h8, h9, h10⟩
theorem vx_L.narrow {C n d : String} {A B : Nat → Prop} {U : State} {H : Heap} (h : vx_L C n d A U H) (hAB : ∀ q, B q → A q) : vx_L C n d B U H := by
  obtain ⟨c, k, i, f, a, cell, h1, h2, h3, h4, h5, h6, h7, h8, h9, h10⟩ := h
  exact ⟨c, k, i, f, a, cell, h1, h2, h3, h4, h5, h6, h7, h8, h9, fun z => h10 (hAB _ z)⟩
theorem vx_L.word {C n d : String} {A : Nat → Prop} {s : State} {args : Array Value} (h : vx_L C n d A s s.heap) : (Cond.laysStatic C n d).before args s = true := by
  obtain ⟨c, k, i, f, a, cell, h1, h2, h3, h4, h5, h6, h7, h8, h9, -⟩ := h
  show (Cond.laysStatic C n d).holds args s none s [] = true
  exact Cond.laysStatic_of h1 h2 h3 h4 h5 h6 h7 h8 h9
/-- .. and what it holds: null or some reference -/
def vx_Zq (C n d : String) (A : Nat → Prop) (U : State) (H : Heap) : Prop := va_Zq C n d A U H ∧ vx_L C n d A U H
theorem vx_Zq.moved {C n d : String} {A : Nat → Prop} {u U : State} {H : Heap} (hvm : u.vm.Alike U.vm) (h : vx_Zq C n d A u H) : vx_Zq C n d A U H := ⟨va_Zq.moved hvm h.1, vx_L.moved hvm h.2⟩
theorem vx_Zq.kept {C n d : String} {A : Nat → Prop} {U : State} {H H1 : Heap} (h : vx_Zq C n d A U H) (hq : ∀ a : Nat, a < H.size → ¬ A a → H1[a]? = H[a]?) : vx_Zq C n d A U H1 := ⟨va_Zq.kept h.1 hq, vx_L.kept h.2 hq⟩
theorem vx_Zq.narrow {C n d : String} {A B : Nat → Prop} {U : State} {H : Heap} (h : vx_Zq C n d A U H) (hAB : ∀ q, B q → A q) : vx_Zq C n d B U H := ⟨va_Zq.narrow h.1 hAB, vx_L.narrow h.2 hAB⟩
theorem vx_Zqof {args : Array Value} {s : State} {C n d : String} {A : Nat → Prop} (hl : (Cond.laysStatic C n d).before args s = true) (hini : (Cond.initialized C).before args s = true) (h : (Cond.isRef (.static C n d)).before args s = true) (hA : ∀ a : Nat, a < s.heap.size → ¬ A a) : vx_Zq C n d A s s.heap := by
  refine ⟨va_Zqof hl hini h hA, ?_⟩
  obtain ⟨c, k, i, f, a, cell, h1, h2, h3, h4, h5, h6, h7, h8, h9⟩ := Cond.laysStatic_spec hl
  exact ⟨c, k, i, f, a, cell, h1, h2, h3, h4, h5, h6, h7, h8, h9, hA a (Array.getElem?_eq_some_iff.mp h5).1⟩
theorem vx_isRef {C n d : String} {v : Value} {A : Nat → Prop} {s : State} {args : Array Value} (h : va_Z C n d v A s s.heap) (hv : v.isRef = true) : (Cond.isRef (.static C n d)).before args s = true := by
  obtain ⟨cf, kf, fi, f, a, cell, h1, h2, h3, h4, h5, h6, h7, -⟩ := h
  have he : (Term.static C n d).eval args s none [] s = some v := by
    simp [Term.eval, State.fieldNamed?, h1, h2, h4, h5, h6, h7]
  simp only [Cond.before, Cond.holds, Cond.value, he]
  cases v <;> simp_all [Value.isRef]
theorem vx_isRefq {C n d : String} {A : Nat → Prop} {s : State} {args : Array Value} (h : va_Zq C n d A s s.heap) : (Cond.isRef (.static C n d)).before args s = true := by
  rcases h with h | ⟨t, h⟩
  · exact vx_isRef h rfl
  · exact vx_isRef h rfl
/-- the same frame, seen from here: as if the method were called anew in this heap -/
theorem vx_rebase {T : State} (X : Stand p l e R s m args below meth c T locs cells slots) {R' : Room} (hf : R'.frames ≤ R.frames) (hl : R'.locals ≤ R.locals) (hc : cells + R'.cells ≤ R.cells) (hs : slots + R'.slots ≤ R.slots) :
    Stand p l e R' ((T.setVm s.vm).setFrames (.invoking m args :: below)) m args below meth c T [] 0 0 := by
  have htop : (T.setVm s.vm).topJava?.isSome := X.here.top
  have hF : ((T.setVm s.vm).setFrames (.invoking m args :: below)).frames = .invoking m args :: below := State.frames_setFrames _ (State.cur_lt_of_top htop)
  obtain ⟨g₀, hg0⟩ := Option.isSome_iff_exists.mp htop
  obtain ⟨r, hr⟩ := State.topJava?_eq_some.mp hg0
  have hl9 : e.platform.stackLimits (T.setVm s.vm).me = e.platform.stackLimits s.me := X.limits
  have hb9 : (T.setVm s.vm).me.stackBytes = s.me.stackBytes := X.bytes
  refine ⟨X.admits, X.cas, X.clock, hF, ?_, X.hears, X.method, X.code, X.here, X.tail, X.warmed, ?_, ?_, ?_⟩
  · have h := X.room
    have hU : ((T.setVm s.vm).setFrames (.invoking m args :: below)).localsInUse = s.localsInUse := by
      rw [State.localsInUse_invoking hF (meth := meth) (c := c) X.method X.code, State.localsInUse_invoking X.frames X.method X.code]
    simp only [State.hasRoom, Bool.and_eq_true, decide_eq_true_eq] at h ⊢
    obtain ⟨⟨⟨⟨h1, h2, h3, h4, h5, h6⟩, h7⟩, h8⟩, h9⟩ := h
    rw [X.frames, List.length_cons] at h2 h3
    have q1 := X.heapSize
    have q2 := X.used
    simp only [hF, hU, List.length_cons, State.stackLimits_setFrames, State.stackBytes_setFrames, hl9, hb9]
    refine ⟨⟨⟨⟨by omega, by omega, by omega, by omega, by omega, h6⟩, ?_⟩, ?_⟩, X.book⟩
    · show T.heap.size + R'.cells ≤ e.platform.maxCells
      omega
    · show T.slotsUsed + R'.slots ≤ e.platform.maxSlots
      omega
  · rw [State.stackLimits_setFrames]; rfl
  · rw [State.stackBytes_setFrames]; rfl
  · refine ⟨?_, Nat.le_refl _, Nat.le_refl _, ?_, ?_, fun a c9 h9 => ⟨c9, h9, rfl, rfl, fun _ _ => rfl⟩⟩
    · obtain ⟨t, ht, -⟩ := State.frames_cons hr
      show T.setVm s.vm = { ((T.setVm s.vm).setFrames (.invoking m args :: below)).setFrames (T.setVm s.vm).frames with heap := T.heap, slotsUsed := T.slotsUsed }
      rw [State.setFrames_setFrames, State.setFrames_self ht]
      rfl
    · show T.slotsUsed = T.slotsUsed + ((T.heap.toList.drop T.heap.size).map (·.slots.size)).sum
      rw [List.drop_eq_nil_of_le (Nat.le_of_eq Array.length_toList)]
      rfl
    · show ((T.heap.toList.drop T.heap.size).map (·.slots.size)).sum ≤ 0
      rw [List.drop_eq_nil_of_le (Nat.le_of_eq Array.length_toList)]
      exact Nat.le_refl _
/-- 'throw new E()': new; dup; invokespecial; athrow -/
theorem vx_throw0 {cc : ByteArray} {pc : Nat} (hexec : p.tables.exec = Jvm.exec) (hb : c.code = cc) (hl : l.stackTraces = false) {own cls : String} {names : List String} {ik ic mc ms : Nat} {A : Nat → Prop}
    (hown : s.vm.findClass own = some m.cls) (hcls : Bundle.fit cls = true) (hnames : ∀ n ∈ names, Bundle.fit n = true)
    (hk : (Cond.classLink own ik cls).before args s = true) (hini : (Cond.initialized cls).before args s = true) (hat : ∀ w ∈ vx_at0 own ic cls names, w.before args s = true)
    (hgood : ∀ w ∈ Cond.classLink own ik cls :: Cond.initialized cls :: vx_at0 own ic cls names, vx_ot w = true)
    (hU : vx_Zq Bundle.tN "UNASSIGNED_STACK" Bundle.steD A s s.heap) (hN : vx_Zq Bundle.tN "SUPPRESSED_SENTINEL" Bundle.listD A s s.heap) (hS : va_S A s.heap H locs) (hsize : ls.size = c.maxLocals)
    (d0 : decode cc pc = .ok (.new ik, 3)) (d3 : decode cc (pc + 3) = .ok (.dup, 1)) (d4 : decode cc (pc + 4) = .ok (.invokespecial ic, 3)) (d7 : decode cc (pc + 7) = .ok (.athrow, 1))
    (hout : ∀ x ∈ c.exceptionTable.toList, covers x (pc + 7) = false)
    (hRframes : names.length + 3 < R.frames) (hRlocals : (rest.map fun v => v.category).sum + (13 * (names.length + 1) + 42) ≤ R.locals) (hRcells : cells + 1 ≤ R.cells) (hRslots : slots + 6 ≤ R.slots) (hlocks : meth.locks = false)
    (hx : ∀ t : State, s.vm.Alike t.vm → H.size ≤ t.heap.size → (∀ q : Nat, q < H.size → t.heap[q]? = H[q]?) → XC cls s t)
    (hf : ∀ z ∈ locs, free z.base) (hc : cells + 1 ≤ mc) (hs : slots + 6 ≤ ms) :
    W p l e R s m args below meth c H locs cells slots (vx_MQ below Qc XC args s mc ms free) (F0 m pc ls rest) := by
  intro T hT X
  have htr : e.platform.stackTraces = false := (show e.platform.stackTraces = l.stackTraces by rw [X.admits.platform]).trans hl
  have Y := vx_rebase X (R' := { frames := R.frames, locals := R.locals, cells := 1, slots := 6 }) (Nat.le_refl _) (Nat.le_refl _) hRcells hRslots
  obtain ⟨s', hA⟩ : ∃ z, z = (T.setVm s.vm).setFrames (.invoking m args :: below) := ⟨_, rfl⟩
  rw [← hA] at Y
  have hvm : s'.vm = s.vm := by rw [hA]; rfl
  have hhp : s'.heap = H := by rw [hA]; exact hT
  have hW0 : s.WarmedH s'.vm := by rw [hvm]; exact State.WarmedH.refl s
  have hat' : ∀ w ∈ vx_at0 own ic cls names, w.before args s' = true := fun w hw => vx_ot_at hW0 hvm.symm (hgood w (List.mem_cons_of_mem _ (List.mem_cons_of_mem _ hw))) (hat w hw)
  have hk' : (Cond.classLink own ik cls).before args s' = true := vx_ot_at hW0 hvm.symm (hgood _ List.mem_cons_self) hk
  have hini' : (Cond.initialized cls).before args s' = true := vx_ot_at hW0 hvm.symm (hgood _ (List.mem_cons_of_mem _ List.mem_cons_self)) hini
  have hU' : vx_Zq Bundle.tN "UNASSIGNED_STACK" Bundle.steD A s' s'.heap := by rw [hhp]; exact vx_Zq.moved hW0.alike (hU.kept hS.2.1)
  have hN' : vx_Zq Bundle.tN "SUPPRESSED_SENTINEL" Bundle.listD A s' s'.heap := by rw [hhp]; exact vx_Zq.moved hW0.alike (hN.kept hS.2.1)
  have h : ∀ w ∈ Bundle.ownAtoms0 own ic cls names, w.before args s' = true := vx_own hat' (vx_isRefq hU'.1) (vx_isRefq hN'.1) hU'.2.word hN'.2.word
  have hown' : s'.vm.findClass own = some m.cls := by rw [hvm]; exact hown
  have hins : (Cond.instantiable cls 6).before args s' = true := h _ (by simp [Bundle.ownAtoms0])
  obtain ⟨vm₁, cX, kX, hfX, hkX, -, -, X₁, st1⟩ := Y.newCold hexec (own := own) (C := cls) (index := ik) (n := 6) hown' hk' hins hini'
    (g := F0 m pc ls rest) rfl (by rw [hb]; exact d0) (Nat.le_refl _) (Nat.le_refl _)
  generalize hT1 : (T.setVm vm₁).pushCell { cls := cX, slots := kX.instanceTypes.map defaultValue, vm := .none } = T1 at X₁ st1
  have hcat : (Value.ref T.heap.size).category = 1 := rfl
  have hcellA : T1.heap[T.heap.size]? = some (freshCell cX kX) := by rw [← hT1]; exact State.heap_pushCell_size _ _
  have d3' : decode c.code (pc + 3) = .ok (.dup, 1) := by rw [hb]; exact d3
  obtain ⟨U, hsteps, hrun, hend, hW, hsame, ce, hce, hO⟩ := X₁.ctorThrow0 hexec htr (own := own) (cls := cls) (names := names) (ic := ic) hown' hcls hnames h (fun x hx => nomatch hx) hfX hkX hcellA (by rw [hhp, hT]; exact Nat.le_refl _)
    (g := { method := m, pc := pc + 4, locals := ls, stack := .ref T.heap.size :: .ref T.heap.size :: rest, locked := none }) rfl hsize rfl rfl (rest := rest) rfl
    (by rw [hb]; exact d4) (by rw [hb]; exact d7) hout hRframes (by simp only [List.map_cons, List.sum_cons, hcat]; omega) hlocks
  obtain ⟨f1, f2⟩ := vx_frame hsame
  rw [hhp] at f1 f2
  have hWs : s.WarmedH U.vm := State.WarmedH.trans hW0 hW
  have hcl : s.vm.findClass cls = some ce.cls := by
    have h9 := hO.cls
    rw [hvm] at h9
    exact h9
  have hall : s.sameButNew ({ U with vm := s.vm } : State) locs mc ms := by
    subst hA
    obtain ⟨e1, e2⟩ := hsame
    rw [State.setFrames_setFrames] at e1
    have h2 : (T.setVm s.vm).sameButNew ({ U with vm := s.vm } : State) [] (0 + 1) (0 + 6) := ⟨e1, e2⟩
    have h3 := X.same.trans h2
    rw [List.append_nil] at h3
    exact h3.mono hc hs
  refine ⟨U, ?_, .threw T.heap.size, hrun, hend, Or.inr ⟨T.heap.size, rfl, cls, ce, locs, hx U hWs.alike f1 (fun q hq => f2 q hq (fun z hz => nomatch hz)), hce, hO.vm, hcl, hWs, hall, hf⟩⟩
  refine st1 _ ?_
  show Steps p.tables e below (T1.setTop { method := m, pc := pc + 3, locals := ls, stack := .ref T.heap.size :: rest, locked := none }) _
  jvm_step X₁.here [X₁.here.top, hexec, d3', Value.category]
  exact hsteps
/-- 'throw new E("text")': new; dup; ldc; invokespecial; athrow -/
theorem vx_throwS {cc : ByteArray} {pc : Nat} (hexec : p.tables.exec = Jvm.exec) (hb : c.code = cc) (hl : l.stackTraces = false) {own cls text : String} {names : List String} {ik is ic mc ms sa : Nat} {A : Nat → Prop}
    (hown : s.vm.findClass own = some m.cls) (hcls : Bundle.fit cls = true) (hnames : ∀ n ∈ names, Bundle.fit n = true)
    (hk : (Cond.classLink own ik cls).before args s = true) (hini : (Cond.initialized cls).before args s = true) (hstr : vk_R own is text sa s) (hat : ∀ w ∈ vx_atS own ic cls names, w.before args s = true)
    (hgood : ∀ w ∈ Cond.classLink own ik cls :: Cond.initialized cls :: vx_atS own ic cls names, vx_ot w = true)
    (hU : vx_Zq Bundle.tN "UNASSIGNED_STACK" Bundle.steD A s s.heap) (hN : vx_Zq Bundle.tN "SUPPRESSED_SENTINEL" Bundle.listD A s s.heap) (hS : va_S A s.heap H locs) (hsize : ls.size = c.maxLocals)
    (d0 : decode cc pc = .ok (.new ik, 3)) (d3 : decode cc (pc + 3) = .ok (.dup, 1)) (d4 : decode cc (pc + 4) = .ok (.ldc is, 2)) (d6 : decode cc (pc + 6) = .ok (.invokespecial ic, 3)) (d9 : decode cc (pc + 9) = .ok (.athrow, 1))
    (hout : ∀ x ∈ c.exceptionTable.toList, covers x (pc + 9) = false)
    (hRframes : names.length + 3 < R.frames) (hRlocals : (rest.map fun v => v.category).sum + (13 * (names.length + 1) + 43) ≤ R.locals) (hRcells : cells + 1 ≤ R.cells) (hRslots : slots + 6 ≤ R.slots) (hlocks : meth.locks = false)
    (hx : ∀ t : State, s.vm.Alike t.vm → H.size ≤ t.heap.size → (∀ q : Nat, q < H.size → t.heap[q]? = H[q]?) → XC cls s t)
    (hf : ∀ z ∈ locs, free z.base) (hc : cells + 1 ≤ mc) (hs : slots + 6 ≤ ms) :
    W p l e R s m args below meth c H locs cells slots (vx_MQ below Qc XC args s mc ms free) (F0 m pc ls rest) := by
  intro T hT X
  have htr : e.platform.stackTraces = false := (show e.platform.stackTraces = l.stackTraces by rw [X.admits.platform]).trans hl
  have Y := vx_rebase X (R' := { frames := R.frames, locals := R.locals, cells := 1, slots := 6 }) (Nat.le_refl _) (Nat.le_refl _) hRcells hRslots
  obtain ⟨s', hA⟩ : ∃ z, z = (T.setVm s.vm).setFrames (.invoking m args :: below) := ⟨_, rfl⟩
  rw [← hA] at Y
  have hvm : s'.vm = s.vm := by rw [hA]; rfl
  have hhp : s'.heap = H := by rw [hA]; exact hT
  have hW0 : s.WarmedH s'.vm := by rw [hvm]; exact State.WarmedH.refl s
  have hat' : ∀ w ∈ vx_atS own ic cls names, w.before args s' = true := fun w hw => vx_ot_at hW0 hvm.symm (hgood w (List.mem_cons_of_mem _ (List.mem_cons_of_mem _ hw))) (hat w hw)
  have hk' : (Cond.classLink own ik cls).before args s' = true := vx_ot_at hW0 hvm.symm (hgood _ List.mem_cons_self) hk
  have hini' : (Cond.initialized cls).before args s' = true := vx_ot_at hW0 hvm.symm (hgood _ (List.mem_cons_of_mem _ List.mem_cons_self)) hini
  have hU' : vx_Zq Bundle.tN "UNASSIGNED_STACK" Bundle.steD A s' s'.heap := by rw [hhp]; exact vx_Zq.moved hW0.alike (hU.kept hS.2.1)
  have hN' : vx_Zq Bundle.tN "SUPPRESSED_SENTINEL" Bundle.listD A s' s'.heap := by rw [hhp]; exact vx_Zq.moved hW0.alike (hN.kept hS.2.1)
  have h : ∀ w ∈ Bundle.ownAtoms own ic cls names, w.before args s' = true := vx_own hat' (vx_isRefq hU'.1) (vx_isRefq hN'.1) hU'.2.word hN'.2.word
  have hown' : s'.vm.findClass own = some m.cls := by rw [hvm]; exact hown
  have hins : (Cond.instantiable cls 6).before args s' = true := h _ (by simp [Bundle.ownAtoms])
  obtain ⟨vm₁, cX, kX, hfX, hkX, -, -, X₁, st1⟩ := Y.newCold hexec (own := own) (C := cls) (index := ik) (n := 6) hown' hk' hins hini'
    (g := F0 m pc ls rest) rfl (by rw [hb]; exact d0) (Nat.le_refl _) (Nat.le_refl _)
  generalize hT1 : (T.setVm vm₁).pushCell { cls := cX, slots := kX.instanceTypes.map defaultValue, vm := .none } = T1 at X₁ st1
  have hcat : (Value.ref T.heap.size).category = 1 := rfl
  have hcellA : T1.heap[T.heap.size]? = some (freshCell cX kX) := by rw [← hT1]; exact State.heap_pushCell_size _ _
  have d3' : decode c.code (pc + 3) = .ok (.dup, 1) := by rw [hb]; exact d3
  have d4' : decode c.code (pc + 4) = .ok (.ldc is, 2) := by rw [hb]; exact d4
  have hstr' : vk_R own is text sa s' := vk_R.warm hW0 hstr
  obtain ⟨U, hsteps, hrun, hend, hW, hsame, ce, hce, hO⟩ := X₁.ctorThrowS hexec htr (own := own) (cls := cls) (names := names) (ic := ic) hown' hcls hnames h (fun x hx => nomatch hx) hfX hkX hcellA (by rw [hhp, hT]; exact Nat.le_refl _) (msg := .ref sa) rfl
    (g := { method := m, pc := pc + 6, locals := ls, stack := .ref sa :: .ref T.heap.size :: .ref T.heap.size :: rest, locked := none }) rfl hsize rfl rfl (rest := rest) rfl
    (by rw [hb]; exact d6) (by rw [hb]; exact d9) hout hRframes (by simp only [List.map_cons, List.sum_cons, hcat]; omega) hlocks
  obtain ⟨f1, f2⟩ := vx_frame hsame
  rw [hhp] at f1 f2
  have hWs : s.WarmedH U.vm := State.WarmedH.trans hW0 hW
  have hcl : s.vm.findClass cls = some ce.cls := by
    have h9 := hO.cls
    rw [hvm] at h9
    exact h9
  have hall : s.sameButNew ({ U with vm := s.vm } : State) locs mc ms := by
    subst hA
    obtain ⟨e1, e2⟩ := hsame
    rw [State.setFrames_setFrames] at e1
    have h2 : (T.setVm s.vm).sameButNew ({ U with vm := s.vm } : State) [] (0 + 1) (0 + 6) := ⟨e1, e2⟩
    have h3 := X.same.trans h2
    rw [List.append_nil] at h3
    exact h3.mono hc hs
  refine ⟨U, ?_, .threw T.heap.size, hrun, hend, Or.inr ⟨T.heap.size, rfl, cls, ce, locs, hx U hWs.alike f1 (fun q hq => f2 q hq (fun z hz => nomatch hz)), hce, hO.vm, hcl, hWs, hall, hf⟩⟩
  refine st1 _ ?_
  show Steps p.tables e below (T1.setTop { method := m, pc := pc + 3, locals := ls, stack := .ref T.heap.size :: rest, locked := none }) _
  jvm_step X₁.here [X₁.here.top, hexec, d3', Value.category]
  exact X₁.ldcString hexec (own := own) (text := text) (index := is) (a := sa) hown' hstr'.1 hstr'.2
    (g := { method := m, pc := pc + 4, locals := ls, stack := .ref T.heap.size :: .ref T.heap.size :: rest, locked := none }) rfl d4' _ hsteps
/-- 'throw new E("text")', the text by a wide index -/
theorem vx_throwSW {cc : ByteArray} {pc : Nat} (hexec : p.tables.exec = Jvm.exec) (hb : c.code = cc) (hl : l.stackTraces = false) {own cls text : String} {names : List String} {ik is ic mc ms sa : Nat} {A : Nat → Prop}
    (hown : s.vm.findClass own = some m.cls) (hcls : Bundle.fit cls = true) (hnames : ∀ n ∈ names, Bundle.fit n = true)
    (hk : (Cond.classLink own ik cls).before args s = true) (hini : (Cond.initialized cls).before args s = true) (hstr : vk_R own is text sa s) (hat : ∀ w ∈ vx_atS own ic cls names, w.before args s = true)
    (hgood : ∀ w ∈ Cond.classLink own ik cls :: Cond.initialized cls :: vx_atS own ic cls names, vx_ot w = true)
    (hU : vx_Zq Bundle.tN "UNASSIGNED_STACK" Bundle.steD A s s.heap) (hN : vx_Zq Bundle.tN "SUPPRESSED_SENTINEL" Bundle.listD A s s.heap) (hS : va_S A s.heap H locs) (hsize : ls.size = c.maxLocals)
    (d0 : decode cc pc = .ok (.new ik, 3)) (d3 : decode cc (pc + 3) = .ok (.dup, 1)) (d4 : decode cc (pc + 4) = .ok (.ldc_w is, 3)) (d7 : decode cc (pc + 7) = .ok (.invokespecial ic, 3)) (d10 : decode cc (pc + 10) = .ok (.athrow, 1))
    (hout : ∀ x ∈ c.exceptionTable.toList, covers x (pc + 10) = false)
    (hRframes : names.length + 3 < R.frames) (hRlocals : (rest.map fun v => v.category).sum + (13 * (names.length + 1) + 43) ≤ R.locals) (hRcells : cells + 1 ≤ R.cells) (hRslots : slots + 6 ≤ R.slots) (hlocks : meth.locks = false)
    (hx : ∀ t : State, s.vm.Alike t.vm → H.size ≤ t.heap.size → (∀ q : Nat, q < H.size → t.heap[q]? = H[q]?) → XC cls s t)
    (hf : ∀ z ∈ locs, free z.base) (hc : cells + 1 ≤ mc) (hs : slots + 6 ≤ ms) :
    W p l e R s m args below meth c H locs cells slots (vx_MQ below Qc XC args s mc ms free) (F0 m pc ls rest) := by
  intro T hT X
  have htr : e.platform.stackTraces = false := (show e.platform.stackTraces = l.stackTraces by rw [X.admits.platform]).trans hl
  have Y := vx_rebase X (R' := { frames := R.frames, locals := R.locals, cells := 1, slots := 6 }) (Nat.le_refl _) (Nat.le_refl _) hRcells hRslots
  obtain ⟨s', hA⟩ : ∃ z, z = (T.setVm s.vm).setFrames (.invoking m args :: below) := ⟨_, rfl⟩
  rw [← hA] at Y
  have hvm : s'.vm = s.vm := by rw [hA]; rfl
  have hhp : s'.heap = H := by rw [hA]; exact hT
  have hW0 : s.WarmedH s'.vm := by rw [hvm]; exact State.WarmedH.refl s
  have hat' : ∀ w ∈ vx_atS own ic cls names, w.before args s' = true := fun w hw => vx_ot_at hW0 hvm.symm (hgood w (List.mem_cons_of_mem _ (List.mem_cons_of_mem _ hw))) (hat w hw)
  have hk' : (Cond.classLink own ik cls).before args s' = true := vx_ot_at hW0 hvm.symm (hgood _ List.mem_cons_self) hk
  have hini' : (Cond.initialized cls).before args s' = true := vx_ot_at hW0 hvm.symm (hgood _ (List.mem_cons_of_mem _ List.mem_cons_self)) hini
  have hU' : vx_Zq Bundle.tN "UNASSIGNED_STACK" Bundle.steD A s' s'.heap := by rw [hhp]; exact vx_Zq.moved hW0.alike (hU.kept hS.2.1)
  have hN' : vx_Zq Bundle.tN "SUPPRESSED_SENTINEL" Bundle.listD A s' s'.heap := by rw [hhp]; exact vx_Zq.moved hW0.alike (hN.kept hS.2.1)
  have h : ∀ w ∈ Bundle.ownAtoms own ic cls names, w.before args s' = true := vx_own hat' (vx_isRefq hU'.1) (vx_isRefq hN'.1) hU'.2.word hN'.2.word
  have hown' : s'.vm.findClass own = some m.cls := by rw [hvm]; exact hown
  have hins : (Cond.instantiable cls 6).before args s' = true := h _ (by simp [Bundle.ownAtoms])
  obtain ⟨vm₁, cX, kX, hfX, hkX, -, -, X₁, st1⟩ := Y.newCold hexec (own := own) (C := cls) (index := ik) (n := 6) hown' hk' hins hini'
    (g := F0 m pc ls rest) rfl (by rw [hb]; exact d0) (Nat.le_refl _) (Nat.le_refl _)
  generalize hT1 : (T.setVm vm₁).pushCell { cls := cX, slots := kX.instanceTypes.map defaultValue, vm := .none } = T1 at X₁ st1
  have hcat : (Value.ref T.heap.size).category = 1 := rfl
  have hcellA : T1.heap[T.heap.size]? = some (freshCell cX kX) := by rw [← hT1]; exact State.heap_pushCell_size _ _
  have d3' : decode c.code (pc + 3) = .ok (.dup, 1) := by rw [hb]; exact d3
  have d4' : decode c.code (pc + 4) = .ok (.ldc_w is, 3) := by rw [hb]; exact d4
  have hstr' : vk_R own is text sa s' := vk_R.warm hW0 hstr
  obtain ⟨U, hsteps, hrun, hend, hW, hsame, ce, hce, hO⟩ := X₁.ctorThrowS hexec htr (own := own) (cls := cls) (names := names) (ic := ic) hown' hcls hnames h (fun x hx => nomatch hx) hfX hkX hcellA (by rw [hhp, hT]; exact Nat.le_refl _) (msg := .ref sa) rfl
    (g := { method := m, pc := pc + 7, locals := ls, stack := .ref sa :: .ref T.heap.size :: .ref T.heap.size :: rest, locked := none }) rfl hsize rfl rfl (rest := rest) rfl
    (by rw [hb]; exact d7) (by rw [hb]; exact d10) hout hRframes (by simp only [List.map_cons, List.sum_cons, hcat]; omega) hlocks
  obtain ⟨f1, f2⟩ := vx_frame hsame
  rw [hhp] at f1 f2
  have hWs : s.WarmedH U.vm := State.WarmedH.trans hW0 hW
  have hcl : s.vm.findClass cls = some ce.cls := by
    have h9 := hO.cls
    rw [hvm] at h9
    exact h9
  have hall : s.sameButNew ({ U with vm := s.vm } : State) locs mc ms := by
    subst hA
    obtain ⟨e1, e2⟩ := hsame
    rw [State.setFrames_setFrames] at e1
    have h2 : (T.setVm s.vm).sameButNew ({ U with vm := s.vm } : State) [] (0 + 1) (0 + 6) := ⟨e1, e2⟩
    have h3 := X.same.trans h2
    rw [List.append_nil] at h3
    exact h3.mono hc hs
  refine ⟨U, ?_, .threw T.heap.size, hrun, hend, Or.inr ⟨T.heap.size, rfl, cls, ce, locs, hx U hWs.alike f1 (fun q hq => f2 q hq (fun z hz => nomatch hz)), hce, hO.vm, hcl, hWs, hall, hf⟩⟩
  refine st1 _ ?_
  show Steps p.tables e below (T1.setTop { method := m, pc := pc + 3, locals := ls, stack := .ref T.heap.size :: rest, locked := none }) _
  jvm_step X₁.here [X₁.here.top, hexec, d3', Value.category]
  exact X₁.ldcStringW hexec (own := own) (text := text) (index := is) (a := sa) hown' hstr'.1 hstr'.2
    (g := { method := m, pc := pc + 4, locals := ls, stack := .ref T.heap.size :: .ref T.heap.size :: rest, locked := none }) rfl d4' _ hsteps
end Ends
section Bodies
variable {l : Launch}
theorem vx_ofW {y : MethodName} {ws ws' : List Cond} {rm : Room} {Pc : Array Value → State → Prop} {Qc : Array Value → State → Outcome → State → Prop} {XC : String → State → State → Prop} {mc ms : Nat} {free : Addr → Prop} {cc : ByteArray} {maxL : Nat} {ret : Option FieldType}
    (hy : plainName y.cls = true) (hw : ws = Cond.code y cc maxL ret :: ws')
    (body : ∀ p e s m args below meth c s₁, BodyLoose p l y (headSpec ws rm) cc maxL ret e s m args below meth c s₁ → c.maxLocals = maxL → (∀ x ∈ c.exceptionTable.toList, False) → Pc args s →
      W p l e (headSpec ws rm).room s m args below meth c s.heap [] 0 0 (vx_MQ below Qc XC args s mc ms free) (entryFrame m args maxL)) : vx_Met l y ws rm Pc Qc XC mc ms free := by
  refine MetFree.of_bodyS (code := cc) (maxLocals := maxL) (ret := ret) hy ?_ ?_
  · intro args s m h hn
    obtain ⟨meth, c, h1, h2, h3, h4, h5, h6, -, -⟩ := Cond.code_spec hn (atoms_spec (ws := ws) h _ (by rw [hw]; exact List.mem_cons_self))
    exact ⟨meth, c, h1, h2, h3, h4, h5, h6⟩
  · intro p e s m args below meth c s₁ B hml hP _
    have hh0 : s₁.heap = s.heap := by rw [B.state]; rfl
    have ht : ∀ x ∈ c.exceptionTable.toList, False := by
      obtain ⟨meth9, c9, h1, h2, -, -, -, -, h7, -⟩ := Cond.code_spec B.named (atoms_spec (ws := ws) B.pre _ (by rw [hw]; exact List.mem_cons_self))
      cases Option.some.inj (h1.symm.trans B.method)
      cases Option.some.inj (h2.symm.trans (Stand.of_body B).code)
      intro x hx
      rw [Array.isEmpty_iff.mp h7] at hx
      cases hx
    obtain ⟨t, a1, o, b1, b2, b3⟩ := body p e s m args below meth c s₁ B hml ht hP s₁ hh0 (Stand.of_body B)
    exact ⟨t, o, a1, b1, b2, b3⟩
/-- the table of a body with handlers -/
theorem vx_table {p : Program} {x y : MethodName} {S : Spec} {cc bytes : ByteArray} {maxL maxL' : Nat} {ret ret' : Option FieldType} {e : Env} {s s₁ : State} {m : MethodId} {args : Array Value} {below : List Frame} {meth : Method} {c : Code} {hh : List (Nat × Nat × Nat × Nat)}
    (B : BodyLoose p l y S cc maxL ret e s m args below meth c s₁) (h : (Cond.codeWith y bytes maxL' ret' hh).before args s = true) : c.exceptionTable.toList = tableOf hh := by
  obtain ⟨m9, meth9, c9, hn9, h1, h2, -, -, h6, -⟩ := Cond.codeWith_spec h
  cases Option.some.inj (hn9.symm.trans B.named)
  cases Option.some.inj (h1.symm.trans B.method)
  cases Option.some.inj (h2.symm.trans (Stand.of_body B).code)
  rw [← h6, table_eq]
end Bodies
end VXA
/-! ===== END ===== -/
/-! ===== BEGIN a static call of a method with an exception table ===== -/
section VXS
variable {p : Program} {l : Launch} {e : Env} {R : Room} {s : State} {m : MethodId} {args : Array Value} {below : List Frame} {meth : Method} {c : Code} {T : State} {H : Heap} {locs : List Loc} {cells slots : Nat}
abbrev vx_CSW (R : Room) (s : State) (args : Array Value) (own : String) (index : Nat) (y : MethodName) (bytes : ByteArray) (maxL : Nat) (ret : Option FieldType) (hh : List (Nat × Nat × Nat × Nat)) (ws : List Cond) (rm : Room) (mc ms n : Nat) : Prop :=
  (rm.cells = mc ∧ rm.slots = ms ∧ rm.frames + 1 ≤ R.frames ∧ 8 + (maxL + 11) + rm.locals ≤ R.locals ∧ (∀ w ∈ ws, ∀ (a' : Array Value) (U : State), s.WarmedH U.vm → w.before a' U = true) ∧ Cond.codeWith y bytes maxL ret hh ∈ ws) ∧
  (Cond.codeWith y bytes maxL ret hh).before args s = true ∧ (Cond.initialized y.cls).before args s = true ∧ (y.cls ≠ "java/lang/invoke/MethodHandle" ∧ y.cls ≠ "java/lang/invoke/VarHandle") ∧
  (∀ sig, parseMethodDescriptor y.desc = some sig → n = sig.parameters.length) ∧ (Cond.methodLink own index y).before args s = true ∧ (Cond.static y).before args s = true
theorem vx_cwSW {own : String} {index maxL mc ms : Nat} {y : MethodName} {bytes : ByteArray} {ret : Option FieldType} {hh : List (Nat × Nat × Nat × Nat)} {Ts ws ws' : List Cond} {rm : Room} (n : Nat) (ht : ∀ w ∈ Ts, w.before args s = true) (hT : GoodIn Ts (va_wsS own index y ws)) (hw : ws = Cond.codeWith y bytes maxL ret hh :: ws') (hrc : rm.cells = mc) (hrs : rm.slots = ms)
    (hd : y.cls ≠ "java/lang/invoke/MethodHandle" ∧ y.cls ≠ "java/lang/invoke/VarHandle" ∧ (parseMethodDescriptor y.desc).map (fun d => d.parameters.length) = some n) (hR : rm.frames + 1 ≤ R.frames ∧ 8 + (maxL + 11) + rm.locals ≤ R.locals) :
    vx_CSW R s args own index y bytes maxL ret hh ws rm mc ms n := by
  have ok : ∀ w ∈ va_wsS own index y ws, w.before args s = true := fun w h => ht w (hT w h).1
  have hG : GoodIn Ts ws := fun w h => hT w (by unfold va_wsS; exact List.mem_append_right _ h)
  have hc : Cond.codeWith y bytes maxL ret hh ∈ ws := by rw [hw]; exact List.mem_cons_self
  refine ⟨⟨hrc, hrs, hR.1, hR.2, pay_in ht hG, hc⟩, ht _ (hG _ hc).1, ok _ (by simp [va_wsS]), ⟨hd.1, hd.2.1⟩, fun sig h => ?_, ok _ (by simp [va_wsS]), ok _ (by simp [va_wsS])⟩
  have h2 := hd.2.2
  rw [h] at h2
  exact (Option.some.inj h2).symm
theorem vx_callSW (X : Stand p l e R s m args below meth c T locs cells slots) (hexec : p.tables.exec = Jvm.exec) {own : String} {index : Nat} {y : MethodName} {bytes : ByteArray} {maxL : Nat} {ret : Option FieldType} {hh : List (Nat × Nat × Nat × Nat)}
    (hown : s.vm.findClass own = some m.cls) (hlink : (Cond.methodLink own index y).before args s = true) (hstat : (Cond.static y).before args s = true) (hinit : (Cond.initialized y.cls).before args s = true)
    (hcode : (Cond.codeWith y bytes maxL ret hh).before args s = true) (hy : y.cls ≠ "java/lang/invoke/MethodHandle" ∧ y.cls ≠ "java/lang/invoke/VarHandle")
    {W9 : Nat} {Pre : Pt → Array Value → Prop} {Post : Pt → Array Value → Option Value → Pt → Prop} (hK : Back l R p e below s args y 3 W9 Pre Post)
    {g : JFrame} (hg : g.method = m) (hsize : g.locals.size = c.maxLocals) {argsL rest : List Value} (hlen : ∀ sig, parseMethodDescriptor y.desc = some sig → argsL.length = sig.parameters.length)
    (hstack : g.stack = argsL.reverse ++ rest) (hW : 2 * g.monitorRoom + (rest.map fun v => v.category).sum ≤ W9) (hdg : decode c.code g.pc = .ok (.invokestatic index, 3))
    (hpre : ∀ vm₁, s.WarmedH vm₁ → Pre ⟨T.setVm vm₁, locs, cells, slots⟩ argsL.toArray) :
    ∃ (v : Option Value) (vm₁ : Vm) (B : Pt), s.WarmedH vm₁ ∧ Stand p l e R s m args below meth c B.U B.locs B.cells B.slots ∧ Post ⟨T.setVm vm₁, locs, cells, slots⟩ argsL.toArray v B ∧
      ∀ target, Steps p.tables e below (B.U.setTop { g with pc := g.pc + 3, stack := v.toList ++ rest }) target → Steps p.tables e below (T.setTop g) target := by
  obtain ⟨mk, methM, cM, hnamed, hmethM, -, -, -, -, -, -, hsigM⟩ := Cond.codeWith_spec hcode
  have hstatic : methM.isStatic = true := Cond.static_spec hnamed hmethM hstat
  obtain ⟨kP, hkP, -⟩ := className_of_methodNamed hnamed
  have hinitP : kP.init = .initialized := Cond.initialized_spec (findClass_of_methodNamed hnamed) hkP hinit
  obtain ⟨vm₁, X₁, hstep₁⟩ := X.invokestatic hexec hown hlink hnamed hmethM hstatic hkP hinitP hy (g := g) hg (argsL := argsL) (rest := rest) (hlen _ hsigM) hstack hdg
  obtain ⟨v, B, X', hpost, hsteps⟩ := hK m meth c ⟨T.setVm vm₁, locs, cells, slots⟩ { g with stack := rest } (.invokestatic index) mk argsL.toArray X₁ hg hsize hdg hW (X₁.named hnamed) (hpre vm₁ X₁.warmed)
  exact ⟨v, vm₁, B, X₁.warmed, X', hpost, fun target h => hstep₁ _ fun acts => by rw [doInvoke_state]; exact hsteps.trans h⟩
theorem vx_runSW {y : MethodName} {bytes cc : ByteArray} {maxL nL mc ms n index : Nat} {ret : Option FieldType} {hh : List (Nat × Nat × Nat × Nat)} {ws : List Cond} {rm : Room} {Pc : Array Value → State → Prop} {Qc : Array Value → State → Outcome → State → Prop} {free : Addr → Prop} {Ts : List Cond} {own : String} {As rest : List Value} {g : JFrame}
    (S : CallFix p m c cc nL s args Ts own) (hM : Met l y ws rm Pc Qc mc ms free) (cw : vx_CSW R s args own index y bytes maxL ret hh ws rm mc ms n) (hp : PreS s H Pc As)
    (hg : g.method = m) (hn : As.length = n) (hsize : g.locals.size = nL) (hstack : g.stack = As.reverse ++ rest) (hW : 2 * g.monitorRoom + (rest.map fun v => v.category).sum ≤ 8) (hdg : decode cc g.pc = .ok (.invokestatic index, 3)) (hf : cells + mc ≤ R.cells ∧ slots + ms ≤ R.slots) :
    va_Run p l e R s m args below meth c H locs cells slots mc ms g rest (Qc As.toArray) (free) := by
  obtain ⟨⟨hrc, hrs, hfr, hlo, hws, hcw⟩, hcode, hini, hy, hlen, hl, hstt⟩ := cw
  have hK : Back l R p e below s args y 3 8 (PreOf R mc ms Pc) (PostOf Qc mc ms free) := va_backW (hh := hh) (bytes := bytes) (maxL := maxL) (ret := ret) hM hp.1 hrc hrs hfr hlo hws hcw (fun a' U hW => word_at hW (Or.inl (by first | rfl | simp [Cond.onTables, Cond.keeps, Cond.steady])) hini)
  obtain ⟨hx, hb, hml, ho, -⟩ := S
  intro T hT X
  obtain ⟨v, vm₁, ⟨U', l2, c2, s2⟩, hW₁, X', ⟨g', mk, t, L, e1, e2, hq, h1, hL, h2, h3⟩, st⟩ := vx_callSW X hx (hh := hh) (bytes := bytes) (maxL := maxL) (ret := ret) ho hl hstt hini hcode hy hK hg (hsize.trans hml.symm) (argsL := As) (rest := rest) (fun sig h => hn.trans (hlen sig h)) hstack hW (by rw [hb]; exact hdg)
    (fun vm₁ hW₁ => ⟨hf.1, hf.2, hp.2 (T.setVm vm₁) hT hW₁⟩)
  dsimp only [Pt.U, Pt.locs, Pt.cells, Pt.slots] at X' e1 e2 h1 h2 h3 st
  subst h1; subst h2; subst h3
  exact ⟨v, (T.setVm vm₁).calling g' mk As.toArray, t, U', L, hT, X', hL, e1, e2, hq, st⟩
/-- not caught here, past rows that name other classes: it goes on to the caller -/
theorem vx_outP {p : Program} {l : Launch} {e : Env} {R : Room} {s : State} {m : MethodId} {args : Array Value} {below : List Frame} {meth : Method} {c : Code} {H : Heap} {locs : List Loc} {cells slots : Nat} {free : Addr → Prop} {ls : Array Slot} {rest : List Value} {Qc : Array Value → State → Outcome → State → Prop} {XC : String → State → State → Prop}
    {pc : Nat} {own E : String} {ce : Cell} {q : Addr} {mc ms : Nat} (hown : s.vm.findClass own = some m.cls) (hlocks : meth.locks = false)
    (hpass : ∀ z ∈ c.exceptionTable.toList, covers z pc = false ∨ (z.catchType ≠ 0 ∧ ∃ nm : String, (Cond.classLink own z.catchType nm).before args s = true ∧ va_Nc E nm s)) (hcell : H[q]? = some ce) (hv : ce.vm = .none) (hcl : s.vm.findClass E = some ce.cls)
    (hx : ∀ t : State, t.heap = H → s.vm.Alike t.vm → XC E s t) (hf : ∀ z ∈ locs, free z.base) (hc : cells ≤ mc) (hs : slots ≤ ms) :
    vx_W p l e R s m args below meth c H locs cells slots (vx_MQ below Qc XC args s mc ms free) (F0 m pc ls rest) q := by
  intro T hT X
  have hpl : e.platform.magicAccessors = ({} : Platform).magicAccessors := by rw [X.admits.platform]
  obtain ⟨vm', hW', X', st⟩ := X.outThrough hlocks q (g := F0 m pc ls rest) rfl rfl rfl (cell := ce) (by rw [hT]; exact hcell) (by rw [hv]; rfl)
    (by obtain ⟨k9, h9, -⟩ := Vm.findClass_spec hcl; exact ⟨k9, h9⟩) (fun z hz => by
      rcases hpass z hz with h | ⟨hz0, nm, hl1, hn1⟩
      · exact Or.inl h
      · obtain ⟨c6, hc6, hcl6⟩ := Cond.classLink_spec hown hl1 e.platform hpl
        obtain ⟨a8, b8, h1, h2, h3⟩ := hn1
        cases Option.some.inj (h1.symm.trans hcl)
        cases Option.some.inj (h2.symm.trans hc6)
        exact Or.inr ⟨hz0, _, hcl6, h3⟩)
  obtain ⟨g₀, hfr⟩ := X'.frames_eq
  have hcell9 : ((T.setVm vm').setFrames (.throwing q :: below)).heap[q]? = some ce := by
    show T.heap[q]? = some ce
    rw [hT]; exact hcell
  have hend : Ended ((T.setVm vm').setFrames (.throwing q :: below)) below (.threw q) := State.frames_setFrames _ (State.cur_lt_of_frames hfr)
  refine ⟨(T.setVm vm').setFrames (.throwing q :: below), ?_, .threw q, X'.here.running, hend, Or.inr ⟨q, rfl, E, ce, locs, hx _ hT (X'.ends _).1.alike, hcell9, hv, hcl, (X'.ends _).1, (X'.ends _).2.mono hc hs, hf⟩⟩
  rw [X.pushThrowing_eq]
  exact st
/-- a thing of a world lies in the heap -/
theorem vx_lt {D : va_G} {cl : List vw_C} {ws : va_W} {H1 : Heap} (h : va_P D cl ws H1) {k : Nat} {q : Nat × va_E} (hk : ws[k]? = some q) : q.1 < H1.size := (h k q hk).lt
end VXS
/-! ===== END ===== -/
/-! ===== BEGIN methods with a table of their own: called by a name, returning or throwing ===== -/
section VXH
/-! vx_backW, vx_callVX, vx_callSX, vx_callVW, vx_runVW, vx_runVX, vx_runSX, vx_ofWH follow the same proofs as their sisters above (Free/Laws.lean, Shelf42/LK1.lean); vx_outP calls Shelf42/NT130.lean (outThrough). -/
section
variable {l : Launch} {R : Room} {p : Program} {e : Env} {below : List Frame} {s : State} {sargs : Array Value} {y : MethodName} {len W9 : Nat}
theorem vx_backW {ws : List Cond} {rm : Room} {Pc : Array Value → State → Prop} {Qc : Array Value → State → Outcome → State → Prop} {XC : String → State → State → Prop} {mc ms : Nat} {free : Addr → Prop} {bytes : ByteArray} {maxL : Nat} {ret : Option FieldType} {hh : List (Nat × Nat × Nat × Nat)}
    (hM : vx_Met l y ws rm Pc Qc XC mc ms free) (hblind : FrameBlind Pc) (hrc : rm.cells = mc) (hrs : rm.slots = ms)
    (hframes : rm.frames + 1 ≤ R.frames) (hlocals : W9 + (maxL + 11) + rm.locals ≤ R.locals)
    (hws : ∀ w ∈ ws, ∀ a' U, s.WarmedH U.vm → w.before a' U = true) (hcode : Cond.codeWith y bytes maxL ret hh ∈ ws) (hinit : ∀ a' U, s.WarmedH U.vm → (Cond.initialized y.cls).before a' U = true) :
    vx_Back l R p e below s sargs y len W9 (PreOf R mc ms Pc) (PostOf Qc mc ms free) (vx_Post XC mc ms free) := by
  intro m meth c A g ig mk a X hg hsize hdg hW hn hp
  have h1 : (headSpec ws rm).pre.before a A.U = true := atoms_intro fun w hw => hws w hw _ _ X.warmed
  have h2 : (Cond.codeWith y bytes maxL ret hh).before a A.U = true := hws _ hcode _ _ X.warmed
  have h3 : (Cond.initialized y.cls).before a A.U = true := hinit _ _ X.warmed
  have h4 : A.cells + (headSpec ws rm).room.cells ≤ R.cells := by rw [show (headSpec ws rm).room.cells = mc from hrc]; exact hp.1
  have h5 : A.slots + (headSpec ws rm).room.slots ≤ R.slots := by rw [show (headSpec ws rm).room.slots = ms from hrs]; exact hp.2.1
  have hPc : Pc a (A.U.calling g mk a) := hblind _ _ _ _ hp.2.2
  obtain ⟨U, Ls, c0, s0⟩ := A
  dsimp only [Pt.U, Pt.locs, Pt.cells, Pt.slots] at h1 h2 h3 h4 h5 X hn hPc ⊢
  obtain ⟨m9, methY, cY, hn9, hmY, hcY, -, hlY, -⟩ := Cond.codeWith_spec h2
  cases Option.some.inj (hn9.symm.trans hn)
  obtain ⟨kY, hkY, -⟩ := className_of_methodNamed hn
  have hinitY : kY.init = .initialized := Cond.initialized_spec (findClass_of_methodNamed hn) hkY h3
  have h : At U g.method c below := by rw [hg]; exact X.here
  have hlocals9 : W9 + (maxL + 11) + (headSpec ws rm).room.locals ≤ R.locals := hlocals
  have happ : (headSpec ws rm).appliesLoose y e.platform (U.calling g mk a) = true :=
    Spec.appliesLoose_calling (g := g) h hdg hn hkY hinitY
      (X.room_calling (g := g) (R' := (headSpec ws rm).room) hsize hmY hcY hframes (by rw [hlY]; omega) h4 h5) h1
  obtain ⟨mid, hmid⟩ := h.above
  have hfr : (U.setTop g).frames = (.java g :: mid) ++ below := by rw [State.frames_setTop' g h.top, hmid]; rfl
  obtain ⟨o, s₂, hsteps, -, hend, hq⟩ := Steps.callFree hM p X.admits X.cas X.clock (acts := []) hfr happ hPc trivial
  have hq' : vx_Q Qc XC mc ms free a (U.calling g mk a) o s₂ := hq
  rw [State.frames_setTop' g h.top] at hend
  obtain ⟨g₀, hg0⟩ := Option.isSome_iff_exists.mp h.top
  obtain ⟨r, hr⟩ := State.topJava?_eq_some.mp hg0
  have hr' : (({ U with heap := s₂.heap, slotsUsed := s₂.slotsUsed } : State).setVm s₂.vm).frames = .java g₀ :: r := hr
  rcases hq' with ⟨hqc, L, hfe, hL⟩ | ⟨q, rfl, E, ce, L, hx, hce, hcv, hcl, hW₂, hsm, hL⟩
  · obtain ⟨⟨v, rfl⟩, hW₂, e2, q2, q3, q4, q5, q6⟩ := id hfe
    have e3 : s₂ = ({ (U.calling g mk a).setFrames s₂.frames with heap := s₂.heap, slotsUsed := s₂.slotsUsed } : State).setVm s₂.vm := by
      have : s₂ = ({ s₂ with vm := (U.calling g mk a).vm } : State).setVm s₂.vm := rfl
      rw [e2] at this
      exact this
    obtain ⟨c₂, i₂, len₂, hc₂, hd₂, hf₂⟩ := hend
    have hW' : U.WarmedH s₂.vm := hW₂
    have hcc : c₂ = c := by
      have h1 : s₂.code? g.method = U.code? g.method := by
        rw [State.code?_eq, State.code?_eq, hW'.alike.method?]
      exact Option.some.inj (hc₂.symm.trans (h1.trans h.code))
    subst hcc
    have hlen : len₂ = len := by rw [hdg] at hd₂; cases hd₂; rfl
    subst hlen
    have hs₂ : s₂ = (({ U with heap := s₂.heap, slotsUsed := s₂.slotsUsed } : State).setVm s₂.vm).setTop { g with pc := g.pc + len₂, stack := v.toList ++ g.stack } := by
      refine e3.trans ?_
      rw [hf₂, State.calling_eq h.top, State.setFrames_setFrames, State.setTop_of_frames _ hr', hr]
      rfl
    have hsame : U.sameButNew ({ U with heap := s₂.heap, slotsUsed := s₂.slotsUsed } : State) L mc ms := by
      refine ⟨?_, q2, q3, q4, q5, q6⟩
      obtain ⟨t, ht, -⟩ := State.frames_cons hr
      show ({ U with heap := s₂.heap, slotsUsed := s₂.slotsUsed } : State) = { U.setFrames U.frames with heap := s₂.heap, slotsUsed := s₂.slotsUsed }
      rw [State.setFrames_self ht]
    subst hg
    refine Or.inl ⟨v, ⟨(({ U with heap := s₂.heap, slotsUsed := s₂.slotsUsed } : State).setVm s₂.vm), Ls ++ L, c0 + mc, s0 + ms⟩,
      ⟨X.admits, X.cas, X.clock, X.frames, X.room, X.hears, X.method, X.code, (X.here.setHeapUsed s₂.heap s₂.slotsUsed).setVm hW'.alike, X.tail, State.WarmedH.trans X.warmed hW', X.limits, X.bytes, X.same.trans (hsame.setVm s.vm)⟩,
      ⟨g, mk, s₂, L, rfl, rfl, hqc, rfl, hL, rfl, rfl⟩, ?_⟩
    show Steps p.tables e below _ ((({ U with heap := s₂.heap, slotsUsed := s₂.slotsUsed } : State).setVm s₂.vm).setTop { g with pc := g.pc + len₂, stack := v.toList ++ g.stack })
    rw [← hs₂]
    exact hsteps
  · obtain ⟨e2, q2, q3, q4, q5, q6⟩ := id hsm
    have e3 : s₂ = ({ (U.calling g mk a).setFrames s₂.frames with heap := s₂.heap, slotsUsed := s₂.slotsUsed } : State).setVm s₂.vm := by
      have : s₂ = ({ s₂ with vm := (U.calling g mk a).vm } : State).setVm s₂.vm := rfl
      rw [e2] at this
      exact this
    have hf₂ : s₂.frames = .throwing q :: .java g :: U.frames.tail := hend
    have hW' : U.WarmedH s₂.vm := hW₂
    have hs₂ : s₂ = ((({ U with heap := s₂.heap, slotsUsed := s₂.slotsUsed } : State).setVm s₂.vm).setTop g).pushFrame (.throwing q) := by
      refine e3.trans ?_
      rw [hf₂, State.calling_eq h.top, State.setFrames_setFrames, State.pushFrame, State.frames_setTop _ hr', State.setTop_of_frames _ hr', State.setFrames_setFrames, hr]
      rfl
    have hsame : U.sameButNew ({ U with heap := s₂.heap, slotsUsed := s₂.slotsUsed } : State) L mc ms := by
      refine ⟨?_, q2, q3, q4, q5, q6⟩
      obtain ⟨t, ht, -⟩ := State.frames_cons hr
      show ({ U with heap := s₂.heap, slotsUsed := s₂.slotsUsed } : State) = { U.setFrames U.frames with heap := s₂.heap, slotsUsed := s₂.slotsUsed }
      rw [State.setFrames_self ht]
    subst hg
    refine Or.inr ⟨q, ⟨(({ U with heap := s₂.heap, slotsUsed := s₂.slotsUsed } : State).setVm s₂.vm), Ls ++ L, c0 + mc, s0 + ms⟩,
      ⟨X.admits, X.cas, X.clock, X.frames, X.room, X.hears, X.method, X.code, (X.here.setHeapUsed s₂.heap s₂.slotsUsed).setVm hW'.alike, X.tail, State.WarmedH.trans X.warmed hW', X.limits, X.bytes, X.same.trans (hsame.setVm s.vm)⟩,
      ⟨g, mk, s₂, L, E, ce, rfl, rfl, hx, hce, hcv, hcl, rfl, hL, rfl, rfl⟩, ?_⟩
    show Steps p.tables e below _ (((({ U with heap := s₂.heap, slotsUsed := s₂.slotsUsed } : State).setVm s₂.vm).setTop g).pushFrame (.throwing q))
    rw [← hs₂]
    exact hsteps
end
variable {p : Program} {l : Launch} {e : Env} {R : Room} {s : State} {m : MethodId} {args : Array Value} {below : List Frame} {meth : Method} {c : Code} {T : State} {H : Heap} {locs : List Loc} {cells slots : Nat}
theorem vx_callVX (X : Stand p l e R s m args below meth c T locs cells slots) (hexec : p.tables.exec = Jvm.exec) {own C : String} {index : Nat} {y : MethodName} {bytes : ByteArray} {maxL : Nat} {ret : Option FieldType} {hh : List (Nat × Nat × Nat × Nat)}
    (hown : s.vm.findClass own = some m.cls) (hlink : (Cond.methodLink own index y).before args s = true) (hinst : (Cond.instanceMethod y).before args s = true) (hsel : (Cond.selects C y y).before args s = true)
    (hcode : (Cond.codeWith y bytes maxL ret hh).before args s = true) (hy : y.cls ≠ "java/lang/invoke/MethodHandle" ∧ y.cls ≠ "java/lang/invoke/VarHandle")
    {W9 : Nat} {Pre : Pt → Array Value → Prop} {Post : Pt → Array Value → Option Value → Pt → Prop} {PostX : Pt → Array Value → Addr → Pt → Prop} (hK : vx_Back l R p e below s args y 3 W9 Pre Post PostX)
    {b : Addr} {cellB : Cell} (hcell : T.heap[b]? = some cellB) (hobj : cellB.vm.isStatics = false) (hcls : s.vm.findClass C = some cellB.cls)
    {g : JFrame} (hg : g.method = m) (hsize : g.locals.size = c.maxLocals) {argsL rest : List Value} (hlen : ∀ sig, parseMethodDescriptor y.desc = some sig → argsL.length = sig.parameters.length)
    (hstack : g.stack = argsL.reverse ++ .ref b :: rest) (hW : 2 * g.monitorRoom + (rest.map fun v => v.category).sum ≤ W9) (hdg : decode c.code g.pc = .ok (.invokevirtual index, 3))
    (hpre : ∀ vm₁, s.WarmedH vm₁ → Pre ⟨T.setVm vm₁, locs, cells, slots⟩ (Value.ref b :: argsL).toArray) :
    (∃ (v : Option Value) (vm₁ : Vm) (B : Pt), s.WarmedH vm₁ ∧ Stand p l e R s m args below meth c B.U B.locs B.cells B.slots ∧ Post ⟨T.setVm vm₁, locs, cells, slots⟩ (Value.ref b :: argsL).toArray v B ∧
      ∀ target, Steps p.tables e below (B.U.setTop { g with pc := g.pc + 3, stack := v.toList ++ rest }) target → Steps p.tables e below (T.setTop g) target) ∨
    (∃ (q : Addr) (vm₁ : Vm) (B : Pt), s.WarmedH vm₁ ∧ Stand p l e R s m args below meth c B.U B.locs B.cells B.slots ∧ PostX ⟨T.setVm vm₁, locs, cells, slots⟩ (Value.ref b :: argsL).toArray q B ∧
      Steps p.tables e below (T.setTop g) ((B.U.setTop { g with stack := rest }).pushFrame (.throwing q))) := by
  obtain ⟨mk, methM, hnamed, hmethM, hstM, habM⟩ := Cond.instanceMethod_spec hinst
  obtain ⟨m8, methM', cM, hn8, hmethM', -, -, -, -, -, -, hsigM⟩ := Cond.codeWith_spec hcode
  cases Option.some.inj (hn8.symm.trans hnamed)
  cases hmethM.symm.trans hmethM'
  obtain ⟨c2, r2, m2, q1, q2, q3, q4, kP, hkP, hkPi⟩ := Cond.selects_spec hsel
  cases hcls.symm.trans q1
  cases (State.methodFound?_of_named hnamed hy).symm.trans q2
  cases hnamed.symm.trans q3
  have hselP : selectMethod e.platform s.vm cellB.cls mk = .method mk := by rw [Launch.admits_selectMethod X.admits]; exact q4
  obtain ⟨vm₁, X₁, hstep₁⟩ := X.invokevirtual hexec hown hlink hnamed hmethM hstM hkP hkPi hy (a := b) (cell := cellB) hcell
    (fun z h => by rw [h] at hobj; cases hobj) hselP hmethM habM hkP hkPi (g := g) hg (argsL := argsL) (rest := rest) (hlen _ hsigM) hstack hdg
  rcases hK m meth c ⟨T.setVm vm₁, locs, cells, slots⟩ { g with stack := rest } (.invokevirtual index) mk (Value.ref b :: argsL).toArray X₁ hg hsize hdg hW (X₁.named hnamed) (hpre vm₁ X₁.warmed) with ⟨v, B, X', hpost, hsteps⟩ | ⟨q, B, X', hpost, hsteps⟩
  · exact Or.inl ⟨v, vm₁, B, X₁.warmed, X', hpost, fun target h => hstep₁ _ fun acts => by rw [doInvoke_state]; exact hsteps.trans h⟩
  · exact Or.inr ⟨q, vm₁, B, X₁.warmed, X', hpost, hstep₁ _ fun acts => by rw [doInvoke_state]; exact hsteps⟩
theorem vx_callSX (X : Stand p l e R s m args below meth c T locs cells slots) (hexec : p.tables.exec = Jvm.exec) {own : String} {index : Nat} {y : MethodName} {bytes : ByteArray} {maxL : Nat} {ret : Option FieldType} {hh : List (Nat × Nat × Nat × Nat)}
    (hown : s.vm.findClass own = some m.cls) (hlink : (Cond.methodLink own index y).before args s = true) (hstat : (Cond.static y).before args s = true) (hinit : (Cond.initialized y.cls).before args s = true)
    (hcode : (Cond.codeWith y bytes maxL ret hh).before args s = true) (hy : y.cls ≠ "java/lang/invoke/MethodHandle" ∧ y.cls ≠ "java/lang/invoke/VarHandle")
    {W9 : Nat} {Pre : Pt → Array Value → Prop} {Post : Pt → Array Value → Option Value → Pt → Prop} {PostX : Pt → Array Value → Addr → Pt → Prop} (hK : vx_Back l R p e below s args y 3 W9 Pre Post PostX)
    {g : JFrame} (hg : g.method = m) (hsize : g.locals.size = c.maxLocals) {argsL rest : List Value} (hlen : ∀ sig, parseMethodDescriptor y.desc = some sig → argsL.length = sig.parameters.length)
    (hstack : g.stack = argsL.reverse ++ rest) (hW : 2 * g.monitorRoom + (rest.map fun v => v.category).sum ≤ W9) (hdg : decode c.code g.pc = .ok (.invokestatic index, 3))
    (hpre : ∀ vm₁, s.WarmedH vm₁ → Pre ⟨T.setVm vm₁, locs, cells, slots⟩ argsL.toArray) :
    (∃ (v : Option Value) (vm₁ : Vm) (B : Pt), s.WarmedH vm₁ ∧ Stand p l e R s m args below meth c B.U B.locs B.cells B.slots ∧ Post ⟨T.setVm vm₁, locs, cells, slots⟩ argsL.toArray v B ∧
      ∀ target, Steps p.tables e below (B.U.setTop { g with pc := g.pc + 3, stack := v.toList ++ rest }) target → Steps p.tables e below (T.setTop g) target) ∨
    (∃ (q : Addr) (vm₁ : Vm) (B : Pt), s.WarmedH vm₁ ∧ Stand p l e R s m args below meth c B.U B.locs B.cells B.slots ∧ PostX ⟨T.setVm vm₁, locs, cells, slots⟩ argsL.toArray q B ∧
      Steps p.tables e below (T.setTop g) ((B.U.setTop { g with stack := rest }).pushFrame (.throwing q))) := by
  obtain ⟨mk, methM, cM, hnamed, hmethM, -, -, -, -, -, -, hsigM⟩ := Cond.codeWith_spec hcode
  have hstatic : methM.isStatic = true := Cond.static_spec hnamed hmethM hstat
  obtain ⟨kP, hkP, -⟩ := className_of_methodNamed hnamed
  have hinitP : kP.init = .initialized := Cond.initialized_spec (findClass_of_methodNamed hnamed) hkP hinit
  obtain ⟨vm₁, X₁, hstep₁⟩ := X.invokestatic hexec hown hlink hnamed hmethM hstatic hkP hinitP hy (g := g) hg (argsL := argsL) (rest := rest) (hlen _ hsigM) hstack hdg
  rcases hK m meth c ⟨T.setVm vm₁, locs, cells, slots⟩ { g with stack := rest } (.invokestatic index) mk argsL.toArray X₁ hg hsize hdg hW (X₁.named hnamed) (hpre vm₁ X₁.warmed) with ⟨v, B, X', hpost, hsteps⟩ | ⟨q, B, X', hpost, hsteps⟩
  · exact Or.inl ⟨v, vm₁, B, X₁.warmed, X', hpost, fun target h => hstep₁ _ fun acts => by rw [doInvoke_state]; exact hsteps.trans h⟩
  · exact Or.inr ⟨q, vm₁, B, X₁.warmed, X', hpost, hstep₁ _ fun acts => by rw [doInvoke_state]; exact hsteps⟩
theorem vx_callVW (X : Stand p l e R s m args below meth c T locs cells slots) (hexec : p.tables.exec = Jvm.exec) {own C : String} {index : Nat} {y : MethodName} {bytes : ByteArray} {maxL : Nat} {ret : Option FieldType} {hh : List (Nat × Nat × Nat × Nat)}
    (hown : s.vm.findClass own = some m.cls) (hlink : (Cond.methodLink own index y).before args s = true) (hinst : (Cond.instanceMethod y).before args s = true) (hsel : (Cond.selects C y y).before args s = true)
    (hcode : (Cond.codeWith y bytes maxL ret hh).before args s = true) (hy : y.cls ≠ "java/lang/invoke/MethodHandle" ∧ y.cls ≠ "java/lang/invoke/VarHandle")
    {W9 : Nat} {Pre : Pt → Array Value → Prop} {Post : Pt → Array Value → Option Value → Pt → Prop} (hK : Back l R p e below s args y 3 W9 Pre Post)
    {b : Addr} {cellB : Cell} (hcell : T.heap[b]? = some cellB) (hobj : cellB.vm.isStatics = false) (hcls : s.vm.findClass C = some cellB.cls)
    {g : JFrame} (hg : g.method = m) (hsize : g.locals.size = c.maxLocals) {argsL rest : List Value} (hlen : ∀ sig, parseMethodDescriptor y.desc = some sig → argsL.length = sig.parameters.length)
    (hstack : g.stack = argsL.reverse ++ .ref b :: rest) (hW : 2 * g.monitorRoom + (rest.map fun v => v.category).sum ≤ W9) (hdg : decode c.code g.pc = .ok (.invokevirtual index, 3))
    (hpre : ∀ vm₁, s.WarmedH vm₁ → Pre ⟨T.setVm vm₁, locs, cells, slots⟩ (Value.ref b :: argsL).toArray) :
    ∃ (v : Option Value) (vm₁ : Vm) (B : Pt), s.WarmedH vm₁ ∧ Stand p l e R s m args below meth c B.U B.locs B.cells B.slots ∧ Post ⟨T.setVm vm₁, locs, cells, slots⟩ (Value.ref b :: argsL).toArray v B ∧
      ∀ target, Steps p.tables e below (B.U.setTop { g with pc := g.pc + 3, stack := v.toList ++ rest }) target → Steps p.tables e below (T.setTop g) target := by
  obtain ⟨mk, methM, hnamed, hmethM, hstM, habM⟩ := Cond.instanceMethod_spec hinst
  obtain ⟨m8, methM', cM, hn8, hmethM', -, -, -, -, -, -, hsigM⟩ := Cond.codeWith_spec hcode
  cases Option.some.inj (hn8.symm.trans hnamed)
  cases hmethM.symm.trans hmethM'
  obtain ⟨c2, r2, m2, q1, q2, q3, q4, kP, hkP, hkPi⟩ := Cond.selects_spec hsel
  cases hcls.symm.trans q1
  cases (State.methodFound?_of_named hnamed hy).symm.trans q2
  cases hnamed.symm.trans q3
  have hselP : selectMethod e.platform s.vm cellB.cls mk = .method mk := by rw [Launch.admits_selectMethod X.admits]; exact q4
  obtain ⟨vm₁, X₁, hstep₁⟩ := X.invokevirtual hexec hown hlink hnamed hmethM hstM hkP hkPi hy (a := b) (cell := cellB) hcell
    (fun z h => by rw [h] at hobj; cases hobj) hselP hmethM habM hkP hkPi (g := g) hg (argsL := argsL) (rest := rest) (hlen _ hsigM) hstack hdg
  obtain ⟨v, B, X', hpost, hsteps⟩ := hK m meth c ⟨T.setVm vm₁, locs, cells, slots⟩ { g with stack := rest } (.invokevirtual index) mk (Value.ref b :: argsL).toArray X₁ hg hsize hdg hW (X₁.named hnamed) (hpre vm₁ X₁.warmed)
  exact ⟨v, vm₁, B, X₁.warmed, X', hpost, fun target h => hstep₁ _ fun acts => by rw [doInvoke_state]; exact hsteps.trans h⟩
abbrev vx_CVW (R : Room) (s : State) (args : Array Value) (own C : String) (index : Nat) (y : MethodName) (bytes : ByteArray) (maxL : Nat) (ret : Option FieldType) (hh : List (Nat × Nat × Nat × Nat)) (ws : List Cond) (rm : Room) (mc ms n : Nat) : Prop :=
  (rm.cells = mc ∧ rm.slots = ms ∧ rm.frames + 1 ≤ R.frames ∧ 8 + (maxL + 11) + rm.locals ≤ R.locals ∧ (∀ w ∈ ws, ∀ (a' : Array Value) (U : State), s.WarmedH U.vm → w.before a' U = true) ∧ Cond.codeWith y bytes maxL ret hh ∈ ws) ∧
  (Cond.codeWith y bytes maxL ret hh).before args s = true ∧ (Cond.initialized y.cls).before args s = true ∧ (y.cls ≠ "java/lang/invoke/MethodHandle" ∧ y.cls ≠ "java/lang/invoke/VarHandle") ∧
  (∀ sig, parseMethodDescriptor y.desc = some sig → n = sig.parameters.length) ∧ (Cond.methodLink own index y).before args s = true ∧ (Cond.instanceMethod y).before args s = true ∧ (Cond.selects C y y).before args s = true
theorem vx_cwVW {own C : String} {index maxL mc ms : Nat} {y : MethodName} {bytes : ByteArray} {ret : Option FieldType} {hh : List (Nat × Nat × Nat × Nat)} {Ts ws ws' : List Cond} {rm : Room} (n : Nat) (ht : ∀ w ∈ Ts, w.before args s = true) (hT : GoodIn Ts (wsV own index C y ws)) (hw : ws = Cond.codeWith y bytes maxL ret hh :: ws') (hrc : rm.cells = mc) (hrs : rm.slots = ms)
    (hd : y.cls = C ∧ y.cls ≠ "java/lang/invoke/MethodHandle" ∧ y.cls ≠ "java/lang/invoke/VarHandle" ∧ (parseMethodDescriptor y.desc).map (fun d => d.parameters.length) = some n) (hR : rm.frames + 1 ≤ R.frames ∧ 8 + (maxL + 11) + rm.locals ≤ R.locals) :
    vx_CVW R s args own C index y bytes maxL ret hh ws rm mc ms n := by
  obtain ⟨hC, hd⟩ := hd
  subst hC
  have ok : ∀ w ∈ wsV own index y.cls y ws, w.before args s = true := fun w h => ht w (hT w h).1
  have hG : GoodIn Ts ws := fun w h => hT w (by unfold wsV; exact List.mem_append_right _ h)
  have hc : Cond.codeWith y bytes maxL ret hh ∈ ws := by rw [hw]; exact List.mem_cons_self
  refine ⟨⟨hrc, hrs, hR.1, hR.2, pay_in ht hG, hc⟩, ht _ (hG _ hc).1, ok _ (by simp [wsV]), ⟨hd.1, hd.2.1⟩, fun sig h => ?_, ok _ (by simp [wsV]), ok _ (by simp [wsV]), ok _ (by simp [wsV])⟩
  have h2 := hd.2.2
  rw [h] at h2
  exact (Option.some.inj h2).symm
theorem vx_runVW {y : MethodName} {bytes cc : ByteArray} {maxL nL mc ms n index : Nat} {ret : Option FieldType} {hh : List (Nat × Nat × Nat × Nat)} {ws : List Cond} {rm : Room} {Pc : Array Value → State → Prop} {Qc : Array Value → State → Outcome → State → Prop} {free : Addr → Prop} {Ts : List Cond} {own C : String} {b : Addr} {As rest : List Value} {g : JFrame}
    (S : CallFix p m c cc nL s args Ts own) (hM : Met l y ws rm Pc Qc mc ms free) (cw : vx_CVW R s args own C index y bytes maxL ret hh ws rm mc ms n) (hp : PreV s H C b Pc As)
    (hg : g.method = m) (hn : As.length = n) (hsize : g.locals.size = nL) (hstack : g.stack = As.reverse ++ .ref b :: rest) (hW : 2 * g.monitorRoom + (rest.map fun v => v.category).sum ≤ 8) (hdg : decode cc g.pc = .ok (.invokevirtual index, 3)) (hf : cells + mc ≤ R.cells ∧ slots + ms ≤ R.slots) :
    va_Run p l e R s m args below meth c H locs cells slots mc ms g rest (Qc (Value.ref b :: As).toArray) free := by
  obtain ⟨⟨hrc, hrs, hfr, hlo, hws, hcw⟩, hcode, hini, hy, hlen, hl, hin, hse⟩ := cw
  have hK : Back l R p e below s args y 3 8 (PreOf R mc ms Pc) (PostOf Qc mc ms free) := va_backW (hh := hh) (bytes := bytes) (maxL := maxL) (ret := ret) hM hp.1 hrc hrs hfr hlo hws hcw (fun a' U hW => word_at hW (Or.inl (by first | rfl | simp [Cond.onTables, Cond.keeps, Cond.steady])) hini)
  obtain ⟨hx, hb, hml, ho, -⟩ := S
  obtain ⟨-, ⟨cellB, hcB, hoB, hclB⟩, hPc⟩ := hp
  intro T hT X
  obtain ⟨v, vm₁, ⟨U', l2, c2, s2⟩, hW₁, X', ⟨g', mk, t, L, e1, e2, hq, h1, hL, h2, h3⟩, st⟩ := vx_callVW X hx (C := C) (hh := hh) (bytes := bytes) (maxL := maxL) (ret := ret) ho hl hin hse hcode hy hK (by rw [hT]; exact hcB) hoB hclB hg (hsize.trans hml.symm) (argsL := As) (rest := rest) (fun sig h => hn.trans (hlen sig h)) hstack hW (by rw [hb]; exact hdg)
    (fun vm₁ hW₁ => ⟨hf.1, hf.2, hPc (T.setVm vm₁) hT hW₁⟩)
  dsimp only [Pt.U, Pt.locs, Pt.cells, Pt.slots] at X' e1 e2 h1 h2 h3 st
  subst h1; subst h2; subst h3
  exact ⟨v, (T.setVm vm₁).calling g' mk (Value.ref b :: As).toArray, t, U', L, hT, X', hL, e1, e2, hq, st⟩
section
variable {y : MethodName} {bytes cc : ByteArray} {maxL nL mc ms n index : Nat} {ret : Option FieldType} {ws : List Cond} {rm : Room} {Pc : Array Value → State → Prop} {Qc : Array Value → State → Outcome → State → Prop} {XC : String → State → State → Prop} {free : Addr → Prop} {Ts : List Cond} {own C : String} {b : Addr} {As rest : List Value} {g : JFrame}
theorem vx_runVX {hh : List (Nat × Nat × Nat × Nat)} (S : CallFix p m c cc nL s args Ts own) (hM : vx_Met l y ws rm Pc Qc XC mc ms free) (cw : vx_CVW R s args own C index y bytes maxL ret hh ws rm mc ms n) (hp : PreV s H C b Pc As)
    (hg : g.method = m) (hn : As.length = n) (hsize : g.locals.size = nL) (hstack : g.stack = As.reverse ++ .ref b :: rest) (hW : 2 * g.monitorRoom + (rest.map fun v => v.category).sum ≤ 8) (hdg : decode cc g.pc = .ok (.invokevirtual index, 3)) (hf : cells + mc ≤ R.cells ∧ slots + ms ≤ R.slots) :
    vx_Run p l e R s m args below meth c H locs cells slots mc ms g rest (Qc (Value.ref b :: As).toArray) XC free := by
  obtain ⟨⟨hrc, hrs, hfr, hlo, hws, hcw⟩, hcode, hini, hy, hlen, hl, hin, hse⟩ := cw
  have hK : vx_Back l R p e below s args y 3 8 (PreOf R mc ms Pc) (PostOf Qc mc ms free) (vx_Post XC mc ms free) := vx_backW (hh := hh) (bytes := bytes) (maxL := maxL) (ret := ret) hM hp.1 hrc hrs hfr hlo hws hcw (fun a' U hW => word_at hW (Or.inl (by first | rfl | simp [Cond.onTables, Cond.keeps, Cond.steady])) hini)
  obtain ⟨hx, hb, hml, ho, -⟩ := S
  obtain ⟨-, ⟨cellB, hcB, hoB, hclB⟩, hPc⟩ := hp
  intro T hT X
  rcases vx_callVX X hx (C := C) (hh := hh) (bytes := bytes) (maxL := maxL) (ret := ret) ho hl hin hse hcode hy hK (by rw [hT]; exact hcB) hoB hclB hg (hsize.trans hml.symm) (argsL := As) (rest := rest) (fun sig h => hn.trans (hlen sig h)) hstack hW (by rw [hb]; exact hdg)
    (fun vm₁ hW₁ => ⟨hf.1, hf.2, hPc (T.setVm vm₁) hT hW₁⟩) with ⟨v, vm₁, ⟨U', l2, c2, s2⟩, hW₁, X', ⟨g', mk, t, L, e1, e2, hq, h1, hL, h2, h3⟩, st⟩ | ⟨q, vm₁, ⟨U', l2, c2, s2⟩, hW₁, X', ⟨g', mk, t, L, E, ce, e1, e2, hq, hce, hcv, hcl, h1, hL, h2, h3⟩, st⟩
  · dsimp only [Pt.U, Pt.locs, Pt.cells, Pt.slots] at X' e1 e2 h1 h2 h3 st
    subst h1; subst h2; subst h3
    exact Or.inl ⟨v, (T.setVm vm₁).calling g' mk (Value.ref b :: As).toArray, t, U', L, hT, X', hL, e1, e2, hq, st⟩
  · dsimp only [Pt.U, Pt.locs, Pt.cells, Pt.slots] at X' e1 e2 h1 h2 h3 st hcl
    subst h1; subst h2; subst h3
    exact Or.inr ⟨q, (T.setVm vm₁).calling g' mk (Value.ref b :: As).toArray, t, U', L, E, ce, hT, X', hL, e1, e2, hq, hce, hcv, vx_cls hW₁ hcl, st⟩
theorem vx_runSX {hh : List (Nat × Nat × Nat × Nat)} (S : CallFix p m c cc nL s args Ts own) (hM : vx_Met l y ws rm Pc Qc XC mc ms free) (cw : vx_CSW R s args own index y bytes maxL ret hh ws rm mc ms n) (hp : PreS s H Pc As)
    (hg : g.method = m) (hn : As.length = n) (hsize : g.locals.size = nL) (hstack : g.stack = As.reverse ++ rest) (hW : 2 * g.monitorRoom + (rest.map fun v => v.category).sum ≤ 8) (hdg : decode cc g.pc = .ok (.invokestatic index, 3)) (hf : cells + mc ≤ R.cells ∧ slots + ms ≤ R.slots) :
    vx_Run p l e R s m args below meth c H locs cells slots mc ms g rest (Qc As.toArray) XC free := by
  obtain ⟨⟨hrc, hrs, hfr, hlo, hws, hcw⟩, hcode, hini, hy, hlen, hl, hstt⟩ := cw
  have hK : vx_Back l R p e below s args y 3 8 (PreOf R mc ms Pc) (PostOf Qc mc ms free) (vx_Post XC mc ms free) := vx_backW (hh := hh) (bytes := bytes) (maxL := maxL) (ret := ret) hM hp.1 hrc hrs hfr hlo hws hcw (fun a' U hW => word_at hW (Or.inl (by first | rfl | simp [Cond.onTables, Cond.keeps, Cond.steady])) hini)
  obtain ⟨hx, hb, hml, ho, -⟩ := S
  intro T hT X
  rcases vx_callSX X hx (hh := hh) (bytes := bytes) (maxL := maxL) (ret := ret) ho hl hstt hini hcode hy hK hg (hsize.trans hml.symm) (argsL := As) (rest := rest) (fun sig h => hn.trans (hlen sig h)) hstack hW (by rw [hb]; exact hdg)
    (fun vm₁ hW₁ => ⟨hf.1, hf.2, hp.2 (T.setVm vm₁) hT hW₁⟩) with ⟨v, vm₁, ⟨U', l2, c2, s2⟩, hW₁, X', ⟨g', mk, t, L, e1, e2, hq, h1, hL, h2, h3⟩, st⟩ | ⟨q, vm₁, ⟨U', l2, c2, s2⟩, hW₁, X', ⟨g', mk, t, L, E, ce, e1, e2, hq, hce, hcv, hcl, h1, hL, h2, h3⟩, st⟩
  · dsimp only [Pt.U, Pt.locs, Pt.cells, Pt.slots] at X' e1 e2 h1 h2 h3 st
    subst h1; subst h2; subst h3
    exact Or.inl ⟨v, (T.setVm vm₁).calling g' mk As.toArray, t, U', L, hT, X', hL, e1, e2, hq, st⟩
  · dsimp only [Pt.U, Pt.locs, Pt.cells, Pt.slots] at X' e1 e2 h1 h2 h3 st hcl
    subst h1; subst h2; subst h3
    exact Or.inr ⟨q, (T.setVm vm₁).calling g' mk As.toArray, t, U', L, E, ce, hT, X', hL, e1, e2, hq, hce, hcv, vx_cls hW₁ hcl, st⟩
end
end VXH
theorem vx_ofWH {l : Launch} {y : MethodName} {ws ws' : List Cond} {rm : Room} {Pc : Array Value → State → Prop} {Qc : Array Value → State → Outcome → State → Prop} {XC : String → State → State → Prop} {mc ms : Nat} {free : Addr → Prop} {cc : ByteArray} {maxL : Nat} {ret : Option FieldType} {hh : List (Nat × Nat × Nat × Nat)}
    (hy : plainName y.cls = true) (hw : ws = Cond.codeWith y cc maxL ret hh :: ws')
    (body : ∀ p e s m args below meth c s₁, BodyLoose p l y (headSpec ws rm) cc maxL ret e s m args below meth c s₁ → c.maxLocals = maxL → Pc args s →
      W p l e (headSpec ws rm).room s m args below meth c s.heap [] 0 0 (vx_MQ below Qc XC args s mc ms free) (entryFrame m args maxL)) : vx_Met l y ws rm Pc Qc XC mc ms free := by
  refine MetFree.of_bodyS (code := cc) (maxLocals := maxL) (ret := ret) hy ?_ ?_
  · intro args s m h hn
    obtain ⟨m9, meth, c, hn9, h1, h2, h3, h4, -, h5, h6, -⟩ := Cond.codeWith_spec (atoms_spec (ws := ws) h _ (by rw [hw]; exact List.mem_cons_self))
    cases hn.symm.trans hn9
    exact ⟨meth, c, h1, h2, h3, h4, h5, h6⟩
  · intro p e s m args below meth c s₁ B hml hP _
    have hh0 : s₁.heap = s.heap := by rw [B.state]; rfl
    obtain ⟨t, a1, o, b1, b2, b3⟩ := body p e s m args below meth c s₁ B hml hP s₁ hh0 (Stand.of_body B)
    exact ⟨t, o, a1, b1, b2, b3⟩
/-! ===== END ===== -/
end
section

/-! ===== BEGIN printed: names, fields, word lists, decode rows ===== -/
def RX0 : String := "PressbrakeLane$Batch"
def TX0 : u_T := fun k => match k with
  | 0 => ("PressbrakeLane$Batch", "part", "I", false)
  | 1 => ("PressbrakeLane$Batch", "tool", "I", false)
  | 2 => ("PressbrakeLane$Batch", "state", "I", false)
  | 3 => ("PressbrakeLane$Batch", "pieces", "I", false)
  | 4 => ("PressbrakeLane$Batch", "revision", "I", false)
  | _ => ("PressbrakeLane$Batch", "cutLength", "I", false)
def tyX0 : Nat → FieldType := fun k => match k with
  | 0 => .int
  | 1 => .int
  | 2 => .int
  | 3 => .int
  | 4 => .int
  | _ => .int
abbrev wsX00 : List Cond := u_ws RX0 TX0 6
theorem nmX0 : ∀ a, a < 6 → ∀ b, b < 6 → a ≠ b → (TX0 a).2.1 ≠ (TX0 b).2.1 := by decide +kernel
theorem tyX0_ok : ∀ k, k < 6 → parseFieldDescriptor (TX0 k).2.2.1 = some (tyX0 k) := by decide +kernel
abbrev cX0_init : ByteArray := prog_2_method_1_code
def yX0_init : MethodName := ⟨RX0, "<init>", "()V"⟩
def RX1 : String := "PressbrakeLane$Brake"
def TX1 : u_T := fun k => match k with
  | 0 => ("PressbrakeLane$Brake", "right", "LPressbrakeLane$Wing;", true)
  | _ => ("PressbrakeLane$Brake", "left", "LPressbrakeLane$Wing;", true)
def tyX1 : Nat → FieldType := fun k => match k with
  | 0 => .object "PressbrakeLane$Wing"
  | _ => .object "PressbrakeLane$Wing"
abbrev wsX10 : List Cond := u_ws RX1 TX1 2
theorem nmX1 : ∀ a, a < 2 → ∀ b, b < 2 → a ≠ b → (TX1 a).2.1 ≠ (TX1 b).2.1 := by decide +kernel
theorem tyX1_ok : ∀ k, k < 2 → parseFieldDescriptor (TX1 k).2.2.1 = some (tyX1 k) := by decide +kernel
abbrev cX1_init : ByteArray := prog_3_method_1_code
def yX1_init : MethodName := ⟨RX1, "<init>", "()V"⟩
abbrev cX1_reason : ByteArray := prog_3_method_2_code
def yX1_reason : MethodName := ⟨RX1, "reason", "(LPressbrakeLane$Part;LPressbrakeLane$Tool;II)I"⟩
def RX2 : String := "PressbrakeLane$Drawing"
def TX2 : u_T := fun k => match k with
  | 0 => ("PressbrakeLane$Drawing", "lengths", "[I", true)
  | 1 => ("PressbrakeLane$Drawing", "directions", "[I", true)
  | _ => ("PressbrakeLane$Drawing", "faces", "I", false)
def tyX2 : Nat → FieldType := fun k => match k with
  | 0 => .array .int
  | 1 => .array .int
  | _ => .int
abbrev wsX20 : List Cond := u_ws RX2 TX2 3
theorem nmX2 : ∀ a, a < 3 → ∀ b, b < 3 → a ≠ b → (TX2 a).2.1 ≠ (TX2 b).2.1 := by decide +kernel
theorem tyX2_ok : ∀ k, k < 3 → parseFieldDescriptor (TX2 k).2.2.1 = some (tyX2 k) := by decide +kernel
abbrev cX2_init : ByteArray := prog_4_method_1_code
def yX2_init : MethodName := ⟨RX2, "<init>", "()V"⟩
abbrev cX2_bends : ByteArray := prog_4_method_2_code
def yX2_bends : MethodName := ⟨RX2, "bends", "()I"⟩
abbrev cX2_directionOf : ByteArray := prog_4_method_3_code
def yX2_directionOf : MethodName := ⟨RX2, "directionOf", "(I)I"⟩
abbrev cX2_wingFaces : ByteArray := prog_4_method_4_code
def yX2_wingFaces : MethodName := ⟨RX2, "wingFaces", "(IZ)I"⟩
abbrev cX2_flatLength : ByteArray := prog_4_method_5_code
def yX2_flatLength : MethodName := ⟨RX2, "flatLength", "()I"⟩
abbrev cX2_copy : ByteArray := prog_4_method_6_code
def yX2_copy : MethodName := ⟨RX2, "copy", "(LPressbrakeLane$Drawing;)V"⟩
abbrev cX2_isAs : ByteArray := prog_4_method_7_code
def yX2_isAs : MethodName := ⟨RX2, "isAs", "(LPressbrakeLane$Drawing;)Z"⟩
def RX3 : String := "PressbrakeLane$Nester"
def TX3 : u_T := fun k => match k with
  | 0 => ("PressbrakeLane$Nester", "sheetLength", "I", false)
  | 1 => ("PressbrakeLane$Nester", "sheetWidth", "I", false)
  | 2 => ("PressbrakeLane$Nester", "longSides", "[I", true)
  | 3 => ("PressbrakeLane$Nester", "shortSides", "[I", true)
  | 4 => ("PressbrakeLane$Nester", "amounts", "[I", true)
  | 5 => ("PressbrakeLane$Nester", "kinds", "I", false)
  | 6 => ("PressbrakeLane$Nester", "rowSheets", "[I", true)
  | 7 => ("PressbrakeLane$Nester", "rowHeights", "[I", true)
  | 8 => ("PressbrakeLane$Nester", "rowLefts", "[I", true)
  | 9 => ("PressbrakeLane$Nester", "rowEnds", "[I", true)
  | 10 => ("PressbrakeLane$Nester", "rows", "I", false)
  | 11 => ("PressbrakeLane$Nester", "sheetLefts", "[I", true)
  | 12 => ("PressbrakeLane$Nester", "sheets", "I", false)
  | 13 => ("PressbrakeLane$Nester", "cuts", "J", false)
  | _ => ("PressbrakeLane$Nester", "covered", "J", false)
def tyX3 : Nat → FieldType := fun k => match k with
  | 0 => .int
  | 1 => .int
  | 2 => .array .int
  | 3 => .array .int
  | 4 => .array .int
  | 5 => .int
  | 6 => .array .int
  | 7 => .array .int
  | 8 => .array .int
  | 9 => .array .int
  | 10 => .int
  | 11 => .array .int
  | 12 => .int
  | 13 => .long
  | _ => .long
abbrev wsX30 : List Cond := u_ws RX3 TX3 15
theorem nmX3 : ∀ a, a < 15 → ∀ b, b < 15 → a ≠ b → (TX3 a).2.1 ≠ (TX3 b).2.1 := by decide +kernel
theorem tyX3_ok : ∀ k, k < 15 → parseFieldDescriptor (TX3 k).2.2.1 = some (tyX3 k) := by decide +kernel
abbrev cX3_init : ByteArray := prog_5_method_1_code
def yX3_init : MethodName := ⟨RX3, "<init>", "()V"⟩
abbrev cX3_start : ByteArray := prog_5_method_2_code
def yX3_start : MethodName := ⟨RX3, "start", "(II)V"⟩
abbrev cX3_addKind : ByteArray := prog_5_method_3_code
def yX3_addKind : MethodName := ⟨RX3, "addKind", "(III)V"⟩
abbrev cX3_isBigger : ByteArray := prog_5_method_4_code
def yX3_isBigger : MethodName := ⟨RX3, "isBigger", "(III)Z"⟩
abbrev cX3_doAllFit : ByteArray := prog_5_method_5_code
def yX3_doAllFit : MethodName := ⟨RX3, "doAllFit", "()Z"⟩
abbrev cX3_layAll : ByteArray := prog_5_method_6_code
def yX3_layAll : MethodName := ⟨RX3, "layAll", "()V"⟩
abbrev cX3_lay : ByteArray := prog_5_method_7_code
def yX3_lay : MethodName := ⟨RX3, "lay", "(II)V"⟩
abbrev cX3_rowFor : ByteArray := prog_5_method_8_code
def yX3_rowFor : MethodName := ⟨RX3, "rowFor", "(II)I"⟩
abbrev cX3_newRow : ByteArray := prog_5_method_9_code
def yX3_newRow : MethodName := ⟨RX3, "newRow", "(I)I"⟩
abbrev cX3_sheetFor : ByteArray := prog_5_method_10_code
def yX3_sheetFor : MethodName := ⟨RX3, "sheetFor", "(I)I"⟩
abbrev cX3_tell : ByteArray := prog_5_method_11_code
def yX3_tell : MethodName := ⟨RX3, "tell", "(I)J"⟩
def RX4 : String := "PressbrakeLane$Part"
def TX4 : u_T := fun k => match k with
  | 0 => ("PressbrakeLane$Part", "drawing", "LPressbrakeLane$Drawing;", true)
  | 1 => ("PressbrakeLane$Part", "width", "I", false)
  | 2 => ("PressbrakeLane$Part", "thickness", "I", false)
  | 3 => ("PressbrakeLane$Part", "revision", "I", false)
  | 4 => ("PressbrakeLane$Part", "holeFaces", "[I", true)
  | 5 => ("PressbrakeLane$Part", "holeAts", "[I", true)
  | 6 => ("PressbrakeLane$Part", "holeDiameters", "[I", true)
  | _ => ("PressbrakeLane$Part", "holes", "I", false)
def tyX4 : Nat → FieldType := fun k => match k with
  | 0 => .object "PressbrakeLane$Drawing"
  | 1 => .int
  | 2 => .int
  | 3 => .int
  | 4 => .array .int
  | 5 => .array .int
  | 6 => .array .int
  | _ => .int
abbrev wsX40 : List Cond := u_ws RX4 TX4 8
theorem nmX4 : ∀ a, a < 8 → ∀ b, b < 8 → a ≠ b → (TX4 a).2.1 ≠ (TX4 b).2.1 := by decide +kernel
theorem tyX4_ok : ∀ k, k < 8 → parseFieldDescriptor (TX4 k).2.2.1 = some (tyX4 k) := by decide +kernel
abbrev cX4_init : ByteArray := prog_6_method_1_code
def yX4_init : MethodName := ⟨RX4, "<init>", "()V"⟩
abbrev cX4_draw : ByteArray := prog_6_method_2_code
def yX4_draw : MethodName := ⟨RX4, "draw", "(LPressbrakeLane$Drawing;II)V"⟩
abbrev cX4_blankBy : ByteArray := prog_6_method_3_code
def yX4_blankBy : MethodName := ⟨RX4, "blankBy", "(LPressbrakeLane$Tool;)I"⟩
abbrev cX4_isHoleNear : ByteArray := prog_6_method_4_code
def yX4_isHoleNear : MethodName := ⟨RX4, "isHoleNear", "(I)Z"⟩
abbrev cX4_nearHoles : ByteArray := prog_6_method_5_code
def yX4_nearHoles : MethodName := ⟨RX4, "nearHoles", "()I"⟩
def RX5 : String := "PressbrakeLane$Planner"
def TX5 : u_T := fun k => match k with
  | 0 => ("PressbrakeLane$Planner", "possible", "[I", true)
  | 1 => ("PressbrakeLane$Planner", "fewest", "[I", true)
  | 2 => ("PressbrakeLane$Planner", "directions", "[I", true)
  | 3 => ("PressbrakeLane$Planner", "bends", "I", false)
  | 4 => ("PressbrakeLane$Planner", "places", "[I", true)
  | 5 => ("PressbrakeLane$Planner", "placeCount", "I", false)
  | _ => ("PressbrakeLane$Planner", "turns", "I", false)
def tyX5 : Nat → FieldType := fun k => match k with
  | 0 => .array .int
  | 1 => .array .int
  | 2 => .array .int
  | 3 => .int
  | 4 => .array .int
  | 5 => .int
  | _ => .int
abbrev wsX50 : List Cond := u_ws RX5 TX5 7
theorem nmX5 : ∀ a, a < 7 → ∀ b, b < 7 → a ≠ b → (TX5 a).2.1 ≠ (TX5 b).2.1 := by decide +kernel
theorem tyX5_ok : ∀ k, k < 7 → parseFieldDescriptor (TX5 k).2.2.1 = some (tyX5 k) := by decide +kernel
abbrev cX5_init : ByteArray := prog_7_method_1_code
def yX5_init : MethodName := ⟨RX5, "<init>", "()V"⟩
abbrev cX5_plan : ByteArray := prog_7_method_2_code
def yX5_plan : MethodName := ⟨RX5, "plan", "(LPressbrakeLane$Part;LPressbrakeLane$Tool;LPressbrakeLane$Brake;)V"⟩
abbrev cX5_fewestOfAll : ByteArray := prog_7_method_3_code
def yX5_fewestOfAll : MethodName := ⟨RX5, "fewestOfAll", "(LPressbrakeLane$Part;LPressbrakeLane$Tool;LPressbrakeLane$Brake;)I"⟩
abbrev cX5_look : ByteArray := prog_7_method_4_code
def yX5_look : MethodName := ⟨RX5, "look", "(LPressbrakeLane$Part;LPressbrakeLane$Tool;LPressbrakeLane$Brake;)V"⟩
abbrev cX5_bestNext : ByteArray := prog_7_method_5_code
def yX5_bestNext : MethodName := ⟨RX5, "bestNext", "(II)I"⟩
abbrev cX5_turnsBy : ByteArray := prog_7_method_6_code
def yX5_turnsBy : MethodName := ⟨RX5, "turnsBy", "(III)I"⟩
abbrev cX5_restOfNone : ByteArray := prog_7_method_7_code
def yX5_restOfNone : MethodName := ⟨RX5, "restOfNone", "(I)I"⟩
abbrev cX5_turn : ByteArray := prog_7_method_8_code
def yX5_turn : MethodName := ⟨RX5, "turn", "(II)I"⟩
abbrev cX5_fewestBeyond : ByteArray := prog_7_method_9_code
def yX5_fewestBeyond : MethodName := ⟨RX5, "fewestBeyond", "(LPressbrakeLane$Planner;III)I"⟩
def RX6 : String := "PressbrakeLane$Tool"
def TX6 : u_T := fun k => match k with
  | 0 => ("PressbrakeLane$Tool", "opening", "I", false)
  | 1 => ("PressbrakeLane$Tool", "punch", "I", false)
  | 2 => ("PressbrakeLane$Tool", "die", "I", false)
  | 3 => ("PressbrakeLane$Tool", "table", "I", false)
  | 4 => ("PressbrakeLane$Tool", "gauge", "I", false)
  | _ => ("PressbrakeLane$Tool", "deductions", "[I", true)
def tyX6 : Nat → FieldType := fun k => match k with
  | 0 => .int
  | 1 => .int
  | 2 => .int
  | 3 => .int
  | 4 => .int
  | _ => .array .int
abbrev wsX60 : List Cond := u_ws RX6 TX6 6
theorem nmX6 : ∀ a, a < 6 → ∀ b, b < 6 → a ≠ b → (TX6 a).2.1 ≠ (TX6 b).2.1 := by decide +kernel
theorem tyX6_ok : ∀ k, k < 6 → parseFieldDescriptor (TX6 k).2.2.1 = some (tyX6 k) := by decide +kernel
abbrev cX6_init : ByteArray := prog_8_method_1_code
def yX6_init : MethodName := ⟨RX6, "<init>", "()V"⟩
def RX7 : String := "PressbrakeLane$Wing"
def TX7 : u_T := fun k => match k with
  | 0 => ("PressbrakeLane$Wing", "us", "[I", true)
  | 1 => ("PressbrakeLane$Wing", "vs", "[I", true)
  | 2 => ("PressbrakeLane$Wing", "points", "I", false)
  | _ => ("PressbrakeLane$Wing", "run", "I", false)
def tyX7 : Nat → FieldType := fun k => match k with
  | 0 => .array .int
  | 1 => .array .int
  | 2 => .int
  | _ => .int
abbrev wsX70 : List Cond := u_ws RX7 TX7 4
theorem nmX7 : ∀ a, a < 4 → ∀ b, b < 4 → a ≠ b → (TX7 a).2.1 ≠ (TX7 b).2.1 := by decide +kernel
theorem tyX7_ok : ∀ k, k < 4 → parseFieldDescriptor (TX7 k).2.2.1 = some (tyX7 k) := by decide +kernel
abbrev cX7_init : ByteArray := prog_9_method_1_code
def yX7_init : MethodName := ⟨RX7, "<init>", "()V"⟩
abbrev cX7_unroll : ByteArray := prog_9_method_2_code
def yX7_unroll : MethodName := ⟨RX7, "unroll", "(LPressbrakeLane$Drawing;IIZ)V"⟩
abbrev cX7_hitsPunch : ByteArray := prog_9_method_3_code
def yX7_hitsPunch : MethodName := ⟨RX7, "hitsPunch", "(I)Z"⟩
abbrev cX7_hitsTable : ByteArray := prog_9_method_4_code
def yX7_hitsTable : MethodName := ⟨RX7, "hitsTable", "(II)Z"⟩
def RX8 : String := "PressbrakeLane"
def TX8 : u_T := fun k => match k with
  | 0 => ("PressbrakeLane", "pad", "LPressbrakeLane$Drawing;", true)
  | 1 => ("PressbrakeLane", "parts", "[LPressbrakeLane$Part;", true)
  | 2 => ("PressbrakeLane", "partCount", "I", false)
  | 3 => ("PressbrakeLane", "tools", "[LPressbrakeLane$Tool;", true)
  | 4 => ("PressbrakeLane", "toolCount", "I", false)
  | 5 => ("PressbrakeLane", "lot", "[I", true)
  | 6 => ("PressbrakeLane", "lotCount", "I", false)
  | 7 => ("PressbrakeLane", "batches", "[LPressbrakeLane$Batch;", true)
  | 8 => ("PressbrakeLane", "batchCount", "I", false)
  | 9 => ("PressbrakeLane", "brake", "LPressbrakeLane$Brake;", true)
  | 10 => ("PressbrakeLane", "planner", "LPressbrakeLane$Planner;", true)
  | _ => ("PressbrakeLane", "nester", "LPressbrakeLane$Nester;", true)
def tyX8 : Nat → FieldType := fun k => match k with
  | 0 => .object "PressbrakeLane$Drawing"
  | 1 => .array (.object "PressbrakeLane$Part")
  | 2 => .int
  | 3 => .array (.object "PressbrakeLane$Tool")
  | 4 => .int
  | 5 => .array .int
  | 6 => .int
  | 7 => .array (.object "PressbrakeLane$Batch")
  | 8 => .int
  | 9 => .object "PressbrakeLane$Brake"
  | 10 => .object "PressbrakeLane$Planner"
  | _ => .object "PressbrakeLane$Nester"
abbrev wsX80 : List Cond := u_ws RX8 TX8 12
theorem nmX8 : ∀ a, a < 12 → ∀ b, b < 12 → a ≠ b → (TX8 a).2.1 ≠ (TX8 b).2.1 := by decide +kernel
theorem tyX8_ok : ∀ k, k < 12 → parseFieldDescriptor (TX8 k).2.2.1 = some (tyX8 k) := by decide +kernel
abbrev cX8_init : ByteArray := prog_1_method_1_code
def yX8_init : MethodName := ⟨RX8, "<init>", "()V"⟩
abbrev cX8_face : ByteArray := prog_1_method_2_code
def yX8_face : MethodName := ⟨RX8, "face", "(II)I"⟩
abbrev cX8_wipe : ByteArray := prog_1_method_3_code
def yX8_wipe : MethodName := ⟨RX8, "wipe", "()I"⟩
abbrev cX8_part : ByteArray := prog_1_method_4_code
def yX8_part : MethodName := ⟨RX8, "part", "(II)I"⟩
abbrev cX8_redraw : ByteArray := prog_1_method_5_code
def yX8_redraw : MethodName := ⟨RX8, "redraw", "(III)I"⟩
abbrev cX8_hole : ByteArray := prog_1_method_6_code
def yX8_hole : MethodName := ⟨RX8, "hole", "(IIII)I"⟩
abbrev cX8_isNear : ByteArray := prog_1_method_7_code
def yX8_isNear : MethodName := ⟨RX8, "isNear", "(II)Z"⟩
abbrev cX8_told : ByteArray := prog_1_method_8_code
def yX8_told : MethodName := ⟨RX8, "told", "(II)I"⟩
abbrev cX8_tool : ByteArray := prog_1_method_9_code
def yX8_tool : MethodName := ⟨RX8, "tool", "(IIIII)I"⟩
abbrev cX8_trial : ByteArray := prog_1_method_10_code
def yX8_trial : MethodName := ⟨RX8, "trial", "(III)I"⟩
abbrev cX8_blank : ByteArray := prog_1_method_11_code
def yX8_blank : MethodName := ⟨RX8, "blank", "(II)I"⟩
abbrev cX8_why : ByteArray := prog_1_method_12_code
def yX8_why : MethodName := ⟨RX8, "why", "(IIII)I"⟩
abbrev cX8_point : ByteArray := prog_1_method_13_code
def yX8_point : MethodName := ⟨RX8, "point", "(IIIZIZ)I"⟩
abbrev cX8_flips : ByteArray := prog_1_method_14_code
def yX8_flips : MethodName := ⟨RX8, "flips", "(II)I"⟩
abbrev cX8_flipsAnew : ByteArray := prog_1_method_15_code
def yX8_flipsAnew : MethodName := ⟨RX8, "flipsAnew", "(II)I"⟩
abbrev cX8_ordered : ByteArray := prog_1_method_16_code
def yX8_ordered : MethodName := ⟨RX8, "ordered", "(III)I"⟩
abbrev cX8_want : ByteArray := prog_1_method_17_code
def yX8_want : MethodName := ⟨RX8, "want", "(II)I"⟩
abbrev cX8_clear : ByteArray := prog_1_method_18_code
def yX8_clear : MethodName := ⟨RX8, "clear", "()I"⟩
abbrev cX8_nest : ByteArray := prog_1_method_19_code
def yX8_nest : MethodName := ⟨RX8, "nest", "(IIII)J"⟩
abbrev cX8_batch : ByteArray := prog_1_method_20_code
def yX8_batch : MethodName := ⟨RX8, "batch", "(III)I"⟩
abbrev cX8_work : ByteArray := prog_1_method_21_code
def yX8_work : MethodName := ⟨RX8, "work", "(I)I"⟩
abbrev cX8_batchOf : ByteArray := prog_1_method_22_code
def yX8_batchOf : MethodName := ⟨RX8, "batchOf", "(II)I"⟩
abbrev cX8_kits : ByteArray := prog_1_method_23_code
def yX8_kits : MethodName := ⟨RX8, "kits", "(I)I"⟩
abbrev cX8_take : ByteArray := prog_1_method_24_code
def yX8_take : MethodName := ⟨RX8, "take", "(II)I"⟩
abbrev cX8_isOut : ByteArray := prog_1_method_25_code
def yX8_isOut : MethodName := ⟨RX8, "isOut", "(III)Z"⟩
abbrev cX8_hasBit : ByteArray := prog_1_method_26_code
def yX8_hasBit : MethodName := ⟨RX8, "hasBit", "(II)Z"⟩
abbrev cX8_partAt : ByteArray := prog_1_method_27_code
def yX8_partAt : MethodName := ⟨RX8, "partAt", "(I)LPressbrakeLane$Part;"⟩
abbrev cX8_toolAt : ByteArray := prog_1_method_28_code
def yX8_toolAt : MethodName := ⟨RX8, "toolAt", "(I)LPressbrakeLane$Tool;"⟩
abbrev cX8_batchAt : ByteArray := prog_1_method_29_code
def yX8_batchAt : MethodName := ⟨RX8, "batchAt", "(I)LPressbrakeLane$Batch;"⟩
abbrev cX8_checkSheet : ByteArray := prog_1_method_30_code
def yX8_checkSheet : MethodName := ⟨RX8, "checkSheet", "(II)V"⟩
abbrev cX8_checkPad : ByteArray := prog_1_method_31_code
def yX8_checkPad : MethodName := ⟨RX8, "checkPad", "()V"⟩
abbrev cX8_checkBend : ByteArray := prog_1_method_32_code
def yX8_checkBend : MethodName := ⟨RX8, "checkBend", "(LPressbrakeLane$Drawing;I)V"⟩
abbrev cX8_checkDone : ByteArray := prog_1_method_33_code
def yX8_checkDone : MethodName := ⟨RX8, "checkDone", "(LPressbrakeLane$Drawing;II)V"⟩
abbrev cX8_checkKit : ByteArray := prog_1_method_34_code
def yX8_checkKit : MethodName := ⟨RX8, "checkKit", "(I)V"⟩
abbrev cX8_hasBatch : ByteArray := prog_1_method_35_code
def yX8_hasBatch : MethodName := ⟨RX8, "hasBatch", "(I)Z"⟩
abbrev cX8_hasOrder : ByteArray := prog_1_method_36_code
def yX8_hasOrder : MethodName := ⟨RX8, "hasOrder", "(LPressbrakeLane$Batch;)Z"⟩
abbrev cX8_changeBatches : ByteArray := prog_1_method_37_code
def yX8_changeBatches : MethodName := ⟨RX8, "changeBatches", "(IZZ)I"⟩
abbrev cX8_kitsOf : ByteArray := prog_1_method_38_code
def yX8_kitsOf : MethodName := ⟨RX8, "kitsOf", "(I)I"⟩
abbrev cX8_coatedPieces : ByteArray := prog_1_method_39_code
def yX8_coatedPieces : MethodName := ⟨RX8, "coatedPieces", "(I)I"⟩
abbrev cX8_takePieces : ByteArray := prog_1_method_40_code
def yX8_takePieces : MethodName := ⟨RX8, "takePieces", "(II)I"⟩
def RX9 : String := "PressbrakeLaneModel"
def TX9 : u_T := fun k => match k with
  | 0 => ("PressbrakeLaneModel", "thrown", "I", false)
  | 1 => ("PressbrakeLaneModel", "padded", "I", false)
  | 2 => ("PressbrakeLaneModel", "padLength", "[I", true)
  | 3 => ("PressbrakeLaneModel", "padBend", "[I", true)
  | 4 => ("PressbrakeLaneModel", "parts", "I", false)
  | 5 => ("PressbrakeLaneModel", "faces", "[I", true)
  | 6 => ("PressbrakeLaneModel", "length", "[I", true)
  | 7 => ("PressbrakeLaneModel", "bend", "[I", true)
  | 8 => ("PressbrakeLaneModel", "width", "[I", true)
  | 9 => ("PressbrakeLaneModel", "thickness", "[I", true)
  | 10 => ("PressbrakeLaneModel", "revision", "[I", true)
  | 11 => ("PressbrakeLaneModel", "holes", "[I", true)
  | 12 => ("PressbrakeLaneModel", "holeFace", "[I", true)
  | 13 => ("PressbrakeLaneModel", "holeAt", "[I", true)
  | 14 => ("PressbrakeLaneModel", "diameter", "[I", true)
  | 15 => ("PressbrakeLaneModel", "tools", "I", false)
  | 16 => ("PressbrakeLaneModel", "opening", "[I", true)
  | 17 => ("PressbrakeLaneModel", "punch", "[I", true)
  | 18 => ("PressbrakeLaneModel", "die", "[I", true)
  | 19 => ("PressbrakeLaneModel", "table", "[I", true)
  | 20 => ("PressbrakeLaneModel", "gauge", "[I", true)
  | 21 => ("PressbrakeLaneModel", "deduction", "[I", true)
  | 22 => ("PressbrakeLaneModel", "lot", "[I", true)
  | 23 => ("PressbrakeLaneModel", "batches", "I", false)
  | 24 => ("PressbrakeLaneModel", "partOf", "[I", true)
  | 25 => ("PressbrakeLaneModel", "toolOf", "[I", true)
  | 26 => ("PressbrakeLaneModel", "pieces", "[I", true)
  | 27 => ("PressbrakeLaneModel", "state", "[I", true)
  | 28 => ("PressbrakeLaneModel", "revisionOf", "[I", true)
  | 29 => ("PressbrakeLaneModel", "blankOf", "[I", true)
  | 30 => ("PressbrakeLaneModel", "u", "I", false)
  | 31 => ("PressbrakeLaneModel", "v", "I", false)
  | 32 => ("PressbrakeLaneModel", "du", "I", false)
  | 33 => ("PressbrakeLaneModel", "dv", "I", false)
  | 34 => ("PressbrakeLaneModel", "run", "I", false)
  | 35 => ("PressbrakeLaneModel", "isStraight", "Z", false)
  | 36 => ("PressbrakeLaneModel", "fewest", "[I", true)
  | 37 => ("PressbrakeLaneModel", "laid", "[I", true)
  | 38 => ("PressbrakeLaneModel", "sheets", "I", false)
  | 39 => ("PressbrakeLaneModel", "sheetLeft", "[I", true)
  | 40 => ("PressbrakeLaneModel", "rows", "I", false)
  | 41 => ("PressbrakeLaneModel", "rowSheet", "[I", true)
  | 42 => ("PressbrakeLaneModel", "rowHigh", "[I", true)
  | 43 => ("PressbrakeLaneModel", "rowLeft", "[I", true)
  | _ => ("PressbrakeLaneModel", "rowLast", "[I", true)
def tyX9 : Nat → FieldType := fun k => match k with
  | 0 => .int
  | 1 => .int
  | 2 => .array .int
  | 3 => .array .int
  | 4 => .int
  | 5 => .array .int
  | 6 => .array .int
  | 7 => .array .int
  | 8 => .array .int
  | 9 => .array .int
  | 10 => .array .int
  | 11 => .array .int
  | 12 => .array .int
  | 13 => .array .int
  | 14 => .array .int
  | 15 => .int
  | 16 => .array .int
  | 17 => .array .int
  | 18 => .array .int
  | 19 => .array .int
  | 20 => .array .int
  | 21 => .array .int
  | 22 => .array .int
  | 23 => .int
  | 24 => .array .int
  | 25 => .array .int
  | 26 => .array .int
  | 27 => .array .int
  | 28 => .array .int
  | 29 => .array .int
  | 30 => .int
  | 31 => .int
  | 32 => .int
  | 33 => .int
  | 34 => .int
  | 35 => .boolean
  | 36 => .array .int
  | 37 => .array .int
  | 38 => .int
  | 39 => .array .int
  | 40 => .int
  | 41 => .array .int
  | 42 => .array .int
  | 43 => .array .int
  | _ => .array .int
abbrev wsX90 : List Cond := u_ws RX9 TX9 45
theorem nmX9 : ∀ a, a < 45 → ∀ b, b < 45 → a ≠ b → (TX9 a).2.1 ≠ (TX9 b).2.1 := by decide +kernel
theorem tyX9_ok : ∀ k, k < 45 → parseFieldDescriptor (TX9 k).2.2.1 = some (tyX9 k) := by decide +kernel
abbrev cX9_init : ByteArray := prog_11_method_1_code
def yX9_init : MethodName := ⟨RX9, "<init>", "()V"⟩
abbrev cX9_thrown : ByteArray := prog_11_method_2_code
def yX9_thrown : MethodName := ⟨RX9, "thrown", "()I"⟩
abbrev cX9_goesWell : ByteArray := prog_11_method_3_code
def yX9_goesWell : MethodName := ⟨RX9, "goesWell", "(I)Z"⟩
abbrev cX9_in : ByteArray := prog_11_method_4_code
def yX9_in : MethodName := ⟨RX9, "in", "(III)Z"⟩
abbrev cX9_isPart : ByteArray := prog_11_method_5_code
def yX9_isPart : MethodName := ⟨RX9, "isPart", "(I)Z"⟩
abbrev cX9_isTool : ByteArray := prog_11_method_6_code
def yX9_isTool : MethodName := ⟨RX9, "isTool", "(I)Z"⟩
abbrev cX9_isBatch : ByteArray := prog_11_method_7_code
def yX9_isBatch : MethodName := ⟨RX9, "isBatch", "(I)Z"⟩
abbrev cX9_face : ByteArray := prog_11_method_8_code
def yX9_face : MethodName := ⟨RX9, "face", "(II)I"⟩
abbrev cX9_wipe : ByteArray := prog_11_method_9_code
def yX9_wipe : MethodName := ⟨RX9, "wipe", "()I"⟩
abbrev cX9_isSheet : ByteArray := prog_11_method_10_code
def yX9_isSheet : MethodName := ⟨RX9, "isSheet", "(II)Z"⟩
abbrev cX9_draw : ByteArray := prog_11_method_11_code
def yX9_draw : MethodName := ⟨RX9, "draw", "(III)V"⟩
abbrev cX9_part : ByteArray := prog_11_method_12_code
def yX9_part : MethodName := ⟨RX9, "part", "(II)I"⟩
abbrev cX9_isSame : ByteArray := prog_11_method_13_code
def yX9_isSame : MethodName := ⟨RX9, "isSame", "(III)Z"⟩
abbrev cX9_redraw : ByteArray := prog_11_method_14_code
def yX9_redraw : MethodName := ⟨RX9, "redraw", "(III)I"⟩
abbrev cX9_hole : ByteArray := prog_11_method_15_code
def yX9_hole : MethodName := ⟨RX9, "hole", "(IIII)I"⟩
abbrev cX9_isClose : ByteArray := prog_11_method_16_code
def yX9_isClose : MethodName := ⟨RX9, "isClose", "(II)Z"⟩
abbrev cX9_isNear : ByteArray := prog_11_method_17_code
def yX9_isNear : MethodName := ⟨RX9, "isNear", "(II)Z"⟩
abbrev cX9_told : ByteArray := prog_11_method_18_code
def yX9_told : MethodName := ⟨RX9, "told", "(II)I"⟩
abbrev cX9_tool : ByteArray := prog_11_method_19_code
def yX9_tool : MethodName := ⟨RX9, "tool", "(IIIII)I"⟩
abbrev cX9_trial : ByteArray := prog_11_method_20_code
def yX9_trial : MethodName := ⟨RX9, "trial", "(III)I"⟩
abbrev cX9_blankBy : ByteArray := prog_11_method_21_code
def yX9_blankBy : MethodName := ⟨RX9, "blankBy", "(II)I"⟩
abbrev cX9_blank : ByteArray := prog_11_method_22_code
def yX9_blank : MethodName := ⟨RX9, "blank", "(II)I"⟩
abbrev cX9_start : ByteArray := prog_11_method_23_code
def yX9_start : MethodName := ⟨RX9, "start", "()V"⟩
abbrev cX9_go : ByteArray := prog_11_method_24_code
def yX9_go : MethodName := ⟨RX9, "go", "(IIIII)V"⟩
abbrev cX9_wing : ByteArray := prog_11_method_25_code
def yX9_wing : MethodName := ⟨RX9, "wing", "(III)I"⟩
abbrev cX9_reason : ByteArray := prog_11_method_26_code
def yX9_reason : MethodName := ⟨RX9, "reason", "(IIII)I"⟩
abbrev cX9_isDone : ByteArray := prog_11_method_27_code
def yX9_isDone : MethodName := ⟨RX9, "isDone", "(III)Z"⟩
abbrev cX9_why : ByteArray := prog_11_method_28_code
def yX9_why : MethodName := ⟨RX9, "why", "(IIII)I"⟩
abbrev cX9_point : ByteArray := prog_11_method_29_code
def yX9_point : MethodName := ⟨RX9, "point", "(IIIZIZ)I"⟩
abbrev cX9_findOrders : ByteArray := prog_11_method_30_code
def yX9_findOrders : MethodName := ⟨RX9, "findOrders", "(II)V"⟩
abbrev cX9_turn : ByteArray := prog_11_method_31_code
def yX9_turn : MethodName := ⟨RX9, "turn", "(III)I"⟩
abbrev cX9_turns : ByteArray := prog_11_method_32_code
def yX9_turns : MethodName := ⟨RX9, "turns", "(II)I"⟩
abbrev cX9_flips : ByteArray := prog_11_method_33_code
def yX9_flips : MethodName := ⟨RX9, "flips", "(II)I"⟩
abbrev cX9_flipsAnew : ByteArray := prog_11_method_34_code
def yX9_flipsAnew : MethodName := ⟨RX9, "flipsAnew", "(II)I"⟩
abbrev cX9_ordered : ByteArray := prog_11_method_35_code
def yX9_ordered : MethodName := ⟨RX9, "ordered", "(III)I"⟩
abbrev cX9_wanted : ByteArray := prog_11_method_36_code
def yX9_wanted : MethodName := ⟨RX9, "wanted", "()I"⟩
abbrev cX9_want : ByteArray := prog_11_method_37_code
def yX9_want : MethodName := ⟨RX9, "want", "(II)I"⟩
abbrev cX9_clear : ByteArray := prog_11_method_38_code
def yX9_clear : MethodName := ⟨RX9, "clear", "()I"⟩
abbrev cX9_longer : ByteArray := prog_11_method_39_code
def yX9_longer : MethodName := ⟨RX9, "longer", "(II)I"⟩
abbrev cX9_shorter : ByteArray := prog_11_method_40_code
def yX9_shorter : MethodName := ⟨RX9, "shorter", "(II)I"⟩
abbrev cX9_nextPiece : ByteArray := prog_11_method_41_code
def yX9_nextPiece : MethodName := ⟨RX9, "nextPiece", "(I)I"⟩
abbrev cX9_rowFor : ByteArray := prog_11_method_42_code
def yX9_rowFor : MethodName := ⟨RX9, "rowFor", "(IIII)I"⟩
abbrev cX9_nest : ByteArray := prog_11_method_43_code
def yX9_nest : MethodName := ⟨RX9, "nest", "(IIII)J"⟩
abbrev cX9_batch : ByteArray := prog_11_method_44_code
def yX9_batch : MethodName := ⟨RX9, "batch", "(III)I"⟩
abbrev cX9_work : ByteArray := prog_11_method_45_code
def yX9_work : MethodName := ⟨RX9, "work", "(I)I"⟩
abbrev cX9_batchOf : ByteArray := prog_11_method_46_code
def yX9_batchOf : MethodName := ⟨RX9, "batchOf", "(II)I"⟩
abbrev cX9_kitsOf : ByteArray := prog_11_method_47_code
def yX9_kitsOf : MethodName := ⟨RX9, "kitsOf", "(I)I"⟩
abbrev cX9_isKit : ByteArray := prog_11_method_48_code
def yX9_isKit : MethodName := ⟨RX9, "isKit", "(I)Z"⟩
abbrev cX9_kits : ByteArray := prog_11_method_49_code
def yX9_kits : MethodName := ⟨RX9, "kits", "(I)I"⟩
abbrev cX9_take : ByteArray := prog_11_method_50_code
def yX9_take : MethodName := ⟨RX9, "take", "(II)I"⟩
def RJ9 : String := "java/lang/Math"
def TJ9 : u_T := fun k => match k with
  | _ => ("", "", "", false)
def tyJ9 : Nat → FieldType := fun k => match k with
  | _ => .int
abbrev wsJ90 : List Cond := u_ws RJ9 TJ9 0
theorem nmJ9 : ∀ a, a < 0 → ∀ b, b < 0 → a ≠ b → (TJ9 a).2.1 ≠ (TJ9 b).2.1 := by decide +kernel
theorem tyJ9_ok : ∀ k, k < 0 → parseFieldDescriptor (TJ9 k).2.2.1 = some (tyJ9 k) := by decide +kernel
abbrev cJ9_max_7cf53 : ByteArray := prog_16_method_65_code
def yJ9_max_7cf53 : MethodName := ⟨RJ9, "max", "(II)I"⟩
abbrev cJ9_min_7cf53 : ByteArray := prog_16_method_69_code
def yJ9_min_7cf53 : MethodName := ⟨RJ9, "min", "(II)I"⟩
def RJ0 : String := "java/lang/String"
def TJ0 : u_T := fun k => match k with
  | _ => ("", "", "", false)
def tyJ0 : Nat → FieldType := fun k => match k with
  | _ => .int
abbrev wsJ00 : List Cond := u_ws RJ0 TJ0 0
theorem nmJ0 : ∀ a, a < 0 → ∀ b, b < 0 → a ≠ b → (TJ0 a).2.1 ≠ (TJ0 b).2.1 := by decide +kernel
theorem tyJ0_ok : ∀ k, k < 0 → parseFieldDescriptor (TJ0 k).2.2.1 = some (tyJ0 k) := by decide +kernel
def RL : String := "PressbrakeLaneLaw"
abbrev cL_face : ByteArray := method_3_code
def yL_face : MethodName := ⟨RL, "face", "(LPressbrakeLane;II[J)I"⟩
abbrev cL_part : ByteArray := method_4_code
def yL_part : MethodName := ⟨RL, "part", "(LPressbrakeLane;II[J)I"⟩
abbrev cL_redraw : ByteArray := method_5_code
def yL_redraw : MethodName := ⟨RL, "redraw", "(LPressbrakeLane;III[J)I"⟩
abbrev cL_hole : ByteArray := method_6_code
def yL_hole : MethodName := ⟨RL, "hole", "(LPressbrakeLane;IIII[J)I"⟩
abbrev cL_isNear : ByteArray := method_7_code
def yL_isNear : MethodName := ⟨RL, "isNear", "(LPressbrakeLane;II[J)I"⟩
abbrev cL_told : ByteArray := method_8_code
def yL_told : MethodName := ⟨RL, "told", "(LPressbrakeLane;II[J)I"⟩
abbrev cL_tool : ByteArray := method_9_code
def yL_tool : MethodName := ⟨RL, "tool", "(LPressbrakeLane;IIIII[J)I"⟩
abbrev cL_trial : ByteArray := method_10_code
def yL_trial : MethodName := ⟨RL, "trial", "(LPressbrakeLane;III[J)I"⟩
abbrev cL_blank : ByteArray := method_11_code
def yL_blank : MethodName := ⟨RL, "blank", "(LPressbrakeLane;II[J)I"⟩
abbrev cL_why : ByteArray := method_12_code
def yL_why : MethodName := ⟨RL, "why", "(LPressbrakeLane;IIII[J)I"⟩
abbrev cL_point : ByteArray := method_13_code
def yL_point : MethodName := ⟨RL, "point", "(LPressbrakeLane;IIIZIZ[J)I"⟩
abbrev cL_flips : ByteArray := method_14_code
def yL_flips : MethodName := ⟨RL, "flips", "(LPressbrakeLane;II[J)I"⟩
abbrev cL_flipsAnew : ByteArray := method_15_code
def yL_flipsAnew : MethodName := ⟨RL, "flipsAnew", "(LPressbrakeLane;II[J)I"⟩
abbrev cL_ordered : ByteArray := method_16_code
def yL_ordered : MethodName := ⟨RL, "ordered", "(LPressbrakeLane;III[J)I"⟩
abbrev cL_want : ByteArray := method_17_code
def yL_want : MethodName := ⟨RL, "want", "(LPressbrakeLane;II[J)I"⟩
abbrev cL_nest : ByteArray := method_18_code
def yL_nest : MethodName := ⟨RL, "nest", "(LPressbrakeLane;IIII[J)I"⟩
abbrev cL_batch : ByteArray := method_19_code
def yL_batch : MethodName := ⟨RL, "batch", "(LPressbrakeLane;III[J)I"⟩
abbrev cL_work : ByteArray := method_20_code
def yL_work : MethodName := ⟨RL, "work", "(LPressbrakeLane;I[J)I"⟩
abbrev cL_batchOf : ByteArray := method_21_code
def yL_batchOf : MethodName := ⟨RL, "batchOf", "(LPressbrakeLane;II[J)I"⟩
abbrev cL_kits : ByteArray := method_22_code
def yL_kits : MethodName := ⟨RL, "kits", "(LPressbrakeLane;I[J)I"⟩
abbrev cL_take : ByteArray := method_23_code
def yL_take : MethodName := ⟨RL, "take", "(LPressbrakeLane;II[J)I"⟩
abbrev cL_law : ByteArray := code
def yL_law : MethodName := ⟨RL, "law", "([I)Z"⟩
def wsJ9_max_7cf53 : List Cond := .code yJ9_max_7cf53 cJ9_max_7cf53 2 (some .int) :: ([])
def wsJ9_min_7cf53 : List Cond := .code yJ9_min_7cf53 cJ9_min_7cf53 2 (some .int) :: ([])
def wsL_law0_r1 : List Cond := [Cond.classLink RL 8 RX8, Cond.instantiable RX8 12, Cond.initialized RX8, Cond.classLink RL 87 RX9, Cond.instantiable RX9 45, Cond.initialized RX9, Cond.arrayClass .long, Cond.methodLink RL 86 yX8_init, Cond.instanceMethod yX8_init, Cond.code yX8_init cX8_init 2 none, Cond.methodLink RX8 3 objectInit, Cond.instanceMethod objectInit, Cond.code objectInit ⟨#[0xb1]⟩ 1 none, Cond.classLink RX8 9 RX2, Cond.instantiable RX2 3, Cond.initialized RX2, Cond.fieldLink RX8 12 "PressbrakeLane" "pad" "LPressbrakeLane$Drawing;", Cond.classLink RX8 16 RX4, Cond.fieldLink RX8 18 "PressbrakeLane" "parts" "[LPressbrakeLane$Part;", Cond.classLink RX8 22 RX6, Cond.fieldLink RX8 24 "PressbrakeLane" "tools" "[LPressbrakeLane$Tool;", Cond.arrayClass .int, Cond.fieldLink RX8 28 "PressbrakeLane" "lot" "[I", Cond.classLink RX8 32 RX0]
def wsL_law0_r2 : List Cond := [Cond.fieldLink RX8 34 "PressbrakeLane" "batches" "[LPressbrakeLane$Batch;", Cond.classLink RX8 38 RX1, Cond.instantiable RX1 2, Cond.initialized RX1, Cond.fieldLink RX8 41 "PressbrakeLane" "brake" "LPressbrakeLane$Brake;", Cond.classLink RX8 45 RX5, Cond.instantiable RX5 7, Cond.initialized RX5, Cond.fieldLink RX8 48 "PressbrakeLane" "planner" "LPressbrakeLane$Planner;", Cond.classLink RX8 52 RX3, Cond.instantiable RX3 15, Cond.initialized RX3, Cond.fieldLink RX8 55 "PressbrakeLane" "nester" "LPressbrakeLane$Nester;", Cond.instantiable RX4 8, Cond.initialized RX4, Cond.instantiable RX6 6, Cond.initialized RX6, Cond.instantiable RX0 6, Cond.initialized RX0, Cond.instanceMethod yX2_init, Cond.code yX2_init cX2_init 1 none, Cond.methodLink RX2 3 objectInit, Cond.fieldLink RX2 9 "PressbrakeLane$Drawing" "lengths" "[I", Cond.fieldLink RX2 15 "PressbrakeLane$Drawing" "directions" "[I"]
def wsL_law0_r3 : List Cond := [Cond.instanceMethod yX1_init, Cond.code yX1_init cX1_init 1 none, Cond.methodLink RX1 3 objectInit, Cond.classLink RX1 9 RX7, Cond.instantiable RX7 4, Cond.initialized RX7, Cond.fieldLink RX1 12 "PressbrakeLane$Brake" "right" "LPressbrakeLane$Wing;", Cond.fieldLink RX1 18 "PressbrakeLane$Brake" "left" "LPressbrakeLane$Wing;", Cond.instanceMethod yX7_init, Cond.code yX7_init cX7_init 1 none, Cond.methodLink RX7 3 objectInit, Cond.fieldLink RX7 9 "PressbrakeLane$Wing" "us" "[I", Cond.fieldLink RX7 15 "PressbrakeLane$Wing" "vs" "[I", Cond.instanceMethod yX5_init, Cond.code yX5_init cX5_init 1 none, Cond.methodLink RX5 3 objectInit, Cond.fieldLink RX5 9 "PressbrakeLane$Planner" "possible" "[I", Cond.fieldLink RX5 15 "PressbrakeLane$Planner" "fewest" "[I", Cond.fieldLink RX5 18 "PressbrakeLane$Planner" "directions" "[I", Cond.fieldLink RX5 21 "PressbrakeLane$Planner" "places" "[I", Cond.instanceMethod yX3_init, Cond.code yX3_init cX3_init 1 none, Cond.methodLink RX3 3 objectInit, Cond.fieldLink RX3 9 "PressbrakeLane$Nester" "longSides" "[I"]
def wsL_law0_r4 : List Cond := [Cond.fieldLink RX3 15 "PressbrakeLane$Nester" "shortSides" "[I", Cond.fieldLink RX3 18 "PressbrakeLane$Nester" "amounts" "[I", Cond.fieldLink RX3 21 "PressbrakeLane$Nester" "rowSheets" "[I", Cond.fieldLink RX3 24 "PressbrakeLane$Nester" "rowHeights" "[I", Cond.fieldLink RX3 27 "PressbrakeLane$Nester" "rowLefts" "[I", Cond.fieldLink RX3 30 "PressbrakeLane$Nester" "rowEnds" "[I", Cond.fieldLink RX3 33 "PressbrakeLane$Nester" "sheetLefts" "[I", Cond.instanceMethod yX4_init, Cond.code yX4_init cX4_init 1 none, Cond.methodLink RX4 3 objectInit, Cond.classLink RX4 9 RX2, Cond.fieldLink RX4 12 "PressbrakeLane$Part" "drawing" "LPressbrakeLane$Drawing;", Cond.fieldLink RX4 18 "PressbrakeLane$Part" "holeFaces" "[I", Cond.fieldLink RX4 22 "PressbrakeLane$Part" "holeAts" "[I", Cond.fieldLink RX4 25 "PressbrakeLane$Part" "holeDiameters" "[I", Cond.methodLink RX8 60 yX6_init, Cond.instanceMethod yX6_init, Cond.code yX6_init cX6_init 2 none, Cond.methodLink RX6 3 objectInit, Cond.fieldLink RX6 9 "PressbrakeLane$Tool" "deductions" "[I", Cond.instanceMethod yX0_init, Cond.code yX0_init cX0_init 1 none, Cond.methodLink RX0 1 objectInit, Cond.methodLink RL 89 yX9_init]
def wsL_law0_r5 : List Cond := [Cond.instanceMethod yX9_init, Cond.code yX9_init cX9_init 1 none, Cond.methodLink RX9 1 objectInit, Cond.fieldLink RX9 7 "PressbrakeLaneModel" "padLength" "[I", Cond.fieldLink RX9 13 "PressbrakeLaneModel" "padBend" "[I", Cond.fieldLink RX9 16 "PressbrakeLaneModel" "faces" "[I", Cond.fieldLink RX9 19 "PressbrakeLaneModel" "length" "[I", Cond.fieldLink RX9 22 "PressbrakeLaneModel" "bend" "[I", Cond.fieldLink RX9 25 "PressbrakeLaneModel" "width" "[I", Cond.fieldLink RX9 28 "PressbrakeLaneModel" "thickness" "[I", Cond.fieldLink RX9 31 "PressbrakeLaneModel" "revision" "[I", Cond.fieldLink RX9 34 "PressbrakeLaneModel" "holes" "[I", Cond.fieldLink RX9 37 "PressbrakeLaneModel" "holeFace" "[I", Cond.fieldLink RX9 40 "PressbrakeLaneModel" "holeAt" "[I", Cond.fieldLink RX9 43 "PressbrakeLaneModel" "diameter" "[I", Cond.fieldLink RX9 46 "PressbrakeLaneModel" "opening" "[I", Cond.fieldLink RX9 49 "PressbrakeLaneModel" "punch" "[I", Cond.fieldLink RX9 52 "PressbrakeLaneModel" "die" "[I", Cond.fieldLink RX9 55 "PressbrakeLaneModel" "table" "[I", Cond.fieldLink RX9 58 "PressbrakeLaneModel" "gauge" "[I", Cond.fieldLink RX9 61 "PressbrakeLaneModel" "deduction" "[I", Cond.fieldLink RX9 64 "PressbrakeLaneModel" "lot" "[I", Cond.fieldLink RX9 67 "PressbrakeLaneModel" "partOf" "[I", Cond.fieldLink RX9 70 "PressbrakeLaneModel" "toolOf" "[I"]
def wsL_law0_r6 : List Cond := [Cond.fieldLink RX9 73 "PressbrakeLaneModel" "pieces" "[I", Cond.fieldLink RX9 76 "PressbrakeLaneModel" "state" "[I", Cond.fieldLink RX9 79 "PressbrakeLaneModel" "revisionOf" "[I", Cond.fieldLink RX9 82 "PressbrakeLaneModel" "blankOf" "[I", Cond.fieldLink RX9 85 "PressbrakeLaneModel" "fewest" "[I", Cond.fieldLink RX9 88 "PressbrakeLaneModel" "laid" "[I", Cond.fieldLink RX9 91 "PressbrakeLaneModel" "sheetLeft" "[I", Cond.fieldLink RX9 94 "PressbrakeLaneModel" "rowSheet" "[I", Cond.fieldLink RX9 97 "PressbrakeLaneModel" "rowHigh" "[I", Cond.fieldLink RX9 100 "PressbrakeLaneModel" "rowLeft" "[I", Cond.fieldLink RX9 103 "PressbrakeLaneModel" "rowLast" "[I", Cond.methodLink RL 90 yL_face, Cond.static yL_face, Cond.initialized RL, Cond.codeWith yL_face cL_face 5 (some .int) [(0, 10, 13, 13), (0, 10, 17, 15)], Cond.classLink RL 13 "java/lang/IllegalArgumentException", Cond.classLink RL 15 "java/lang/IllegalStateException", Cond.methodLink RL 7 yX8_face, Cond.instanceMethod yX8_face, Cond.selects RX8 yX8_face yX8_face, Cond.code yX8_face cX8_face 3 (some .int), Cond.classLink RX8 66 "java/lang/IllegalArgumentException", Cond.initialized "java/lang/IllegalArgumentException", Cond.classLink RX8 77 "java/lang/IllegalStateException"]
def wsL_law0_r7 : List Cond := [Cond.initialized "java/lang/IllegalStateException", Cond.fieldLink RX8 73 "PressbrakeLane$Drawing" "faces" "I", Cond.fieldLink RX8 82 "PressbrakeLane$Drawing" "lengths" "[I", Cond.fieldLink RX8 85 "PressbrakeLane$Drawing" "directions" "[I", Cond.methodLink RX8 62 yX8_isOut, Cond.static yX8_isOut, Cond.code yX8_isOut cX8_isOut 3 (some .boolean), Cond.methodLink RL 95 yX9_face, Cond.instanceMethod yX9_face, Cond.selects RX9 yX9_face yX9_face, Cond.code yX9_face cX9_face 4 (some .int), Cond.fieldLink RX9 123 "PressbrakeLaneModel" "padded" "I", Cond.methodLink RX9 113 yX9_in, Cond.static yX9_in, Cond.code yX9_in cX9_in 3 (some .boolean), Cond.methodLink RX9 126 yX9_goesWell, Cond.instanceMethod yX9_goesWell, Cond.selects RX9 yX9_goesWell yX9_goesWell, Cond.code yX9_goesWell cX9_goesWell 2 (some .boolean), Cond.fieldLink RX9 106 "PressbrakeLaneModel" "thrown" "I", Cond.methodLink RL 96 yX9_thrown, Cond.instanceMethod yX9_thrown, Cond.selects RX9 yX9_thrown yX9_thrown, Cond.code yX9_thrown cX9_thrown 1 (some .int)]
def wsL_law0_r8 : List Cond := [Cond.methodLink RL 100 yX8_wipe, Cond.instanceMethod yX8_wipe, Cond.selects RX8 yX8_wipe yX8_wipe, Cond.code yX8_wipe cX8_wipe 2 (some .int), Cond.methodLink RL 103 yX9_wipe, Cond.instanceMethod yX9_wipe, Cond.selects RX9 yX9_wipe yX9_wipe, Cond.code yX9_wipe cX9_wipe 2 (some .int), Cond.methodLink RL 104 yL_part, Cond.static yL_part, Cond.codeWith yL_part cL_part 5 (some .int) [(0, 10, 13, 13), (0, 10, 17, 15)], Cond.methodLink RL 17 yX8_part, Cond.instanceMethod yX8_part, Cond.selects RX8 yX8_part yX8_part, Cond.code yX8_part cX8_part 3 (some .int), Cond.fieldLink RX8 95 "PressbrakeLane" "partCount" "I", Cond.methodLink RX8 88 yX8_checkSheet, Cond.static yX8_checkSheet, Cond.code yX8_checkSheet cX8_checkSheet 2 none, Cond.methodLink RX8 92 yX8_checkPad, Cond.instanceMethod yX8_checkPad, Cond.selects RX8 yX8_checkPad yX8_checkPad, Cond.code yX8_checkPad cX8_checkPad 1 none, Cond.methodLink RX8 100 yX4_draw]
def wsL_law0_r9 : List Cond := [Cond.instanceMethod yX4_draw, Cond.selects RX4 yX4_draw yX4_draw, Cond.code yX4_draw cX4_draw 4 none, Cond.fieldLink RX4 32 "PressbrakeLane$Part" "width" "I", Cond.fieldLink RX4 36 "PressbrakeLane$Part" "thickness" "I", Cond.fieldLink RX4 39 "PressbrakeLane$Part" "holes" "I", Cond.methodLink RX4 28 yX2_copy, Cond.instanceMethod yX2_copy, Cond.selects RX2 yX2_copy yX2_copy, Cond.code yX2_copy cX2_copy 3 none, Cond.fieldLink RX2 18 "PressbrakeLane$Drawing" "faces" "I", Cond.methodLink RL 106 yX9_part, Cond.instanceMethod yX9_part, Cond.selects RX9 yX9_part yX9_part, Cond.code yX9_part cX9_part 4 (some .int), Cond.fieldLink RX9 110 "PressbrakeLaneModel" "parts" "I", Cond.methodLink RX9 130 yX9_isSheet, Cond.static yX9_isSheet, Cond.code yX9_isSheet cX9_isSheet 2 (some .boolean), Cond.methodLink RX9 134 yX9_draw, Cond.instanceMethod yX9_draw, Cond.selects RX9 yX9_draw yX9_draw, Cond.code yX9_draw cX9_draw 5 none, Cond.methodLink RL 107 yL_redraw]
def wsL_law0_r10 : List Cond := [Cond.static yL_redraw, Cond.codeWith yL_redraw cL_redraw 6 (some .int) [(0, 12, 15, 24), (0, 12, 19, 13), (0, 12, 23, 15)], Cond.classLink RL 24 "java/lang/IndexOutOfBoundsException", Cond.methodLink RL 20 yX8_redraw, Cond.instanceMethod yX8_redraw, Cond.selects RX8 yX8_redraw yX8_redraw, Cond.code yX8_redraw cX8_redraw 8 (some .int), Cond.fieldLink RX8 108 "PressbrakeLane$Part" "holes" "I", Cond.fieldLink RX8 111 "PressbrakeLane$Part" "width" "I", Cond.fieldLink RX8 114 "PressbrakeLane$Part" "thickness" "I", Cond.fieldLink RX8 117 "PressbrakeLane$Part" "drawing" "LPressbrakeLane$Drawing;", Cond.fieldLink RX8 124 "PressbrakeLane$Part" "revision" "I", Cond.methodLink RX8 104 yX8_partAt, Cond.instanceMethod yX8_partAt, Cond.selects RX8 yX8_partAt yX8_partAt, Cond.code yX8_partAt cX8_partAt 2 (some (.object "PressbrakeLane$Part")), Cond.classLink RX8 131 "java/lang/IndexOutOfBoundsException", Cond.initialized "java/lang/IndexOutOfBoundsException", Cond.methodLink RX8 120 yX2_isAs, Cond.instanceMethod yX2_isAs, Cond.selects RX2 yX2_isAs yX2_isAs, Cond.code yX2_isAs cX2_isAs 4 (some .boolean), Cond.methodLink RX8 127 yX8_changeBatches, Cond.instanceMethod yX8_changeBatches]
def wsL_law0_r11 : List Cond := [Cond.selects RX8 yX8_changeBatches yX8_changeBatches, Cond.code yX8_changeBatches cX8_changeBatches 8 (some .int), Cond.fieldLink RX8 286 "PressbrakeLane" "batchCount" "I", Cond.fieldLink RX8 291 "PressbrakeLane$Batch" "part" "I", Cond.fieldLink RX8 297 "PressbrakeLane$Batch" "state" "I", Cond.fieldLink RX8 304 "PressbrakeLane$Batch" "cutLength" "I", Cond.fieldLink RX8 294 "PressbrakeLane$Batch" "tool" "I", Cond.fieldLink RX8 303 "PressbrakeLane$Batch" "revision" "I", Cond.fieldLink RX8 300 "PressbrakeLane$Batch" "pieces" "I", Cond.methodLink RX8 195 yX4_blankBy, Cond.instanceMethod yX4_blankBy, Cond.selects RX4 yX4_blankBy yX4_blankBy, Cond.code yX4_blankBy cX4_blankBy 2 (some .int), Cond.fieldLink RX4 49 "PressbrakeLane$Tool" "deductions" "[I", Cond.methodLink RX4 42 yX2_flatLength, Cond.instanceMethod yX2_flatLength, Cond.selects RX2 yX2_flatLength yX2_flatLength, Cond.code yX2_flatLength cX2_flatLength 3 (some .int), Cond.methodLink RX4 46 yX2_bends, Cond.instanceMethod yX2_bends, Cond.selects RX2 yX2_bends yX2_bends, Cond.code yX2_bends cX2_bends 1 (some .int), Cond.methodLink RL 110 yX9_redraw, Cond.instanceMethod yX9_redraw]
def wsL_law0_r12 : List Cond := [Cond.selects RX9 yX9_redraw yX9_redraw, Cond.code yX9_redraw cX9_redraw 10 (some .int), Cond.fieldLink RX9 120 "PressbrakeLaneModel" "batches" "I", Cond.methodLink RX9 138 yX9_isPart, Cond.instanceMethod yX9_isPart, Cond.selects RX9 yX9_isPart yX9_isPart, Cond.code yX9_isPart cX9_isPart 2 (some .boolean), Cond.methodLink RX9 141 yX9_isSame, Cond.instanceMethod yX9_isSame, Cond.selects RX9 yX9_isSame yX9_isSame, Cond.code yX9_isSame cX9_isSame 6 (some .boolean), Cond.methodLink RX9 144 yX9_blankBy, Cond.instanceMethod yX9_blankBy, Cond.selects RX9 yX9_blankBy yX9_blankBy, Cond.code yX9_blankBy cX9_blankBy 5 (some .int), Cond.methodLink RL 111 yL_hole, Cond.static yL_hole, Cond.codeWith yL_hole cL_hole 7 (some .int) [(0, 14, 17, 24), (0, 14, 21, 13), (0, 14, 25, 15)], Cond.methodLink RL 26 yX8_hole, Cond.instanceMethod yX8_hole, Cond.selects RX8 yX8_hole yX8_hole, Cond.code yX8_hole cX8_hole 6 (some .int), Cond.fieldLink RX8 144 "PressbrakeLane$Part" "holeFaces" "[I", Cond.fieldLink RX8 147 "PressbrakeLane$Part" "holeAts" "[I"]
def wsL_law0_r13 : List Cond := [Cond.fieldLink RX8 150 "PressbrakeLane$Part" "holeDiameters" "[I", Cond.methodLink RX8 138 yX8_hasBatch, Cond.instanceMethod yX8_hasBatch, Cond.selects RX8 yX8_hasBatch yX8_hasBatch, Cond.code yX8_hasBatch cX8_hasBatch 3 (some .boolean), Cond.methodLink RL 114 yX9_hole, Cond.instanceMethod yX9_hole, Cond.selects RX9 yX9_hole yX9_hole, Cond.code yX9_hole cX9_hole 9 (some .int), Cond.methodLink RL 115 yL_isNear, Cond.static yL_isNear, Cond.codeWith yL_isNear cL_isNear 5 (some .int) [(0, 17, 20, 24)], Cond.methodLink RL 30 yX8_isNear, Cond.instanceMethod yX8_isNear, Cond.selects RX8 yX8_isNear yX8_isNear, Cond.code yX8_isNear cX8_isNear 4 (some .boolean), Cond.methodLink RX8 155 yX4_isHoleNear, Cond.instanceMethod yX4_isHoleNear, Cond.selects RX4 yX4_isHoleNear yX4_isHoleNear, Cond.code yX4_isHoleNear cX4_isHoleNear 6 (some .boolean), Cond.fieldLink RX4 54 "PressbrakeLane$Drawing" "faces" "I", Cond.fieldLink RX4 57 "PressbrakeLane$Drawing" "lengths" "[I", Cond.methodLink RL 117 yX9_isNear, Cond.instanceMethod yX9_isNear]
def wsL_law0_r14 : List Cond := [Cond.selects RX9 yX9_isNear yX9_isNear, Cond.code yX9_isNear cX9_isNear 3 (some .boolean), Cond.methodLink RX9 148 yX9_isClose, Cond.instanceMethod yX9_isClose, Cond.selects RX9 yX9_isClose yX9_isClose, Cond.code yX9_isClose cX9_isClose 6 (some .boolean), Cond.methodLink RL 118 yL_told, Cond.static yL_told, Cond.codeWith yL_told cL_told 5 (some .int) [(0, 10, 13, 24), (0, 10, 17, 13)], Cond.methodLink RL 34 yX8_told, Cond.instanceMethod yX8_told, Cond.selects RX8 yX8_told yX8_told, Cond.code yX8_told cX8_told 4 (some .int), Cond.methodLink RX8 158 yX4_nearHoles, Cond.instanceMethod yX4_nearHoles, Cond.selects RX4 yX4_nearHoles yX4_nearHoles, Cond.code yX4_nearHoles cX4_nearHoles 3 (some .int), Cond.methodLink RX4 60 yX4_isHoleNear, Cond.methodLink RL 120 yX9_told, Cond.instanceMethod yX9_told, Cond.selects RX9 yX9_told yX9_told, Cond.code yX9_told cX9_told 6 (some .int), Cond.methodLink RL 121 yL_tool, Cond.static yL_tool]
def wsL_law0_r15 : List Cond := [Cond.codeWith yL_tool cL_tool 8 (some .int) [(0, 16, 19, 13), (0, 16, 23, 15)], Cond.methodLink RL 37 yX8_tool, Cond.instanceMethod yX8_tool, Cond.selects RX8 yX8_tool yX8_tool, Cond.code yX8_tool cX8_tool 7 (some .int), Cond.fieldLink RX8 166 "PressbrakeLane" "toolCount" "I", Cond.fieldLink RX8 171 "PressbrakeLane$Tool" "opening" "I", Cond.fieldLink RX8 174 "PressbrakeLane$Tool" "punch" "I", Cond.fieldLink RX8 177 "PressbrakeLane$Tool" "die" "I", Cond.fieldLink RX8 180 "PressbrakeLane$Tool" "table" "I", Cond.fieldLink RX8 183 "PressbrakeLane$Tool" "gauge" "I", Cond.methodLink RL 124 yX9_tool, Cond.instanceMethod yX9_tool, Cond.selects RX9 yX9_tool yX9_tool, Cond.code yX9_tool cX9_tool 8 (some .int), Cond.fieldLink RX9 117 "PressbrakeLaneModel" "tools" "I", Cond.methodLink RL 125 yL_trial, Cond.static yL_trial, Cond.codeWith yL_trial cL_trial 6 (some .int) [(0, 12, 15, 24), (0, 12, 19, 13)], Cond.methodLink RL 41 yX8_trial, Cond.instanceMethod yX8_trial, Cond.selects RX8 yX8_trial yX8_trial, Cond.code yX8_trial cX8_trial 6 (some .int), Cond.fieldLink RX8 192 "PressbrakeLane$Tool" "deductions" "[I"]
def wsL_law0_r16 : List Cond := [Cond.methodLink RX8 186 yX8_toolAt, Cond.instanceMethod yX8_toolAt, Cond.selects RX8 yX8_toolAt yX8_toolAt, Cond.code yX8_toolAt cX8_toolAt 2 (some (.object "PressbrakeLane$Tool")), Cond.methodLink RL 127 yX9_trial, Cond.instanceMethod yX9_trial, Cond.selects RX9 yX9_trial yX9_trial, Cond.code yX9_trial cX9_trial 6 (some .int), Cond.methodLink RX9 151 yX9_isTool, Cond.instanceMethod yX9_isTool, Cond.selects RX9 yX9_isTool yX9_isTool, Cond.code yX9_isTool cX9_isTool 2 (some .boolean), Cond.methodLink RL 128 yL_blank, Cond.static yL_blank, Cond.codeWith yL_blank cL_blank 5 (some .int) [(0, 10, 13, 24)], Cond.methodLink RL 44 yX8_blank, Cond.instanceMethod yX8_blank, Cond.selects RX8 yX8_blank yX8_blank, Cond.code yX8_blank cX8_blank 4 (some .int), Cond.methodLink RL 130 yX9_blank, Cond.instanceMethod yX9_blank, Cond.selects RX9 yX9_blank yX9_blank, Cond.code yX9_blank cX9_blank 3 (some .int), Cond.methodLink RL 131 yL_why]
def wsL_law0_r17 : List Cond := [Cond.static yL_why, Cond.codeWith yL_why cL_why 7 (some .int) [(0, 14, 17, 24), (0, 14, 21, 13)], Cond.methodLink RL 47 yX8_why, Cond.instanceMethod yX8_why, Cond.selects RX8 yX8_why yX8_why, Cond.code yX8_why cX8_why 7 (some .int), Cond.methodLink RX8 199 yX8_checkBend, Cond.static yX8_checkBend, Cond.code yX8_checkBend cX8_checkBend 2 none, Cond.methodLink RX8 346 yX2_bends, Cond.methodLink RX8 203 yX8_checkDone, Cond.static yX8_checkDone, Cond.code yX8_checkDone cX8_checkDone 3 none, Cond.methodLink RX8 329 yX8_hasBit, Cond.static yX8_hasBit, Cond.code yX8_hasBit cX8_hasBit 2 (some .boolean), Cond.methodLink RX8 206 yX1_reason, Cond.instanceMethod yX1_reason, Cond.selects RX1 yX1_reason yX1_reason, Cond.code yX1_reason cX1_reason 5 (some .int), Cond.fieldLink RX1 21 "PressbrakeLane$Part" "drawing" "LPressbrakeLane$Drawing;", Cond.fieldLink RX1 31 "PressbrakeLane$Wing" "run" "I", Cond.methodLink RX1 35 Lib.Math.min.name, Cond.static Lib.Math.min.name]
def wsL_law0_r18 : List Cond := [Cond.initialized "java/lang/Math", Cond.code Lib.Math.min.name Lib.Math.min.code 2 (some .int), Cond.fieldLink RX1 41 "PressbrakeLane$Tool" "opening" "I", Cond.fieldLink RX1 46 "PressbrakeLane$Part" "thickness" "I", Cond.fieldLink RX1 49 "PressbrakeLane$Tool" "gauge" "I", Cond.fieldLink RX1 52 "PressbrakeLane$Tool" "punch" "I", Cond.fieldLink RX1 59 "PressbrakeLane$Tool" "die" "I", Cond.fieldLink RX1 62 "PressbrakeLane$Tool" "table" "I", Cond.methodLink RX1 27 yX7_unroll, Cond.instanceMethod yX7_unroll, Cond.selects RX7 yX7_unroll yX7_unroll, Cond.code yX7_unroll cX7_unroll 15 none, Cond.fieldLink RX7 24 "PressbrakeLane$Wing" "points" "I", Cond.fieldLink RX7 28 "PressbrakeLane$Wing" "run" "I", Cond.fieldLink RX7 39 "PressbrakeLane$Drawing" "lengths" "[I", Cond.methodLink RX7 18 yX2_wingFaces, Cond.instanceMethod yX2_wingFaces, Cond.selects RX2 yX2_wingFaces yX2_wingFaces, Cond.code yX2_wingFaces cX2_wingFaces 3 (some .int), Cond.methodLink RX7 35 yX2_directionOf, Cond.instanceMethod yX2_directionOf, Cond.selects RX2 yX2_directionOf yX2_directionOf, Cond.code yX2_directionOf cX2_directionOf 2 (some .int), Cond.methodLink RX1 55 yX7_hitsPunch]
def wsL_law0_r19 : List Cond := [Cond.instanceMethod yX7_hitsPunch, Cond.selects RX7 yX7_hitsPunch yX7_hitsPunch, Cond.code yX7_hitsPunch cX7_hitsPunch 3 (some .boolean), Cond.methodLink RX1 65 yX7_hitsTable, Cond.instanceMethod yX7_hitsTable, Cond.selects RX7 yX7_hitsTable yX7_hitsTable, Cond.code yX7_hitsTable cX7_hitsTable 4 (some .boolean), Cond.methodLink RL 133 yX9_why, Cond.instanceMethod yX9_why, Cond.selects RX9 yX9_why yX9_why, Cond.code yX9_why cX9_why 6 (some .int), Cond.methodLink RX9 184 yX9_isDone, Cond.instanceMethod yX9_isDone, Cond.selects RX9 yX9_isDone yX9_isDone, Cond.code yX9_isDone cX9_isDone 4 (some .boolean), Cond.methodLink RX9 187 yX9_reason, Cond.instanceMethod yX9_reason, Cond.selects RX9 yX9_reason yX9_reason, Cond.code yX9_reason cX9_reason 11 (some .int), Cond.fieldLink RX9 157 "PressbrakeLaneModel" "v" "I", Cond.fieldLink RX9 154 "PressbrakeLaneModel" "u" "I", Cond.fieldLink RX9 166 "PressbrakeLaneModel" "run" "I", Cond.methodLink RX9 173 yX9_start, Cond.instanceMethod yX9_start]
def wsL_law0_r20 : List Cond := [Cond.selects RX9 yX9_start yX9_start, Cond.code yX9_start cX9_start 1 none, Cond.fieldLink RX9 160 "PressbrakeLaneModel" "du" "I", Cond.fieldLink RX9 163 "PressbrakeLaneModel" "dv" "I", Cond.fieldLink RX9 169 "PressbrakeLaneModel" "isStraight" "Z", Cond.methodLink RX9 176 yX9_wing, Cond.instanceMethod yX9_wing, Cond.selects RX9 yX9_wing yX9_wing, Cond.code yX9_wing cX9_wing 4 (some .int), Cond.methodLink RX9 180 yX9_go, Cond.instanceMethod yX9_go, Cond.selects RX9 yX9_go yX9_go, Cond.code yX9_go cX9_go 10 none, Cond.methodLink RL 134 yL_point, Cond.static yL_point, Cond.codeWith yL_point cL_point 9 (some .int) [(0, 18, 21, 24), (0, 18, 25, 13)], Cond.methodLink RL 50 yX8_point, Cond.instanceMethod yX8_point, Cond.selects RX8 yX8_point yX8_point, Cond.code yX8_point cX8_point 9 (some .int), Cond.fieldLink RX8 216 "PressbrakeLane$Brake" "right" "LPressbrakeLane$Wing;", Cond.fieldLink RX8 226 "PressbrakeLane$Wing" "vs" "[I", Cond.fieldLink RX8 229 "PressbrakeLane$Wing" "us" "[I", Cond.methodLink RX8 210 yX2_wingFaces]
def wsL_law0_r21 : List Cond := [Cond.methodLink RX8 220 yX7_unroll, Cond.methodLink RL 137 yX9_point, Cond.instanceMethod yX9_point, Cond.selects RX9 yX9_point yX9_point, Cond.code yX9_point cX9_point 9 (some .int), Cond.methodLink RL 138 yL_flips, Cond.static yL_flips, Cond.codeWith yL_flips cL_flips 5 (some .int) [(0, 10, 13, 24)], Cond.methodLink RL 54 yX8_flips, Cond.instanceMethod yX8_flips, Cond.selects RX8 yX8_flips yX8_flips, Cond.code yX8_flips cX8_flips 4 (some .int), Cond.fieldLink RX8 236 "PressbrakeLane$Planner" "turns" "I", Cond.methodLink RX8 232 yX5_plan, Cond.instanceMethod yX5_plan, Cond.selects RX5 yX5_plan yX5_plan, Cond.code yX5_plan cX5_plan 8 none, Cond.fieldLink RX5 28 "PressbrakeLane$Planner" "bends" "I", Cond.fieldLink RX5 44 "PressbrakeLane$Planner" "turns" "I", Cond.fieldLink RX5 47 "PressbrakeLane$Planner" "placeCount" "I", Cond.methodLink RX5 24 yX5_look, Cond.instanceMethod yX5_look, Cond.selects RX5 yX5_look yX5_look, Cond.code yX5_look cX5_look 6 none]
def wsL_law0_r22 : List Cond := [Cond.fieldLink RX5 54 "PressbrakeLane$Part" "drawing" "LPressbrakeLane$Drawing;", Cond.methodLink RX5 60 yX2_bends, Cond.methodLink RX5 65 yX2_directionOf, Cond.methodLink RX5 72 yX1_reason, Cond.methodLink RX5 32 yX5_bestNext, Cond.instanceMethod yX5_bestNext, Cond.selects RX5 yX5_bestNext yX5_bestNext, Cond.code yX5_bestNext cX5_bestNext 7 (some .int), Cond.methodLink RX5 40 yX5_turnsBy, Cond.instanceMethod yX5_turnsBy, Cond.selects RX5 yX5_turnsBy yX5_turnsBy, Cond.code yX5_turnsBy cX5_turnsBy 5 (some .int), Cond.methodLink RX5 78 yX5_turn, Cond.instanceMethod yX5_turn, Cond.selects RX5 yX5_turn yX5_turn, Cond.code yX5_turn cX5_turn 3 (some .int), Cond.methodLink RX5 36 yX5_restOfNone, Cond.instanceMethod yX5_restOfNone, Cond.selects RX5 yX5_restOfNone yX5_restOfNone, Cond.code yX5_restOfNone cX5_restOfNone 2 (some .int), Cond.methodLink RL 140 yX9_flips, Cond.instanceMethod yX9_flips, Cond.selects RX9 yX9_flips yX9_flips, Cond.code yX9_flips cX9_flips 3 (some .int)]
def wsL_law0_r23 : List Cond := [Cond.methodLink RX9 198 yX9_turns, Cond.instanceMethod yX9_turns, Cond.selects RX9 yX9_turns yX9_turns, Cond.code yX9_turns cX9_turns 3 (some .int), Cond.methodLink RX9 194 yX9_findOrders, Cond.instanceMethod yX9_findOrders, Cond.selects RX9 yX9_findOrders yX9_findOrders, Cond.code yX9_findOrders cX9_findOrders 9 none, Cond.methodLink RX9 191 yX9_turn, Cond.instanceMethod yX9_turn, Cond.selects RX9 yX9_turn yX9_turn, Cond.code yX9_turn cX9_turn 4 (some .int), Cond.methodLink RL 141 yL_flipsAnew, Cond.static yL_flipsAnew, Cond.codeWith yL_flipsAnew cL_flipsAnew 5 (some .int) [(0, 10, 13, 24)], Cond.methodLink RL 57 yX8_flipsAnew, Cond.instanceMethod yX8_flipsAnew, Cond.selects RX8 yX8_flipsAnew yX8_flipsAnew, Cond.code yX8_flipsAnew cX8_flipsAnew 4 (some .int), Cond.methodLink RX8 239 yX5_fewestOfAll, Cond.instanceMethod yX5_fewestOfAll, Cond.selects RX5 yX5_fewestOfAll yX5_fewestOfAll, Cond.code yX5_fewestOfAll cX5_fewestOfAll 4 (some .int), Cond.methodLink RX5 50 yX5_fewestBeyond]
def wsL_law0_r24 : List Cond := [Cond.static yX5_fewestBeyond, Cond.code yX5_fewestBeyond cX5_fewestBeyond 7 (some .int), Cond.methodLink RL 143 yX9_flipsAnew, Cond.instanceMethod yX9_flipsAnew, Cond.selects RX9 yX9_flipsAnew yX9_flipsAnew, Cond.code yX9_flipsAnew cX9_flipsAnew 3 (some .int), Cond.methodLink RL 144 yL_ordered, Cond.static yL_ordered, Cond.codeWith yL_ordered cL_ordered 6 (some .int) [(0, 12, 15, 24)], Cond.methodLink RL 60 yX8_ordered, Cond.instanceMethod yX8_ordered, Cond.selects RX8 yX8_ordered yX8_ordered, Cond.code yX8_ordered cX8_ordered 6 (some .int), Cond.fieldLink RX8 245 "PressbrakeLane$Planner" "placeCount" "I", Cond.fieldLink RX8 248 "PressbrakeLane$Planner" "places" "[I", Cond.methodLink RL 146 yX9_ordered, Cond.instanceMethod yX9_ordered, Cond.selects RX9 yX9_ordered yX9_ordered, Cond.code yX9_ordered cX9_ordered 10 (some .int), Cond.methodLink RL 147 yL_want, Cond.static yL_want, Cond.codeWith yL_want cL_want 5 (some .int) [(0, 10, 13, 24), (0, 10, 17, 13), (0, 10, 21, 15)], Cond.methodLink RL 63 yX8_want, Cond.instanceMethod yX8_want]
def wsL_law0_r25 : List Cond := [Cond.selects RX8 yX8_want yX8_want, Cond.code yX8_want cX8_want 3 (some .int), Cond.fieldLink RX8 253 "PressbrakeLane" "lotCount" "I", Cond.methodLink RL 149 yX9_want, Cond.instanceMethod yX9_want, Cond.selects RX9 yX9_want yX9_want, Cond.code yX9_want cX9_want 4 (some .int), Cond.methodLink RX9 201 yX9_wanted, Cond.instanceMethod yX9_wanted, Cond.selects RX9 yX9_wanted yX9_wanted, Cond.code yX9_wanted cX9_wanted 3 (some .int), Cond.methodLink RL 150 yX8_clear, Cond.instanceMethod yX8_clear, Cond.selects RX8 yX8_clear yX8_clear, Cond.code yX8_clear cX8_clear 3 (some .int), Cond.methodLink RL 153 yX9_clear, Cond.instanceMethod yX9_clear, Cond.selects RX9 yX9_clear yX9_clear, Cond.code yX9_clear cX9_clear 3 (some .int), Cond.methodLink RL 154 yL_nest, Cond.static yL_nest, Cond.codeWith yL_nest cL_nest 7 (some .int) [(0, 13, 16, 24), (0, 13, 20, 13)], Cond.methodLink RL 66 yX8_nest, Cond.instanceMethod yX8_nest]
def wsL_law0_r26 : List Cond := [Cond.selects RX8 yX8_nest yX8_nest, Cond.code yX8_nest cX8_nest 7 (some .long), Cond.methodLink RX8 258 Lib.Math.min.name, Cond.constantLong RX8 277 (-1), Cond.methodLink RX8 266 yX3_start, Cond.instanceMethod yX3_start, Cond.selects RX3 yX3_start yX3_start, Cond.code yX3_start cX3_start 3 none, Cond.fieldLink RX3 36 "PressbrakeLane$Nester" "sheetLength" "I", Cond.fieldLink RX3 40 "PressbrakeLane$Nester" "sheetWidth" "I", Cond.fieldLink RX3 43 "PressbrakeLane$Nester" "kinds" "I", Cond.fieldLink RX3 46 "PressbrakeLane$Nester" "rows" "I", Cond.fieldLink RX3 49 "PressbrakeLane$Nester" "sheets" "I", Cond.fieldLink RX3 52 "PressbrakeLane$Nester" "cuts" "J", Cond.fieldLink RX3 56 "PressbrakeLane$Nester" "covered" "J", Cond.methodLink RX8 269 yX3_addKind, Cond.instanceMethod yX3_addKind, Cond.selects RX3 yX3_addKind yX3_addKind, Cond.code yX3_addKind cX3_addKind 7 none, Cond.methodLink RX3 59 Lib.Math.max.name, Cond.static Lib.Math.max.name, Cond.code Lib.Math.max.name Lib.Math.max.code 2 (some .int), Cond.methodLink RX3 65 Lib.Math.min.name, Cond.methodLink RX3 68 yX3_isBigger]
def wsL_law0_r27 : List Cond := [Cond.instanceMethod yX3_isBigger, Cond.selects RX3 yX3_isBigger yX3_isBigger, Cond.code yX3_isBigger cX3_isBigger 4 (some .boolean), Cond.methodLink RX8 273 yX3_doAllFit, Cond.instanceMethod yX3_doAllFit, Cond.selects RX3 yX3_doAllFit yX3_doAllFit, Cond.code yX3_doAllFit cX3_doAllFit 2 (some .boolean), Cond.methodLink RX8 279 yX3_layAll, Cond.instanceMethod yX3_layAll, Cond.selects RX3 yX3_layAll yX3_layAll, Cond.code yX3_layAll cX3_layAll 3 none, Cond.methodLink RX3 72 yX3_lay, Cond.instanceMethod yX3_lay, Cond.selects RX3 yX3_lay yX3_lay, Cond.code yX3_lay cX3_lay 4 none, Cond.methodLink RX3 76 yX3_rowFor, Cond.instanceMethod yX3_rowFor, Cond.selects RX3 yX3_rowFor yX3_rowFor, Cond.code yX3_rowFor cX3_rowFor 6 (some .int), Cond.methodLink RX3 79 yX3_newRow, Cond.instanceMethod yX3_newRow, Cond.selects RX3 yX3_newRow yX3_newRow, Cond.code yX3_newRow cX3_newRow 3 (some .int), Cond.methodLink RX3 83 yX3_sheetFor]
def wsL_law0_r28 : List Cond := [Cond.instanceMethod yX3_sheetFor, Cond.selects RX3 yX3_sheetFor yX3_sheetFor, Cond.code yX3_sheetFor cX3_sheetFor 3 (some .int), Cond.methodLink RX8 282 yX3_tell, Cond.instanceMethod yX3_tell, Cond.selects RX3 yX3_tell yX3_tell, Cond.code yX3_tell cX3_tell 2 (some .long), Cond.methodLink RL 156 yX9_nest, Cond.instanceMethod yX9_nest, Cond.selects RX9 yX9_nest yX9_nest, Cond.code yX9_nest cX9_nest 15 (some .long), Cond.fieldLink RX9 214 "PressbrakeLaneModel" "sheets" "I", Cond.fieldLink RX9 211 "PressbrakeLaneModel" "rows" "I", Cond.constantLong RX9 221 (-1), Cond.constantLong RX9 226 (2), Cond.methodLink RX9 217 yX9_nextPiece, Cond.instanceMethod yX9_nextPiece, Cond.selects RX9 yX9_nextPiece yX9_nextPiece, Cond.code yX9_nextPiece cX9_nextPiece 5 (some .int), Cond.methodLink RX9 205 yX9_longer, Cond.instanceMethod yX9_longer, Cond.selects RX9 yX9_longer yX9_longer, Cond.code yX9_longer cX9_longer 3 (some .int), Cond.methodLink RX9 208 yX9_shorter]
def wsL_law0_r29 : List Cond := [Cond.instanceMethod yX9_shorter, Cond.selects RX9 yX9_shorter yX9_shorter, Cond.code yX9_shorter cX9_shorter 3 (some .int), Cond.methodLink RX9 223 yX9_rowFor, Cond.instanceMethod yX9_rowFor, Cond.selects RX9 yX9_rowFor yX9_rowFor, Cond.code yX9_rowFor cX9_rowFor 8 (some .int), Cond.methodLink RL 157 yL_batch, Cond.static yL_batch, Cond.codeWith yL_batch cL_batch 6 (some .int) [(0, 12, 15, 24), (0, 12, 19, 13), (0, 12, 23, 15)], Cond.methodLink RL 70 yX8_batch, Cond.instanceMethod yX8_batch, Cond.selects RX8 yX8_batch yX8_batch, Cond.code yX8_batch cX8_batch 7 (some .int), Cond.methodLink RL 159 yX9_batch, Cond.instanceMethod yX9_batch, Cond.selects RX9 yX9_batch yX9_batch, Cond.code yX9_batch cX9_batch 5 (some .int), Cond.methodLink RL 160 yL_work, Cond.static yL_work, Cond.codeWith yL_work cL_work 4 (some .int) [(0, 9, 12, 24), (0, 9, 15, 15)], Cond.methodLink RL 73 yX8_work, Cond.instanceMethod yX8_work, Cond.selects RX8 yX8_work yX8_work]
def wsL_law0_r30 : List Cond := [Cond.code yX8_work cX8_work 3 (some .int), Cond.methodLink RX8 307 yX8_batchAt, Cond.instanceMethod yX8_batchAt, Cond.selects RX8 yX8_batchAt yX8_batchAt, Cond.code yX8_batchAt cX8_batchAt 2 (some (.object "PressbrakeLane$Batch")), Cond.methodLink RX8 313 yX8_hasOrder, Cond.instanceMethod yX8_hasOrder, Cond.selects RX8 yX8_hasOrder yX8_hasOrder, Cond.code yX8_hasOrder cX8_hasOrder 2 (some .boolean), Cond.methodLink RL 163 yX9_work, Cond.instanceMethod yX9_work, Cond.selects RX9 yX9_work yX9_work, Cond.code yX9_work cX9_work 4 (some .int), Cond.methodLink RX9 228 yX9_isBatch, Cond.instanceMethod yX9_isBatch, Cond.selects RX9 yX9_isBatch yX9_isBatch, Cond.code yX9_isBatch cX9_isBatch 2 (some .boolean), Cond.methodLink RL 164 yL_batchOf, Cond.static yL_batchOf, Cond.codeWith yL_batchOf cL_batchOf 5 (some .int) [(0, 10, 13, 24), (0, 10, 17, 13)], Cond.methodLink RL 77 yX8_batchOf, Cond.instanceMethod yX8_batchOf, Cond.selects RX8 yX8_batchOf yX8_batchOf, Cond.code yX8_batchOf cX8_batchOf 4 (some .int)]
def wsL_law0_r31 : List Cond := [Cond.methodLink RL 166 yX9_batchOf, Cond.instanceMethod yX9_batchOf, Cond.selects RX9 yX9_batchOf yX9_batchOf, Cond.code yX9_batchOf cX9_batchOf 4 (some .int), Cond.methodLink RL 167 yL_kits, Cond.static yL_kits, Cond.codeWith yL_kits cL_kits 4 (some .int) [(0, 9, 12, 13)], Cond.methodLink RL 80 yX8_kits, Cond.instanceMethod yX8_kits, Cond.selects RX8 yX8_kits yX8_kits, Cond.code yX8_kits cX8_kits 2 (some .int), Cond.methodLink RX8 319 yX8_checkKit, Cond.instanceMethod yX8_checkKit, Cond.selects RX8 yX8_checkKit yX8_checkKit, Cond.code yX8_checkKit cX8_checkKit 2 none, Cond.methodLink RX8 323 yX8_kitsOf, Cond.instanceMethod yX8_kitsOf, Cond.selects RX8 yX8_kitsOf yX8_kitsOf, Cond.code yX8_kitsOf cX8_kitsOf 4 (some .int), Cond.methodLink RX8 355 yX8_coatedPieces, Cond.instanceMethod yX8_coatedPieces, Cond.selects RX8 yX8_coatedPieces yX8_coatedPieces, Cond.code yX8_coatedPieces cX8_coatedPieces 4 (some .int), Cond.methodLink RL 169 yX9_kits]
def wsL_law0_r32 : List Cond := [Cond.instanceMethod yX9_kits, Cond.selects RX9 yX9_kits yX9_kits, Cond.code yX9_kits cX9_kits 2 (some .int), Cond.methodLink RX9 231 yX9_isKit, Cond.instanceMethod yX9_isKit, Cond.selects RX9 yX9_isKit yX9_isKit, Cond.code yX9_isKit cX9_isKit 2 (some .boolean), Cond.methodLink RX9 234 yX9_kitsOf, Cond.instanceMethod yX9_kitsOf, Cond.selects RX9 yX9_kitsOf yX9_kitsOf, Cond.code yX9_kitsOf cX9_kitsOf 6 (some .int), Cond.methodLink RL 170 yL_take, Cond.static yL_take, Cond.codeWith yL_take cL_take 5 (some .int) [(0, 10, 13, 13), (0, 10, 17, 15)], Cond.methodLink RL 83 yX8_take, Cond.instanceMethod yX8_take, Cond.selects RX8 yX8_take yX8_take, Cond.code yX8_take cX8_take 5 (some .int), Cond.methodLink RX8 333 yX8_takePieces, Cond.instanceMethod yX8_takePieces, Cond.selects RX8 yX8_takePieces yX8_takePieces, Cond.code yX8_takePieces cX8_takePieces 8 (some .int), Cond.methodLink RL 172 yX9_take, Cond.instanceMethod yX9_take]
def wsL_law0_r33 : List Cond := [Cond.selects RX9 yX9_take yX9_take, Cond.code yX9_take cX9_take 9 (some .int)]
def wsL_law0 : List Cond := (wsL_law0_r1 ++ (wsL_law0_r2 ++ (wsL_law0_r3 ++ (wsL_law0_r4 ++ (wsL_law0_r5 ++ (wsL_law0_r6 ++ (wsL_law0_r7 ++ (wsL_law0_r8 ++ (wsL_law0_r9 ++ (wsL_law0_r10 ++ (wsL_law0_r11 ++ (wsL_law0_r12 ++ (wsL_law0_r13 ++ (wsL_law0_r14 ++ (wsL_law0_r15 ++ (wsL_law0_r16 ++ (wsL_law0_r17 ++ (wsL_law0_r18 ++ (wsL_law0_r19 ++ (wsL_law0_r20 ++ (wsL_law0_r21 ++ (wsL_law0_r22 ++ (wsL_law0_r23 ++ (wsL_law0_r24 ++ (wsL_law0_r25 ++ (wsL_law0_r26 ++ (wsL_law0_r27 ++ (wsL_law0_r28 ++ (wsL_law0_r29 ++ (wsL_law0_r30 ++ (wsL_law0_r31 ++ (wsL_law0_r32 ++ wsL_law0_r33)))))))))))))))))))))))))))))))) ++ wsX80 ++ wsX90 ++ wsX20 ++ wsX10 ++ wsX50 ++ wsX30 ++ wsX40 ++ wsX60 ++ wsX00 ++ wsX70 ++ ([] : List Cond)
def wsL_law : List Cond := wsL_law0 ++ (vx_atS RX8 70 "java/lang/IllegalArgumentException" ["java/lang/RuntimeException", "java/lang/Exception"]).filter goodWord ++ (vx_atS RX8 81 "java/lang/IllegalStateException" ["java/lang/RuntimeException", "java/lang/Exception"]).filter goodWord ++ (vx_atS RX8 135 "java/lang/IndexOutOfBoundsException" ["java/lang/RuntimeException", "java/lang/Exception"]).filter goodWord
abbrev vwCl : List vw_C := [(RX0, TX0, 6), (RX1, TX1, 2), (RX2, TX2, 3), (RX3, TX3, 15), (RX4, TX4, 8), (RX5, TX5, 7), (RX6, TX6, 6), (RX7, TX7, 4), (RX8, TX8, 12), (RX9, TX9, 45)]
end
section
set_option maxRecDepth 100000 in
theorem wg_r1 : GoodIn lw_tbl wsL_law0_r1 := goodIn_p wsL_law0_r1 [67, 70] (by decide +kernel) (by decide +kernel)
set_option maxRecDepth 100000 in
theorem wg_r2 : GoodIn lw_tbl wsL_law0_r2 := goodIn_p wsL_law0_r2 [75] (by decide +kernel) (by decide +kernel)
set_option maxRecDepth 100000 in
theorem wg_r3 : GoodIn lw_tbl wsL_law0_r3 := goodIn_p wsL_law0_r3 [104, 110, 140, 171] (by decide +kernel) (by decide +kernel)
set_option maxRecDepth 100000 in
theorem wg_r4 : GoodIn lw_tbl wsL_law0_r4 := goodIn_p wsL_law0_r4 [222, 264, 295] (by decide +kernel) (by decide +kernel)
set_option maxRecDepth 100000 in
theorem wg_r5 : GoodIn lw_tbl wsL_law0_r5 := goodIn_p wsL_law0_r5 [844] (by decide +kernel) (by decide +kernel)
set_option maxRecDepth 100000 in
theorem wg_r6 : GoodIn lw_tbl wsL_law0_r6 := goodIn_p wsL_law0_r6 [369] (by decide +kernel) (by decide +kernel)
set_option maxRecDepth 100000 in
theorem wg_r7 : GoodIn lw_tbl wsL_law0_r7 := goodIn_p wsL_law0_r7 [372, 989, 992, 996, 985] (by decide +kernel) (by decide +kernel)
set_option maxRecDepth 100000 in
theorem wg_r8 : GoodIn lw_tbl wsL_law0_r8 := goodIn_p wsL_law0_r8 [356, 1000, 463, 466, 471] (by decide +kernel) (by decide +kernel)
set_option maxRecDepth 100000 in
theorem wg_r9 : GoodIn lw_tbl wsL_law0_r9 := goodIn_p wsL_law0_r9 [477, 481, 1004, 1007, 1011] (by decide +kernel) (by decide +kernel)
set_option maxRecDepth 100000 in
theorem wg_r10 : GoodIn lw_tbl wsL_law0_r10 := goodIn_p wsL_law0_r10 [489, 493, 513] (by decide +kernel) (by decide +kernel)
set_option maxRecDepth 100000 in
theorem wg_r11 : GoodIn lw_tbl wsL_law0_r11 := goodIn_p wsL_law0_r11 [517, 521, 525, 529] (by decide +kernel) (by decide +kernel)
set_option maxRecDepth 100000 in
theorem wg_r12 : GoodIn lw_tbl wsL_law0_r12 := goodIn_p wsL_law0_r12 [1015, 1019, 1023, 1027, 536] (by decide +kernel) (by decide +kernel)
set_option maxRecDepth 100000 in
theorem wg_r13 : GoodIn lw_tbl wsL_law0_r13 := goodIn_p wsL_law0_r13 [542, 1031, 550, 555] (by decide +kernel) (by decide +kernel)
set_option maxRecDepth 100000 in
theorem wg_r14 : GoodIn lw_tbl wsL_law0_r14 := goodIn_p wsL_law0_r14 [1035, 1039, 562, 566, 1043] (by decide +kernel) (by decide +kernel)
set_option maxRecDepth 100000 in
theorem wg_r15 : GoodIn lw_tbl wsL_law0_r15 := goodIn_p wsL_law0_r15 [575, 1047, 584] (by decide +kernel) (by decide +kernel)
set_option maxRecDepth 100000 in
theorem wg_r16 : GoodIn lw_tbl wsL_law0_r16 := goodIn_p wsL_law0_r16 [588, 1051, 1055, 597, 1059] (by decide +kernel) (by decide +kernel)
set_option maxRecDepth 100000 in
theorem wg_r17 : GoodIn lw_tbl wsL_law0_r17 := goodIn_p wsL_law0_r17 [604, 607, 612, 615, 620] (by decide +kernel) (by decide +kernel)
set_option maxRecDepth 100000 in
theorem wg_r18 : GoodIn lw_tbl wsL_law0_r18 := goodIn_p wsL_law0_r18 [636, 624, 628, 633] (by decide +kernel) (by decide +kernel)
set_option maxRecDepth 100000 in
theorem wg_r19 : GoodIn lw_tbl wsL_law0_r19 := goodIn_p wsL_law0_r19 [640, 644, 1063, 1067, 1071] (by decide +kernel) (by decide +kernel)
set_option maxRecDepth 100000 in
theorem wg_r20 : GoodIn lw_tbl wsL_law0_r20 := goodIn_p wsL_law0_r20 [1075, 1079, 1083, 651] (by decide +kernel) (by decide +kernel)
set_option maxRecDepth 100000 in
theorem wg_r21 : GoodIn lw_tbl wsL_law0_r21 := goodIn_p wsL_law0_r21 [1087, 661, 665, 669] (by decide +kernel) (by decide +kernel)
set_option maxRecDepth 100000 in
theorem wg_r22 : GoodIn lw_tbl wsL_law0_r22 := goodIn_p wsL_law0_r22 [677, 681, 685, 689, 1091] (by decide +kernel) (by decide +kernel)
set_option maxRecDepth 100000 in
theorem wg_r23 : GoodIn lw_tbl wsL_law0_r23 := goodIn_p wsL_law0_r23 [1095, 1099, 1103, 696, 700] (by decide +kernel) (by decide +kernel)
set_option maxRecDepth 100000 in
theorem wg_r24 : GoodIn lw_tbl wsL_law0_r24 := goodIn_p wsL_law0_r24 [703, 1107, 710, 1111] (by decide +kernel) (by decide +kernel)
set_option maxRecDepth 100000 in
theorem wg_r25 : GoodIn lw_tbl wsL_law0_r25 := goodIn_p wsL_law0_r25 [718, 1115, 1119, 360, 1123] (by decide +kernel) (by decide +kernel)
set_option maxRecDepth 100000 in
theorem wg_r26 : GoodIn lw_tbl wsL_law0_r26 := goodIn_p wsL_law0_r26 [727, 733, 737, 740] (by decide +kernel) (by decide +kernel)
set_option maxRecDepth 100000 in
theorem wg_r27 : GoodIn lw_tbl wsL_law0_r27 := goodIn_p wsL_law0_r27 [745, 749, 754, 758, 762, 766] (by decide +kernel) (by decide +kernel)
set_option maxRecDepth 100000 in
theorem wg_r28 : GoodIn lw_tbl wsL_law0_r28 := goodIn_p wsL_law0_r28 [770, 774, 1127, 1131, 1135] (by decide +kernel) (by decide +kernel)
set_option maxRecDepth 100000 in
theorem wg_r29 : GoodIn lw_tbl wsL_law0_r29 := goodIn_p wsL_law0_r29 [1139, 1144, 781, 1149] (by decide +kernel) (by decide +kernel)
set_option maxRecDepth 100000 in
theorem wg_r30 : GoodIn lw_tbl wsL_law0_r30 := goodIn_p wsL_law0_r30 [789, 793, 799, 1153, 1157, 807] (by decide +kernel) (by decide +kernel)
set_option maxRecDepth 100000 in
theorem wg_r31 : GoodIn lw_tbl wsL_law0_r31 := goodIn_p wsL_law0_r31 [1161, 814, 818, 823, 827] (by decide +kernel) (by decide +kernel)
set_option maxRecDepth 100000 in
theorem wg_r32 : GoodIn lw_tbl wsL_law0_r32 := goodIn_p wsL_law0_r32 [1165, 1169, 1173, 834, 839] (by decide +kernel) (by decide +kernel)
set_option maxRecDepth 100000 in
theorem wg_r33 : GoodIn lw_tbl wsL_law0_r33 := goodIn_p wsL_law0_r33 [1177] (by decide +kernel) (by decide +kernel)
set_option maxRecDepth 100000 in
theorem wg_x80 : GoodIn lw_tbl wsX80 := goodIn_of _ (by decide +kernel)
set_option maxRecDepth 100000 in
theorem wg_x90 : GoodIn lw_tbl wsX90 := goodIn_of _ (by decide +kernel)
set_option maxRecDepth 100000 in
theorem wg_x20 : GoodIn lw_tbl wsX20 := goodIn_of _ (by decide +kernel)
set_option maxRecDepth 100000 in
theorem wg_x10 : GoodIn lw_tbl wsX10 := goodIn_of _ (by decide +kernel)
set_option maxRecDepth 100000 in
theorem wg_x50 : GoodIn lw_tbl wsX50 := goodIn_of _ (by decide +kernel)
set_option maxRecDepth 100000 in
theorem wg_x30 : GoodIn lw_tbl wsX30 := goodIn_of _ (by decide +kernel)
set_option maxRecDepth 100000 in
theorem wg_x40 : GoodIn lw_tbl wsX40 := goodIn_of _ (by decide +kernel)
set_option maxRecDepth 100000 in
theorem wg_x60 : GoodIn lw_tbl wsX60 := goodIn_of _ (by decide +kernel)
set_option maxRecDepth 100000 in
theorem wg_x00 : GoodIn lw_tbl wsX00 := goodIn_of _ (by decide +kernel)
set_option maxRecDepth 100000 in
theorem wg_x70 : GoodIn lw_tbl wsX70 := goodIn_of _ (by decide +kernel)
theorem wg_nil : GoodIn lw_tbl ([] : List Cond) := fun _ h => absurd h List.not_mem_nil
theorem wg_0 : GoodIn lw_tbl wsL_law0 := (goodIn_app (goodIn_app (goodIn_app (goodIn_app (goodIn_app (goodIn_app (goodIn_app (goodIn_app (goodIn_app (goodIn_app (goodIn_app (goodIn_app wg_r1 (goodIn_app wg_r2 (goodIn_app wg_r3 (goodIn_app wg_r4 (goodIn_app wg_r5 (goodIn_app wg_r6 (goodIn_app wg_r7 (goodIn_app wg_r8 (goodIn_app wg_r9 (goodIn_app wg_r10 (goodIn_app wg_r11 (goodIn_app wg_r12 (goodIn_app wg_r13 (goodIn_app wg_r14 (goodIn_app wg_r15 (goodIn_app wg_r16 (goodIn_app wg_r17 (goodIn_app wg_r18 (goodIn_app wg_r19 (goodIn_app wg_r20 (goodIn_app wg_r21 (goodIn_app wg_r22 (goodIn_app wg_r23 (goodIn_app wg_r24 (goodIn_app wg_r25 (goodIn_app wg_r26 (goodIn_app wg_r27 (goodIn_app wg_r28 (goodIn_app wg_r29 (goodIn_app wg_r30 (goodIn_app wg_r31 (goodIn_app wg_r32 wg_r33)))))))))))))))))))))))))))))))) wg_x80) wg_x90) wg_x20) wg_x10) wg_x50) wg_x30) wg_x40) wg_x60) wg_x00) wg_x70) wg_nil)
theorem wsL_law_in0 : ∀ w ∈ wsL_law0, w ∈ lw_tbl := fun w h => (wg_0 w h).1
theorem wsL_law_x0 : ∀ w ∈ (vx_atS RX8 70 "java/lang/IllegalArgumentException" ["java/lang/RuntimeException", "java/lang/Exception"]).filter goodWord, w ∈ lw_tbl := by decide +kernel
theorem wsL_law_x1 : ∀ w ∈ (vx_atS RX8 81 "java/lang/IllegalStateException" ["java/lang/RuntimeException", "java/lang/Exception"]).filter goodWord, w ∈ lw_tbl := by decide +kernel
theorem wsL_law_x2 : ∀ w ∈ (vx_atS RX8 135 "java/lang/IndexOutOfBoundsException" ["java/lang/RuntimeException", "java/lang/Exception"]).filter goodWord, w ∈ lw_tbl := by decide +kernel
theorem wsL_law_in : ∀ w ∈ wsL_law, w ∈ lw_tbl := fun w h => (List.mem_append.mp h).elim (fun h => (List.mem_append.mp h).elim (fun h => (List.mem_append.mp h).elim (fun h => wsL_law_in0 w h) (fun h => wsL_law_x0 w h)) (fun h => wsL_law_x1 w h)) (fun h => wsL_law_x2 w h)
theorem inlX0 : ∀ w ∈ wsX00, w ∈ wsL_law := fun _ h => List.mem_append_left _ (List.mem_append_left _ (List.mem_append_left _ (List.mem_append_left _ (List.mem_append_left _ (List.mem_append_right _ h)))))
theorem inX0 : ∀ w ∈ wsX00, w ∈ lw_tbl := fun w h => wsL_law_in w (inlX0 w h)
theorem inlX1 : ∀ w ∈ wsX10, w ∈ wsL_law := fun _ h => List.mem_append_left _ (List.mem_append_left _ (List.mem_append_left _ (List.mem_append_left _ (List.mem_append_left _ (List.mem_append_left _ (List.mem_append_left _ (List.mem_append_left _ (List.mem_append_left _ (List.mem_append_left _ (List.mem_append_right _ h))))))))))
theorem inX1 : ∀ w ∈ wsX10, w ∈ lw_tbl := fun w h => wsL_law_in w (inlX1 w h)
theorem inlX2 : ∀ w ∈ wsX20, w ∈ wsL_law := fun _ h => List.mem_append_left _ (List.mem_append_left _ (List.mem_append_left _ (List.mem_append_left _ (List.mem_append_left _ (List.mem_append_left _ (List.mem_append_left _ (List.mem_append_left _ (List.mem_append_left _ (List.mem_append_left _ (List.mem_append_left _ (List.mem_append_right _ h)))))))))))
theorem inX2 : ∀ w ∈ wsX20, w ∈ lw_tbl := fun w h => wsL_law_in w (inlX2 w h)
theorem inlX3 : ∀ w ∈ wsX30, w ∈ wsL_law := fun _ h => List.mem_append_left _ (List.mem_append_left _ (List.mem_append_left _ (List.mem_append_left _ (List.mem_append_left _ (List.mem_append_left _ (List.mem_append_left _ (List.mem_append_left _ (List.mem_append_right _ h))))))))
theorem inX3 : ∀ w ∈ wsX30, w ∈ lw_tbl := fun w h => wsL_law_in w (inlX3 w h)
theorem inlX4 : ∀ w ∈ wsX40, w ∈ wsL_law := fun _ h => List.mem_append_left _ (List.mem_append_left _ (List.mem_append_left _ (List.mem_append_left _ (List.mem_append_left _ (List.mem_append_left _ (List.mem_append_left _ (List.mem_append_right _ h)))))))
theorem inX4 : ∀ w ∈ wsX40, w ∈ lw_tbl := fun w h => wsL_law_in w (inlX4 w h)
theorem inlX5 : ∀ w ∈ wsX50, w ∈ wsL_law := fun _ h => List.mem_append_left _ (List.mem_append_left _ (List.mem_append_left _ (List.mem_append_left _ (List.mem_append_left _ (List.mem_append_left _ (List.mem_append_left _ (List.mem_append_left _ (List.mem_append_left _ (List.mem_append_right _ h)))))))))
theorem inX5 : ∀ w ∈ wsX50, w ∈ lw_tbl := fun w h => wsL_law_in w (inlX5 w h)
theorem inlX6 : ∀ w ∈ wsX60, w ∈ wsL_law := fun _ h => List.mem_append_left _ (List.mem_append_left _ (List.mem_append_left _ (List.mem_append_left _ (List.mem_append_left _ (List.mem_append_left _ (List.mem_append_right _ h))))))
theorem inX6 : ∀ w ∈ wsX60, w ∈ lw_tbl := fun w h => wsL_law_in w (inlX6 w h)
theorem inlX7 : ∀ w ∈ wsX70, w ∈ wsL_law := fun _ h => List.mem_append_left _ (List.mem_append_left _ (List.mem_append_left _ (List.mem_append_left _ (List.mem_append_right _ h))))
theorem inX7 : ∀ w ∈ wsX70, w ∈ lw_tbl := fun w h => wsL_law_in w (inlX7 w h)
theorem inlX8 : ∀ w ∈ wsX80, w ∈ wsL_law := fun _ h => List.mem_append_left _ (List.mem_append_left _ (List.mem_append_left _ (List.mem_append_left _ (List.mem_append_left _ (List.mem_append_left _ (List.mem_append_left _ (List.mem_append_left _ (List.mem_append_left _ (List.mem_append_left _ (List.mem_append_left _ (List.mem_append_left _ (List.mem_append_left _ (List.mem_append_right _ h)))))))))))))
theorem inX8 : ∀ w ∈ wsX80, w ∈ lw_tbl := fun w h => wsL_law_in w (inlX8 w h)
theorem inlX9 : ∀ w ∈ wsX90, w ∈ wsL_law := fun _ h => List.mem_append_left _ (List.mem_append_left _ (List.mem_append_left _ (List.mem_append_left _ (List.mem_append_left _ (List.mem_append_left _ (List.mem_append_left _ (List.mem_append_left _ (List.mem_append_left _ (List.mem_append_left _ (List.mem_append_left _ (List.mem_append_left _ (List.mem_append_right _ h))))))))))))
theorem inX9 : ∀ w ∈ wsX90, w ∈ lw_tbl := fun w h => wsL_law_in w (inlX9 w h)
theorem inJ9 : ∀ w ∈ wsJ90, w ∈ lw_tbl := by decide +kernel
theorem inJ0 : ∀ w ∈ wsJ00, w ∈ lw_tbl := by decide +kernel
end
section
theorem dX0_init_0 : decode cX0_init 0 = .ok (.aload_n 0, 1) := by decide +kernel
theorem dX0_init_1 : decode cX0_init 1 = .ok (.invokespecial 1, 3) := by decide +kernel
theorem dX0_init_4 : decode cX0_init 4 = .ok (.return_, 1) := by decide +kernel
theorem dX1_init_0 : decode cX1_init 0 = .ok (.aload_n 0, 1) := by decide +kernel
theorem dX1_init_1 : decode cX1_init 1 = .ok (.invokespecial 3, 3) := by decide +kernel
theorem dX1_init_4 : decode cX1_init 4 = .ok (.aload_n 0, 1) := by decide +kernel
theorem dX1_init_5 : decode cX1_init 5 = .ok (.new 9, 3) := by decide +kernel
theorem dX1_init_8 : decode cX1_init 8 = .ok (.dup, 1) := by decide +kernel
theorem dX1_init_9 : decode cX1_init 9 = .ok (.invokespecial 11, 3) := by decide +kernel
theorem dX1_init_12 : decode cX1_init 12 = .ok (.putfield 12, 3) := by decide +kernel
theorem dX1_init_15 : decode cX1_init 15 = .ok (.aload_n 0, 1) := by decide +kernel
theorem dX1_init_16 : decode cX1_init 16 = .ok (.new 9, 3) := by decide +kernel
theorem dX1_init_19 : decode cX1_init 19 = .ok (.dup, 1) := by decide +kernel
theorem dX1_init_20 : decode cX1_init 20 = .ok (.invokespecial 11, 3) := by decide +kernel
theorem dX1_init_23 : decode cX1_init 23 = .ok (.putfield 18, 3) := by decide +kernel
theorem dX1_init_26 : decode cX1_init 26 = .ok (.return_, 1) := by decide +kernel
theorem dX1_reason_0 : decode cX1_reason 0 = .ok (.aload_n 0, 1) := by decide +kernel
theorem dX1_reason_1 : decode cX1_reason 1 = .ok (.getfield 12, 3) := by decide +kernel
theorem dX1_reason_4 : decode cX1_reason 4 = .ok (.aload_n 1, 1) := by decide +kernel
theorem dX1_reason_5 : decode cX1_reason 5 = .ok (.getfield 21, 3) := by decide +kernel
theorem dX1_reason_8 : decode cX1_reason 8 = .ok (.iload_n 3, 1) := by decide +kernel
theorem dX1_reason_9 : decode cX1_reason 9 = .ok (.iload 4, 2) := by decide +kernel
theorem dX1_reason_11 : decode cX1_reason 11 = .ok (.iconst 1, 1) := by decide +kernel
theorem dX1_reason_12 : decode cX1_reason 12 = .ok (.invokevirtual 27, 3) := by decide +kernel
theorem dX1_reason_15 : decode cX1_reason 15 = .ok (.aload_n 0, 1) := by decide +kernel
theorem dX1_reason_16 : decode cX1_reason 16 = .ok (.getfield 18, 3) := by decide +kernel
theorem dX1_reason_19 : decode cX1_reason 19 = .ok (.aload_n 1, 1) := by decide +kernel
theorem dX1_reason_20 : decode cX1_reason 20 = .ok (.getfield 21, 3) := by decide +kernel
theorem dX1_reason_23 : decode cX1_reason 23 = .ok (.iload_n 3, 1) := by decide +kernel
theorem dX1_reason_24 : decode cX1_reason 24 = .ok (.iload 4, 2) := by decide +kernel
theorem dX1_reason_26 : decode cX1_reason 26 = .ok (.iconst 0, 1) := by decide +kernel
theorem dX1_reason_27 : decode cX1_reason 27 = .ok (.invokevirtual 27, 3) := by decide +kernel
theorem dX1_reason_30 : decode cX1_reason 30 = .ok (.aload_n 0, 1) := by decide +kernel
theorem dX1_reason_31 : decode cX1_reason 31 = .ok (.getfield 12, 3) := by decide +kernel
theorem dX1_reason_34 : decode cX1_reason 34 = .ok (.getfield 31, 3) := by decide +kernel
theorem dX1_reason_37 : decode cX1_reason 37 = .ok (.aload_n 0, 1) := by decide +kernel
theorem dX1_reason_38 : decode cX1_reason 38 = .ok (.getfield 18, 3) := by decide +kernel
theorem dX1_reason_41 : decode cX1_reason 41 = .ok (.getfield 31, 3) := by decide +kernel
theorem dX1_reason_44 : decode cX1_reason 44 = .ok (.invokestatic 35, 3) := by decide +kernel
theorem dX1_reason_47 : decode cX1_reason 47 = .ok (.aload_n 2, 1) := by decide +kernel
theorem dX1_reason_48 : decode cX1_reason 48 = .ok (.getfield 41, 3) := by decide +kernel
theorem dX1_reason_51 : decode cX1_reason 51 = .ok (.iconst 2, 1) := by decide +kernel
theorem dX1_reason_52 : decode cX1_reason 52 = .ok (.idiv, 1) := by decide +kernel
theorem dX1_reason_53 : decode cX1_reason 53 = .ok (.aload_n 1, 1) := by decide +kernel
theorem dX1_reason_54 : decode cX1_reason 54 = .ok (.getfield 46, 3) := by decide +kernel
theorem dX1_reason_57 : decode cX1_reason 57 = .ok (.iadd, 1) := by decide +kernel
theorem dX1_reason_58 : decode cX1_reason 58 = .ok (.if_icmp .ge 5, 3) := by decide +kernel
theorem dX1_reason_61 : decode cX1_reason 61 = .ok (.iconst 1, 1) := by decide +kernel
theorem dX1_reason_62 : decode cX1_reason 62 = .ok (.ireturn, 1) := by decide +kernel
theorem dX1_reason_63 : decode cX1_reason 63 = .ok (.aload_n 0, 1) := by decide +kernel
theorem dX1_reason_64 : decode cX1_reason 64 = .ok (.getfield 12, 3) := by decide +kernel
theorem dX1_reason_67 : decode cX1_reason 67 = .ok (.getfield 31, 3) := by decide +kernel
theorem dX1_reason_70 : decode cX1_reason 70 = .ok (.aload_n 0, 1) := by decide +kernel
theorem dX1_reason_71 : decode cX1_reason 71 = .ok (.getfield 18, 3) := by decide +kernel
theorem dX1_reason_74 : decode cX1_reason 74 = .ok (.getfield 31, 3) := by decide +kernel
theorem dX1_reason_77 : decode cX1_reason 77 = .ok (.invokestatic 35, 3) := by decide +kernel
theorem dX1_reason_80 : decode cX1_reason 80 = .ok (.aload_n 2, 1) := by decide +kernel
theorem dX1_reason_81 : decode cX1_reason 81 = .ok (.getfield 49, 3) := by decide +kernel
theorem dX1_reason_84 : decode cX1_reason 84 = .ok (.if_icmp .le 5, 3) := by decide +kernel
theorem dX1_reason_87 : decode cX1_reason 87 = .ok (.iconst 2, 1) := by decide +kernel
theorem dX1_reason_88 : decode cX1_reason 88 = .ok (.ireturn, 1) := by decide +kernel
theorem dX1_reason_89 : decode cX1_reason 89 = .ok (.aload_n 0, 1) := by decide +kernel
theorem dX1_reason_90 : decode cX1_reason 90 = .ok (.getfield 12, 3) := by decide +kernel
theorem dX1_reason_93 : decode cX1_reason 93 = .ok (.aload_n 2, 1) := by decide +kernel
theorem dX1_reason_94 : decode cX1_reason 94 = .ok (.getfield 52, 3) := by decide +kernel
theorem dX1_reason_97 : decode cX1_reason 97 = .ok (.invokevirtual 55, 3) := by decide +kernel
theorem dX1_reason_100 : decode cX1_reason 100 = .ok (.ifCond .ne 17, 3) := by decide +kernel
theorem dX1_reason_103 : decode cX1_reason 103 = .ok (.aload_n 0, 1) := by decide +kernel
theorem dX1_reason_104 : decode cX1_reason 104 = .ok (.getfield 18, 3) := by decide +kernel
theorem dX1_reason_107 : decode cX1_reason 107 = .ok (.aload_n 2, 1) := by decide +kernel
theorem dX1_reason_108 : decode cX1_reason 108 = .ok (.getfield 52, 3) := by decide +kernel
theorem dX1_reason_111 : decode cX1_reason 111 = .ok (.invokevirtual 55, 3) := by decide +kernel
theorem dX1_reason_114 : decode cX1_reason 114 = .ok (.ifCond .eq 5, 3) := by decide +kernel
theorem dX1_reason_117 : decode cX1_reason 117 = .ok (.iconst 3, 1) := by decide +kernel
theorem dX1_reason_118 : decode cX1_reason 118 = .ok (.ireturn, 1) := by decide +kernel
theorem dX1_reason_119 : decode cX1_reason 119 = .ok (.aload_n 0, 1) := by decide +kernel
theorem dX1_reason_120 : decode cX1_reason 120 = .ok (.getfield 12, 3) := by decide +kernel
theorem dX1_reason_123 : decode cX1_reason 123 = .ok (.aload_n 2, 1) := by decide +kernel
theorem dX1_reason_124 : decode cX1_reason 124 = .ok (.getfield 59, 3) := by decide +kernel
theorem dX1_reason_127 : decode cX1_reason 127 = .ok (.aload_n 2, 1) := by decide +kernel
theorem dX1_reason_128 : decode cX1_reason 128 = .ok (.getfield 62, 3) := by decide +kernel
theorem dX1_reason_131 : decode cX1_reason 131 = .ok (.invokevirtual 65, 3) := by decide +kernel
theorem dX1_reason_134 : decode cX1_reason 134 = .ok (.ifCond .ne 21, 3) := by decide +kernel
theorem dX1_reason_137 : decode cX1_reason 137 = .ok (.aload_n 0, 1) := by decide +kernel
theorem dX1_reason_138 : decode cX1_reason 138 = .ok (.getfield 18, 3) := by decide +kernel
theorem dX1_reason_141 : decode cX1_reason 141 = .ok (.aload_n 2, 1) := by decide +kernel
theorem dX1_reason_142 : decode cX1_reason 142 = .ok (.getfield 59, 3) := by decide +kernel
theorem dX1_reason_145 : decode cX1_reason 145 = .ok (.aload_n 2, 1) := by decide +kernel
theorem dX1_reason_146 : decode cX1_reason 146 = .ok (.getfield 62, 3) := by decide +kernel
theorem dX1_reason_149 : decode cX1_reason 149 = .ok (.invokevirtual 65, 3) := by decide +kernel
theorem dX1_reason_152 : decode cX1_reason 152 = .ok (.ifCond .eq 5, 3) := by decide +kernel
theorem dX1_reason_155 : decode cX1_reason 155 = .ok (.iconst 4, 1) := by decide +kernel
theorem dX1_reason_156 : decode cX1_reason 156 = .ok (.ireturn, 1) := by decide +kernel
theorem dX1_reason_157 : decode cX1_reason 157 = .ok (.iconst 0, 1) := by decide +kernel
theorem dX1_reason_158 : decode cX1_reason 158 = .ok (.ireturn, 1) := by decide +kernel
theorem dX2_init_0 : decode cX2_init 0 = .ok (.aload_n 0, 1) := by decide +kernel
theorem dX2_init_1 : decode cX2_init 1 = .ok (.invokespecial 3, 3) := by decide +kernel
theorem dX2_init_4 : decode cX2_init 4 = .ok (.aload_n 0, 1) := by decide +kernel
theorem dX2_init_5 : decode cX2_init 5 = .ok (.bipush 6, 2) := by decide +kernel
theorem dX2_init_7 : decode cX2_init 7 = .ok (.newarray .int, 2) := by decide +kernel
theorem dX2_init_9 : decode cX2_init 9 = .ok (.putfield 9, 3) := by decide +kernel
theorem dX2_init_12 : decode cX2_init 12 = .ok (.aload_n 0, 1) := by decide +kernel
theorem dX2_init_13 : decode cX2_init 13 = .ok (.bipush 6, 2) := by decide +kernel
theorem dX2_init_15 : decode cX2_init 15 = .ok (.newarray .int, 2) := by decide +kernel
theorem dX2_init_17 : decode cX2_init 17 = .ok (.putfield 15, 3) := by decide +kernel
theorem dX2_init_20 : decode cX2_init 20 = .ok (.return_, 1) := by decide +kernel
theorem dX2_bends_0 : decode cX2_bends 0 = .ok (.aload_n 0, 1) := by decide +kernel
theorem dX2_bends_1 : decode cX2_bends 1 = .ok (.getfield 18, 3) := by decide +kernel
theorem dX2_bends_4 : decode cX2_bends 4 = .ok (.ifCond .le 12, 3) := by decide +kernel
theorem dX2_bends_7 : decode cX2_bends 7 = .ok (.aload_n 0, 1) := by decide +kernel
theorem dX2_bends_8 : decode cX2_bends 8 = .ok (.getfield 18, 3) := by decide +kernel
theorem dX2_bends_11 : decode cX2_bends 11 = .ok (.iconst 1, 1) := by decide +kernel
theorem dX2_bends_12 : decode cX2_bends 12 = .ok (.isub, 1) := by decide +kernel
theorem dX2_bends_13 : decode cX2_bends 13 = .ok (.goto 4, 3) := by decide +kernel
theorem dX2_bends_16 : decode cX2_bends 16 = .ok (.iconst 0, 1) := by decide +kernel
theorem dX2_bends_17 : decode cX2_bends 17 = .ok (.ireturn, 1) := by decide +kernel
theorem dX2_directionOf_0 : decode cX2_directionOf 0 = .ok (.aload_n 0, 1) := by decide +kernel
theorem dX2_directionOf_1 : decode cX2_directionOf 1 = .ok (.getfield 15, 3) := by decide +kernel
theorem dX2_directionOf_4 : decode cX2_directionOf 4 = .ok (.iload_n 1, 1) := by decide +kernel
theorem dX2_directionOf_5 : decode cX2_directionOf 5 = .ok (.iconst 1, 1) := by decide +kernel
theorem dX2_directionOf_6 : decode cX2_directionOf 6 = .ok (.iadd, 1) := by decide +kernel
theorem dX2_directionOf_7 : decode cX2_directionOf 7 = .ok (.iaload, 1) := by decide +kernel
theorem dX2_directionOf_8 : decode cX2_directionOf 8 = .ok (.ireturn, 1) := by decide +kernel
theorem dX2_wingFaces_0 : decode cX2_wingFaces 0 = .ok (.iload_n 2, 1) := by decide +kernel
theorem dX2_wingFaces_1 : decode cX2_wingFaces 1 = .ok (.ifCond .eq 14, 3) := by decide +kernel
theorem dX2_wingFaces_4 : decode cX2_wingFaces 4 = .ok (.aload_n 0, 1) := by decide +kernel
theorem dX2_wingFaces_5 : decode cX2_wingFaces 5 = .ok (.getfield 18, 3) := by decide +kernel
theorem dX2_wingFaces_8 : decode cX2_wingFaces 8 = .ok (.iconst 1, 1) := by decide +kernel
theorem dX2_wingFaces_9 : decode cX2_wingFaces 9 = .ok (.isub, 1) := by decide +kernel
theorem dX2_wingFaces_10 : decode cX2_wingFaces 10 = .ok (.iload_n 1, 1) := by decide +kernel
theorem dX2_wingFaces_11 : decode cX2_wingFaces 11 = .ok (.isub, 1) := by decide +kernel
theorem dX2_wingFaces_12 : decode cX2_wingFaces 12 = .ok (.goto 6, 3) := by decide +kernel
theorem dX2_wingFaces_15 : decode cX2_wingFaces 15 = .ok (.iload_n 1, 1) := by decide +kernel
theorem dX2_wingFaces_16 : decode cX2_wingFaces 16 = .ok (.iconst 1, 1) := by decide +kernel
theorem dX2_wingFaces_17 : decode cX2_wingFaces 17 = .ok (.iadd, 1) := by decide +kernel
theorem dX2_wingFaces_18 : decode cX2_wingFaces 18 = .ok (.ireturn, 1) := by decide +kernel
theorem dX2_flatLength_0 : decode cX2_flatLength 0 = .ok (.iconst 0, 1) := by decide +kernel
theorem dX2_flatLength_1 : decode cX2_flatLength 1 = .ok (.istore_n 1, 1) := by decide +kernel
theorem dX2_flatLength_2 : decode cX2_flatLength 2 = .ok (.iconst 0, 1) := by decide +kernel
theorem dX2_flatLength_3 : decode cX2_flatLength 3 = .ok (.istore_n 2, 1) := by decide +kernel
theorem dX2_flatLength_4 : decode cX2_flatLength 4 = .ok (.iload_n 2, 1) := by decide +kernel
theorem dX2_flatLength_5 : decode cX2_flatLength 5 = .ok (.aload_n 0, 1) := by decide +kernel
theorem dX2_flatLength_6 : decode cX2_flatLength 6 = .ok (.getfield 18, 3) := by decide +kernel
theorem dX2_flatLength_9 : decode cX2_flatLength 9 = .ok (.if_icmp .ge 18, 3) := by decide +kernel
theorem dX2_flatLength_12 : decode cX2_flatLength 12 = .ok (.iload_n 1, 1) := by decide +kernel
theorem dX2_flatLength_13 : decode cX2_flatLength 13 = .ok (.aload_n 0, 1) := by decide +kernel
theorem dX2_flatLength_14 : decode cX2_flatLength 14 = .ok (.getfield 9, 3) := by decide +kernel
theorem dX2_flatLength_17 : decode cX2_flatLength 17 = .ok (.iload_n 2, 1) := by decide +kernel
theorem dX2_flatLength_18 : decode cX2_flatLength 18 = .ok (.iaload, 1) := by decide +kernel
theorem dX2_flatLength_19 : decode cX2_flatLength 19 = .ok (.iadd, 1) := by decide +kernel
theorem dX2_flatLength_20 : decode cX2_flatLength 20 = .ok (.istore_n 1, 1) := by decide +kernel
theorem dX2_flatLength_21 : decode cX2_flatLength 21 = .ok (.iinc 2 1, 3) := by decide +kernel
theorem dX2_flatLength_24 : decode cX2_flatLength 24 = .ok (.goto (-20), 3) := by decide +kernel
theorem dX2_flatLength_27 : decode cX2_flatLength 27 = .ok (.iload_n 1, 1) := by decide +kernel
theorem dX2_flatLength_28 : decode cX2_flatLength 28 = .ok (.ireturn, 1) := by decide +kernel
theorem dX2_copy_0 : decode cX2_copy 0 = .ok (.aload_n 0, 1) := by decide +kernel
theorem dX2_copy_1 : decode cX2_copy 1 = .ok (.aload_n 1, 1) := by decide +kernel
theorem dX2_copy_2 : decode cX2_copy 2 = .ok (.getfield 18, 3) := by decide +kernel
theorem dX2_copy_5 : decode cX2_copy 5 = .ok (.putfield 18, 3) := by decide +kernel
theorem dX2_copy_8 : decode cX2_copy 8 = .ok (.iconst 0, 1) := by decide +kernel
theorem dX2_copy_9 : decode cX2_copy 9 = .ok (.istore_n 2, 1) := by decide +kernel
theorem dX2_copy_10 : decode cX2_copy 10 = .ok (.iload_n 2, 1) := by decide +kernel
theorem dX2_copy_11 : decode cX2_copy 11 = .ok (.bipush 6, 2) := by decide +kernel
theorem dX2_copy_13 : decode cX2_copy 13 = .ok (.if_icmp .ge 33, 3) := by decide +kernel
theorem dX2_copy_16 : decode cX2_copy 16 = .ok (.aload_n 0, 1) := by decide +kernel
theorem dX2_copy_17 : decode cX2_copy 17 = .ok (.getfield 9, 3) := by decide +kernel
theorem dX2_copy_20 : decode cX2_copy 20 = .ok (.iload_n 2, 1) := by decide +kernel
theorem dX2_copy_21 : decode cX2_copy 21 = .ok (.aload_n 1, 1) := by decide +kernel
theorem dX2_copy_22 : decode cX2_copy 22 = .ok (.getfield 9, 3) := by decide +kernel
theorem dX2_copy_25 : decode cX2_copy 25 = .ok (.iload_n 2, 1) := by decide +kernel
theorem dX2_copy_26 : decode cX2_copy 26 = .ok (.iaload, 1) := by decide +kernel
theorem dX2_copy_27 : decode cX2_copy 27 = .ok (.iastore, 1) := by decide +kernel
theorem dX2_copy_28 : decode cX2_copy 28 = .ok (.aload_n 0, 1) := by decide +kernel
theorem dX2_copy_29 : decode cX2_copy 29 = .ok (.getfield 15, 3) := by decide +kernel
theorem dX2_copy_32 : decode cX2_copy 32 = .ok (.iload_n 2, 1) := by decide +kernel
theorem dX2_copy_33 : decode cX2_copy 33 = .ok (.aload_n 1, 1) := by decide +kernel
theorem dX2_copy_34 : decode cX2_copy 34 = .ok (.getfield 15, 3) := by decide +kernel
theorem dX2_copy_37 : decode cX2_copy 37 = .ok (.iload_n 2, 1) := by decide +kernel
theorem dX2_copy_38 : decode cX2_copy 38 = .ok (.iaload, 1) := by decide +kernel
theorem dX2_copy_39 : decode cX2_copy 39 = .ok (.iastore, 1) := by decide +kernel
theorem dX2_copy_40 : decode cX2_copy 40 = .ok (.iinc 2 1, 3) := by decide +kernel
theorem dX2_copy_43 : decode cX2_copy 43 = .ok (.goto (-33), 3) := by decide +kernel
theorem dX2_copy_46 : decode cX2_copy 46 = .ok (.return_, 1) := by decide +kernel
theorem dX2_isAs_0 : decode cX2_isAs 0 = .ok (.aload_n 0, 1) := by decide +kernel
theorem dX2_isAs_1 : decode cX2_isAs 1 = .ok (.getfield 18, 3) := by decide +kernel
theorem dX2_isAs_4 : decode cX2_isAs 4 = .ok (.aload_n 1, 1) := by decide +kernel
theorem dX2_isAs_5 : decode cX2_isAs 5 = .ok (.getfield 18, 3) := by decide +kernel
theorem dX2_isAs_8 : decode cX2_isAs 8 = .ok (.if_icmp .eq 5, 3) := by decide +kernel
theorem dX2_isAs_11 : decode cX2_isAs 11 = .ok (.iconst 0, 1) := by decide +kernel
theorem dX2_isAs_12 : decode cX2_isAs 12 = .ok (.ireturn, 1) := by decide +kernel
theorem dX2_isAs_13 : decode cX2_isAs 13 = .ok (.iconst 0, 1) := by decide +kernel
theorem dX2_isAs_14 : decode cX2_isAs 14 = .ok (.istore_n 2, 1) := by decide +kernel
theorem dX2_isAs_15 : decode cX2_isAs 15 = .ok (.iload_n 2, 1) := by decide +kernel
theorem dX2_isAs_16 : decode cX2_isAs 16 = .ok (.aload_n 0, 1) := by decide +kernel
theorem dX2_isAs_17 : decode cX2_isAs 17 = .ok (.getfield 18, 3) := by decide +kernel
theorem dX2_isAs_20 : decode cX2_isAs 20 = .ok (.if_icmp .ge 55, 3) := by decide +kernel
theorem dX2_isAs_23 : decode cX2_isAs 23 = .ok (.iload_n 2, 1) := by decide +kernel
theorem dX2_isAs_24 : decode cX2_isAs 24 = .ok (.ifCond .le 22, 3) := by decide +kernel
theorem dX2_isAs_27 : decode cX2_isAs 27 = .ok (.aload_n 0, 1) := by decide +kernel
theorem dX2_isAs_28 : decode cX2_isAs 28 = .ok (.getfield 15, 3) := by decide +kernel
theorem dX2_isAs_31 : decode cX2_isAs 31 = .ok (.iload_n 2, 1) := by decide +kernel
theorem dX2_isAs_32 : decode cX2_isAs 32 = .ok (.iaload, 1) := by decide +kernel
theorem dX2_isAs_33 : decode cX2_isAs 33 = .ok (.aload_n 1, 1) := by decide +kernel
theorem dX2_isAs_34 : decode cX2_isAs 34 = .ok (.getfield 15, 3) := by decide +kernel
theorem dX2_isAs_37 : decode cX2_isAs 37 = .ok (.iload_n 2, 1) := by decide +kernel
theorem dX2_isAs_38 : decode cX2_isAs 38 = .ok (.iaload, 1) := by decide +kernel
theorem dX2_isAs_39 : decode cX2_isAs 39 = .ok (.if_icmp .eq 7, 3) := by decide +kernel
theorem dX2_isAs_42 : decode cX2_isAs 42 = .ok (.iconst 1, 1) := by decide +kernel
theorem dX2_isAs_43 : decode cX2_isAs 43 = .ok (.goto 4, 3) := by decide +kernel
theorem dX2_isAs_46 : decode cX2_isAs 46 = .ok (.iconst 0, 1) := by decide +kernel
theorem dX2_isAs_47 : decode cX2_isAs 47 = .ok (.istore_n 3, 1) := by decide +kernel
theorem dX2_isAs_48 : decode cX2_isAs 48 = .ok (.iload_n 3, 1) := by decide +kernel
theorem dX2_isAs_49 : decode cX2_isAs 49 = .ok (.ifCond .ne 18, 3) := by decide +kernel
theorem dX2_isAs_52 : decode cX2_isAs 52 = .ok (.aload_n 0, 1) := by decide +kernel
theorem dX2_isAs_53 : decode cX2_isAs 53 = .ok (.getfield 9, 3) := by decide +kernel
theorem dX2_isAs_56 : decode cX2_isAs 56 = .ok (.iload_n 2, 1) := by decide +kernel
theorem dX2_isAs_57 : decode cX2_isAs 57 = .ok (.iaload, 1) := by decide +kernel
theorem dX2_isAs_58 : decode cX2_isAs 58 = .ok (.aload_n 1, 1) := by decide +kernel
theorem dX2_isAs_59 : decode cX2_isAs 59 = .ok (.getfield 9, 3) := by decide +kernel
theorem dX2_isAs_62 : decode cX2_isAs 62 = .ok (.iload_n 2, 1) := by decide +kernel
theorem dX2_isAs_63 : decode cX2_isAs 63 = .ok (.iaload, 1) := by decide +kernel
theorem dX2_isAs_64 : decode cX2_isAs 64 = .ok (.if_icmp .eq 5, 3) := by decide +kernel
theorem dX2_isAs_67 : decode cX2_isAs 67 = .ok (.iconst 0, 1) := by decide +kernel
theorem dX2_isAs_68 : decode cX2_isAs 68 = .ok (.ireturn, 1) := by decide +kernel
theorem dX2_isAs_69 : decode cX2_isAs 69 = .ok (.iinc 2 1, 3) := by decide +kernel
theorem dX2_isAs_72 : decode cX2_isAs 72 = .ok (.goto (-57), 3) := by decide +kernel
theorem dX2_isAs_75 : decode cX2_isAs 75 = .ok (.iconst 1, 1) := by decide +kernel
theorem dX2_isAs_76 : decode cX2_isAs 76 = .ok (.ireturn, 1) := by decide +kernel
theorem dX3_init_0 : decode cX3_init 0 = .ok (.aload_n 0, 1) := by decide +kernel
theorem dX3_init_1 : decode cX3_init 1 = .ok (.invokespecial 3, 3) := by decide +kernel
theorem dX3_init_4 : decode cX3_init 4 = .ok (.aload_n 0, 1) := by decide +kernel
theorem dX3_init_5 : decode cX3_init 5 = .ok (.bipush 8, 2) := by decide +kernel
theorem dX3_init_7 : decode cX3_init 7 = .ok (.newarray .int, 2) := by decide +kernel
theorem dX3_init_9 : decode cX3_init 9 = .ok (.putfield 9, 3) := by decide +kernel
theorem dX3_init_12 : decode cX3_init 12 = .ok (.aload_n 0, 1) := by decide +kernel
theorem dX3_init_13 : decode cX3_init 13 = .ok (.bipush 8, 2) := by decide +kernel
theorem dX3_init_15 : decode cX3_init 15 = .ok (.newarray .int, 2) := by decide +kernel
theorem dX3_init_17 : decode cX3_init 17 = .ok (.putfield 15, 3) := by decide +kernel
theorem dX3_init_20 : decode cX3_init 20 = .ok (.aload_n 0, 1) := by decide +kernel
theorem dX3_init_21 : decode cX3_init 21 = .ok (.bipush 8, 2) := by decide +kernel
theorem dX3_init_23 : decode cX3_init 23 = .ok (.newarray .int, 2) := by decide +kernel
theorem dX3_init_25 : decode cX3_init 25 = .ok (.putfield 18, 3) := by decide +kernel
theorem dX3_init_28 : decode cX3_init 28 = .ok (.aload_n 0, 1) := by decide +kernel
theorem dX3_init_29 : decode cX3_init 29 = .ok (.bipush 40, 2) := by decide +kernel
theorem dX3_init_31 : decode cX3_init 31 = .ok (.newarray .int, 2) := by decide +kernel
theorem dX3_init_33 : decode cX3_init 33 = .ok (.putfield 21, 3) := by decide +kernel
theorem dX3_init_36 : decode cX3_init 36 = .ok (.aload_n 0, 1) := by decide +kernel
theorem dX3_init_37 : decode cX3_init 37 = .ok (.bipush 40, 2) := by decide +kernel
theorem dX3_init_39 : decode cX3_init 39 = .ok (.newarray .int, 2) := by decide +kernel
theorem dX3_init_41 : decode cX3_init 41 = .ok (.putfield 24, 3) := by decide +kernel
theorem dX3_init_44 : decode cX3_init 44 = .ok (.aload_n 0, 1) := by decide +kernel
theorem dX3_init_45 : decode cX3_init 45 = .ok (.bipush 40, 2) := by decide +kernel
theorem dX3_init_47 : decode cX3_init 47 = .ok (.newarray .int, 2) := by decide +kernel
theorem dX3_init_49 : decode cX3_init 49 = .ok (.putfield 27, 3) := by decide +kernel
theorem dX3_init_52 : decode cX3_init 52 = .ok (.aload_n 0, 1) := by decide +kernel
theorem dX3_init_53 : decode cX3_init 53 = .ok (.bipush 40, 2) := by decide +kernel
theorem dX3_init_55 : decode cX3_init 55 = .ok (.newarray .int, 2) := by decide +kernel
theorem dX3_init_57 : decode cX3_init 57 = .ok (.putfield 30, 3) := by decide +kernel
theorem dX3_init_60 : decode cX3_init 60 = .ok (.aload_n 0, 1) := by decide +kernel
theorem dX3_init_61 : decode cX3_init 61 = .ok (.bipush 40, 2) := by decide +kernel
theorem dX3_init_63 : decode cX3_init 63 = .ok (.newarray .int, 2) := by decide +kernel
theorem dX3_init_65 : decode cX3_init 65 = .ok (.putfield 33, 3) := by decide +kernel
theorem dX3_init_68 : decode cX3_init 68 = .ok (.return_, 1) := by decide +kernel
theorem dX3_start_0 : decode cX3_start 0 = .ok (.aload_n 0, 1) := by decide +kernel
theorem dX3_start_1 : decode cX3_start 1 = .ok (.iload_n 1, 1) := by decide +kernel
theorem dX3_start_2 : decode cX3_start 2 = .ok (.putfield 36, 3) := by decide +kernel
theorem dX3_start_5 : decode cX3_start 5 = .ok (.aload_n 0, 1) := by decide +kernel
theorem dX3_start_6 : decode cX3_start 6 = .ok (.iload_n 2, 1) := by decide +kernel
theorem dX3_start_7 : decode cX3_start 7 = .ok (.putfield 40, 3) := by decide +kernel
theorem dX3_start_10 : decode cX3_start 10 = .ok (.aload_n 0, 1) := by decide +kernel
theorem dX3_start_11 : decode cX3_start 11 = .ok (.iconst 0, 1) := by decide +kernel
theorem dX3_start_12 : decode cX3_start 12 = .ok (.putfield 43, 3) := by decide +kernel
theorem dX3_start_15 : decode cX3_start 15 = .ok (.aload_n 0, 1) := by decide +kernel
theorem dX3_start_16 : decode cX3_start 16 = .ok (.iconst 0, 1) := by decide +kernel
theorem dX3_start_17 : decode cX3_start 17 = .ok (.putfield 46, 3) := by decide +kernel
theorem dX3_start_20 : decode cX3_start 20 = .ok (.aload_n 0, 1) := by decide +kernel
theorem dX3_start_21 : decode cX3_start 21 = .ok (.iconst 0, 1) := by decide +kernel
theorem dX3_start_22 : decode cX3_start 22 = .ok (.putfield 49, 3) := by decide +kernel
theorem dX3_start_25 : decode cX3_start 25 = .ok (.aload_n 0, 1) := by decide +kernel
theorem dX3_start_26 : decode cX3_start 26 = .ok (.lconst 0, 1) := by decide +kernel
theorem dX3_start_27 : decode cX3_start 27 = .ok (.putfield 52, 3) := by decide +kernel
theorem dX3_start_30 : decode cX3_start 30 = .ok (.aload_n 0, 1) := by decide +kernel
theorem dX3_start_31 : decode cX3_start 31 = .ok (.lconst 0, 1) := by decide +kernel
theorem dX3_start_32 : decode cX3_start 32 = .ok (.putfield 56, 3) := by decide +kernel
theorem dX3_start_35 : decode cX3_start 35 = .ok (.return_, 1) := by decide +kernel
theorem dX3_addKind_0 : decode cX3_addKind 0 = .ok (.aload_n 0, 1) := by decide +kernel
theorem dX3_addKind_1 : decode cX3_addKind 1 = .ok (.getfield 43, 3) := by decide +kernel
theorem dX3_addKind_4 : decode cX3_addKind 4 = .ok (.bipush 8, 2) := by decide +kernel
theorem dX3_addKind_6 : decode cX3_addKind 6 = .ok (.if_icmp .lt 4, 3) := by decide +kernel
theorem dX3_addKind_9 : decode cX3_addKind 9 = .ok (.return_, 1) := by decide +kernel
theorem dX3_addKind_10 : decode cX3_addKind 10 = .ok (.iload_n 1, 1) := by decide +kernel
theorem dX3_addKind_11 : decode cX3_addKind 11 = .ok (.iload_n 2, 1) := by decide +kernel
theorem dX3_addKind_12 : decode cX3_addKind 12 = .ok (.invokestatic 59, 3) := by decide +kernel
theorem dX3_addKind_15 : decode cX3_addKind 15 = .ok (.istore 4, 2) := by decide +kernel
theorem dX3_addKind_17 : decode cX3_addKind 17 = .ok (.iload_n 1, 1) := by decide +kernel
theorem dX3_addKind_18 : decode cX3_addKind 18 = .ok (.iload_n 2, 1) := by decide +kernel
theorem dX3_addKind_19 : decode cX3_addKind 19 = .ok (.invokestatic 65, 3) := by decide +kernel
theorem dX3_addKind_22 : decode cX3_addKind 22 = .ok (.istore 5, 2) := by decide +kernel
theorem dX3_addKind_24 : decode cX3_addKind 24 = .ok (.aload_n 0, 1) := by decide +kernel
theorem dX3_addKind_25 : decode cX3_addKind 25 = .ok (.getfield 43, 3) := by decide +kernel
theorem dX3_addKind_28 : decode cX3_addKind 28 = .ok (.istore 6, 2) := by decide +kernel
theorem dX3_addKind_30 : decode cX3_addKind 30 = .ok (.iload 6, 2) := by decide +kernel
theorem dX3_addKind_32 : decode cX3_addKind 32 = .ok (.ifCond .le 72, 3) := by decide +kernel
theorem dX3_addKind_35 : decode cX3_addKind 35 = .ok (.aload_n 0, 1) := by decide +kernel
theorem dX3_addKind_36 : decode cX3_addKind 36 = .ok (.iload 4, 2) := by decide +kernel
theorem dX3_addKind_38 : decode cX3_addKind 38 = .ok (.iload 5, 2) := by decide +kernel
theorem dX3_addKind_40 : decode cX3_addKind 40 = .ok (.iload 6, 2) := by decide +kernel
theorem dX3_addKind_42 : decode cX3_addKind 42 = .ok (.iconst 1, 1) := by decide +kernel
theorem dX3_addKind_43 : decode cX3_addKind 43 = .ok (.isub, 1) := by decide +kernel
theorem dX3_addKind_44 : decode cX3_addKind 44 = .ok (.invokevirtual 68, 3) := by decide +kernel
theorem dX3_addKind_47 : decode cX3_addKind 47 = .ok (.ifCond .eq 57, 3) := by decide +kernel
theorem dX3_addKind_50 : decode cX3_addKind 50 = .ok (.aload_n 0, 1) := by decide +kernel
theorem dX3_addKind_51 : decode cX3_addKind 51 = .ok (.getfield 9, 3) := by decide +kernel
theorem dX3_addKind_54 : decode cX3_addKind 54 = .ok (.iload 6, 2) := by decide +kernel
theorem dX3_addKind_56 : decode cX3_addKind 56 = .ok (.aload_n 0, 1) := by decide +kernel
theorem dX3_addKind_57 : decode cX3_addKind 57 = .ok (.getfield 9, 3) := by decide +kernel
theorem dX3_addKind_60 : decode cX3_addKind 60 = .ok (.iload 6, 2) := by decide +kernel
theorem dX3_addKind_62 : decode cX3_addKind 62 = .ok (.iconst 1, 1) := by decide +kernel
theorem dX3_addKind_63 : decode cX3_addKind 63 = .ok (.isub, 1) := by decide +kernel
theorem dX3_addKind_64 : decode cX3_addKind 64 = .ok (.iaload, 1) := by decide +kernel
theorem dX3_addKind_65 : decode cX3_addKind 65 = .ok (.iastore, 1) := by decide +kernel
theorem dX3_addKind_66 : decode cX3_addKind 66 = .ok (.aload_n 0, 1) := by decide +kernel
theorem dX3_addKind_67 : decode cX3_addKind 67 = .ok (.getfield 15, 3) := by decide +kernel
theorem dX3_addKind_70 : decode cX3_addKind 70 = .ok (.iload 6, 2) := by decide +kernel
theorem dX3_addKind_72 : decode cX3_addKind 72 = .ok (.aload_n 0, 1) := by decide +kernel
theorem dX3_addKind_73 : decode cX3_addKind 73 = .ok (.getfield 15, 3) := by decide +kernel
theorem dX3_addKind_76 : decode cX3_addKind 76 = .ok (.iload 6, 2) := by decide +kernel
theorem dX3_addKind_78 : decode cX3_addKind 78 = .ok (.iconst 1, 1) := by decide +kernel
theorem dX3_addKind_79 : decode cX3_addKind 79 = .ok (.isub, 1) := by decide +kernel
theorem dX3_addKind_80 : decode cX3_addKind 80 = .ok (.iaload, 1) := by decide +kernel
theorem dX3_addKind_81 : decode cX3_addKind 81 = .ok (.iastore, 1) := by decide +kernel
theorem dX3_addKind_82 : decode cX3_addKind 82 = .ok (.aload_n 0, 1) := by decide +kernel
theorem dX3_addKind_83 : decode cX3_addKind 83 = .ok (.getfield 18, 3) := by decide +kernel
theorem dX3_addKind_86 : decode cX3_addKind 86 = .ok (.iload 6, 2) := by decide +kernel
theorem dX3_addKind_88 : decode cX3_addKind 88 = .ok (.aload_n 0, 1) := by decide +kernel
theorem dX3_addKind_89 : decode cX3_addKind 89 = .ok (.getfield 18, 3) := by decide +kernel
theorem dX3_addKind_92 : decode cX3_addKind 92 = .ok (.iload 6, 2) := by decide +kernel
theorem dX3_addKind_94 : decode cX3_addKind 94 = .ok (.iconst 1, 1) := by decide +kernel
theorem dX3_addKind_95 : decode cX3_addKind 95 = .ok (.isub, 1) := by decide +kernel
theorem dX3_addKind_96 : decode cX3_addKind 96 = .ok (.iaload, 1) := by decide +kernel
theorem dX3_addKind_97 : decode cX3_addKind 97 = .ok (.iastore, 1) := by decide +kernel
theorem dX3_addKind_98 : decode cX3_addKind 98 = .ok (.iinc 6 (-1), 3) := by decide +kernel
theorem dX3_addKind_101 : decode cX3_addKind 101 = .ok (.goto (-71), 3) := by decide +kernel
theorem dX3_addKind_104 : decode cX3_addKind 104 = .ok (.aload_n 0, 1) := by decide +kernel
theorem dX3_addKind_105 : decode cX3_addKind 105 = .ok (.getfield 9, 3) := by decide +kernel
theorem dX3_addKind_108 : decode cX3_addKind 108 = .ok (.iload 6, 2) := by decide +kernel
theorem dX3_addKind_110 : decode cX3_addKind 110 = .ok (.iload 4, 2) := by decide +kernel
theorem dX3_addKind_112 : decode cX3_addKind 112 = .ok (.iastore, 1) := by decide +kernel
theorem dX3_addKind_113 : decode cX3_addKind 113 = .ok (.aload_n 0, 1) := by decide +kernel
theorem dX3_addKind_114 : decode cX3_addKind 114 = .ok (.getfield 15, 3) := by decide +kernel
theorem dX3_addKind_117 : decode cX3_addKind 117 = .ok (.iload 6, 2) := by decide +kernel
theorem dX3_addKind_119 : decode cX3_addKind 119 = .ok (.iload 5, 2) := by decide +kernel
theorem dX3_addKind_121 : decode cX3_addKind 121 = .ok (.iastore, 1) := by decide +kernel
theorem dX3_addKind_122 : decode cX3_addKind 122 = .ok (.aload_n 0, 1) := by decide +kernel
theorem dX3_addKind_123 : decode cX3_addKind 123 = .ok (.getfield 18, 3) := by decide +kernel
theorem dX3_addKind_126 : decode cX3_addKind 126 = .ok (.iload 6, 2) := by decide +kernel
theorem dX3_addKind_128 : decode cX3_addKind 128 = .ok (.iload_n 3, 1) := by decide +kernel
theorem dX3_addKind_129 : decode cX3_addKind 129 = .ok (.iastore, 1) := by decide +kernel
theorem dX3_addKind_130 : decode cX3_addKind 130 = .ok (.aload_n 0, 1) := by decide +kernel
theorem dX3_addKind_131 : decode cX3_addKind 131 = .ok (.dup, 1) := by decide +kernel
theorem dX3_addKind_132 : decode cX3_addKind 132 = .ok (.getfield 43, 3) := by decide +kernel
theorem dX3_addKind_135 : decode cX3_addKind 135 = .ok (.iconst 1, 1) := by decide +kernel
theorem dX3_addKind_136 : decode cX3_addKind 136 = .ok (.iadd, 1) := by decide +kernel
theorem dX3_addKind_137 : decode cX3_addKind 137 = .ok (.putfield 43, 3) := by decide +kernel
theorem dX3_addKind_140 : decode cX3_addKind 140 = .ok (.return_, 1) := by decide +kernel
theorem dX3_isBigger_0 : decode cX3_isBigger 0 = .ok (.iload_n 1, 1) := by decide +kernel
theorem dX3_isBigger_1 : decode cX3_isBigger 1 = .ok (.aload_n 0, 1) := by decide +kernel
theorem dX3_isBigger_2 : decode cX3_isBigger 2 = .ok (.getfield 9, 3) := by decide +kernel
theorem dX3_isBigger_5 : decode cX3_isBigger 5 = .ok (.iload_n 3, 1) := by decide +kernel
theorem dX3_isBigger_6 : decode cX3_isBigger 6 = .ok (.iaload, 1) := by decide +kernel
theorem dX3_isBigger_7 : decode cX3_isBigger 7 = .ok (.if_icmp .gt 23, 3) := by decide +kernel
theorem dX3_isBigger_10 : decode cX3_isBigger 10 = .ok (.iload_n 1, 1) := by decide +kernel
theorem dX3_isBigger_11 : decode cX3_isBigger 11 = .ok (.aload_n 0, 1) := by decide +kernel
theorem dX3_isBigger_12 : decode cX3_isBigger 12 = .ok (.getfield 9, 3) := by decide +kernel
theorem dX3_isBigger_15 : decode cX3_isBigger 15 = .ok (.iload_n 3, 1) := by decide +kernel
theorem dX3_isBigger_16 : decode cX3_isBigger 16 = .ok (.iaload, 1) := by decide +kernel
theorem dX3_isBigger_17 : decode cX3_isBigger 17 = .ok (.if_icmp .ne 17, 3) := by decide +kernel
theorem dX3_isBigger_20 : decode cX3_isBigger 20 = .ok (.iload_n 2, 1) := by decide +kernel
theorem dX3_isBigger_21 : decode cX3_isBigger 21 = .ok (.aload_n 0, 1) := by decide +kernel
theorem dX3_isBigger_22 : decode cX3_isBigger 22 = .ok (.getfield 15, 3) := by decide +kernel
theorem dX3_isBigger_25 : decode cX3_isBigger 25 = .ok (.iload_n 3, 1) := by decide +kernel
theorem dX3_isBigger_26 : decode cX3_isBigger 26 = .ok (.iaload, 1) := by decide +kernel
theorem dX3_isBigger_27 : decode cX3_isBigger 27 = .ok (.if_icmp .le 7, 3) := by decide +kernel
theorem dX3_isBigger_30 : decode cX3_isBigger 30 = .ok (.iconst 1, 1) := by decide +kernel
theorem dX3_isBigger_31 : decode cX3_isBigger 31 = .ok (.goto 4, 3) := by decide +kernel
theorem dX3_isBigger_34 : decode cX3_isBigger 34 = .ok (.iconst 0, 1) := by decide +kernel
theorem dX3_isBigger_35 : decode cX3_isBigger 35 = .ok (.ireturn, 1) := by decide +kernel
theorem dX3_doAllFit_0 : decode cX3_doAllFit 0 = .ok (.iconst 0, 1) := by decide +kernel
theorem dX3_doAllFit_1 : decode cX3_doAllFit 1 = .ok (.istore_n 1, 1) := by decide +kernel
theorem dX3_doAllFit_2 : decode cX3_doAllFit 2 = .ok (.iload_n 1, 1) := by decide +kernel
theorem dX3_doAllFit_3 : decode cX3_doAllFit 3 = .ok (.aload_n 0, 1) := by decide +kernel
theorem dX3_doAllFit_4 : decode cX3_doAllFit 4 = .ok (.getfield 43, 3) := by decide +kernel
theorem dX3_doAllFit_7 : decode cX3_doAllFit 7 = .ok (.if_icmp .ge 37, 3) := by decide +kernel
theorem dX3_doAllFit_10 : decode cX3_doAllFit 10 = .ok (.aload_n 0, 1) := by decide +kernel
theorem dX3_doAllFit_11 : decode cX3_doAllFit 11 = .ok (.getfield 9, 3) := by decide +kernel
theorem dX3_doAllFit_14 : decode cX3_doAllFit 14 = .ok (.iload_n 1, 1) := by decide +kernel
theorem dX3_doAllFit_15 : decode cX3_doAllFit 15 = .ok (.iaload, 1) := by decide +kernel
theorem dX3_doAllFit_16 : decode cX3_doAllFit 16 = .ok (.aload_n 0, 1) := by decide +kernel
theorem dX3_doAllFit_17 : decode cX3_doAllFit 17 = .ok (.getfield 36, 3) := by decide +kernel
theorem dX3_doAllFit_20 : decode cX3_doAllFit 20 = .ok (.if_icmp .gt 16, 3) := by decide +kernel
theorem dX3_doAllFit_23 : decode cX3_doAllFit 23 = .ok (.aload_n 0, 1) := by decide +kernel
theorem dX3_doAllFit_24 : decode cX3_doAllFit 24 = .ok (.getfield 15, 3) := by decide +kernel
theorem dX3_doAllFit_27 : decode cX3_doAllFit 27 = .ok (.iload_n 1, 1) := by decide +kernel
theorem dX3_doAllFit_28 : decode cX3_doAllFit 28 = .ok (.iaload, 1) := by decide +kernel
theorem dX3_doAllFit_29 : decode cX3_doAllFit 29 = .ok (.aload_n 0, 1) := by decide +kernel
theorem dX3_doAllFit_30 : decode cX3_doAllFit 30 = .ok (.getfield 40, 3) := by decide +kernel
theorem dX3_doAllFit_33 : decode cX3_doAllFit 33 = .ok (.if_icmp .le 5, 3) := by decide +kernel
theorem dX3_doAllFit_36 : decode cX3_doAllFit 36 = .ok (.iconst 0, 1) := by decide +kernel
theorem dX3_doAllFit_37 : decode cX3_doAllFit 37 = .ok (.ireturn, 1) := by decide +kernel
theorem dX3_doAllFit_38 : decode cX3_doAllFit 38 = .ok (.iinc 1 1, 3) := by decide +kernel
theorem dX3_doAllFit_41 : decode cX3_doAllFit 41 = .ok (.goto (-39), 3) := by decide +kernel
theorem dX3_doAllFit_44 : decode cX3_doAllFit 44 = .ok (.iconst 1, 1) := by decide +kernel
theorem dX3_doAllFit_45 : decode cX3_doAllFit 45 = .ok (.ireturn, 1) := by decide +kernel
theorem dX3_layAll_0 : decode cX3_layAll 0 = .ok (.iconst 0, 1) := by decide +kernel
theorem dX3_layAll_1 : decode cX3_layAll 1 = .ok (.istore_n 1, 1) := by decide +kernel
theorem dX3_layAll_2 : decode cX3_layAll 2 = .ok (.iload_n 1, 1) := by decide +kernel
theorem dX3_layAll_3 : decode cX3_layAll 3 = .ok (.aload_n 0, 1) := by decide +kernel
theorem dX3_layAll_4 : decode cX3_layAll 4 = .ok (.getfield 43, 3) := by decide +kernel
theorem dX3_layAll_7 : decode cX3_layAll 7 = .ok (.if_icmp .ge 43, 3) := by decide +kernel
theorem dX3_layAll_10 : decode cX3_layAll 10 = .ok (.iconst 0, 1) := by decide +kernel
theorem dX3_layAll_11 : decode cX3_layAll 11 = .ok (.istore_n 2, 1) := by decide +kernel
theorem dX3_layAll_12 : decode cX3_layAll 12 = .ok (.iload_n 2, 1) := by decide +kernel
theorem dX3_layAll_13 : decode cX3_layAll 13 = .ok (.aload_n 0, 1) := by decide +kernel
theorem dX3_layAll_14 : decode cX3_layAll 14 = .ok (.getfield 18, 3) := by decide +kernel
theorem dX3_layAll_17 : decode cX3_layAll 17 = .ok (.iload_n 1, 1) := by decide +kernel
theorem dX3_layAll_18 : decode cX3_layAll 18 = .ok (.iaload, 1) := by decide +kernel
theorem dX3_layAll_19 : decode cX3_layAll 19 = .ok (.if_icmp .ge 25, 3) := by decide +kernel
theorem dX3_layAll_22 : decode cX3_layAll 22 = .ok (.aload_n 0, 1) := by decide +kernel
theorem dX3_layAll_23 : decode cX3_layAll 23 = .ok (.aload_n 0, 1) := by decide +kernel
theorem dX3_layAll_24 : decode cX3_layAll 24 = .ok (.getfield 9, 3) := by decide +kernel
theorem dX3_layAll_27 : decode cX3_layAll 27 = .ok (.iload_n 1, 1) := by decide +kernel
theorem dX3_layAll_28 : decode cX3_layAll 28 = .ok (.iaload, 1) := by decide +kernel
theorem dX3_layAll_29 : decode cX3_layAll 29 = .ok (.aload_n 0, 1) := by decide +kernel
theorem dX3_layAll_30 : decode cX3_layAll 30 = .ok (.getfield 15, 3) := by decide +kernel
theorem dX3_layAll_33 : decode cX3_layAll 33 = .ok (.iload_n 1, 1) := by decide +kernel
theorem dX3_layAll_34 : decode cX3_layAll 34 = .ok (.iaload, 1) := by decide +kernel
theorem dX3_layAll_35 : decode cX3_layAll 35 = .ok (.invokevirtual 72, 3) := by decide +kernel
theorem dX3_layAll_38 : decode cX3_layAll 38 = .ok (.iinc 2 1, 3) := by decide +kernel
theorem dX3_layAll_41 : decode cX3_layAll 41 = .ok (.goto (-29), 3) := by decide +kernel
theorem dX3_layAll_44 : decode cX3_layAll 44 = .ok (.iinc 1 1, 3) := by decide +kernel
theorem dX3_layAll_47 : decode cX3_layAll 47 = .ok (.goto (-45), 3) := by decide +kernel
theorem dX3_layAll_50 : decode cX3_layAll 50 = .ok (.return_, 1) := by decide +kernel
theorem dX3_lay_0 : decode cX3_lay 0 = .ok (.aload_n 0, 1) := by decide +kernel
theorem dX3_lay_1 : decode cX3_lay 1 = .ok (.iload_n 1, 1) := by decide +kernel
theorem dX3_lay_2 : decode cX3_lay 2 = .ok (.iload_n 2, 1) := by decide +kernel
theorem dX3_lay_3 : decode cX3_lay 3 = .ok (.invokevirtual 76, 3) := by decide +kernel
theorem dX3_lay_6 : decode cX3_lay 6 = .ok (.istore_n 3, 1) := by decide +kernel
theorem dX3_lay_7 : decode cX3_lay 7 = .ok (.iload_n 3, 1) := by decide +kernel
theorem dX3_lay_8 : decode cX3_lay 8 = .ok (.iconst (-1), 1) := by decide +kernel
theorem dX3_lay_9 : decode cX3_lay 9 = .ok (.if_icmp .ne 9, 3) := by decide +kernel
theorem dX3_lay_12 : decode cX3_lay 12 = .ok (.aload_n 0, 1) := by decide +kernel
theorem dX3_lay_13 : decode cX3_lay 13 = .ok (.iload_n 2, 1) := by decide +kernel
theorem dX3_lay_14 : decode cX3_lay 14 = .ok (.invokevirtual 79, 3) := by decide +kernel
theorem dX3_lay_17 : decode cX3_lay 17 = .ok (.istore_n 3, 1) := by decide +kernel
theorem dX3_lay_18 : decode cX3_lay 18 = .ok (.iload_n 3, 1) := by decide +kernel
theorem dX3_lay_19 : decode cX3_lay 19 = .ok (.iconst (-1), 1) := by decide +kernel
theorem dX3_lay_20 : decode cX3_lay 20 = .ok (.if_icmp .ne 4, 3) := by decide +kernel
theorem dX3_lay_23 : decode cX3_lay 23 = .ok (.return_, 1) := by decide +kernel
theorem dX3_lay_24 : decode cX3_lay 24 = .ok (.aload_n 0, 1) := by decide +kernel
theorem dX3_lay_25 : decode cX3_lay 25 = .ok (.dup, 1) := by decide +kernel
theorem dX3_lay_26 : decode cX3_lay 26 = .ok (.getfield 52, 3) := by decide +kernel
theorem dX3_lay_29 : decode cX3_lay 29 = .ok (.iconst 2, 1) := by decide +kernel
theorem dX3_lay_30 : decode cX3_lay 30 = .ok (.iload_n 1, 1) := by decide +kernel
theorem dX3_lay_31 : decode cX3_lay 31 = .ok (.iload_n 2, 1) := by decide +kernel
theorem dX3_lay_32 : decode cX3_lay 32 = .ok (.iadd, 1) := by decide +kernel
theorem dX3_lay_33 : decode cX3_lay 33 = .ok (.imul, 1) := by decide +kernel
theorem dX3_lay_34 : decode cX3_lay 34 = .ok (.i2l, 1) := by decide +kernel
theorem dX3_lay_35 : decode cX3_lay 35 = .ok (.ladd, 1) := by decide +kernel
theorem dX3_lay_36 : decode cX3_lay 36 = .ok (.putfield 52, 3) := by decide +kernel
theorem dX3_lay_39 : decode cX3_lay 39 = .ok (.aload_n 0, 1) := by decide +kernel
theorem dX3_lay_40 : decode cX3_lay 40 = .ok (.getfield 30, 3) := by decide +kernel
theorem dX3_lay_43 : decode cX3_lay 43 = .ok (.iload_n 3, 1) := by decide +kernel
theorem dX3_lay_44 : decode cX3_lay 44 = .ok (.iaload, 1) := by decide +kernel
theorem dX3_lay_45 : decode cX3_lay 45 = .ok (.iload_n 2, 1) := by decide +kernel
theorem dX3_lay_46 : decode cX3_lay 46 = .ok (.if_icmp .ne 14, 3) := by decide +kernel
theorem dX3_lay_49 : decode cX3_lay 49 = .ok (.aload_n 0, 1) := by decide +kernel
theorem dX3_lay_50 : decode cX3_lay 50 = .ok (.dup, 1) := by decide +kernel
theorem dX3_lay_51 : decode cX3_lay 51 = .ok (.getfield 52, 3) := by decide +kernel
theorem dX3_lay_54 : decode cX3_lay 54 = .ok (.iload_n 2, 1) := by decide +kernel
theorem dX3_lay_55 : decode cX3_lay 55 = .ok (.i2l, 1) := by decide +kernel
theorem dX3_lay_56 : decode cX3_lay 56 = .ok (.lsub, 1) := by decide +kernel
theorem dX3_lay_57 : decode cX3_lay 57 = .ok (.putfield 52, 3) := by decide +kernel
theorem dX3_lay_60 : decode cX3_lay 60 = .ok (.aload_n 0, 1) := by decide +kernel
theorem dX3_lay_61 : decode cX3_lay 61 = .ok (.dup, 1) := by decide +kernel
theorem dX3_lay_62 : decode cX3_lay 62 = .ok (.getfield 56, 3) := by decide +kernel
theorem dX3_lay_65 : decode cX3_lay 65 = .ok (.iload_n 1, 1) := by decide +kernel
theorem dX3_lay_66 : decode cX3_lay 66 = .ok (.iload_n 2, 1) := by decide +kernel
theorem dX3_lay_67 : decode cX3_lay 67 = .ok (.imul, 1) := by decide +kernel
theorem dX3_lay_68 : decode cX3_lay 68 = .ok (.i2l, 1) := by decide +kernel
theorem dX3_lay_69 : decode cX3_lay 69 = .ok (.ladd, 1) := by decide +kernel
theorem dX3_lay_70 : decode cX3_lay 70 = .ok (.putfield 56, 3) := by decide +kernel
theorem dX3_lay_73 : decode cX3_lay 73 = .ok (.aload_n 0, 1) := by decide +kernel
theorem dX3_lay_74 : decode cX3_lay 74 = .ok (.getfield 27, 3) := by decide +kernel
theorem dX3_lay_77 : decode cX3_lay 77 = .ok (.iload_n 3, 1) := by decide +kernel
theorem dX3_lay_78 : decode cX3_lay 78 = .ok (.dup2, 1) := by decide +kernel
theorem dX3_lay_79 : decode cX3_lay 79 = .ok (.iaload, 1) := by decide +kernel
theorem dX3_lay_80 : decode cX3_lay 80 = .ok (.iload_n 1, 1) := by decide +kernel
theorem dX3_lay_81 : decode cX3_lay 81 = .ok (.isub, 1) := by decide +kernel
theorem dX3_lay_82 : decode cX3_lay 82 = .ok (.iastore, 1) := by decide +kernel
theorem dX3_lay_83 : decode cX3_lay 83 = .ok (.aload_n 0, 1) := by decide +kernel
theorem dX3_lay_84 : decode cX3_lay 84 = .ok (.getfield 30, 3) := by decide +kernel
theorem dX3_lay_87 : decode cX3_lay 87 = .ok (.iload_n 3, 1) := by decide +kernel
theorem dX3_lay_88 : decode cX3_lay 88 = .ok (.iload_n 2, 1) := by decide +kernel
theorem dX3_lay_89 : decode cX3_lay 89 = .ok (.iastore, 1) := by decide +kernel
theorem dX3_lay_90 : decode cX3_lay 90 = .ok (.return_, 1) := by decide +kernel
theorem dX3_rowFor_0 : decode cX3_rowFor 0 = .ok (.iconst (-1), 1) := by decide +kernel
theorem dX3_rowFor_1 : decode cX3_rowFor 1 = .ok (.istore_n 3, 1) := by decide +kernel
theorem dX3_rowFor_2 : decode cX3_rowFor 2 = .ok (.iconst 0, 1) := by decide +kernel
theorem dX3_rowFor_3 : decode cX3_rowFor 3 = .ok (.istore 4, 2) := by decide +kernel
theorem dX3_rowFor_5 : decode cX3_rowFor 5 = .ok (.iload 4, 2) := by decide +kernel
theorem dX3_rowFor_7 : decode cX3_rowFor 7 = .ok (.aload_n 0, 1) := by decide +kernel
theorem dX3_rowFor_8 : decode cX3_rowFor 8 = .ok (.getfield 46, 3) := by decide +kernel
theorem dX3_rowFor_11 : decode cX3_rowFor 11 = .ok (.if_icmp .ge 67, 3) := by decide +kernel
theorem dX3_rowFor_14 : decode cX3_rowFor 14 = .ok (.aload_n 0, 1) := by decide +kernel
theorem dX3_rowFor_15 : decode cX3_rowFor 15 = .ok (.getfield 24, 3) := by decide +kernel
theorem dX3_rowFor_18 : decode cX3_rowFor 18 = .ok (.iload 4, 2) := by decide +kernel
theorem dX3_rowFor_20 : decode cX3_rowFor 20 = .ok (.iaload, 1) := by decide +kernel
theorem dX3_rowFor_21 : decode cX3_rowFor 21 = .ok (.iload_n 2, 1) := by decide +kernel
theorem dX3_rowFor_22 : decode cX3_rowFor 22 = .ok (.if_icmp .lt 18, 3) := by decide +kernel
theorem dX3_rowFor_25 : decode cX3_rowFor 25 = .ok (.aload_n 0, 1) := by decide +kernel
theorem dX3_rowFor_26 : decode cX3_rowFor 26 = .ok (.getfield 27, 3) := by decide +kernel
theorem dX3_rowFor_29 : decode cX3_rowFor 29 = .ok (.iload 4, 2) := by decide +kernel
theorem dX3_rowFor_31 : decode cX3_rowFor 31 = .ok (.iaload, 1) := by decide +kernel
theorem dX3_rowFor_32 : decode cX3_rowFor 32 = .ok (.iload_n 1, 1) := by decide +kernel
theorem dX3_rowFor_33 : decode cX3_rowFor 33 = .ok (.if_icmp .lt 7, 3) := by decide +kernel
theorem dX3_rowFor_36 : decode cX3_rowFor 36 = .ok (.iconst 1, 1) := by decide +kernel
theorem dX3_rowFor_37 : decode cX3_rowFor 37 = .ok (.goto 4, 3) := by decide +kernel
theorem dX3_rowFor_40 : decode cX3_rowFor 40 = .ok (.iconst 0, 1) := by decide +kernel
theorem dX3_rowFor_41 : decode cX3_rowFor 41 = .ok (.istore 5, 2) := by decide +kernel
theorem dX3_rowFor_43 : decode cX3_rowFor 43 = .ok (.iload 5, 2) := by decide +kernel
theorem dX3_rowFor_45 : decode cX3_rowFor 45 = .ok (.ifCond .eq 27, 3) := by decide +kernel
theorem dX3_rowFor_48 : decode cX3_rowFor 48 = .ok (.iload_n 3, 1) := by decide +kernel
theorem dX3_rowFor_49 : decode cX3_rowFor 49 = .ok (.iconst (-1), 1) := by decide +kernel
theorem dX3_rowFor_50 : decode cX3_rowFor 50 = .ok (.if_icmp .eq 19, 3) := by decide +kernel
theorem dX3_rowFor_53 : decode cX3_rowFor 53 = .ok (.aload_n 0, 1) := by decide +kernel
theorem dX3_rowFor_54 : decode cX3_rowFor 54 = .ok (.getfield 21, 3) := by decide +kernel
theorem dX3_rowFor_57 : decode cX3_rowFor 57 = .ok (.iload 4, 2) := by decide +kernel
theorem dX3_rowFor_59 : decode cX3_rowFor 59 = .ok (.iaload, 1) := by decide +kernel
theorem dX3_rowFor_60 : decode cX3_rowFor 60 = .ok (.aload_n 0, 1) := by decide +kernel
theorem dX3_rowFor_61 : decode cX3_rowFor 61 = .ok (.getfield 21, 3) := by decide +kernel
theorem dX3_rowFor_64 : decode cX3_rowFor 64 = .ok (.iload_n 3, 1) := by decide +kernel
theorem dX3_rowFor_65 : decode cX3_rowFor 65 = .ok (.iaload, 1) := by decide +kernel
theorem dX3_rowFor_66 : decode cX3_rowFor 66 = .ok (.if_icmp .ge 6, 3) := by decide +kernel
theorem dX3_rowFor_69 : decode cX3_rowFor 69 = .ok (.iload 4, 2) := by decide +kernel
theorem dX3_rowFor_71 : decode cX3_rowFor 71 = .ok (.istore_n 3, 1) := by decide +kernel
theorem dX3_rowFor_72 : decode cX3_rowFor 72 = .ok (.iinc 4 1, 3) := by decide +kernel
theorem dX3_rowFor_75 : decode cX3_rowFor 75 = .ok (.goto (-70), 3) := by decide +kernel
theorem dX3_rowFor_78 : decode cX3_rowFor 78 = .ok (.iload_n 3, 1) := by decide +kernel
theorem dX3_rowFor_79 : decode cX3_rowFor 79 = .ok (.ireturn, 1) := by decide +kernel
theorem dX3_newRow_0 : decode cX3_newRow 0 = .ok (.aload_n 0, 1) := by decide +kernel
theorem dX3_newRow_1 : decode cX3_newRow 1 = .ok (.iload_n 1, 1) := by decide +kernel
theorem dX3_newRow_2 : decode cX3_newRow 2 = .ok (.invokevirtual 83, 3) := by decide +kernel
theorem dX3_newRow_5 : decode cX3_newRow 5 = .ok (.istore_n 2, 1) := by decide +kernel
theorem dX3_newRow_6 : decode cX3_newRow 6 = .ok (.iload_n 2, 1) := by decide +kernel
theorem dX3_newRow_7 : decode cX3_newRow 7 = .ok (.iconst (-1), 1) := by decide +kernel
theorem dX3_newRow_8 : decode cX3_newRow 8 = .ok (.if_icmp .eq 12, 3) := by decide +kernel
theorem dX3_newRow_11 : decode cX3_newRow 11 = .ok (.aload_n 0, 1) := by decide +kernel
theorem dX3_newRow_12 : decode cX3_newRow 12 = .ok (.getfield 46, 3) := by decide +kernel
theorem dX3_newRow_15 : decode cX3_newRow 15 = .ok (.bipush 40, 2) := by decide +kernel
theorem dX3_newRow_17 : decode cX3_newRow 17 = .ok (.if_icmp .lt 5, 3) := by decide +kernel
theorem dX3_newRow_20 : decode cX3_newRow 20 = .ok (.iconst (-1), 1) := by decide +kernel
theorem dX3_newRow_21 : decode cX3_newRow 21 = .ok (.ireturn, 1) := by decide +kernel
theorem dX3_newRow_22 : decode cX3_newRow 22 = .ok (.aload_n 0, 1) := by decide +kernel
theorem dX3_newRow_23 : decode cX3_newRow 23 = .ok (.getfield 33, 3) := by decide +kernel
theorem dX3_newRow_26 : decode cX3_newRow 26 = .ok (.iload_n 2, 1) := by decide +kernel
theorem dX3_newRow_27 : decode cX3_newRow 27 = .ok (.dup2, 1) := by decide +kernel
theorem dX3_newRow_28 : decode cX3_newRow 28 = .ok (.iaload, 1) := by decide +kernel
theorem dX3_newRow_29 : decode cX3_newRow 29 = .ok (.iload_n 1, 1) := by decide +kernel
theorem dX3_newRow_30 : decode cX3_newRow 30 = .ok (.isub, 1) := by decide +kernel
theorem dX3_newRow_31 : decode cX3_newRow 31 = .ok (.iastore, 1) := by decide +kernel
theorem dX3_newRow_32 : decode cX3_newRow 32 = .ok (.aload_n 0, 1) := by decide +kernel
theorem dX3_newRow_33 : decode cX3_newRow 33 = .ok (.getfield 21, 3) := by decide +kernel
theorem dX3_newRow_36 : decode cX3_newRow 36 = .ok (.aload_n 0, 1) := by decide +kernel
theorem dX3_newRow_37 : decode cX3_newRow 37 = .ok (.getfield 46, 3) := by decide +kernel
theorem dX3_newRow_40 : decode cX3_newRow 40 = .ok (.iload_n 2, 1) := by decide +kernel
theorem dX3_newRow_41 : decode cX3_newRow 41 = .ok (.iastore, 1) := by decide +kernel
theorem dX3_newRow_42 : decode cX3_newRow 42 = .ok (.aload_n 0, 1) := by decide +kernel
theorem dX3_newRow_43 : decode cX3_newRow 43 = .ok (.getfield 24, 3) := by decide +kernel
theorem dX3_newRow_46 : decode cX3_newRow 46 = .ok (.aload_n 0, 1) := by decide +kernel
theorem dX3_newRow_47 : decode cX3_newRow 47 = .ok (.getfield 46, 3) := by decide +kernel
theorem dX3_newRow_50 : decode cX3_newRow 50 = .ok (.iload_n 1, 1) := by decide +kernel
theorem dX3_newRow_51 : decode cX3_newRow 51 = .ok (.iastore, 1) := by decide +kernel
theorem dX3_newRow_52 : decode cX3_newRow 52 = .ok (.aload_n 0, 1) := by decide +kernel
theorem dX3_newRow_53 : decode cX3_newRow 53 = .ok (.getfield 27, 3) := by decide +kernel
theorem dX3_newRow_56 : decode cX3_newRow 56 = .ok (.aload_n 0, 1) := by decide +kernel
theorem dX3_newRow_57 : decode cX3_newRow 57 = .ok (.getfield 46, 3) := by decide +kernel
theorem dX3_newRow_60 : decode cX3_newRow 60 = .ok (.aload_n 0, 1) := by decide +kernel
theorem dX3_newRow_61 : decode cX3_newRow 61 = .ok (.getfield 36, 3) := by decide +kernel
theorem dX3_newRow_64 : decode cX3_newRow 64 = .ok (.iastore, 1) := by decide +kernel
theorem dX3_newRow_65 : decode cX3_newRow 65 = .ok (.aload_n 0, 1) := by decide +kernel
theorem dX3_newRow_66 : decode cX3_newRow 66 = .ok (.getfield 30, 3) := by decide +kernel
theorem dX3_newRow_69 : decode cX3_newRow 69 = .ok (.aload_n 0, 1) := by decide +kernel
theorem dX3_newRow_70 : decode cX3_newRow 70 = .ok (.getfield 46, 3) := by decide +kernel
theorem dX3_newRow_73 : decode cX3_newRow 73 = .ok (.iconst 0, 1) := by decide +kernel
theorem dX3_newRow_74 : decode cX3_newRow 74 = .ok (.iastore, 1) := by decide +kernel
theorem dX3_newRow_75 : decode cX3_newRow 75 = .ok (.aload_n 0, 1) := by decide +kernel
theorem dX3_newRow_76 : decode cX3_newRow 76 = .ok (.dup, 1) := by decide +kernel
theorem dX3_newRow_77 : decode cX3_newRow 77 = .ok (.getfield 46, 3) := by decide +kernel
theorem dX3_newRow_80 : decode cX3_newRow 80 = .ok (.iconst 1, 1) := by decide +kernel
theorem dX3_newRow_81 : decode cX3_newRow 81 = .ok (.iadd, 1) := by decide +kernel
theorem dX3_newRow_82 : decode cX3_newRow 82 = .ok (.putfield 46, 3) := by decide +kernel
theorem dX3_newRow_85 : decode cX3_newRow 85 = .ok (.aload_n 0, 1) := by decide +kernel
theorem dX3_newRow_86 : decode cX3_newRow 86 = .ok (.getfield 46, 3) := by decide +kernel
theorem dX3_newRow_89 : decode cX3_newRow 89 = .ok (.iconst 1, 1) := by decide +kernel
theorem dX3_newRow_90 : decode cX3_newRow 90 = .ok (.isub, 1) := by decide +kernel
theorem dX3_newRow_91 : decode cX3_newRow 91 = .ok (.ireturn, 1) := by decide +kernel
theorem dX3_sheetFor_0 : decode cX3_sheetFor 0 = .ok (.iconst 0, 1) := by decide +kernel
theorem dX3_sheetFor_1 : decode cX3_sheetFor 1 = .ok (.istore_n 2, 1) := by decide +kernel
theorem dX3_sheetFor_2 : decode cX3_sheetFor 2 = .ok (.iload_n 2, 1) := by decide +kernel
theorem dX3_sheetFor_3 : decode cX3_sheetFor 3 = .ok (.aload_n 0, 1) := by decide +kernel
theorem dX3_sheetFor_4 : decode cX3_sheetFor 4 = .ok (.getfield 49, 3) := by decide +kernel
theorem dX3_sheetFor_7 : decode cX3_sheetFor 7 = .ok (.if_icmp .ge 21, 3) := by decide +kernel
theorem dX3_sheetFor_10 : decode cX3_sheetFor 10 = .ok (.aload_n 0, 1) := by decide +kernel
theorem dX3_sheetFor_11 : decode cX3_sheetFor 11 = .ok (.getfield 33, 3) := by decide +kernel
theorem dX3_sheetFor_14 : decode cX3_sheetFor 14 = .ok (.iload_n 2, 1) := by decide +kernel
theorem dX3_sheetFor_15 : decode cX3_sheetFor 15 = .ok (.iaload, 1) := by decide +kernel
theorem dX3_sheetFor_16 : decode cX3_sheetFor 16 = .ok (.iload_n 1, 1) := by decide +kernel
theorem dX3_sheetFor_17 : decode cX3_sheetFor 17 = .ok (.if_icmp .lt 5, 3) := by decide +kernel
theorem dX3_sheetFor_20 : decode cX3_sheetFor 20 = .ok (.iload_n 2, 1) := by decide +kernel
theorem dX3_sheetFor_21 : decode cX3_sheetFor 21 = .ok (.ireturn, 1) := by decide +kernel
theorem dX3_sheetFor_22 : decode cX3_sheetFor 22 = .ok (.iinc 2 1, 3) := by decide +kernel
theorem dX3_sheetFor_25 : decode cX3_sheetFor 25 = .ok (.goto (-23), 3) := by decide +kernel
theorem dX3_sheetFor_28 : decode cX3_sheetFor 28 = .ok (.aload_n 0, 1) := by decide +kernel
theorem dX3_sheetFor_29 : decode cX3_sheetFor 29 = .ok (.getfield 49, 3) := by decide +kernel
theorem dX3_sheetFor_32 : decode cX3_sheetFor 32 = .ok (.bipush 40, 2) := by decide +kernel
theorem dX3_sheetFor_34 : decode cX3_sheetFor 34 = .ok (.if_icmp .lt 5, 3) := by decide +kernel
theorem dX3_sheetFor_37 : decode cX3_sheetFor 37 = .ok (.iconst (-1), 1) := by decide +kernel
theorem dX3_sheetFor_38 : decode cX3_sheetFor 38 = .ok (.ireturn, 1) := by decide +kernel
theorem dX3_sheetFor_39 : decode cX3_sheetFor 39 = .ok (.aload_n 0, 1) := by decide +kernel
theorem dX3_sheetFor_40 : decode cX3_sheetFor 40 = .ok (.getfield 33, 3) := by decide +kernel
theorem dX3_sheetFor_43 : decode cX3_sheetFor 43 = .ok (.aload_n 0, 1) := by decide +kernel
theorem dX3_sheetFor_44 : decode cX3_sheetFor 44 = .ok (.getfield 49, 3) := by decide +kernel
theorem dX3_sheetFor_47 : decode cX3_sheetFor 47 = .ok (.aload_n 0, 1) := by decide +kernel
theorem dX3_sheetFor_48 : decode cX3_sheetFor 48 = .ok (.getfield 40, 3) := by decide +kernel
theorem dX3_sheetFor_51 : decode cX3_sheetFor 51 = .ok (.iastore, 1) := by decide +kernel
theorem dX3_sheetFor_52 : decode cX3_sheetFor 52 = .ok (.aload_n 0, 1) := by decide +kernel
theorem dX3_sheetFor_53 : decode cX3_sheetFor 53 = .ok (.dup, 1) := by decide +kernel
theorem dX3_sheetFor_54 : decode cX3_sheetFor 54 = .ok (.getfield 49, 3) := by decide +kernel
theorem dX3_sheetFor_57 : decode cX3_sheetFor 57 = .ok (.iconst 1, 1) := by decide +kernel
theorem dX3_sheetFor_58 : decode cX3_sheetFor 58 = .ok (.iadd, 1) := by decide +kernel
theorem dX3_sheetFor_59 : decode cX3_sheetFor 59 = .ok (.putfield 49, 3) := by decide +kernel
theorem dX3_sheetFor_62 : decode cX3_sheetFor 62 = .ok (.aload_n 0, 1) := by decide +kernel
theorem dX3_sheetFor_63 : decode cX3_sheetFor 63 = .ok (.getfield 49, 3) := by decide +kernel
theorem dX3_sheetFor_66 : decode cX3_sheetFor 66 = .ok (.iconst 1, 1) := by decide +kernel
theorem dX3_sheetFor_67 : decode cX3_sheetFor 67 = .ok (.isub, 1) := by decide +kernel
theorem dX3_sheetFor_68 : decode cX3_sheetFor 68 = .ok (.ireturn, 1) := by decide +kernel
theorem dX3_tell_0 : decode cX3_tell 0 = .ok (.iload_n 1, 1) := by decide +kernel
theorem dX3_tell_1 : decode cX3_tell 1 = .ok (.tableswitch 44 0 2 #[27, 33, 39], 27) := by decide +kernel
theorem dX3_tell_28 : decode cX3_tell 28 = .ok (.aload_n 0, 1) := by decide +kernel
theorem dX3_tell_29 : decode cX3_tell 29 = .ok (.getfield 49, 3) := by decide +kernel
theorem dX3_tell_32 : decode cX3_tell 32 = .ok (.i2l, 1) := by decide +kernel
theorem dX3_tell_33 : decode cX3_tell 33 = .ok (.lreturn, 1) := by decide +kernel
theorem dX3_tell_34 : decode cX3_tell 34 = .ok (.aload_n 0, 1) := by decide +kernel
theorem dX3_tell_35 : decode cX3_tell 35 = .ok (.getfield 46, 3) := by decide +kernel
theorem dX3_tell_38 : decode cX3_tell 38 = .ok (.i2l, 1) := by decide +kernel
theorem dX3_tell_39 : decode cX3_tell 39 = .ok (.lreturn, 1) := by decide +kernel
theorem dX3_tell_40 : decode cX3_tell 40 = .ok (.aload_n 0, 1) := by decide +kernel
theorem dX3_tell_41 : decode cX3_tell 41 = .ok (.getfield 52, 3) := by decide +kernel
theorem dX3_tell_44 : decode cX3_tell 44 = .ok (.lreturn, 1) := by decide +kernel
theorem dX3_tell_45 : decode cX3_tell 45 = .ok (.aload_n 0, 1) := by decide +kernel
theorem dX3_tell_46 : decode cX3_tell 46 = .ok (.getfield 49, 3) := by decide +kernel
theorem dX3_tell_49 : decode cX3_tell 49 = .ok (.i2l, 1) := by decide +kernel
theorem dX3_tell_50 : decode cX3_tell 50 = .ok (.aload_n 0, 1) := by decide +kernel
theorem dX3_tell_51 : decode cX3_tell 51 = .ok (.getfield 36, 3) := by decide +kernel
theorem dX3_tell_54 : decode cX3_tell 54 = .ok (.i2l, 1) := by decide +kernel
theorem dX3_tell_55 : decode cX3_tell 55 = .ok (.lmul, 1) := by decide +kernel
theorem dX3_tell_56 : decode cX3_tell 56 = .ok (.aload_n 0, 1) := by decide +kernel
theorem dX3_tell_57 : decode cX3_tell 57 = .ok (.getfield 40, 3) := by decide +kernel
theorem dX3_tell_60 : decode cX3_tell 60 = .ok (.i2l, 1) := by decide +kernel
theorem dX3_tell_61 : decode cX3_tell 61 = .ok (.lmul, 1) := by decide +kernel
theorem dX3_tell_62 : decode cX3_tell 62 = .ok (.aload_n 0, 1) := by decide +kernel
theorem dX3_tell_63 : decode cX3_tell 63 = .ok (.getfield 56, 3) := by decide +kernel
theorem dX3_tell_66 : decode cX3_tell 66 = .ok (.lsub, 1) := by decide +kernel
theorem dX3_tell_67 : decode cX3_tell 67 = .ok (.lreturn, 1) := by decide +kernel
theorem dX4_init_0 : decode cX4_init 0 = .ok (.aload_n 0, 1) := by decide +kernel
theorem dX4_init_1 : decode cX4_init 1 = .ok (.invokespecial 3, 3) := by decide +kernel
theorem dX4_init_4 : decode cX4_init 4 = .ok (.aload_n 0, 1) := by decide +kernel
theorem dX4_init_5 : decode cX4_init 5 = .ok (.new 9, 3) := by decide +kernel
theorem dX4_init_8 : decode cX4_init 8 = .ok (.dup, 1) := by decide +kernel
theorem dX4_init_9 : decode cX4_init 9 = .ok (.invokespecial 11, 3) := by decide +kernel
theorem dX4_init_12 : decode cX4_init 12 = .ok (.putfield 12, 3) := by decide +kernel
theorem dX4_init_15 : decode cX4_init 15 = .ok (.aload_n 0, 1) := by decide +kernel
theorem dX4_init_16 : decode cX4_init 16 = .ok (.bipush 6, 2) := by decide +kernel
theorem dX4_init_18 : decode cX4_init 18 = .ok (.newarray .int, 2) := by decide +kernel
theorem dX4_init_20 : decode cX4_init 20 = .ok (.putfield 18, 3) := by decide +kernel
theorem dX4_init_23 : decode cX4_init 23 = .ok (.aload_n 0, 1) := by decide +kernel
theorem dX4_init_24 : decode cX4_init 24 = .ok (.bipush 6, 2) := by decide +kernel
theorem dX4_init_26 : decode cX4_init 26 = .ok (.newarray .int, 2) := by decide +kernel
theorem dX4_init_28 : decode cX4_init 28 = .ok (.putfield 22, 3) := by decide +kernel
theorem dX4_init_31 : decode cX4_init 31 = .ok (.aload_n 0, 1) := by decide +kernel
theorem dX4_init_32 : decode cX4_init 32 = .ok (.bipush 6, 2) := by decide +kernel
theorem dX4_init_34 : decode cX4_init 34 = .ok (.newarray .int, 2) := by decide +kernel
theorem dX4_init_36 : decode cX4_init 36 = .ok (.putfield 25, 3) := by decide +kernel
theorem dX4_init_39 : decode cX4_init 39 = .ok (.return_, 1) := by decide +kernel
theorem dX4_draw_0 : decode cX4_draw 0 = .ok (.aload_n 0, 1) := by decide +kernel
theorem dX4_draw_1 : decode cX4_draw 1 = .ok (.getfield 12, 3) := by decide +kernel
theorem dX4_draw_4 : decode cX4_draw 4 = .ok (.aload_n 1, 1) := by decide +kernel
theorem dX4_draw_5 : decode cX4_draw 5 = .ok (.invokevirtual 28, 3) := by decide +kernel
theorem dX4_draw_8 : decode cX4_draw 8 = .ok (.aload_n 0, 1) := by decide +kernel
theorem dX4_draw_9 : decode cX4_draw 9 = .ok (.iload_n 2, 1) := by decide +kernel
theorem dX4_draw_10 : decode cX4_draw 10 = .ok (.putfield 32, 3) := by decide +kernel
theorem dX4_draw_13 : decode cX4_draw 13 = .ok (.aload_n 0, 1) := by decide +kernel
theorem dX4_draw_14 : decode cX4_draw 14 = .ok (.iload_n 3, 1) := by decide +kernel
theorem dX4_draw_15 : decode cX4_draw 15 = .ok (.putfield 36, 3) := by decide +kernel
theorem dX4_draw_18 : decode cX4_draw 18 = .ok (.aload_n 0, 1) := by decide +kernel
theorem dX4_draw_19 : decode cX4_draw 19 = .ok (.iconst 0, 1) := by decide +kernel
theorem dX4_draw_20 : decode cX4_draw 20 = .ok (.putfield 39, 3) := by decide +kernel
theorem dX4_draw_23 : decode cX4_draw 23 = .ok (.return_, 1) := by decide +kernel
theorem dX4_blankBy_0 : decode cX4_blankBy 0 = .ok (.aload_n 0, 1) := by decide +kernel
theorem dX4_blankBy_1 : decode cX4_blankBy 1 = .ok (.getfield 12, 3) := by decide +kernel
theorem dX4_blankBy_4 : decode cX4_blankBy 4 = .ok (.invokevirtual 42, 3) := by decide +kernel
theorem dX4_blankBy_7 : decode cX4_blankBy 7 = .ok (.aload_n 0, 1) := by decide +kernel
theorem dX4_blankBy_8 : decode cX4_blankBy 8 = .ok (.getfield 12, 3) := by decide +kernel
theorem dX4_blankBy_11 : decode cX4_blankBy 11 = .ok (.invokevirtual 46, 3) := by decide +kernel
theorem dX4_blankBy_14 : decode cX4_blankBy 14 = .ok (.aload_n 1, 1) := by decide +kernel
theorem dX4_blankBy_15 : decode cX4_blankBy 15 = .ok (.getfield 49, 3) := by decide +kernel
theorem dX4_blankBy_18 : decode cX4_blankBy 18 = .ok (.aload_n 0, 1) := by decide +kernel
theorem dX4_blankBy_19 : decode cX4_blankBy 19 = .ok (.getfield 36, 3) := by decide +kernel
theorem dX4_blankBy_22 : decode cX4_blankBy 22 = .ok (.iaload, 1) := by decide +kernel
theorem dX4_blankBy_23 : decode cX4_blankBy 23 = .ok (.imul, 1) := by decide +kernel
theorem dX4_blankBy_24 : decode cX4_blankBy 24 = .ok (.isub, 1) := by decide +kernel
theorem dX4_blankBy_25 : decode cX4_blankBy 25 = .ok (.ireturn, 1) := by decide +kernel
theorem dX4_isHoleNear_0 : decode cX4_isHoleNear 0 = .ok (.aload_n 0, 1) := by decide +kernel
theorem dX4_isHoleNear_1 : decode cX4_isHoleNear 1 = .ok (.getfield 18, 3) := by decide +kernel
theorem dX4_isHoleNear_4 : decode cX4_isHoleNear 4 = .ok (.iload_n 1, 1) := by decide +kernel
theorem dX4_isHoleNear_5 : decode cX4_isHoleNear 5 = .ok (.iaload, 1) := by decide +kernel
theorem dX4_isHoleNear_6 : decode cX4_isHoleNear 6 = .ok (.istore_n 2, 1) := by decide +kernel
theorem dX4_isHoleNear_7 : decode cX4_isHoleNear 7 = .ok (.iconst 2, 1) := by decide +kernel
theorem dX4_isHoleNear_8 : decode cX4_isHoleNear 8 = .ok (.aload_n 0, 1) := by decide +kernel
theorem dX4_isHoleNear_9 : decode cX4_isHoleNear 9 = .ok (.getfield 36, 3) := by decide +kernel
theorem dX4_isHoleNear_12 : decode cX4_isHoleNear 12 = .ok (.imul, 1) := by decide +kernel
theorem dX4_isHoleNear_13 : decode cX4_isHoleNear 13 = .ok (.aload_n 0, 1) := by decide +kernel
theorem dX4_isHoleNear_14 : decode cX4_isHoleNear 14 = .ok (.getfield 25, 3) := by decide +kernel
theorem dX4_isHoleNear_17 : decode cX4_isHoleNear 17 = .ok (.iload_n 1, 1) := by decide +kernel
theorem dX4_isHoleNear_18 : decode cX4_isHoleNear 18 = .ok (.iaload, 1) := by decide +kernel
theorem dX4_isHoleNear_19 : decode cX4_isHoleNear 19 = .ok (.iconst 2, 1) := by decide +kernel
theorem dX4_isHoleNear_20 : decode cX4_isHoleNear 20 = .ok (.idiv, 1) := by decide +kernel
theorem dX4_isHoleNear_21 : decode cX4_isHoleNear 21 = .ok (.iadd, 1) := by decide +kernel
theorem dX4_isHoleNear_22 : decode cX4_isHoleNear 22 = .ok (.istore_n 3, 1) := by decide +kernel
theorem dX4_isHoleNear_23 : decode cX4_isHoleNear 23 = .ok (.iload_n 2, 1) := by decide +kernel
theorem dX4_isHoleNear_24 : decode cX4_isHoleNear 24 = .ok (.ifCond .le 17, 3) := by decide +kernel
theorem dX4_isHoleNear_27 : decode cX4_isHoleNear 27 = .ok (.aload_n 0, 1) := by decide +kernel
theorem dX4_isHoleNear_28 : decode cX4_isHoleNear 28 = .ok (.getfield 22, 3) := by decide +kernel
theorem dX4_isHoleNear_31 : decode cX4_isHoleNear 31 = .ok (.iload_n 1, 1) := by decide +kernel
theorem dX4_isHoleNear_32 : decode cX4_isHoleNear 32 = .ok (.iaload, 1) := by decide +kernel
theorem dX4_isHoleNear_33 : decode cX4_isHoleNear 33 = .ok (.iload_n 3, 1) := by decide +kernel
theorem dX4_isHoleNear_34 : decode cX4_isHoleNear 34 = .ok (.if_icmp .ge 7, 3) := by decide +kernel
theorem dX4_isHoleNear_37 : decode cX4_isHoleNear 37 = .ok (.iconst 1, 1) := by decide +kernel
theorem dX4_isHoleNear_38 : decode cX4_isHoleNear 38 = .ok (.goto 4, 3) := by decide +kernel
theorem dX4_isHoleNear_41 : decode cX4_isHoleNear 41 = .ok (.iconst 0, 1) := by decide +kernel
theorem dX4_isHoleNear_42 : decode cX4_isHoleNear 42 = .ok (.istore 4, 2) := by decide +kernel
theorem dX4_isHoleNear_44 : decode cX4_isHoleNear 44 = .ok (.iload_n 2, 1) := by decide +kernel
theorem dX4_isHoleNear_45 : decode cX4_isHoleNear 45 = .ok (.aload_n 0, 1) := by decide +kernel
theorem dX4_isHoleNear_46 : decode cX4_isHoleNear 46 = .ok (.getfield 12, 3) := by decide +kernel
theorem dX4_isHoleNear_49 : decode cX4_isHoleNear 49 = .ok (.getfield 54, 3) := by decide +kernel
theorem dX4_isHoleNear_52 : decode cX4_isHoleNear 52 = .ok (.iconst 1, 1) := by decide +kernel
theorem dX4_isHoleNear_53 : decode cX4_isHoleNear 53 = .ok (.isub, 1) := by decide +kernel
theorem dX4_isHoleNear_54 : decode cX4_isHoleNear 54 = .ok (.if_icmp .ge 27, 3) := by decide +kernel
theorem dX4_isHoleNear_57 : decode cX4_isHoleNear 57 = .ok (.aload_n 0, 1) := by decide +kernel
theorem dX4_isHoleNear_58 : decode cX4_isHoleNear 58 = .ok (.getfield 12, 3) := by decide +kernel
theorem dX4_isHoleNear_61 : decode cX4_isHoleNear 61 = .ok (.getfield 57, 3) := by decide +kernel
theorem dX4_isHoleNear_64 : decode cX4_isHoleNear 64 = .ok (.iload_n 2, 1) := by decide +kernel
theorem dX4_isHoleNear_65 : decode cX4_isHoleNear 65 = .ok (.iaload, 1) := by decide +kernel
theorem dX4_isHoleNear_66 : decode cX4_isHoleNear 66 = .ok (.aload_n 0, 1) := by decide +kernel
theorem dX4_isHoleNear_67 : decode cX4_isHoleNear 67 = .ok (.getfield 22, 3) := by decide +kernel
theorem dX4_isHoleNear_70 : decode cX4_isHoleNear 70 = .ok (.iload_n 1, 1) := by decide +kernel
theorem dX4_isHoleNear_71 : decode cX4_isHoleNear 71 = .ok (.iaload, 1) := by decide +kernel
theorem dX4_isHoleNear_72 : decode cX4_isHoleNear 72 = .ok (.isub, 1) := by decide +kernel
theorem dX4_isHoleNear_73 : decode cX4_isHoleNear 73 = .ok (.iload_n 3, 1) := by decide +kernel
theorem dX4_isHoleNear_74 : decode cX4_isHoleNear 74 = .ok (.if_icmp .ge 7, 3) := by decide +kernel
theorem dX4_isHoleNear_77 : decode cX4_isHoleNear 77 = .ok (.iconst 1, 1) := by decide +kernel
theorem dX4_isHoleNear_78 : decode cX4_isHoleNear 78 = .ok (.goto 4, 3) := by decide +kernel
theorem dX4_isHoleNear_81 : decode cX4_isHoleNear 81 = .ok (.iconst 0, 1) := by decide +kernel
theorem dX4_isHoleNear_82 : decode cX4_isHoleNear 82 = .ok (.istore 5, 2) := by decide +kernel
theorem dX4_isHoleNear_84 : decode cX4_isHoleNear 84 = .ok (.iload 4, 2) := by decide +kernel
theorem dX4_isHoleNear_86 : decode cX4_isHoleNear 86 = .ok (.ifCond .ne 8, 3) := by decide +kernel
theorem dX4_isHoleNear_89 : decode cX4_isHoleNear 89 = .ok (.iload 5, 2) := by decide +kernel
theorem dX4_isHoleNear_91 : decode cX4_isHoleNear 91 = .ok (.ifCond .eq 7, 3) := by decide +kernel
theorem dX4_isHoleNear_94 : decode cX4_isHoleNear 94 = .ok (.iconst 1, 1) := by decide +kernel
theorem dX4_isHoleNear_95 : decode cX4_isHoleNear 95 = .ok (.goto 4, 3) := by decide +kernel
theorem dX4_isHoleNear_98 : decode cX4_isHoleNear 98 = .ok (.iconst 0, 1) := by decide +kernel
theorem dX4_isHoleNear_99 : decode cX4_isHoleNear 99 = .ok (.ireturn, 1) := by decide +kernel
theorem dX4_nearHoles_0 : decode cX4_nearHoles 0 = .ok (.iconst 0, 1) := by decide +kernel
theorem dX4_nearHoles_1 : decode cX4_nearHoles 1 = .ok (.istore_n 1, 1) := by decide +kernel
theorem dX4_nearHoles_2 : decode cX4_nearHoles 2 = .ok (.iconst 0, 1) := by decide +kernel
theorem dX4_nearHoles_3 : decode cX4_nearHoles 3 = .ok (.istore_n 2, 1) := by decide +kernel
theorem dX4_nearHoles_4 : decode cX4_nearHoles 4 = .ok (.iload_n 2, 1) := by decide +kernel
theorem dX4_nearHoles_5 : decode cX4_nearHoles 5 = .ok (.aload_n 0, 1) := by decide +kernel
theorem dX4_nearHoles_6 : decode cX4_nearHoles 6 = .ok (.getfield 39, 3) := by decide +kernel
theorem dX4_nearHoles_9 : decode cX4_nearHoles 9 = .ok (.if_icmp .ge 25, 3) := by decide +kernel
theorem dX4_nearHoles_12 : decode cX4_nearHoles 12 = .ok (.iload_n 1, 1) := by decide +kernel
theorem dX4_nearHoles_13 : decode cX4_nearHoles 13 = .ok (.aload_n 0, 1) := by decide +kernel
theorem dX4_nearHoles_14 : decode cX4_nearHoles 14 = .ok (.iload_n 2, 1) := by decide +kernel
theorem dX4_nearHoles_15 : decode cX4_nearHoles 15 = .ok (.invokevirtual 60, 3) := by decide +kernel
theorem dX4_nearHoles_18 : decode cX4_nearHoles 18 = .ok (.ifCond .eq 7, 3) := by decide +kernel
theorem dX4_nearHoles_21 : decode cX4_nearHoles 21 = .ok (.iconst 1, 1) := by decide +kernel
theorem dX4_nearHoles_22 : decode cX4_nearHoles 22 = .ok (.goto 4, 3) := by decide +kernel
theorem dX4_nearHoles_25 : decode cX4_nearHoles 25 = .ok (.iconst 0, 1) := by decide +kernel
theorem dX4_nearHoles_26 : decode cX4_nearHoles 26 = .ok (.iadd, 1) := by decide +kernel
theorem dX4_nearHoles_27 : decode cX4_nearHoles 27 = .ok (.istore_n 1, 1) := by decide +kernel
theorem dX4_nearHoles_28 : decode cX4_nearHoles 28 = .ok (.iinc 2 1, 3) := by decide +kernel
theorem dX4_nearHoles_31 : decode cX4_nearHoles 31 = .ok (.goto (-27), 3) := by decide +kernel
theorem dX4_nearHoles_34 : decode cX4_nearHoles 34 = .ok (.iload_n 1, 1) := by decide +kernel
theorem dX4_nearHoles_35 : decode cX4_nearHoles 35 = .ok (.ireturn, 1) := by decide +kernel
theorem dX5_init_0 : decode cX5_init 0 = .ok (.aload_n 0, 1) := by decide +kernel
theorem dX5_init_1 : decode cX5_init 1 = .ok (.invokespecial 3, 3) := by decide +kernel
theorem dX5_init_4 : decode cX5_init 4 = .ok (.aload_n 0, 1) := by decide +kernel
theorem dX5_init_5 : decode cX5_init 5 = .ok (.bipush 32, 2) := by decide +kernel
theorem dX5_init_7 : decode cX5_init 7 = .ok (.newarray .int, 2) := by decide +kernel
theorem dX5_init_9 : decode cX5_init 9 = .ok (.putfield 9, 3) := by decide +kernel
theorem dX5_init_12 : decode cX5_init 12 = .ok (.aload_n 0, 1) := by decide +kernel
theorem dX5_init_13 : decode cX5_init 13 = .ok (.bipush 96, 2) := by decide +kernel
theorem dX5_init_15 : decode cX5_init 15 = .ok (.newarray .int, 2) := by decide +kernel
theorem dX5_init_17 : decode cX5_init 17 = .ok (.putfield 15, 3) := by decide +kernel
theorem dX5_init_20 : decode cX5_init 20 = .ok (.aload_n 0, 1) := by decide +kernel
theorem dX5_init_21 : decode cX5_init 21 = .ok (.iconst 5, 1) := by decide +kernel
theorem dX5_init_22 : decode cX5_init 22 = .ok (.newarray .int, 2) := by decide +kernel
theorem dX5_init_24 : decode cX5_init 24 = .ok (.putfield 18, 3) := by decide +kernel
theorem dX5_init_27 : decode cX5_init 27 = .ok (.aload_n 0, 1) := by decide +kernel
theorem dX5_init_28 : decode cX5_init 28 = .ok (.iconst 5, 1) := by decide +kernel
theorem dX5_init_29 : decode cX5_init 29 = .ok (.newarray .int, 2) := by decide +kernel
theorem dX5_init_31 : decode cX5_init 31 = .ok (.putfield 21, 3) := by decide +kernel
theorem dX5_init_34 : decode cX5_init 34 = .ok (.return_, 1) := by decide +kernel
theorem dX5_plan_0 : decode cX5_plan 0 = .ok (.aload_n 0, 1) := by decide +kernel
theorem dX5_plan_1 : decode cX5_plan 1 = .ok (.aload_n 1, 1) := by decide +kernel
theorem dX5_plan_2 : decode cX5_plan 2 = .ok (.aload_n 2, 1) := by decide +kernel
theorem dX5_plan_3 : decode cX5_plan 3 = .ok (.aload_n 3, 1) := by decide +kernel
theorem dX5_plan_4 : decode cX5_plan 4 = .ok (.invokevirtual 24, 3) := by decide +kernel
theorem dX5_plan_7 : decode cX5_plan 7 = .ok (.iconst 1, 1) := by decide +kernel
theorem dX5_plan_8 : decode cX5_plan 8 = .ok (.aload_n 0, 1) := by decide +kernel
theorem dX5_plan_9 : decode cX5_plan 9 = .ok (.getfield 28, 3) := by decide +kernel
theorem dX5_plan_12 : decode cX5_plan 12 = .ok (.ishl, 1) := by decide +kernel
theorem dX5_plan_13 : decode cX5_plan 13 = .ok (.iconst 1, 1) := by decide +kernel
theorem dX5_plan_14 : decode cX5_plan 14 = .ok (.isub, 1) := by decide +kernel
theorem dX5_plan_15 : decode cX5_plan 15 = .ok (.istore 4, 2) := by decide +kernel
theorem dX5_plan_17 : decode cX5_plan 17 = .ok (.iload 4, 2) := by decide +kernel
theorem dX5_plan_19 : decode cX5_plan 19 = .ok (.ifCond .lt 71, 3) := by decide +kernel
theorem dX5_plan_22 : decode cX5_plan 22 = .ok (.iconst 0, 1) := by decide +kernel
theorem dX5_plan_23 : decode cX5_plan 23 = .ok (.istore 5, 2) := by decide +kernel
theorem dX5_plan_25 : decode cX5_plan 25 = .ok (.iload 5, 2) := by decide +kernel
theorem dX5_plan_27 : decode cX5_plan 27 = .ok (.iconst 3, 1) := by decide +kernel
theorem dX5_plan_28 : decode cX5_plan 28 = .ok (.if_icmp .ge 56, 3) := by decide +kernel
theorem dX5_plan_31 : decode cX5_plan 31 = .ok (.aload_n 0, 1) := by decide +kernel
theorem dX5_plan_32 : decode cX5_plan 32 = .ok (.iload 4, 2) := by decide +kernel
theorem dX5_plan_34 : decode cX5_plan 34 = .ok (.iload 5, 2) := by decide +kernel
theorem dX5_plan_36 : decode cX5_plan 36 = .ok (.invokevirtual 32, 3) := by decide +kernel
theorem dX5_plan_39 : decode cX5_plan 39 = .ok (.istore 6, 2) := by decide +kernel
theorem dX5_plan_41 : decode cX5_plan 41 = .ok (.aload_n 0, 1) := by decide +kernel
theorem dX5_plan_42 : decode cX5_plan 42 = .ok (.getfield 15, 3) := by decide +kernel
theorem dX5_plan_45 : decode cX5_plan 45 = .ok (.iload 4, 2) := by decide +kernel
theorem dX5_plan_47 : decode cX5_plan 47 = .ok (.iconst 3, 1) := by decide +kernel
theorem dX5_plan_48 : decode cX5_plan 48 = .ok (.imul, 1) := by decide +kernel
theorem dX5_plan_49 : decode cX5_plan 49 = .ok (.iload 5, 2) := by decide +kernel
theorem dX5_plan_51 : decode cX5_plan 51 = .ok (.iadd, 1) := by decide +kernel
theorem dX5_plan_52 : decode cX5_plan 52 = .ok (.iload 6, 2) := by decide +kernel
theorem dX5_plan_54 : decode cX5_plan 54 = .ok (.iconst (-1), 1) := by decide +kernel
theorem dX5_plan_55 : decode cX5_plan 55 = .ok (.if_icmp .ne 12, 3) := by decide +kernel
theorem dX5_plan_58 : decode cX5_plan 58 = .ok (.aload_n 0, 1) := by decide +kernel
theorem dX5_plan_59 : decode cX5_plan 59 = .ok (.iload 4, 2) := by decide +kernel
theorem dX5_plan_61 : decode cX5_plan 61 = .ok (.invokevirtual 36, 3) := by decide +kernel
theorem dX5_plan_64 : decode cX5_plan 64 = .ok (.goto 13, 3) := by decide +kernel
theorem dX5_plan_67 : decode cX5_plan 67 = .ok (.aload_n 0, 1) := by decide +kernel
theorem dX5_plan_68 : decode cX5_plan 68 = .ok (.iload 4, 2) := by decide +kernel
theorem dX5_plan_70 : decode cX5_plan 70 = .ok (.iload 5, 2) := by decide +kernel
theorem dX5_plan_72 : decode cX5_plan 72 = .ok (.iload 6, 2) := by decide +kernel
theorem dX5_plan_74 : decode cX5_plan 74 = .ok (.invokevirtual 40, 3) := by decide +kernel
theorem dX5_plan_77 : decode cX5_plan 77 = .ok (.iastore, 1) := by decide +kernel
theorem dX5_plan_78 : decode cX5_plan 78 = .ok (.iinc 5 1, 3) := by decide +kernel
theorem dX5_plan_81 : decode cX5_plan 81 = .ok (.goto (-56), 3) := by decide +kernel
theorem dX5_plan_84 : decode cX5_plan 84 = .ok (.iinc 4 (-1), 3) := by decide +kernel
theorem dX5_plan_87 : decode cX5_plan 87 = .ok (.goto (-70), 3) := by decide +kernel
theorem dX5_plan_90 : decode cX5_plan 90 = .ok (.aload_n 0, 1) := by decide +kernel
theorem dX5_plan_91 : decode cX5_plan 91 = .ok (.aload_n 0, 1) := by decide +kernel
theorem dX5_plan_92 : decode cX5_plan 92 = .ok (.getfield 15, 3) := by decide +kernel
theorem dX5_plan_95 : decode cX5_plan 95 = .ok (.iconst 2, 1) := by decide +kernel
theorem dX5_plan_96 : decode cX5_plan 96 = .ok (.iaload, 1) := by decide +kernel
theorem dX5_plan_97 : decode cX5_plan 97 = .ok (.putfield 44, 3) := by decide +kernel
theorem dX5_plan_100 : decode cX5_plan 100 = .ok (.aload_n 0, 1) := by decide +kernel
theorem dX5_plan_101 : decode cX5_plan 101 = .ok (.aload_n 0, 1) := by decide +kernel
theorem dX5_plan_102 : decode cX5_plan 102 = .ok (.getfield 44, 3) := by decide +kernel
theorem dX5_plan_105 : decode cX5_plan 105 = .ok (.iconst (-1), 1) := by decide +kernel
theorem dX5_plan_106 : decode cX5_plan 106 = .ok (.if_icmp .ne 7, 3) := by decide +kernel
theorem dX5_plan_109 : decode cX5_plan 109 = .ok (.iconst 0, 1) := by decide +kernel
theorem dX5_plan_110 : decode cX5_plan 110 = .ok (.goto 7, 3) := by decide +kernel
theorem dX5_plan_113 : decode cX5_plan 113 = .ok (.aload_n 0, 1) := by decide +kernel
theorem dX5_plan_114 : decode cX5_plan 114 = .ok (.getfield 28, 3) := by decide +kernel
theorem dX5_plan_117 : decode cX5_plan 117 = .ok (.putfield 47, 3) := by decide +kernel
theorem dX5_plan_120 : decode cX5_plan 120 = .ok (.iconst 0, 1) := by decide +kernel
theorem dX5_plan_121 : decode cX5_plan 121 = .ok (.istore 4, 2) := by decide +kernel
theorem dX5_plan_123 : decode cX5_plan 123 = .ok (.iconst 2, 1) := by decide +kernel
theorem dX5_plan_124 : decode cX5_plan 124 = .ok (.istore 5, 2) := by decide +kernel
theorem dX5_plan_126 : decode cX5_plan 126 = .ok (.iconst 0, 1) := by decide +kernel
theorem dX5_plan_127 : decode cX5_plan 127 = .ok (.istore 6, 2) := by decide +kernel
theorem dX5_plan_129 : decode cX5_plan 129 = .ok (.iload 6, 2) := by decide +kernel
theorem dX5_plan_131 : decode cX5_plan 131 = .ok (.aload_n 0, 1) := by decide +kernel
theorem dX5_plan_132 : decode cX5_plan 132 = .ok (.getfield 47, 3) := by decide +kernel
theorem dX5_plan_135 : decode cX5_plan 135 = .ok (.if_icmp .ge 53, 3) := by decide +kernel
theorem dX5_plan_138 : decode cX5_plan 138 = .ok (.aload_n 0, 1) := by decide +kernel
theorem dX5_plan_139 : decode cX5_plan 139 = .ok (.iload 4, 2) := by decide +kernel
theorem dX5_plan_141 : decode cX5_plan 141 = .ok (.iload 5, 2) := by decide +kernel
theorem dX5_plan_143 : decode cX5_plan 143 = .ok (.invokevirtual 32, 3) := by decide +kernel
theorem dX5_plan_146 : decode cX5_plan 146 = .ok (.istore 7, 2) := by decide +kernel
theorem dX5_plan_148 : decode cX5_plan 148 = .ok (.iload 7, 2) := by decide +kernel
theorem dX5_plan_150 : decode cX5_plan 150 = .ok (.iconst (-1), 1) := by decide +kernel
theorem dX5_plan_151 : decode cX5_plan 151 = .ok (.if_icmp .ne 4, 3) := by decide +kernel
theorem dX5_plan_154 : decode cX5_plan 154 = .ok (.return_, 1) := by decide +kernel
theorem dX5_plan_155 : decode cX5_plan 155 = .ok (.aload_n 0, 1) := by decide +kernel
theorem dX5_plan_156 : decode cX5_plan 156 = .ok (.getfield 21, 3) := by decide +kernel
theorem dX5_plan_159 : decode cX5_plan 159 = .ok (.iload 6, 2) := by decide +kernel
theorem dX5_plan_161 : decode cX5_plan 161 = .ok (.iload 7, 2) := by decide +kernel
theorem dX5_plan_163 : decode cX5_plan 163 = .ok (.iastore, 1) := by decide +kernel
theorem dX5_plan_164 : decode cX5_plan 164 = .ok (.iload 4, 2) := by decide +kernel
theorem dX5_plan_166 : decode cX5_plan 166 = .ok (.iconst 1, 1) := by decide +kernel
theorem dX5_plan_167 : decode cX5_plan 167 = .ok (.iload 7, 2) := by decide +kernel
theorem dX5_plan_169 : decode cX5_plan 169 = .ok (.ishl, 1) := by decide +kernel
theorem dX5_plan_170 : decode cX5_plan 170 = .ok (.ior, 1) := by decide +kernel
theorem dX5_plan_171 : decode cX5_plan 171 = .ok (.istore 4, 2) := by decide +kernel
theorem dX5_plan_173 : decode cX5_plan 173 = .ok (.aload_n 0, 1) := by decide +kernel
theorem dX5_plan_174 : decode cX5_plan 174 = .ok (.getfield 18, 3) := by decide +kernel
theorem dX5_plan_177 : decode cX5_plan 177 = .ok (.iload 7, 2) := by decide +kernel
theorem dX5_plan_179 : decode cX5_plan 179 = .ok (.iaload, 1) := by decide +kernel
theorem dX5_plan_180 : decode cX5_plan 180 = .ok (.istore 5, 2) := by decide +kernel
theorem dX5_plan_182 : decode cX5_plan 182 = .ok (.iinc 6 1, 3) := by decide +kernel
theorem dX5_plan_185 : decode cX5_plan 185 = .ok (.goto (-56), 3) := by decide +kernel
theorem dX5_plan_188 : decode cX5_plan 188 = .ok (.return_, 1) := by decide +kernel
theorem dX5_fewestOfAll_0 : decode cX5_fewestOfAll 0 = .ok (.aload_n 0, 1) := by decide +kernel
theorem dX5_fewestOfAll_1 : decode cX5_fewestOfAll 1 = .ok (.aload_n 1, 1) := by decide +kernel
theorem dX5_fewestOfAll_2 : decode cX5_fewestOfAll 2 = .ok (.aload_n 2, 1) := by decide +kernel
theorem dX5_fewestOfAll_3 : decode cX5_fewestOfAll 3 = .ok (.aload_n 3, 1) := by decide +kernel
theorem dX5_fewestOfAll_4 : decode cX5_fewestOfAll 4 = .ok (.invokevirtual 24, 3) := by decide +kernel
theorem dX5_fewestOfAll_7 : decode cX5_fewestOfAll 7 = .ok (.aload_n 0, 1) := by decide +kernel
theorem dX5_fewestOfAll_8 : decode cX5_fewestOfAll 8 = .ok (.iconst 0, 1) := by decide +kernel
theorem dX5_fewestOfAll_9 : decode cX5_fewestOfAll 9 = .ok (.iconst 2, 1) := by decide +kernel
theorem dX5_fewestOfAll_10 : decode cX5_fewestOfAll 10 = .ok (.iconst 0, 1) := by decide +kernel
theorem dX5_fewestOfAll_11 : decode cX5_fewestOfAll 11 = .ok (.invokestatic 50, 3) := by decide +kernel
theorem dX5_fewestOfAll_14 : decode cX5_fewestOfAll 14 = .ok (.ireturn, 1) := by decide +kernel
theorem dX5_look_0 : decode cX5_look 0 = .ok (.aload_n 0, 1) := by decide +kernel
theorem dX5_look_1 : decode cX5_look 1 = .ok (.aload_n 1, 1) := by decide +kernel
theorem dX5_look_2 : decode cX5_look 2 = .ok (.getfield 54, 3) := by decide +kernel
theorem dX5_look_5 : decode cX5_look 5 = .ok (.invokevirtual 60, 3) := by decide +kernel
theorem dX5_look_8 : decode cX5_look 8 = .ok (.putfield 28, 3) := by decide +kernel
theorem dX5_look_11 : decode cX5_look 11 = .ok (.iconst 0, 1) := by decide +kernel
theorem dX5_look_12 : decode cX5_look 12 = .ok (.istore 4, 2) := by decide +kernel
theorem dX5_look_14 : decode cX5_look 14 = .ok (.iload 4, 2) := by decide +kernel
theorem dX5_look_16 : decode cX5_look 16 = .ok (.aload_n 0, 1) := by decide +kernel
theorem dX5_look_17 : decode cX5_look 17 = .ok (.getfield 28, 3) := by decide +kernel
theorem dX5_look_20 : decode cX5_look 20 = .ok (.if_icmp .ge 25, 3) := by decide +kernel
theorem dX5_look_23 : decode cX5_look 23 = .ok (.aload_n 0, 1) := by decide +kernel
theorem dX5_look_24 : decode cX5_look 24 = .ok (.getfield 18, 3) := by decide +kernel
theorem dX5_look_27 : decode cX5_look 27 = .ok (.iload 4, 2) := by decide +kernel
theorem dX5_look_29 : decode cX5_look 29 = .ok (.aload_n 1, 1) := by decide +kernel
theorem dX5_look_30 : decode cX5_look 30 = .ok (.getfield 54, 3) := by decide +kernel
theorem dX5_look_33 : decode cX5_look 33 = .ok (.iload 4, 2) := by decide +kernel
theorem dX5_look_35 : decode cX5_look 35 = .ok (.invokevirtual 65, 3) := by decide +kernel
theorem dX5_look_38 : decode cX5_look 38 = .ok (.iastore, 1) := by decide +kernel
theorem dX5_look_39 : decode cX5_look 39 = .ok (.iinc 4 1, 3) := by decide +kernel
theorem dX5_look_42 : decode cX5_look 42 = .ok (.goto (-28), 3) := by decide +kernel
theorem dX5_look_45 : decode cX5_look 45 = .ok (.iconst 0, 1) := by decide +kernel
theorem dX5_look_46 : decode cX5_look 46 = .ok (.istore 4, 2) := by decide +kernel
theorem dX5_look_48 : decode cX5_look 48 = .ok (.iload 4, 2) := by decide +kernel
theorem dX5_look_50 : decode cX5_look 50 = .ok (.iconst 1, 1) := by decide +kernel
theorem dX5_look_51 : decode cX5_look 51 = .ok (.aload_n 0, 1) := by decide +kernel
theorem dX5_look_52 : decode cX5_look 52 = .ok (.getfield 28, 3) := by decide +kernel
theorem dX5_look_55 : decode cX5_look 55 = .ok (.ishl, 1) := by decide +kernel
theorem dX5_look_56 : decode cX5_look 56 = .ok (.if_icmp .ge 72, 3) := by decide +kernel
theorem dX5_look_59 : decode cX5_look 59 = .ok (.aload_n 0, 1) := by decide +kernel
theorem dX5_look_60 : decode cX5_look 60 = .ok (.getfield 9, 3) := by decide +kernel
theorem dX5_look_63 : decode cX5_look 63 = .ok (.iload 4, 2) := by decide +kernel
theorem dX5_look_65 : decode cX5_look 65 = .ok (.iconst 0, 1) := by decide +kernel
theorem dX5_look_66 : decode cX5_look 66 = .ok (.iastore, 1) := by decide +kernel
theorem dX5_look_67 : decode cX5_look 67 = .ok (.iconst 0, 1) := by decide +kernel
theorem dX5_look_68 : decode cX5_look 68 = .ok (.istore 5, 2) := by decide +kernel
theorem dX5_look_70 : decode cX5_look 70 = .ok (.iload 5, 2) := by decide +kernel
theorem dX5_look_72 : decode cX5_look 72 = .ok (.aload_n 0, 1) := by decide +kernel
theorem dX5_look_73 : decode cX5_look 73 = .ok (.getfield 28, 3) := by decide +kernel
theorem dX5_look_76 : decode cX5_look 76 = .ok (.if_icmp .ge 46, 3) := by decide +kernel
theorem dX5_look_79 : decode cX5_look 79 = .ok (.iload 4, 2) := by decide +kernel
theorem dX5_look_81 : decode cX5_look 81 = .ok (.iload 5, 2) := by decide +kernel
theorem dX5_look_83 : decode cX5_look 83 = .ok (.invokestatic 68, 3) := by decide +kernel
theorem dX5_look_86 : decode cX5_look 86 = .ok (.ifCond .ne 30, 3) := by decide +kernel
theorem dX5_look_89 : decode cX5_look 89 = .ok (.aload_n 3, 1) := by decide +kernel
theorem dX5_look_90 : decode cX5_look 90 = .ok (.aload_n 1, 1) := by decide +kernel
theorem dX5_look_91 : decode cX5_look 91 = .ok (.aload_n 2, 1) := by decide +kernel
theorem dX5_look_92 : decode cX5_look 92 = .ok (.iload 4, 2) := by decide +kernel
theorem dX5_look_94 : decode cX5_look 94 = .ok (.iload 5, 2) := by decide +kernel
theorem dX5_look_96 : decode cX5_look 96 = .ok (.invokevirtual 72, 3) := by decide +kernel
theorem dX5_look_99 : decode cX5_look 99 = .ok (.ifCond .ne 17, 3) := by decide +kernel
theorem dX5_look_102 : decode cX5_look 102 = .ok (.aload_n 0, 1) := by decide +kernel
theorem dX5_look_103 : decode cX5_look 103 = .ok (.getfield 9, 3) := by decide +kernel
theorem dX5_look_106 : decode cX5_look 106 = .ok (.iload 4, 2) := by decide +kernel
theorem dX5_look_108 : decode cX5_look 108 = .ok (.dup2, 1) := by decide +kernel
theorem dX5_look_109 : decode cX5_look 109 = .ok (.iaload, 1) := by decide +kernel
theorem dX5_look_110 : decode cX5_look 110 = .ok (.iconst 1, 1) := by decide +kernel
theorem dX5_look_111 : decode cX5_look 111 = .ok (.iload 5, 2) := by decide +kernel
theorem dX5_look_113 : decode cX5_look 113 = .ok (.ishl, 1) := by decide +kernel
theorem dX5_look_114 : decode cX5_look 114 = .ok (.ior, 1) := by decide +kernel
theorem dX5_look_115 : decode cX5_look 115 = .ok (.iastore, 1) := by decide +kernel
theorem dX5_look_116 : decode cX5_look 116 = .ok (.iinc 5 1, 3) := by decide +kernel
theorem dX5_look_119 : decode cX5_look 119 = .ok (.goto (-49), 3) := by decide +kernel
theorem dX5_look_122 : decode cX5_look 122 = .ok (.iinc 4 1, 3) := by decide +kernel
theorem dX5_look_125 : decode cX5_look 125 = .ok (.goto (-77), 3) := by decide +kernel
theorem dX5_look_128 : decode cX5_look 128 = .ok (.return_, 1) := by decide +kernel
theorem dX5_bestNext_0 : decode cX5_bestNext 0 = .ok (.iconst (-1), 1) := by decide +kernel
theorem dX5_bestNext_1 : decode cX5_bestNext 1 = .ok (.istore_n 3, 1) := by decide +kernel
theorem dX5_bestNext_2 : decode cX5_bestNext 2 = .ok (.iconst (-1), 1) := by decide +kernel
theorem dX5_bestNext_3 : decode cX5_bestNext 3 = .ok (.istore 4, 2) := by decide +kernel
theorem dX5_bestNext_5 : decode cX5_bestNext 5 = .ok (.iconst 0, 1) := by decide +kernel
theorem dX5_bestNext_6 : decode cX5_bestNext 6 = .ok (.istore 5, 2) := by decide +kernel
theorem dX5_bestNext_8 : decode cX5_bestNext 8 = .ok (.iload 5, 2) := by decide +kernel
theorem dX5_bestNext_10 : decode cX5_bestNext 10 = .ok (.aload_n 0, 1) := by decide +kernel
theorem dX5_bestNext_11 : decode cX5_bestNext 11 = .ok (.getfield 28, 3) := by decide +kernel
theorem dX5_bestNext_14 : decode cX5_bestNext 14 = .ok (.if_icmp .ge 62, 3) := by decide +kernel
theorem dX5_bestNext_17 : decode cX5_bestNext 17 = .ok (.aload_n 0, 1) := by decide +kernel
theorem dX5_bestNext_18 : decode cX5_bestNext 18 = .ok (.getfield 9, 3) := by decide +kernel
theorem dX5_bestNext_21 : decode cX5_bestNext 21 = .ok (.iload_n 1, 1) := by decide +kernel
theorem dX5_bestNext_22 : decode cX5_bestNext 22 = .ok (.iaload, 1) := by decide +kernel
theorem dX5_bestNext_23 : decode cX5_bestNext 23 = .ok (.iload 5, 2) := by decide +kernel
theorem dX5_bestNext_25 : decode cX5_bestNext 25 = .ok (.invokestatic 68, 3) := by decide +kernel
theorem dX5_bestNext_28 : decode cX5_bestNext 28 = .ok (.ifCond .eq 14, 3) := by decide +kernel
theorem dX5_bestNext_31 : decode cX5_bestNext 31 = .ok (.aload_n 0, 1) := by decide +kernel
theorem dX5_bestNext_32 : decode cX5_bestNext 32 = .ok (.iload_n 1, 1) := by decide +kernel
theorem dX5_bestNext_33 : decode cX5_bestNext 33 = .ok (.iload_n 2, 1) := by decide +kernel
theorem dX5_bestNext_34 : decode cX5_bestNext 34 = .ok (.iload 5, 2) := by decide +kernel
theorem dX5_bestNext_36 : decode cX5_bestNext 36 = .ok (.invokevirtual 40, 3) := by decide +kernel
theorem dX5_bestNext_39 : decode cX5_bestNext 39 = .ok (.goto 4, 3) := by decide +kernel
theorem dX5_bestNext_42 : decode cX5_bestNext 42 = .ok (.iconst (-1), 1) := by decide +kernel
theorem dX5_bestNext_43 : decode cX5_bestNext 43 = .ok (.istore 6, 2) := by decide +kernel
theorem dX5_bestNext_45 : decode cX5_bestNext 45 = .ok (.iload 6, 2) := by decide +kernel
theorem dX5_bestNext_47 : decode cX5_bestNext 47 = .ok (.iconst (-1), 1) := by decide +kernel
theorem dX5_bestNext_48 : decode cX5_bestNext 48 = .ok (.if_icmp .eq 22, 3) := by decide +kernel
theorem dX5_bestNext_51 : decode cX5_bestNext 51 = .ok (.iload_n 3, 1) := by decide +kernel
theorem dX5_bestNext_52 : decode cX5_bestNext 52 = .ok (.iconst (-1), 1) := by decide +kernel
theorem dX5_bestNext_53 : decode cX5_bestNext 53 = .ok (.if_icmp .eq 10, 3) := by decide +kernel
theorem dX5_bestNext_56 : decode cX5_bestNext 56 = .ok (.iload 6, 2) := by decide +kernel
theorem dX5_bestNext_58 : decode cX5_bestNext 58 = .ok (.iload 4, 2) := by decide +kernel
theorem dX5_bestNext_60 : decode cX5_bestNext 60 = .ok (.if_icmp .ge 10, 3) := by decide +kernel
theorem dX5_bestNext_63 : decode cX5_bestNext 63 = .ok (.iload 5, 2) := by decide +kernel
theorem dX5_bestNext_65 : decode cX5_bestNext 65 = .ok (.istore_n 3, 1) := by decide +kernel
theorem dX5_bestNext_66 : decode cX5_bestNext 66 = .ok (.iload 6, 2) := by decide +kernel
theorem dX5_bestNext_68 : decode cX5_bestNext 68 = .ok (.istore 4, 2) := by decide +kernel
theorem dX5_bestNext_70 : decode cX5_bestNext 70 = .ok (.iinc 5 1, 3) := by decide +kernel
theorem dX5_bestNext_73 : decode cX5_bestNext 73 = .ok (.goto (-65), 3) := by decide +kernel
theorem dX5_bestNext_76 : decode cX5_bestNext 76 = .ok (.iload_n 3, 1) := by decide +kernel
theorem dX5_bestNext_77 : decode cX5_bestNext 77 = .ok (.ireturn, 1) := by decide +kernel
theorem dX5_turnsBy_0 : decode cX5_turnsBy 0 = .ok (.aload_n 0, 1) := by decide +kernel
theorem dX5_turnsBy_1 : decode cX5_turnsBy 1 = .ok (.getfield 15, 3) := by decide +kernel
theorem dX5_turnsBy_4 : decode cX5_turnsBy 4 = .ok (.iload_n 1, 1) := by decide +kernel
theorem dX5_turnsBy_5 : decode cX5_turnsBy 5 = .ok (.iconst 1, 1) := by decide +kernel
theorem dX5_turnsBy_6 : decode cX5_turnsBy 6 = .ok (.iload_n 3, 1) := by decide +kernel
theorem dX5_turnsBy_7 : decode cX5_turnsBy 7 = .ok (.ishl, 1) := by decide +kernel
theorem dX5_turnsBy_8 : decode cX5_turnsBy 8 = .ok (.ior, 1) := by decide +kernel
theorem dX5_turnsBy_9 : decode cX5_turnsBy 9 = .ok (.iconst 3, 1) := by decide +kernel
theorem dX5_turnsBy_10 : decode cX5_turnsBy 10 = .ok (.imul, 1) := by decide +kernel
theorem dX5_turnsBy_11 : decode cX5_turnsBy 11 = .ok (.aload_n 0, 1) := by decide +kernel
theorem dX5_turnsBy_12 : decode cX5_turnsBy 12 = .ok (.getfield 18, 3) := by decide +kernel
theorem dX5_turnsBy_15 : decode cX5_turnsBy 15 = .ok (.iload_n 3, 1) := by decide +kernel
theorem dX5_turnsBy_16 : decode cX5_turnsBy 16 = .ok (.iaload, 1) := by decide +kernel
theorem dX5_turnsBy_17 : decode cX5_turnsBy 17 = .ok (.iadd, 1) := by decide +kernel
theorem dX5_turnsBy_18 : decode cX5_turnsBy 18 = .ok (.iaload, 1) := by decide +kernel
theorem dX5_turnsBy_19 : decode cX5_turnsBy 19 = .ok (.istore 4, 2) := by decide +kernel
theorem dX5_turnsBy_21 : decode cX5_turnsBy 21 = .ok (.iload 4, 2) := by decide +kernel
theorem dX5_turnsBy_23 : decode cX5_turnsBy 23 = .ok (.iconst (-1), 1) := by decide +kernel
theorem dX5_turnsBy_24 : decode cX5_turnsBy 24 = .ok (.if_icmp .ne 7, 3) := by decide +kernel
theorem dX5_turnsBy_27 : decode cX5_turnsBy 27 = .ok (.iconst (-1), 1) := by decide +kernel
theorem dX5_turnsBy_28 : decode cX5_turnsBy 28 = .ok (.goto 12, 3) := by decide +kernel
theorem dX5_turnsBy_31 : decode cX5_turnsBy 31 = .ok (.iload 4, 2) := by decide +kernel
theorem dX5_turnsBy_33 : decode cX5_turnsBy 33 = .ok (.aload_n 0, 1) := by decide +kernel
theorem dX5_turnsBy_34 : decode cX5_turnsBy 34 = .ok (.iload_n 2, 1) := by decide +kernel
theorem dX5_turnsBy_35 : decode cX5_turnsBy 35 = .ok (.iload_n 3, 1) := by decide +kernel
theorem dX5_turnsBy_36 : decode cX5_turnsBy 36 = .ok (.invokevirtual 78, 3) := by decide +kernel
theorem dX5_turnsBy_39 : decode cX5_turnsBy 39 = .ok (.iadd, 1) := by decide +kernel
theorem dX5_turnsBy_40 : decode cX5_turnsBy 40 = .ok (.ireturn, 1) := by decide +kernel
theorem dX5_restOfNone_0 : decode cX5_restOfNone 0 = .ok (.iload_n 1, 1) := by decide +kernel
theorem dX5_restOfNone_1 : decode cX5_restOfNone 1 = .ok (.iconst 1, 1) := by decide +kernel
theorem dX5_restOfNone_2 : decode cX5_restOfNone 2 = .ok (.aload_n 0, 1) := by decide +kernel
theorem dX5_restOfNone_3 : decode cX5_restOfNone 3 = .ok (.getfield 28, 3) := by decide +kernel
theorem dX5_restOfNone_6 : decode cX5_restOfNone 6 = .ok (.ishl, 1) := by decide +kernel
theorem dX5_restOfNone_7 : decode cX5_restOfNone 7 = .ok (.iconst 1, 1) := by decide +kernel
theorem dX5_restOfNone_8 : decode cX5_restOfNone 8 = .ok (.isub, 1) := by decide +kernel
theorem dX5_restOfNone_9 : decode cX5_restOfNone 9 = .ok (.if_icmp .ne 7, 3) := by decide +kernel
theorem dX5_restOfNone_12 : decode cX5_restOfNone 12 = .ok (.iconst 0, 1) := by decide +kernel
theorem dX5_restOfNone_13 : decode cX5_restOfNone 13 = .ok (.goto 4, 3) := by decide +kernel
theorem dX5_restOfNone_16 : decode cX5_restOfNone 16 = .ok (.iconst (-1), 1) := by decide +kernel
theorem dX5_restOfNone_17 : decode cX5_restOfNone 17 = .ok (.ireturn, 1) := by decide +kernel
theorem dX5_turn_0 : decode cX5_turn 0 = .ok (.iload_n 1, 1) := by decide +kernel
theorem dX5_turn_1 : decode cX5_turn 1 = .ok (.iconst 2, 1) := by decide +kernel
theorem dX5_turn_2 : decode cX5_turn 2 = .ok (.if_icmp .eq 13, 3) := by decide +kernel
theorem dX5_turn_5 : decode cX5_turn 5 = .ok (.iload_n 1, 1) := by decide +kernel
theorem dX5_turn_6 : decode cX5_turn 6 = .ok (.aload_n 0, 1) := by decide +kernel
theorem dX5_turn_7 : decode cX5_turn 7 = .ok (.getfield 18, 3) := by decide +kernel
theorem dX5_turn_10 : decode cX5_turn 10 = .ok (.iload_n 2, 1) := by decide +kernel
theorem dX5_turn_11 : decode cX5_turn 11 = .ok (.iaload, 1) := by decide +kernel
theorem dX5_turn_12 : decode cX5_turn 12 = .ok (.if_icmp .ne 7, 3) := by decide +kernel
theorem dX5_turn_15 : decode cX5_turn 15 = .ok (.iconst 0, 1) := by decide +kernel
theorem dX5_turn_16 : decode cX5_turn 16 = .ok (.goto 4, 3) := by decide +kernel
theorem dX5_turn_19 : decode cX5_turn 19 = .ok (.iconst 1, 1) := by decide +kernel
theorem dX5_turn_20 : decode cX5_turn 20 = .ok (.ireturn, 1) := by decide +kernel
theorem dX5_fewestBeyond_0 : decode cX5_fewestBeyond 0 = .ok (.iload_n 3, 1) := by decide +kernel
theorem dX5_fewestBeyond_1 : decode cX5_fewestBeyond 1 = .ok (.aload_n 0, 1) := by decide +kernel
theorem dX5_fewestBeyond_2 : decode cX5_fewestBeyond 2 = .ok (.getfield 28, 3) := by decide +kernel
theorem dX5_fewestBeyond_5 : decode cX5_fewestBeyond 5 = .ok (.if_icmp .lt 5, 3) := by decide +kernel
theorem dX5_fewestBeyond_8 : decode cX5_fewestBeyond 8 = .ok (.iconst 0, 1) := by decide +kernel
theorem dX5_fewestBeyond_9 : decode cX5_fewestBeyond 9 = .ok (.ireturn, 1) := by decide +kernel
theorem dX5_fewestBeyond_10 : decode cX5_fewestBeyond 10 = .ok (.iconst (-1), 1) := by decide +kernel
theorem dX5_fewestBeyond_11 : decode cX5_fewestBeyond 11 = .ok (.istore 4, 2) := by decide +kernel
theorem dX5_fewestBeyond_13 : decode cX5_fewestBeyond 13 = .ok (.iconst 0, 1) := by decide +kernel
theorem dX5_fewestBeyond_14 : decode cX5_fewestBeyond 14 = .ok (.istore 5, 2) := by decide +kernel
theorem dX5_fewestBeyond_16 : decode cX5_fewestBeyond 16 = .ok (.iload 5, 2) := by decide +kernel
theorem dX5_fewestBeyond_18 : decode cX5_fewestBeyond 18 = .ok (.aload_n 0, 1) := by decide +kernel
theorem dX5_fewestBeyond_19 : decode cX5_fewestBeyond 19 = .ok (.getfield 28, 3) := by decide +kernel
theorem dX5_fewestBeyond_22 : decode cX5_fewestBeyond 22 = .ok (.if_icmp .ge 87, 3) := by decide +kernel
theorem dX5_fewestBeyond_25 : decode cX5_fewestBeyond 25 = .ok (.aload_n 0, 1) := by decide +kernel
theorem dX5_fewestBeyond_26 : decode cX5_fewestBeyond 26 = .ok (.getfield 9, 3) := by decide +kernel
theorem dX5_fewestBeyond_29 : decode cX5_fewestBeyond 29 = .ok (.iload_n 1, 1) := by decide +kernel
theorem dX5_fewestBeyond_30 : decode cX5_fewestBeyond 30 = .ok (.iaload, 1) := by decide +kernel
theorem dX5_fewestBeyond_31 : decode cX5_fewestBeyond 31 = .ok (.iload 5, 2) := by decide +kernel
theorem dX5_fewestBeyond_33 : decode cX5_fewestBeyond 33 = .ok (.invokestatic 68, 3) := by decide +kernel
theorem dX5_fewestBeyond_36 : decode cX5_fewestBeyond 36 = .ok (.ifCond .ne 6, 3) := by decide +kernel
theorem dX5_fewestBeyond_39 : decode cX5_fewestBeyond 39 = .ok (.goto 64, 3) := by decide +kernel
theorem dX5_fewestBeyond_42 : decode cX5_fewestBeyond 42 = .ok (.aload_n 0, 1) := by decide +kernel
theorem dX5_fewestBeyond_43 : decode cX5_fewestBeyond 43 = .ok (.iload_n 1, 1) := by decide +kernel
theorem dX5_fewestBeyond_44 : decode cX5_fewestBeyond 44 = .ok (.iconst 1, 1) := by decide +kernel
theorem dX5_fewestBeyond_45 : decode cX5_fewestBeyond 45 = .ok (.iload 5, 2) := by decide +kernel
theorem dX5_fewestBeyond_47 : decode cX5_fewestBeyond 47 = .ok (.ishl, 1) := by decide +kernel
theorem dX5_fewestBeyond_48 : decode cX5_fewestBeyond 48 = .ok (.ior, 1) := by decide +kernel
theorem dX5_fewestBeyond_49 : decode cX5_fewestBeyond 49 = .ok (.aload_n 0, 1) := by decide +kernel
theorem dX5_fewestBeyond_50 : decode cX5_fewestBeyond 50 = .ok (.getfield 18, 3) := by decide +kernel
theorem dX5_fewestBeyond_53 : decode cX5_fewestBeyond 53 = .ok (.iload 5, 2) := by decide +kernel
theorem dX5_fewestBeyond_55 : decode cX5_fewestBeyond 55 = .ok (.iaload, 1) := by decide +kernel
theorem dX5_fewestBeyond_56 : decode cX5_fewestBeyond 56 = .ok (.iload_n 3, 1) := by decide +kernel
theorem dX5_fewestBeyond_57 : decode cX5_fewestBeyond 57 = .ok (.iconst 1, 1) := by decide +kernel
theorem dX5_fewestBeyond_58 : decode cX5_fewestBeyond 58 = .ok (.iadd, 1) := by decide +kernel
theorem dX5_fewestBeyond_59 : decode cX5_fewestBeyond 59 = .ok (.invokestatic 50, 3) := by decide +kernel
theorem dX5_fewestBeyond_62 : decode cX5_fewestBeyond 62 = .ok (.istore 6, 2) := by decide +kernel
theorem dX5_fewestBeyond_64 : decode cX5_fewestBeyond 64 = .ok (.iload 6, 2) := by decide +kernel
theorem dX5_fewestBeyond_66 : decode cX5_fewestBeyond 66 = .ok (.iconst (-1), 1) := by decide +kernel
theorem dX5_fewestBeyond_67 : decode cX5_fewestBeyond 67 = .ok (.if_icmp .eq 36, 3) := by decide +kernel
theorem dX5_fewestBeyond_70 : decode cX5_fewestBeyond 70 = .ok (.iload 4, 2) := by decide +kernel
theorem dX5_fewestBeyond_72 : decode cX5_fewestBeyond 72 = .ok (.iconst (-1), 1) := by decide +kernel
theorem dX5_fewestBeyond_73 : decode cX5_fewestBeyond 73 = .ok (.if_icmp .eq 18, 3) := by decide +kernel
theorem dX5_fewestBeyond_76 : decode cX5_fewestBeyond 76 = .ok (.iload 6, 2) := by decide +kernel
theorem dX5_fewestBeyond_78 : decode cX5_fewestBeyond 78 = .ok (.aload_n 0, 1) := by decide +kernel
theorem dX5_fewestBeyond_79 : decode cX5_fewestBeyond 79 = .ok (.iload_n 2, 1) := by decide +kernel
theorem dX5_fewestBeyond_80 : decode cX5_fewestBeyond 80 = .ok (.iload 5, 2) := by decide +kernel
theorem dX5_fewestBeyond_82 : decode cX5_fewestBeyond 82 = .ok (.invokevirtual 78, 3) := by decide +kernel
theorem dX5_fewestBeyond_85 : decode cX5_fewestBeyond 85 = .ok (.iadd, 1) := by decide +kernel
theorem dX5_fewestBeyond_86 : decode cX5_fewestBeyond 86 = .ok (.iload 4, 2) := by decide +kernel
theorem dX5_fewestBeyond_88 : decode cX5_fewestBeyond 88 = .ok (.if_icmp .ge 15, 3) := by decide +kernel
theorem dX5_fewestBeyond_91 : decode cX5_fewestBeyond 91 = .ok (.iload 6, 2) := by decide +kernel
theorem dX5_fewestBeyond_93 : decode cX5_fewestBeyond 93 = .ok (.aload_n 0, 1) := by decide +kernel
theorem dX5_fewestBeyond_94 : decode cX5_fewestBeyond 94 = .ok (.iload_n 2, 1) := by decide +kernel
theorem dX5_fewestBeyond_95 : decode cX5_fewestBeyond 95 = .ok (.iload 5, 2) := by decide +kernel
theorem dX5_fewestBeyond_97 : decode cX5_fewestBeyond 97 = .ok (.invokevirtual 78, 3) := by decide +kernel
theorem dX5_fewestBeyond_100 : decode cX5_fewestBeyond 100 = .ok (.iadd, 1) := by decide +kernel
theorem dX5_fewestBeyond_101 : decode cX5_fewestBeyond 101 = .ok (.istore 4, 2) := by decide +kernel
theorem dX5_fewestBeyond_103 : decode cX5_fewestBeyond 103 = .ok (.iinc 5 1, 3) := by decide +kernel
theorem dX5_fewestBeyond_106 : decode cX5_fewestBeyond 106 = .ok (.goto (-90), 3) := by decide +kernel
theorem dX5_fewestBeyond_109 : decode cX5_fewestBeyond 109 = .ok (.iload 4, 2) := by decide +kernel
theorem dX5_fewestBeyond_111 : decode cX5_fewestBeyond 111 = .ok (.ireturn, 1) := by decide +kernel
theorem dX6_init_0 : decode cX6_init 0 = .ok (.aload_n 0, 1) := by decide +kernel
theorem dX6_init_1 : decode cX6_init 1 = .ok (.invokespecial 3, 3) := by decide +kernel
theorem dX6_init_4 : decode cX6_init 4 = .ok (.aload_n 0, 1) := by decide +kernel
theorem dX6_init_5 : decode cX6_init 5 = .ok (.iconst 5, 1) := by decide +kernel
theorem dX6_init_6 : decode cX6_init 6 = .ok (.newarray .int, 2) := by decide +kernel
theorem dX6_init_8 : decode cX6_init 8 = .ok (.putfield 9, 3) := by decide +kernel
theorem dX6_init_11 : decode cX6_init 11 = .ok (.iconst 1, 1) := by decide +kernel
theorem dX6_init_12 : decode cX6_init 12 = .ok (.istore_n 1, 1) := by decide +kernel
theorem dX6_init_13 : decode cX6_init 13 = .ok (.iload_n 1, 1) := by decide +kernel
theorem dX6_init_14 : decode cX6_init 14 = .ok (.iconst 4, 1) := by decide +kernel
theorem dX6_init_15 : decode cX6_init 15 = .ok (.if_icmp .gt 18, 3) := by decide +kernel
theorem dX6_init_18 : decode cX6_init 18 = .ok (.aload_n 0, 1) := by decide +kernel
theorem dX6_init_19 : decode cX6_init 19 = .ok (.getfield 9, 3) := by decide +kernel
theorem dX6_init_22 : decode cX6_init 22 = .ok (.iload_n 1, 1) := by decide +kernel
theorem dX6_init_23 : decode cX6_init 23 = .ok (.iconst 2, 1) := by decide +kernel
theorem dX6_init_24 : decode cX6_init 24 = .ok (.iload_n 1, 1) := by decide +kernel
theorem dX6_init_25 : decode cX6_init 25 = .ok (.imul, 1) := by decide +kernel
theorem dX6_init_26 : decode cX6_init 26 = .ok (.iastore, 1) := by decide +kernel
theorem dX6_init_27 : decode cX6_init 27 = .ok (.iinc 1 1, 3) := by decide +kernel
theorem dX6_init_30 : decode cX6_init 30 = .ok (.goto (-17), 3) := by decide +kernel
theorem dX6_init_33 : decode cX6_init 33 = .ok (.return_, 1) := by decide +kernel
theorem dX7_init_0 : decode cX7_init 0 = .ok (.aload_n 0, 1) := by decide +kernel
theorem dX7_init_1 : decode cX7_init 1 = .ok (.invokespecial 3, 3) := by decide +kernel
theorem dX7_init_4 : decode cX7_init 4 = .ok (.aload_n 0, 1) := by decide +kernel
theorem dX7_init_5 : decode cX7_init 5 = .ok (.bipush 6, 2) := by decide +kernel
theorem dX7_init_7 : decode cX7_init 7 = .ok (.newarray .int, 2) := by decide +kernel
theorem dX7_init_9 : decode cX7_init 9 = .ok (.putfield 9, 3) := by decide +kernel
theorem dX7_init_12 : decode cX7_init 12 = .ok (.aload_n 0, 1) := by decide +kernel
theorem dX7_init_13 : decode cX7_init 13 = .ok (.bipush 6, 2) := by decide +kernel
theorem dX7_init_15 : decode cX7_init 15 = .ok (.newarray .int, 2) := by decide +kernel
theorem dX7_init_17 : decode cX7_init 17 = .ok (.putfield 15, 3) := by decide +kernel
theorem dX7_init_20 : decode cX7_init 20 = .ok (.return_, 1) := by decide +kernel
theorem dX7_unroll_0 : decode cX7_unroll 0 = .ok (.aload_n 0, 1) := by decide +kernel
theorem dX7_unroll_1 : decode cX7_unroll 1 = .ok (.aload_n 1, 1) := by decide +kernel
theorem dX7_unroll_2 : decode cX7_unroll 2 = .ok (.iload_n 3, 1) := by decide +kernel
theorem dX7_unroll_3 : decode cX7_unroll 3 = .ok (.iload 4, 2) := by decide +kernel
theorem dX7_unroll_5 : decode cX7_unroll 5 = .ok (.invokevirtual 18, 3) := by decide +kernel
theorem dX7_unroll_8 : decode cX7_unroll 8 = .ok (.putfield 24, 3) := by decide +kernel
theorem dX7_unroll_11 : decode cX7_unroll 11 = .ok (.aload_n 0, 1) := by decide +kernel
theorem dX7_unroll_12 : decode cX7_unroll 12 = .ok (.iconst 0, 1) := by decide +kernel
theorem dX7_unroll_13 : decode cX7_unroll 13 = .ok (.putfield 28, 3) := by decide +kernel
theorem dX7_unroll_16 : decode cX7_unroll 16 = .ok (.iload 4, 2) := by decide +kernel
theorem dX7_unroll_18 : decode cX7_unroll 18 = .ok (.ifCond .eq 7, 3) := by decide +kernel
theorem dX7_unroll_21 : decode cX7_unroll 21 = .ok (.iconst 1, 1) := by decide +kernel
theorem dX7_unroll_22 : decode cX7_unroll 22 = .ok (.goto 4, 3) := by decide +kernel
theorem dX7_unroll_25 : decode cX7_unroll 25 = .ok (.iconst (-1), 1) := by decide +kernel
theorem dX7_unroll_26 : decode cX7_unroll 26 = .ok (.istore 5, 2) := by decide +kernel
theorem dX7_unroll_28 : decode cX7_unroll 28 = .ok (.iconst 0, 1) := by decide +kernel
theorem dX7_unroll_29 : decode cX7_unroll 29 = .ok (.istore 6, 2) := by decide +kernel
theorem dX7_unroll_31 : decode cX7_unroll 31 = .ok (.iconst 0, 1) := by decide +kernel
theorem dX7_unroll_32 : decode cX7_unroll 32 = .ok (.istore 7, 2) := by decide +kernel
theorem dX7_unroll_34 : decode cX7_unroll 34 = .ok (.iconst 1, 1) := by decide +kernel
theorem dX7_unroll_35 : decode cX7_unroll 35 = .ok (.istore 8, 2) := by decide +kernel
theorem dX7_unroll_37 : decode cX7_unroll 37 = .ok (.iconst 0, 1) := by decide +kernel
theorem dX7_unroll_38 : decode cX7_unroll 38 = .ok (.istore 9, 2) := by decide +kernel
theorem dX7_unroll_40 : decode cX7_unroll 40 = .ok (.iconst 1, 1) := by decide +kernel
theorem dX7_unroll_41 : decode cX7_unroll 41 = .ok (.istore 10, 2) := by decide +kernel
theorem dX7_unroll_43 : decode cX7_unroll 43 = .ok (.iconst 0, 1) := by decide +kernel
theorem dX7_unroll_44 : decode cX7_unroll 44 = .ok (.istore 11, 2) := by decide +kernel
theorem dX7_unroll_46 : decode cX7_unroll 46 = .ok (.iload 11, 2) := by decide +kernel
theorem dX7_unroll_48 : decode cX7_unroll 48 = .ok (.aload_n 0, 1) := by decide +kernel
theorem dX7_unroll_49 : decode cX7_unroll 49 = .ok (.getfield 24, 3) := by decide +kernel
theorem dX7_unroll_52 : decode cX7_unroll 52 = .ok (.if_icmp .ge 149, 3) := by decide +kernel
theorem dX7_unroll_55 : decode cX7_unroll 55 = .ok (.iload_n 3, 1) := by decide +kernel
theorem dX7_unroll_56 : decode cX7_unroll 56 = .ok (.iload 5, 2) := by decide +kernel
theorem dX7_unroll_58 : decode cX7_unroll 58 = .ok (.iload 11, 2) := by decide +kernel
theorem dX7_unroll_60 : decode cX7_unroll 60 = .ok (.imul, 1) := by decide +kernel
theorem dX7_unroll_61 : decode cX7_unroll 61 = .ok (.iadd, 1) := by decide +kernel
theorem dX7_unroll_62 : decode cX7_unroll 62 = .ok (.istore 12, 2) := by decide +kernel
theorem dX7_unroll_64 : decode cX7_unroll 64 = .ok (.iload_n 2, 1) := by decide +kernel
theorem dX7_unroll_65 : decode cX7_unroll 65 = .ok (.iload 12, 2) := by decide +kernel
theorem dX7_unroll_67 : decode cX7_unroll 67 = .ok (.invokestatic 31, 3) := by decide +kernel
theorem dX7_unroll_70 : decode cX7_unroll 70 = .ok (.ifCond .eq 46, 3) := by decide +kernel
theorem dX7_unroll_73 : decode cX7_unroll 73 = .ok (.aload_n 1, 1) := by decide +kernel
theorem dX7_unroll_74 : decode cX7_unroll 74 = .ok (.iload 12, 2) := by decide +kernel
theorem dX7_unroll_76 : decode cX7_unroll 76 = .ok (.invokevirtual 35, 3) := by decide +kernel
theorem dX7_unroll_79 : decode cX7_unroll 79 = .ok (.aload_n 1, 1) := by decide +kernel
theorem dX7_unroll_80 : decode cX7_unroll 80 = .ok (.iload_n 3, 1) := by decide +kernel
theorem dX7_unroll_81 : decode cX7_unroll 81 = .ok (.invokevirtual 35, 3) := by decide +kernel
theorem dX7_unroll_84 : decode cX7_unroll 84 = .ok (.if_icmp .ne 7, 3) := by decide +kernel
theorem dX7_unroll_87 : decode cX7_unroll 87 = .ok (.iconst 1, 1) := by decide +kernel
theorem dX7_unroll_88 : decode cX7_unroll 88 = .ok (.goto 4, 3) := by decide +kernel
theorem dX7_unroll_91 : decode cX7_unroll 91 = .ok (.iconst (-1), 1) := by decide +kernel
theorem dX7_unroll_92 : decode cX7_unroll 92 = .ok (.istore 13, 2) := by decide +kernel
theorem dX7_unroll_94 : decode cX7_unroll 94 = .ok (.iload 13, 2) := by decide +kernel
theorem dX7_unroll_96 : decode cX7_unroll 96 = .ok (.ineg, 1) := by decide +kernel
theorem dX7_unroll_97 : decode cX7_unroll 97 = .ok (.iload 9, 2) := by decide +kernel
theorem dX7_unroll_99 : decode cX7_unroll 99 = .ok (.imul, 1) := by decide +kernel
theorem dX7_unroll_100 : decode cX7_unroll 100 = .ok (.istore 14, 2) := by decide +kernel
theorem dX7_unroll_102 : decode cX7_unroll 102 = .ok (.iload 13, 2) := by decide +kernel
theorem dX7_unroll_104 : decode cX7_unroll 104 = .ok (.iload 8, 2) := by decide +kernel
theorem dX7_unroll_106 : decode cX7_unroll 106 = .ok (.imul, 1) := by decide +kernel
theorem dX7_unroll_107 : decode cX7_unroll 107 = .ok (.istore 9, 2) := by decide +kernel
theorem dX7_unroll_109 : decode cX7_unroll 109 = .ok (.iload 14, 2) := by decide +kernel
theorem dX7_unroll_111 : decode cX7_unroll 111 = .ok (.istore 8, 2) := by decide +kernel
theorem dX7_unroll_113 : decode cX7_unroll 113 = .ok (.iconst 0, 1) := by decide +kernel
theorem dX7_unroll_114 : decode cX7_unroll 114 = .ok (.istore 10, 2) := by decide +kernel
theorem dX7_unroll_116 : decode cX7_unroll 116 = .ok (.aload_n 1, 1) := by decide +kernel
theorem dX7_unroll_117 : decode cX7_unroll 117 = .ok (.getfield 39, 3) := by decide +kernel
theorem dX7_unroll_120 : decode cX7_unroll 120 = .ok (.iload 4, 2) := by decide +kernel
theorem dX7_unroll_122 : decode cX7_unroll 122 = .ok (.ifCond .eq 10, 3) := by decide +kernel
theorem dX7_unroll_125 : decode cX7_unroll 125 = .ok (.iload 12, 2) := by decide +kernel
theorem dX7_unroll_127 : decode cX7_unroll 127 = .ok (.iconst 1, 1) := by decide +kernel
theorem dX7_unroll_128 : decode cX7_unroll 128 = .ok (.iadd, 1) := by decide +kernel
theorem dX7_unroll_129 : decode cX7_unroll 129 = .ok (.goto 5, 3) := by decide +kernel
theorem dX7_unroll_132 : decode cX7_unroll 132 = .ok (.iload 12, 2) := by decide +kernel
theorem dX7_unroll_134 : decode cX7_unroll 134 = .ok (.iaload, 1) := by decide +kernel
theorem dX7_unroll_135 : decode cX7_unroll 135 = .ok (.istore 13, 2) := by decide +kernel
theorem dX7_unroll_137 : decode cX7_unroll 137 = .ok (.iload 6, 2) := by decide +kernel
theorem dX7_unroll_139 : decode cX7_unroll 139 = .ok (.iload 8, 2) := by decide +kernel
theorem dX7_unroll_141 : decode cX7_unroll 141 = .ok (.iload 13, 2) := by decide +kernel
theorem dX7_unroll_143 : decode cX7_unroll 143 = .ok (.imul, 1) := by decide +kernel
theorem dX7_unroll_144 : decode cX7_unroll 144 = .ok (.iadd, 1) := by decide +kernel
theorem dX7_unroll_145 : decode cX7_unroll 145 = .ok (.istore 6, 2) := by decide +kernel
theorem dX7_unroll_147 : decode cX7_unroll 147 = .ok (.iload 7, 2) := by decide +kernel
theorem dX7_unroll_149 : decode cX7_unroll 149 = .ok (.iload 9, 2) := by decide +kernel
theorem dX7_unroll_151 : decode cX7_unroll 151 = .ok (.iload 13, 2) := by decide +kernel
theorem dX7_unroll_153 : decode cX7_unroll 153 = .ok (.imul, 1) := by decide +kernel
theorem dX7_unroll_154 : decode cX7_unroll 154 = .ok (.iadd, 1) := by decide +kernel
theorem dX7_unroll_155 : decode cX7_unroll 155 = .ok (.istore 7, 2) := by decide +kernel
theorem dX7_unroll_157 : decode cX7_unroll 157 = .ok (.aload_n 0, 1) := by decide +kernel
theorem dX7_unroll_158 : decode cX7_unroll 158 = .ok (.getfield 9, 3) := by decide +kernel
theorem dX7_unroll_161 : decode cX7_unroll 161 = .ok (.iload 11, 2) := by decide +kernel
theorem dX7_unroll_163 : decode cX7_unroll 163 = .ok (.iload 6, 2) := by decide +kernel
theorem dX7_unroll_165 : decode cX7_unroll 165 = .ok (.iastore, 1) := by decide +kernel
theorem dX7_unroll_166 : decode cX7_unroll 166 = .ok (.aload_n 0, 1) := by decide +kernel
theorem dX7_unroll_167 : decode cX7_unroll 167 = .ok (.getfield 15, 3) := by decide +kernel
theorem dX7_unroll_170 : decode cX7_unroll 170 = .ok (.iload 11, 2) := by decide +kernel
theorem dX7_unroll_172 : decode cX7_unroll 172 = .ok (.iload 7, 2) := by decide +kernel
theorem dX7_unroll_174 : decode cX7_unroll 174 = .ok (.iastore, 1) := by decide +kernel
theorem dX7_unroll_175 : decode cX7_unroll 175 = .ok (.aload_n 0, 1) := by decide +kernel
theorem dX7_unroll_176 : decode cX7_unroll 176 = .ok (.dup, 1) := by decide +kernel
theorem dX7_unroll_177 : decode cX7_unroll 177 = .ok (.getfield 28, 3) := by decide +kernel
theorem dX7_unroll_180 : decode cX7_unroll 180 = .ok (.iload 10, 2) := by decide +kernel
theorem dX7_unroll_182 : decode cX7_unroll 182 = .ok (.ifCond .eq 8, 3) := by decide +kernel
theorem dX7_unroll_185 : decode cX7_unroll 185 = .ok (.iload 13, 2) := by decide +kernel
theorem dX7_unroll_187 : decode cX7_unroll 187 = .ok (.goto 4, 3) := by decide +kernel
theorem dX7_unroll_190 : decode cX7_unroll 190 = .ok (.iconst 0, 1) := by decide +kernel
theorem dX7_unroll_191 : decode cX7_unroll 191 = .ok (.iadd, 1) := by decide +kernel
theorem dX7_unroll_192 : decode cX7_unroll 192 = .ok (.putfield 28, 3) := by decide +kernel
theorem dX7_unroll_195 : decode cX7_unroll 195 = .ok (.iinc 11 1, 3) := by decide +kernel
theorem dX7_unroll_198 : decode cX7_unroll 198 = .ok (.goto (-152), 3) := by decide +kernel
theorem dX7_unroll_201 : decode cX7_unroll 201 = .ok (.return_, 1) := by decide +kernel
theorem dX7_hitsPunch_0 : decode cX7_hitsPunch 0 = .ok (.iconst 0, 1) := by decide +kernel
theorem dX7_hitsPunch_1 : decode cX7_hitsPunch 1 = .ok (.istore_n 2, 1) := by decide +kernel
theorem dX7_hitsPunch_2 : decode cX7_hitsPunch 2 = .ok (.iload_n 2, 1) := by decide +kernel
theorem dX7_hitsPunch_3 : decode cX7_hitsPunch 3 = .ok (.aload_n 0, 1) := by decide +kernel
theorem dX7_hitsPunch_4 : decode cX7_hitsPunch 4 = .ok (.getfield 24, 3) := by decide +kernel
theorem dX7_hitsPunch_7 : decode cX7_hitsPunch 7 = .ok (.if_icmp .ge 37, 3) := by decide +kernel
theorem dX7_hitsPunch_10 : decode cX7_hitsPunch 10 = .ok (.aload_n 0, 1) := by decide +kernel
theorem dX7_hitsPunch_11 : decode cX7_hitsPunch 11 = .ok (.getfield 15, 3) := by decide +kernel
theorem dX7_hitsPunch_14 : decode cX7_hitsPunch 14 = .ok (.iload_n 2, 1) := by decide +kernel
theorem dX7_hitsPunch_15 : decode cX7_hitsPunch 15 = .ok (.iaload, 1) := by decide +kernel
theorem dX7_hitsPunch_16 : decode cX7_hitsPunch 16 = .ok (.ifCond .le 22, 3) := by decide +kernel
theorem dX7_hitsPunch_19 : decode cX7_hitsPunch 19 = .ok (.aload_n 0, 1) := by decide +kernel
theorem dX7_hitsPunch_20 : decode cX7_hitsPunch 20 = .ok (.getfield 15, 3) := by decide +kernel
theorem dX7_hitsPunch_23 : decode cX7_hitsPunch 23 = .ok (.iload_n 2, 1) := by decide +kernel
theorem dX7_hitsPunch_24 : decode cX7_hitsPunch 24 = .ok (.iaload, 1) := by decide +kernel
theorem dX7_hitsPunch_25 : decode cX7_hitsPunch 25 = .ok (.iload_n 1, 1) := by decide +kernel
theorem dX7_hitsPunch_26 : decode cX7_hitsPunch 26 = .ok (.iadd, 1) := by decide +kernel
theorem dX7_hitsPunch_27 : decode cX7_hitsPunch 27 = .ok (.aload_n 0, 1) := by decide +kernel
theorem dX7_hitsPunch_28 : decode cX7_hitsPunch 28 = .ok (.getfield 9, 3) := by decide +kernel
theorem dX7_hitsPunch_31 : decode cX7_hitsPunch 31 = .ok (.iload_n 2, 1) := by decide +kernel
theorem dX7_hitsPunch_32 : decode cX7_hitsPunch 32 = .ok (.iaload, 1) := by decide +kernel
theorem dX7_hitsPunch_33 : decode cX7_hitsPunch 33 = .ok (.if_icmp .le 5, 3) := by decide +kernel
theorem dX7_hitsPunch_36 : decode cX7_hitsPunch 36 = .ok (.iconst 1, 1) := by decide +kernel
theorem dX7_hitsPunch_37 : decode cX7_hitsPunch 37 = .ok (.ireturn, 1) := by decide +kernel
theorem dX7_hitsPunch_38 : decode cX7_hitsPunch 38 = .ok (.iinc 2 1, 3) := by decide +kernel
theorem dX7_hitsPunch_41 : decode cX7_hitsPunch 41 = .ok (.goto (-39), 3) := by decide +kernel
theorem dX7_hitsPunch_44 : decode cX7_hitsPunch 44 = .ok (.iconst 0, 1) := by decide +kernel
theorem dX7_hitsPunch_45 : decode cX7_hitsPunch 45 = .ok (.ireturn, 1) := by decide +kernel
theorem dX7_hitsTable_0 : decode cX7_hitsTable 0 = .ok (.iconst 0, 1) := by decide +kernel
theorem dX7_hitsTable_1 : decode cX7_hitsTable 1 = .ok (.istore_n 3, 1) := by decide +kernel
theorem dX7_hitsTable_2 : decode cX7_hitsTable 2 = .ok (.iload_n 3, 1) := by decide +kernel
theorem dX7_hitsTable_3 : decode cX7_hitsTable 3 = .ok (.aload_n 0, 1) := by decide +kernel
theorem dX7_hitsTable_4 : decode cX7_hitsTable 4 = .ok (.getfield 24, 3) := by decide +kernel
theorem dX7_hitsTable_7 : decode cX7_hitsTable 7 = .ok (.if_icmp .ge 32, 3) := by decide +kernel
theorem dX7_hitsTable_10 : decode cX7_hitsTable 10 = .ok (.aload_n 0, 1) := by decide +kernel
theorem dX7_hitsTable_11 : decode cX7_hitsTable 11 = .ok (.getfield 15, 3) := by decide +kernel
theorem dX7_hitsTable_14 : decode cX7_hitsTable 14 = .ok (.iload_n 3, 1) := by decide +kernel
theorem dX7_hitsTable_15 : decode cX7_hitsTable 15 = .ok (.iaload, 1) := by decide +kernel
theorem dX7_hitsTable_16 : decode cX7_hitsTable 16 = .ok (.ineg, 1) := by decide +kernel
theorem dX7_hitsTable_17 : decode cX7_hitsTable 17 = .ok (.iload_n 1, 1) := by decide +kernel
theorem dX7_hitsTable_18 : decode cX7_hitsTable 18 = .ok (.if_icmp .le 15, 3) := by decide +kernel
theorem dX7_hitsTable_21 : decode cX7_hitsTable 21 = .ok (.aload_n 0, 1) := by decide +kernel
theorem dX7_hitsTable_22 : decode cX7_hitsTable 22 = .ok (.getfield 9, 3) := by decide +kernel
theorem dX7_hitsTable_25 : decode cX7_hitsTable 25 = .ok (.iload_n 3, 1) := by decide +kernel
theorem dX7_hitsTable_26 : decode cX7_hitsTable 26 = .ok (.iaload, 1) := by decide +kernel
theorem dX7_hitsTable_27 : decode cX7_hitsTable 27 = .ok (.iload_n 2, 1) := by decide +kernel
theorem dX7_hitsTable_28 : decode cX7_hitsTable 28 = .ok (.if_icmp .ge 5, 3) := by decide +kernel
theorem dX7_hitsTable_31 : decode cX7_hitsTable 31 = .ok (.iconst 1, 1) := by decide +kernel
theorem dX7_hitsTable_32 : decode cX7_hitsTable 32 = .ok (.ireturn, 1) := by decide +kernel
theorem dX7_hitsTable_33 : decode cX7_hitsTable 33 = .ok (.iinc 3 1, 3) := by decide +kernel
theorem dX7_hitsTable_36 : decode cX7_hitsTable 36 = .ok (.goto (-34), 3) := by decide +kernel
theorem dX7_hitsTable_39 : decode cX7_hitsTable 39 = .ok (.iconst 0, 1) := by decide +kernel
theorem dX7_hitsTable_40 : decode cX7_hitsTable 40 = .ok (.ireturn, 1) := by decide +kernel
theorem dJ9_max_7cf53_0 : decode cJ9_max_7cf53 0 = .ok (.iload_n 0, 1) := by decide +kernel
theorem dJ9_max_7cf53_1 : decode cJ9_max_7cf53 1 = .ok (.iload_n 1, 1) := by decide +kernel
theorem dJ9_max_7cf53_2 : decode cJ9_max_7cf53 2 = .ok (.if_icmp .lt 7, 3) := by decide +kernel
theorem dJ9_max_7cf53_5 : decode cJ9_max_7cf53 5 = .ok (.iload_n 0, 1) := by decide +kernel
theorem dJ9_max_7cf53_6 : decode cJ9_max_7cf53 6 = .ok (.goto 4, 3) := by decide +kernel
theorem dJ9_max_7cf53_9 : decode cJ9_max_7cf53 9 = .ok (.iload_n 1, 1) := by decide +kernel
theorem dJ9_max_7cf53_10 : decode cJ9_max_7cf53 10 = .ok (.ireturn, 1) := by decide +kernel
theorem dJ9_min_7cf53_0 : decode cJ9_min_7cf53 0 = .ok (.iload_n 0, 1) := by decide +kernel
theorem dJ9_min_7cf53_1 : decode cJ9_min_7cf53 1 = .ok (.iload_n 1, 1) := by decide +kernel
theorem dJ9_min_7cf53_2 : decode cJ9_min_7cf53 2 = .ok (.if_icmp .gt 7, 3) := by decide +kernel
theorem dJ9_min_7cf53_5 : decode cJ9_min_7cf53 5 = .ok (.iload_n 0, 1) := by decide +kernel
theorem dJ9_min_7cf53_6 : decode cJ9_min_7cf53 6 = .ok (.goto 4, 3) := by decide +kernel
theorem dJ9_min_7cf53_9 : decode cJ9_min_7cf53 9 = .ok (.iload_n 1, 1) := by decide +kernel
theorem dJ9_min_7cf53_10 : decode cJ9_min_7cf53 10 = .ok (.ireturn, 1) := by decide +kernel
end
section
theorem dX8_init_0 : decode cX8_init 0 = .ok (.aload_n 0, 1) := by decide +kernel
theorem dX8_init_1 : decode cX8_init 1 = .ok (.invokespecial 3, 3) := by decide +kernel
theorem dX8_init_4 : decode cX8_init 4 = .ok (.aload_n 0, 1) := by decide +kernel
theorem dX8_init_5 : decode cX8_init 5 = .ok (.new 9, 3) := by decide +kernel
theorem dX8_init_8 : decode cX8_init 8 = .ok (.dup, 1) := by decide +kernel
theorem dX8_init_9 : decode cX8_init 9 = .ok (.invokespecial 11, 3) := by decide +kernel
theorem dX8_init_12 : decode cX8_init 12 = .ok (.putfield 12, 3) := by decide +kernel
theorem dX8_init_15 : decode cX8_init 15 = .ok (.aload_n 0, 1) := by decide +kernel
theorem dX8_init_16 : decode cX8_init 16 = .ok (.bipush 8, 2) := by decide +kernel
theorem dX8_init_18 : decode cX8_init 18 = .ok (.anewarray 16, 3) := by decide +kernel
theorem dX8_init_21 : decode cX8_init 21 = .ok (.putfield 18, 3) := by decide +kernel
theorem dX8_init_24 : decode cX8_init 24 = .ok (.aload_n 0, 1) := by decide +kernel
theorem dX8_init_25 : decode cX8_init 25 = .ok (.iconst 4, 1) := by decide +kernel
theorem dX8_init_26 : decode cX8_init 26 = .ok (.anewarray 22, 3) := by decide +kernel
theorem dX8_init_29 : decode cX8_init 29 = .ok (.putfield 24, 3) := by decide +kernel
theorem dX8_init_32 : decode cX8_init 32 = .ok (.aload_n 0, 1) := by decide +kernel
theorem dX8_init_33 : decode cX8_init 33 = .ok (.bipush 8, 2) := by decide +kernel
theorem dX8_init_35 : decode cX8_init 35 = .ok (.newarray .int, 2) := by decide +kernel
theorem dX8_init_37 : decode cX8_init 37 = .ok (.putfield 28, 3) := by decide +kernel
theorem dX8_init_40 : decode cX8_init 40 = .ok (.aload_n 0, 1) := by decide +kernel
theorem dX8_init_41 : decode cX8_init 41 = .ok (.bipush 20, 2) := by decide +kernel
theorem dX8_init_43 : decode cX8_init 43 = .ok (.anewarray 32, 3) := by decide +kernel
theorem dX8_init_46 : decode cX8_init 46 = .ok (.putfield 34, 3) := by decide +kernel
theorem dX8_init_49 : decode cX8_init 49 = .ok (.aload_n 0, 1) := by decide +kernel
theorem dX8_init_50 : decode cX8_init 50 = .ok (.new 38, 3) := by decide +kernel
theorem dX8_init_53 : decode cX8_init 53 = .ok (.dup, 1) := by decide +kernel
theorem dX8_init_54 : decode cX8_init 54 = .ok (.invokespecial 40, 3) := by decide +kernel
theorem dX8_init_57 : decode cX8_init 57 = .ok (.putfield 41, 3) := by decide +kernel
theorem dX8_init_60 : decode cX8_init 60 = .ok (.aload_n 0, 1) := by decide +kernel
theorem dX8_init_61 : decode cX8_init 61 = .ok (.new 45, 3) := by decide +kernel
theorem dX8_init_64 : decode cX8_init 64 = .ok (.dup, 1) := by decide +kernel
theorem dX8_init_65 : decode cX8_init 65 = .ok (.invokespecial 47, 3) := by decide +kernel
theorem dX8_init_68 : decode cX8_init 68 = .ok (.putfield 48, 3) := by decide +kernel
theorem dX8_init_71 : decode cX8_init 71 = .ok (.aload_n 0, 1) := by decide +kernel
theorem dX8_init_72 : decode cX8_init 72 = .ok (.new 52, 3) := by decide +kernel
theorem dX8_init_75 : decode cX8_init 75 = .ok (.dup, 1) := by decide +kernel
theorem dX8_init_76 : decode cX8_init 76 = .ok (.invokespecial 54, 3) := by decide +kernel
theorem dX8_init_79 : decode cX8_init 79 = .ok (.putfield 55, 3) := by decide +kernel
theorem dX8_init_82 : decode cX8_init 82 = .ok (.iconst 0, 1) := by decide +kernel
theorem dX8_init_83 : decode cX8_init 83 = .ok (.istore_n 1, 1) := by decide +kernel
theorem dX8_init_84 : decode cX8_init 84 = .ok (.iload_n 1, 1) := by decide +kernel
theorem dX8_init_85 : decode cX8_init 85 = .ok (.bipush 8, 2) := by decide +kernel
theorem dX8_init_87 : decode cX8_init 87 = .ok (.if_icmp .ge 22, 3) := by decide +kernel
theorem dX8_init_90 : decode cX8_init 90 = .ok (.aload_n 0, 1) := by decide +kernel
theorem dX8_init_91 : decode cX8_init 91 = .ok (.getfield 18, 3) := by decide +kernel
theorem dX8_init_94 : decode cX8_init 94 = .ok (.iload_n 1, 1) := by decide +kernel
theorem dX8_init_95 : decode cX8_init 95 = .ok (.new 16, 3) := by decide +kernel
theorem dX8_init_98 : decode cX8_init 98 = .ok (.dup, 1) := by decide +kernel
theorem dX8_init_99 : decode cX8_init 99 = .ok (.invokespecial 59, 3) := by decide +kernel
theorem dX8_init_102 : decode cX8_init 102 = .ok (.aastore, 1) := by decide +kernel
theorem dX8_init_103 : decode cX8_init 103 = .ok (.iinc 1 1, 3) := by decide +kernel
theorem dX8_init_106 : decode cX8_init 106 = .ok (.goto (-22), 3) := by decide +kernel
theorem dX8_init_109 : decode cX8_init 109 = .ok (.iconst 0, 1) := by decide +kernel
theorem dX8_init_110 : decode cX8_init 110 = .ok (.istore_n 1, 1) := by decide +kernel
theorem dX8_init_111 : decode cX8_init 111 = .ok (.iload_n 1, 1) := by decide +kernel
theorem dX8_init_112 : decode cX8_init 112 = .ok (.iconst 4, 1) := by decide +kernel
theorem dX8_init_113 : decode cX8_init 113 = .ok (.if_icmp .ge 22, 3) := by decide +kernel
theorem dX8_init_116 : decode cX8_init 116 = .ok (.aload_n 0, 1) := by decide +kernel
theorem dX8_init_117 : decode cX8_init 117 = .ok (.getfield 24, 3) := by decide +kernel
theorem dX8_init_120 : decode cX8_init 120 = .ok (.iload_n 1, 1) := by decide +kernel
theorem dX8_init_121 : decode cX8_init 121 = .ok (.new 22, 3) := by decide +kernel
theorem dX8_init_124 : decode cX8_init 124 = .ok (.dup, 1) := by decide +kernel
theorem dX8_init_125 : decode cX8_init 125 = .ok (.invokespecial 60, 3) := by decide +kernel
theorem dX8_init_128 : decode cX8_init 128 = .ok (.aastore, 1) := by decide +kernel
theorem dX8_init_129 : decode cX8_init 129 = .ok (.iinc 1 1, 3) := by decide +kernel
theorem dX8_init_132 : decode cX8_init 132 = .ok (.goto (-21), 3) := by decide +kernel
theorem dX8_init_135 : decode cX8_init 135 = .ok (.iconst 0, 1) := by decide +kernel
theorem dX8_init_136 : decode cX8_init 136 = .ok (.istore_n 1, 1) := by decide +kernel
theorem dX8_init_137 : decode cX8_init 137 = .ok (.iload_n 1, 1) := by decide +kernel
theorem dX8_init_138 : decode cX8_init 138 = .ok (.bipush 20, 2) := by decide +kernel
theorem dX8_init_140 : decode cX8_init 140 = .ok (.if_icmp .ge 22, 3) := by decide +kernel
theorem dX8_init_143 : decode cX8_init 143 = .ok (.aload_n 0, 1) := by decide +kernel
theorem dX8_init_144 : decode cX8_init 144 = .ok (.getfield 34, 3) := by decide +kernel
theorem dX8_init_147 : decode cX8_init 147 = .ok (.iload_n 1, 1) := by decide +kernel
theorem dX8_init_148 : decode cX8_init 148 = .ok (.new 32, 3) := by decide +kernel
theorem dX8_init_151 : decode cX8_init 151 = .ok (.dup, 1) := by decide +kernel
theorem dX8_init_152 : decode cX8_init 152 = .ok (.invokespecial 61, 3) := by decide +kernel
theorem dX8_init_155 : decode cX8_init 155 = .ok (.aastore, 1) := by decide +kernel
theorem dX8_init_156 : decode cX8_init 156 = .ok (.iinc 1 1, 3) := by decide +kernel
theorem dX8_init_159 : decode cX8_init 159 = .ok (.goto (-22), 3) := by decide +kernel
theorem dX8_init_162 : decode cX8_init 162 = .ok (.return_, 1) := by decide +kernel
theorem dX8_face_0 : decode cX8_face 0 = .ok (.iload_n 1, 1) := by decide +kernel
theorem dX8_face_1 : decode cX8_face 1 = .ok (.bipush 10, 2) := by decide +kernel
theorem dX8_face_3 : decode cX8_face 3 = .ok (.sipush 200, 3) := by decide +kernel
theorem dX8_face_6 : decode cX8_face 6 = .ok (.invokestatic 62, 3) := by decide +kernel
theorem dX8_face_9 : decode cX8_face 9 = .ok (.ifCond .ne 12, 3) := by decide +kernel
theorem dX8_face_12 : decode cX8_face 12 = .ok (.iload_n 2, 1) := by decide +kernel
theorem dX8_face_13 : decode cX8_face 13 = .ok (.iconst 0, 1) := by decide +kernel
theorem dX8_face_14 : decode cX8_face 14 = .ok (.iconst 1, 1) := by decide +kernel
theorem dX8_face_15 : decode cX8_face 15 = .ok (.invokestatic 62, 3) := by decide +kernel
theorem dX8_face_18 : decode cX8_face 18 = .ok (.ifCond .eq 13, 3) := by decide +kernel
theorem dX8_face_21 : decode cX8_face 21 = .ok (.new 66, 3) := by decide +kernel
theorem dX8_face_24 : decode cX8_face 24 = .ok (.dup, 1) := by decide +kernel
theorem dX8_face_25 : decode cX8_face 25 = .ok (.ldc 68, 2) := by decide +kernel
theorem dX8_face_27 : decode cX8_face 27 = .ok (.invokespecial 70, 3) := by decide +kernel
theorem dX8_face_30 : decode cX8_face 30 = .ok (.athrow, 1) := by decide +kernel
theorem dX8_face_31 : decode cX8_face 31 = .ok (.aload_n 0, 1) := by decide +kernel
theorem dX8_face_32 : decode cX8_face 32 = .ok (.getfield 12, 3) := by decide +kernel
theorem dX8_face_35 : decode cX8_face 35 = .ok (.getfield 73, 3) := by decide +kernel
theorem dX8_face_38 : decode cX8_face 38 = .ok (.bipush 6, 2) := by decide +kernel
theorem dX8_face_40 : decode cX8_face 40 = .ok (.if_icmp .lt 13, 3) := by decide +kernel
theorem dX8_face_43 : decode cX8_face 43 = .ok (.new 77, 3) := by decide +kernel
theorem dX8_face_46 : decode cX8_face 46 = .ok (.dup, 1) := by decide +kernel
theorem dX8_face_47 : decode cX8_face 47 = .ok (.ldc 79, 2) := by decide +kernel
theorem dX8_face_49 : decode cX8_face 49 = .ok (.invokespecial 81, 3) := by decide +kernel
theorem dX8_face_52 : decode cX8_face 52 = .ok (.athrow, 1) := by decide +kernel
theorem dX8_face_53 : decode cX8_face 53 = .ok (.aload_n 0, 1) := by decide +kernel
theorem dX8_face_54 : decode cX8_face 54 = .ok (.getfield 12, 3) := by decide +kernel
theorem dX8_face_57 : decode cX8_face 57 = .ok (.getfield 82, 3) := by decide +kernel
theorem dX8_face_60 : decode cX8_face 60 = .ok (.aload_n 0, 1) := by decide +kernel
theorem dX8_face_61 : decode cX8_face 61 = .ok (.getfield 12, 3) := by decide +kernel
theorem dX8_face_64 : decode cX8_face 64 = .ok (.getfield 73, 3) := by decide +kernel
theorem dX8_face_67 : decode cX8_face 67 = .ok (.iload_n 1, 1) := by decide +kernel
theorem dX8_face_68 : decode cX8_face 68 = .ok (.iastore, 1) := by decide +kernel
theorem dX8_face_69 : decode cX8_face 69 = .ok (.aload_n 0, 1) := by decide +kernel
theorem dX8_face_70 : decode cX8_face 70 = .ok (.getfield 12, 3) := by decide +kernel
theorem dX8_face_73 : decode cX8_face 73 = .ok (.getfield 85, 3) := by decide +kernel
theorem dX8_face_76 : decode cX8_face 76 = .ok (.aload_n 0, 1) := by decide +kernel
theorem dX8_face_77 : decode cX8_face 77 = .ok (.getfield 12, 3) := by decide +kernel
theorem dX8_face_80 : decode cX8_face 80 = .ok (.getfield 73, 3) := by decide +kernel
theorem dX8_face_83 : decode cX8_face 83 = .ok (.iload_n 2, 1) := by decide +kernel
theorem dX8_face_84 : decode cX8_face 84 = .ok (.iastore, 1) := by decide +kernel
theorem dX8_face_85 : decode cX8_face 85 = .ok (.aload_n 0, 1) := by decide +kernel
theorem dX8_face_86 : decode cX8_face 86 = .ok (.getfield 12, 3) := by decide +kernel
theorem dX8_face_89 : decode cX8_face 89 = .ok (.dup, 1) := by decide +kernel
theorem dX8_face_90 : decode cX8_face 90 = .ok (.getfield 73, 3) := by decide +kernel
theorem dX8_face_93 : decode cX8_face 93 = .ok (.iconst 1, 1) := by decide +kernel
theorem dX8_face_94 : decode cX8_face 94 = .ok (.iadd, 1) := by decide +kernel
theorem dX8_face_95 : decode cX8_face 95 = .ok (.putfield 73, 3) := by decide +kernel
theorem dX8_face_98 : decode cX8_face 98 = .ok (.aload_n 0, 1) := by decide +kernel
theorem dX8_face_99 : decode cX8_face 99 = .ok (.getfield 12, 3) := by decide +kernel
theorem dX8_face_102 : decode cX8_face 102 = .ok (.getfield 73, 3) := by decide +kernel
theorem dX8_face_105 : decode cX8_face 105 = .ok (.ireturn, 1) := by decide +kernel
theorem dX8_wipe_0 : decode cX8_wipe 0 = .ok (.aload_n 0, 1) := by decide +kernel
theorem dX8_wipe_1 : decode cX8_wipe 1 = .ok (.getfield 12, 3) := by decide +kernel
theorem dX8_wipe_4 : decode cX8_wipe 4 = .ok (.getfield 73, 3) := by decide +kernel
theorem dX8_wipe_7 : decode cX8_wipe 7 = .ok (.istore_n 1, 1) := by decide +kernel
theorem dX8_wipe_8 : decode cX8_wipe 8 = .ok (.aload_n 0, 1) := by decide +kernel
theorem dX8_wipe_9 : decode cX8_wipe 9 = .ok (.getfield 12, 3) := by decide +kernel
theorem dX8_wipe_12 : decode cX8_wipe 12 = .ok (.iconst 0, 1) := by decide +kernel
theorem dX8_wipe_13 : decode cX8_wipe 13 = .ok (.putfield 73, 3) := by decide +kernel
theorem dX8_wipe_16 : decode cX8_wipe 16 = .ok (.iload_n 1, 1) := by decide +kernel
theorem dX8_wipe_17 : decode cX8_wipe 17 = .ok (.ireturn, 1) := by decide +kernel
theorem dX8_part_0 : decode cX8_part 0 = .ok (.iload_n 1, 1) := by decide +kernel
theorem dX8_part_1 : decode cX8_part 1 = .ok (.iload_n 2, 1) := by decide +kernel
theorem dX8_part_2 : decode cX8_part 2 = .ok (.invokestatic 88, 3) := by decide +kernel
theorem dX8_part_5 : decode cX8_part 5 = .ok (.aload_n 0, 1) := by decide +kernel
theorem dX8_part_6 : decode cX8_part 6 = .ok (.invokevirtual 92, 3) := by decide +kernel
theorem dX8_part_9 : decode cX8_part 9 = .ok (.aload_n 0, 1) := by decide +kernel
theorem dX8_part_10 : decode cX8_part 10 = .ok (.getfield 95, 3) := by decide +kernel
theorem dX8_part_13 : decode cX8_part 13 = .ok (.bipush 8, 2) := by decide +kernel
theorem dX8_part_15 : decode cX8_part 15 = .ok (.if_icmp .lt 13, 3) := by decide +kernel
theorem dX8_part_18 : decode cX8_part 18 = .ok (.new 77, 3) := by decide +kernel
theorem dX8_part_21 : decode cX8_part 21 = .ok (.dup, 1) := by decide +kernel
theorem dX8_part_22 : decode cX8_part 22 = .ok (.ldc 98, 2) := by decide +kernel
theorem dX8_part_24 : decode cX8_part 24 = .ok (.invokespecial 81, 3) := by decide +kernel
theorem dX8_part_27 : decode cX8_part 27 = .ok (.athrow, 1) := by decide +kernel
theorem dX8_part_28 : decode cX8_part 28 = .ok (.aload_n 0, 1) := by decide +kernel
theorem dX8_part_29 : decode cX8_part 29 = .ok (.getfield 18, 3) := by decide +kernel
theorem dX8_part_32 : decode cX8_part 32 = .ok (.aload_n 0, 1) := by decide +kernel
theorem dX8_part_33 : decode cX8_part 33 = .ok (.getfield 95, 3) := by decide +kernel
theorem dX8_part_36 : decode cX8_part 36 = .ok (.aaload, 1) := by decide +kernel
theorem dX8_part_37 : decode cX8_part 37 = .ok (.aload_n 0, 1) := by decide +kernel
theorem dX8_part_38 : decode cX8_part 38 = .ok (.getfield 12, 3) := by decide +kernel
theorem dX8_part_41 : decode cX8_part 41 = .ok (.iload_n 1, 1) := by decide +kernel
theorem dX8_part_42 : decode cX8_part 42 = .ok (.iload_n 2, 1) := by decide +kernel
theorem dX8_part_43 : decode cX8_part 43 = .ok (.invokevirtual 100, 3) := by decide +kernel
theorem dX8_part_46 : decode cX8_part 46 = .ok (.aload_n 0, 1) := by decide +kernel
theorem dX8_part_47 : decode cX8_part 47 = .ok (.getfield 12, 3) := by decide +kernel
theorem dX8_part_50 : decode cX8_part 50 = .ok (.iconst 0, 1) := by decide +kernel
theorem dX8_part_51 : decode cX8_part 51 = .ok (.putfield 73, 3) := by decide +kernel
theorem dX8_part_54 : decode cX8_part 54 = .ok (.aload_n 0, 1) := by decide +kernel
theorem dX8_part_55 : decode cX8_part 55 = .ok (.dup, 1) := by decide +kernel
theorem dX8_part_56 : decode cX8_part 56 = .ok (.getfield 95, 3) := by decide +kernel
theorem dX8_part_59 : decode cX8_part 59 = .ok (.iconst 1, 1) := by decide +kernel
theorem dX8_part_60 : decode cX8_part 60 = .ok (.iadd, 1) := by decide +kernel
theorem dX8_part_61 : decode cX8_part 61 = .ok (.putfield 95, 3) := by decide +kernel
theorem dX8_part_64 : decode cX8_part 64 = .ok (.aload_n 0, 1) := by decide +kernel
theorem dX8_part_65 : decode cX8_part 65 = .ok (.getfield 95, 3) := by decide +kernel
theorem dX8_part_68 : decode cX8_part 68 = .ok (.iconst 1, 1) := by decide +kernel
theorem dX8_part_69 : decode cX8_part 69 = .ok (.isub, 1) := by decide +kernel
theorem dX8_part_70 : decode cX8_part 70 = .ok (.ireturn, 1) := by decide +kernel
theorem dX8_redraw_0 : decode cX8_redraw 0 = .ok (.aload_n 0, 1) := by decide +kernel
theorem dX8_redraw_1 : decode cX8_redraw 1 = .ok (.iload_n 1, 1) := by decide +kernel
theorem dX8_redraw_2 : decode cX8_redraw 2 = .ok (.invokevirtual 104, 3) := by decide +kernel
theorem dX8_redraw_5 : decode cX8_redraw 5 = .ok (.astore 4, 2) := by decide +kernel
theorem dX8_redraw_7 : decode cX8_redraw 7 = .ok (.iload_n 2, 1) := by decide +kernel
theorem dX8_redraw_8 : decode cX8_redraw 8 = .ok (.iload_n 3, 1) := by decide +kernel
theorem dX8_redraw_9 : decode cX8_redraw 9 = .ok (.invokestatic 88, 3) := by decide +kernel
theorem dX8_redraw_12 : decode cX8_redraw 12 = .ok (.aload_n 0, 1) := by decide +kernel
theorem dX8_redraw_13 : decode cX8_redraw 13 = .ok (.invokevirtual 92, 3) := by decide +kernel
theorem dX8_redraw_16 : decode cX8_redraw 16 = .ok (.aload 4, 2) := by decide +kernel
theorem dX8_redraw_18 : decode cX8_redraw 18 = .ok (.getfield 108, 3) := by decide +kernel
theorem dX8_redraw_21 : decode cX8_redraw 21 = .ok (.ifCond .le 7, 3) := by decide +kernel
theorem dX8_redraw_24 : decode cX8_redraw 24 = .ok (.iconst 1, 1) := by decide +kernel
theorem dX8_redraw_25 : decode cX8_redraw 25 = .ok (.goto 4, 3) := by decide +kernel
theorem dX8_redraw_28 : decode cX8_redraw 28 = .ok (.iconst 0, 1) := by decide +kernel
theorem dX8_redraw_29 : decode cX8_redraw 29 = .ok (.istore 5, 2) := by decide +kernel
theorem dX8_redraw_31 : decode cX8_redraw 31 = .ok (.aload 4, 2) := by decide +kernel
theorem dX8_redraw_33 : decode cX8_redraw 33 = .ok (.getfield 111, 3) := by decide +kernel
theorem dX8_redraw_36 : decode cX8_redraw 36 = .ok (.iload_n 2, 1) := by decide +kernel
theorem dX8_redraw_37 : decode cX8_redraw 37 = .ok (.if_icmp .ne 16, 3) := by decide +kernel
theorem dX8_redraw_40 : decode cX8_redraw 40 = .ok (.aload 4, 2) := by decide +kernel
theorem dX8_redraw_42 : decode cX8_redraw 42 = .ok (.getfield 114, 3) := by decide +kernel
theorem dX8_redraw_45 : decode cX8_redraw 45 = .ok (.iload_n 3, 1) := by decide +kernel
theorem dX8_redraw_46 : decode cX8_redraw 46 = .ok (.if_icmp .ne 7, 3) := by decide +kernel
theorem dX8_redraw_49 : decode cX8_redraw 49 = .ok (.iconst 1, 1) := by decide +kernel
theorem dX8_redraw_50 : decode cX8_redraw 50 = .ok (.goto 4, 3) := by decide +kernel
theorem dX8_redraw_53 : decode cX8_redraw 53 = .ok (.iconst 0, 1) := by decide +kernel
theorem dX8_redraw_54 : decode cX8_redraw 54 = .ok (.istore 6, 2) := by decide +kernel
theorem dX8_redraw_56 : decode cX8_redraw 56 = .ok (.aload 4, 2) := by decide +kernel
theorem dX8_redraw_58 : decode cX8_redraw 58 = .ok (.getfield 117, 3) := by decide +kernel
theorem dX8_redraw_61 : decode cX8_redraw 61 = .ok (.aload_n 0, 1) := by decide +kernel
theorem dX8_redraw_62 : decode cX8_redraw 62 = .ok (.getfield 12, 3) := by decide +kernel
theorem dX8_redraw_65 : decode cX8_redraw 65 = .ok (.invokevirtual 120, 3) := by decide +kernel
theorem dX8_redraw_68 : decode cX8_redraw 68 = .ok (.istore 7, 2) := by decide +kernel
theorem dX8_redraw_70 : decode cX8_redraw 70 = .ok (.aload 4, 2) := by decide +kernel
theorem dX8_redraw_72 : decode cX8_redraw 72 = .ok (.aload_n 0, 1) := by decide +kernel
theorem dX8_redraw_73 : decode cX8_redraw 73 = .ok (.getfield 12, 3) := by decide +kernel
theorem dX8_redraw_76 : decode cX8_redraw 76 = .ok (.iload_n 2, 1) := by decide +kernel
theorem dX8_redraw_77 : decode cX8_redraw 77 = .ok (.iload_n 3, 1) := by decide +kernel
theorem dX8_redraw_78 : decode cX8_redraw 78 = .ok (.invokevirtual 100, 3) := by decide +kernel
theorem dX8_redraw_81 : decode cX8_redraw 81 = .ok (.aload 4, 2) := by decide +kernel
theorem dX8_redraw_83 : decode cX8_redraw 83 = .ok (.dup, 1) := by decide +kernel
theorem dX8_redraw_84 : decode cX8_redraw 84 = .ok (.getfield 124, 3) := by decide +kernel
theorem dX8_redraw_87 : decode cX8_redraw 87 = .ok (.iconst 1, 1) := by decide +kernel
theorem dX8_redraw_88 : decode cX8_redraw 88 = .ok (.iadd, 1) := by decide +kernel
theorem dX8_redraw_89 : decode cX8_redraw 89 = .ok (.putfield 124, 3) := by decide +kernel
theorem dX8_redraw_92 : decode cX8_redraw 92 = .ok (.aload_n 0, 1) := by decide +kernel
theorem dX8_redraw_93 : decode cX8_redraw 93 = .ok (.getfield 12, 3) := by decide +kernel
theorem dX8_redraw_96 : decode cX8_redraw 96 = .ok (.iconst 0, 1) := by decide +kernel
theorem dX8_redraw_97 : decode cX8_redraw 97 = .ok (.putfield 73, 3) := by decide +kernel
theorem dX8_redraw_100 : decode cX8_redraw 100 = .ok (.aload_n 0, 1) := by decide +kernel
theorem dX8_redraw_101 : decode cX8_redraw 101 = .ok (.iload_n 1, 1) := by decide +kernel
theorem dX8_redraw_102 : decode cX8_redraw 102 = .ok (.iload 6, 2) := by decide +kernel
theorem dX8_redraw_104 : decode cX8_redraw 104 = .ok (.ifCond .eq 12, 3) := by decide +kernel
theorem dX8_redraw_107 : decode cX8_redraw 107 = .ok (.iload 5, 2) := by decide +kernel
theorem dX8_redraw_109 : decode cX8_redraw 109 = .ok (.ifCond .ne 7, 3) := by decide +kernel
theorem dX8_redraw_112 : decode cX8_redraw 112 = .ok (.iconst 1, 1) := by decide +kernel
theorem dX8_redraw_113 : decode cX8_redraw 113 = .ok (.goto 4, 3) := by decide +kernel
theorem dX8_redraw_116 : decode cX8_redraw 116 = .ok (.iconst 0, 1) := by decide +kernel
theorem dX8_redraw_117 : decode cX8_redraw 117 = .ok (.iload 7, 2) := by decide +kernel
theorem dX8_redraw_119 : decode cX8_redraw 119 = .ok (.invokevirtual 127, 3) := by decide +kernel
theorem dX8_redraw_122 : decode cX8_redraw 122 = .ok (.ireturn, 1) := by decide +kernel
theorem dX8_hole_0 : decode cX8_hole 0 = .ok (.aload_n 0, 1) := by decide +kernel
theorem dX8_hole_1 : decode cX8_hole 1 = .ok (.iload_n 1, 1) := by decide +kernel
theorem dX8_hole_2 : decode cX8_hole 2 = .ok (.invokevirtual 104, 3) := by decide +kernel
theorem dX8_hole_5 : decode cX8_hole 5 = .ok (.astore 5, 2) := by decide +kernel
theorem dX8_hole_7 : decode cX8_hole 7 = .ok (.iload_n 2, 1) := by decide +kernel
theorem dX8_hole_8 : decode cX8_hole 8 = .ok (.iconst 0, 1) := by decide +kernel
theorem dX8_hole_9 : decode cX8_hole 9 = .ok (.aload 5, 2) := by decide +kernel
theorem dX8_hole_11 : decode cX8_hole 11 = .ok (.getfield 117, 3) := by decide +kernel
theorem dX8_hole_14 : decode cX8_hole 14 = .ok (.getfield 73, 3) := by decide +kernel
theorem dX8_hole_17 : decode cX8_hole 17 = .ok (.iconst 1, 1) := by decide +kernel
theorem dX8_hole_18 : decode cX8_hole 18 = .ok (.isub, 1) := by decide +kernel
theorem dX8_hole_19 : decode cX8_hole 19 = .ok (.invokestatic 62, 3) := by decide +kernel
theorem dX8_hole_22 : decode cX8_hole 22 = .ok (.ifCond .eq 13, 3) := by decide +kernel
theorem dX8_hole_25 : decode cX8_hole 25 = .ok (.new 131, 3) := by decide +kernel
theorem dX8_hole_28 : decode cX8_hole 28 = .ok (.dup, 1) := by decide +kernel
theorem dX8_hole_29 : decode cX8_hole 29 = .ok (.ldc 133, 2) := by decide +kernel
theorem dX8_hole_31 : decode cX8_hole 31 = .ok (.invokespecial 135, 3) := by decide +kernel
theorem dX8_hole_34 : decode cX8_hole 34 = .ok (.athrow, 1) := by decide +kernel
theorem dX8_hole_35 : decode cX8_hole 35 = .ok (.iload_n 3, 1) := by decide +kernel
theorem dX8_hole_36 : decode cX8_hole 36 = .ok (.iconst 1, 1) := by decide +kernel
theorem dX8_hole_37 : decode cX8_hole 37 = .ok (.aload 5, 2) := by decide +kernel
theorem dX8_hole_39 : decode cX8_hole 39 = .ok (.getfield 117, 3) := by decide +kernel
theorem dX8_hole_42 : decode cX8_hole 42 = .ok (.getfield 82, 3) := by decide +kernel
theorem dX8_hole_45 : decode cX8_hole 45 = .ok (.iload_n 2, 1) := by decide +kernel
theorem dX8_hole_46 : decode cX8_hole 46 = .ok (.iaload, 1) := by decide +kernel
theorem dX8_hole_47 : decode cX8_hole 47 = .ok (.iconst 1, 1) := by decide +kernel
theorem dX8_hole_48 : decode cX8_hole 48 = .ok (.isub, 1) := by decide +kernel
theorem dX8_hole_49 : decode cX8_hole 49 = .ok (.invokestatic 62, 3) := by decide +kernel
theorem dX8_hole_52 : decode cX8_hole 52 = .ok (.ifCond .ne 14, 3) := by decide +kernel
theorem dX8_hole_55 : decode cX8_hole 55 = .ok (.iload 4, 2) := by decide +kernel
theorem dX8_hole_57 : decode cX8_hole 57 = .ok (.iconst 1, 1) := by decide +kernel
theorem dX8_hole_58 : decode cX8_hole 58 = .ok (.bipush 20, 2) := by decide +kernel
theorem dX8_hole_60 : decode cX8_hole 60 = .ok (.invokestatic 62, 3) := by decide +kernel
theorem dX8_hole_63 : decode cX8_hole 63 = .ok (.ifCond .eq 13, 3) := by decide +kernel
theorem dX8_hole_66 : decode cX8_hole 66 = .ok (.new 66, 3) := by decide +kernel
theorem dX8_hole_69 : decode cX8_hole 69 = .ok (.dup, 1) := by decide +kernel
theorem dX8_hole_70 : decode cX8_hole 70 = .ok (.ldc 136, 2) := by decide +kernel
theorem dX8_hole_72 : decode cX8_hole 72 = .ok (.invokespecial 70, 3) := by decide +kernel
theorem dX8_hole_75 : decode cX8_hole 75 = .ok (.athrow, 1) := by decide +kernel
theorem dX8_hole_76 : decode cX8_hole 76 = .ok (.aload 5, 2) := by decide +kernel
theorem dX8_hole_78 : decode cX8_hole 78 = .ok (.getfield 108, 3) := by decide +kernel
theorem dX8_hole_81 : decode cX8_hole 81 = .ok (.bipush 6, 2) := by decide +kernel
theorem dX8_hole_83 : decode cX8_hole 83 = .ok (.if_icmp .ge 11, 3) := by decide +kernel
theorem dX8_hole_86 : decode cX8_hole 86 = .ok (.aload_n 0, 1) := by decide +kernel
theorem dX8_hole_87 : decode cX8_hole 87 = .ok (.iload_n 1, 1) := by decide +kernel
theorem dX8_hole_88 : decode cX8_hole 88 = .ok (.invokevirtual 138, 3) := by decide +kernel
theorem dX8_hole_91 : decode cX8_hole 91 = .ok (.ifCond .eq 13, 3) := by decide +kernel
theorem dX8_hole_94 : decode cX8_hole 94 = .ok (.new 77, 3) := by decide +kernel
theorem dX8_hole_97 : decode cX8_hole 97 = .ok (.dup, 1) := by decide +kernel
theorem dX8_hole_98 : decode cX8_hole 98 = .ok (.ldc 142, 2) := by decide +kernel
theorem dX8_hole_100 : decode cX8_hole 100 = .ok (.invokespecial 81, 3) := by decide +kernel
theorem dX8_hole_103 : decode cX8_hole 103 = .ok (.athrow, 1) := by decide +kernel
theorem dX8_hole_104 : decode cX8_hole 104 = .ok (.aload 5, 2) := by decide +kernel
theorem dX8_hole_106 : decode cX8_hole 106 = .ok (.getfield 144, 3) := by decide +kernel
theorem dX8_hole_109 : decode cX8_hole 109 = .ok (.aload 5, 2) := by decide +kernel
theorem dX8_hole_111 : decode cX8_hole 111 = .ok (.getfield 108, 3) := by decide +kernel
theorem dX8_hole_114 : decode cX8_hole 114 = .ok (.iload_n 2, 1) := by decide +kernel
theorem dX8_hole_115 : decode cX8_hole 115 = .ok (.iastore, 1) := by decide +kernel
theorem dX8_hole_116 : decode cX8_hole 116 = .ok (.aload 5, 2) := by decide +kernel
theorem dX8_hole_118 : decode cX8_hole 118 = .ok (.getfield 147, 3) := by decide +kernel
theorem dX8_hole_121 : decode cX8_hole 121 = .ok (.aload 5, 2) := by decide +kernel
theorem dX8_hole_123 : decode cX8_hole 123 = .ok (.getfield 108, 3) := by decide +kernel
theorem dX8_hole_126 : decode cX8_hole 126 = .ok (.iload_n 3, 1) := by decide +kernel
theorem dX8_hole_127 : decode cX8_hole 127 = .ok (.iastore, 1) := by decide +kernel
theorem dX8_hole_128 : decode cX8_hole 128 = .ok (.aload 5, 2) := by decide +kernel
theorem dX8_hole_130 : decode cX8_hole 130 = .ok (.getfield 150, 3) := by decide +kernel
theorem dX8_hole_133 : decode cX8_hole 133 = .ok (.aload 5, 2) := by decide +kernel
theorem dX8_hole_135 : decode cX8_hole 135 = .ok (.getfield 108, 3) := by decide +kernel
theorem dX8_hole_138 : decode cX8_hole 138 = .ok (.iload 4, 2) := by decide +kernel
theorem dX8_hole_140 : decode cX8_hole 140 = .ok (.iastore, 1) := by decide +kernel
theorem dX8_hole_141 : decode cX8_hole 141 = .ok (.aload 5, 2) := by decide +kernel
theorem dX8_hole_143 : decode cX8_hole 143 = .ok (.dup, 1) := by decide +kernel
theorem dX8_hole_144 : decode cX8_hole 144 = .ok (.getfield 108, 3) := by decide +kernel
theorem dX8_hole_147 : decode cX8_hole 147 = .ok (.iconst 1, 1) := by decide +kernel
theorem dX8_hole_148 : decode cX8_hole 148 = .ok (.iadd, 1) := by decide +kernel
theorem dX8_hole_149 : decode cX8_hole 149 = .ok (.putfield 108, 3) := by decide +kernel
theorem dX8_hole_152 : decode cX8_hole 152 = .ok (.aload 5, 2) := by decide +kernel
theorem dX8_hole_154 : decode cX8_hole 154 = .ok (.getfield 108, 3) := by decide +kernel
theorem dX8_hole_157 : decode cX8_hole 157 = .ok (.iconst 1, 1) := by decide +kernel
theorem dX8_hole_158 : decode cX8_hole 158 = .ok (.isub, 1) := by decide +kernel
theorem dX8_hole_159 : decode cX8_hole 159 = .ok (.ireturn, 1) := by decide +kernel
theorem dX8_isNear_0 : decode cX8_isNear 0 = .ok (.aload_n 0, 1) := by decide +kernel
theorem dX8_isNear_1 : decode cX8_isNear 1 = .ok (.iload_n 1, 1) := by decide +kernel
theorem dX8_isNear_2 : decode cX8_isNear 2 = .ok (.invokevirtual 104, 3) := by decide +kernel
theorem dX8_isNear_5 : decode cX8_isNear 5 = .ok (.astore_n 3, 1) := by decide +kernel
theorem dX8_isNear_6 : decode cX8_isNear 6 = .ok (.iload_n 2, 1) := by decide +kernel
theorem dX8_isNear_7 : decode cX8_isNear 7 = .ok (.iconst 0, 1) := by decide +kernel
theorem dX8_isNear_8 : decode cX8_isNear 8 = .ok (.aload_n 3, 1) := by decide +kernel
theorem dX8_isNear_9 : decode cX8_isNear 9 = .ok (.getfield 108, 3) := by decide +kernel
theorem dX8_isNear_12 : decode cX8_isNear 12 = .ok (.iconst 1, 1) := by decide +kernel
theorem dX8_isNear_13 : decode cX8_isNear 13 = .ok (.isub, 1) := by decide +kernel
theorem dX8_isNear_14 : decode cX8_isNear 14 = .ok (.invokestatic 62, 3) := by decide +kernel
theorem dX8_isNear_17 : decode cX8_isNear 17 = .ok (.ifCond .eq 13, 3) := by decide +kernel
theorem dX8_isNear_20 : decode cX8_isNear 20 = .ok (.new 131, 3) := by decide +kernel
theorem dX8_isNear_23 : decode cX8_isNear 23 = .ok (.dup, 1) := by decide +kernel
theorem dX8_isNear_24 : decode cX8_isNear 24 = .ok (.ldc 153, 2) := by decide +kernel
theorem dX8_isNear_26 : decode cX8_isNear 26 = .ok (.invokespecial 135, 3) := by decide +kernel
theorem dX8_isNear_29 : decode cX8_isNear 29 = .ok (.athrow, 1) := by decide +kernel
theorem dX8_isNear_30 : decode cX8_isNear 30 = .ok (.aload_n 3, 1) := by decide +kernel
theorem dX8_isNear_31 : decode cX8_isNear 31 = .ok (.iload_n 2, 1) := by decide +kernel
theorem dX8_isNear_32 : decode cX8_isNear 32 = .ok (.invokevirtual 155, 3) := by decide +kernel
theorem dX8_isNear_35 : decode cX8_isNear 35 = .ok (.ireturn, 1) := by decide +kernel
theorem dX8_told_0 : decode cX8_told 0 = .ok (.aload_n 0, 1) := by decide +kernel
theorem dX8_told_1 : decode cX8_told 1 = .ok (.iload_n 1, 1) := by decide +kernel
theorem dX8_told_2 : decode cX8_told 2 = .ok (.invokevirtual 104, 3) := by decide +kernel
theorem dX8_told_5 : decode cX8_told 5 = .ok (.astore_n 3, 1) := by decide +kernel
theorem dX8_told_6 : decode cX8_told 6 = .ok (.iload_n 2, 1) := by decide +kernel
theorem dX8_told_7 : decode cX8_told 7 = .ok (.tableswitch 70 0 5 #[37, 42, 50, 55, 60, 65], 37) := by decide +kernel
theorem dX8_told_44 : decode cX8_told 44 = .ok (.aload_n 3, 1) := by decide +kernel
theorem dX8_told_45 : decode cX8_told 45 = .ok (.getfield 124, 3) := by decide +kernel
theorem dX8_told_48 : decode cX8_told 48 = .ok (.ireturn, 1) := by decide +kernel
theorem dX8_told_49 : decode cX8_told 49 = .ok (.aload_n 3, 1) := by decide +kernel
theorem dX8_told_50 : decode cX8_told 50 = .ok (.getfield 117, 3) := by decide +kernel
theorem dX8_told_53 : decode cX8_told 53 = .ok (.getfield 73, 3) := by decide +kernel
theorem dX8_told_56 : decode cX8_told 56 = .ok (.ireturn, 1) := by decide +kernel
theorem dX8_told_57 : decode cX8_told 57 = .ok (.aload_n 3, 1) := by decide +kernel
theorem dX8_told_58 : decode cX8_told 58 = .ok (.getfield 111, 3) := by decide +kernel
theorem dX8_told_61 : decode cX8_told 61 = .ok (.ireturn, 1) := by decide +kernel
theorem dX8_told_62 : decode cX8_told 62 = .ok (.aload_n 3, 1) := by decide +kernel
theorem dX8_told_63 : decode cX8_told 63 = .ok (.getfield 114, 3) := by decide +kernel
theorem dX8_told_66 : decode cX8_told 66 = .ok (.ireturn, 1) := by decide +kernel
theorem dX8_told_67 : decode cX8_told 67 = .ok (.aload_n 3, 1) := by decide +kernel
theorem dX8_told_68 : decode cX8_told 68 = .ok (.getfield 108, 3) := by decide +kernel
theorem dX8_told_71 : decode cX8_told 71 = .ok (.ireturn, 1) := by decide +kernel
theorem dX8_told_72 : decode cX8_told 72 = .ok (.aload_n 3, 1) := by decide +kernel
theorem dX8_told_73 : decode cX8_told 73 = .ok (.invokevirtual 158, 3) := by decide +kernel
theorem dX8_told_76 : decode cX8_told 76 = .ok (.ireturn, 1) := by decide +kernel
theorem dX8_told_77 : decode cX8_told 77 = .ok (.new 66, 3) := by decide +kernel
theorem dX8_told_80 : decode cX8_told 80 = .ok (.dup, 1) := by decide +kernel
theorem dX8_told_81 : decode cX8_told 81 = .ok (.ldc 162, 2) := by decide +kernel
theorem dX8_told_83 : decode cX8_told 83 = .ok (.invokespecial 70, 3) := by decide +kernel
theorem dX8_told_86 : decode cX8_told 86 = .ok (.athrow, 1) := by decide +kernel
theorem dX8_tool_0 : decode cX8_tool 0 = .ok (.iload_n 1, 1) := by decide +kernel
theorem dX8_tool_1 : decode cX8_tool 1 = .ok (.iconst 4, 1) := by decide +kernel
theorem dX8_tool_2 : decode cX8_tool 2 = .ok (.bipush 60, 2) := by decide +kernel
theorem dX8_tool_4 : decode cX8_tool 4 = .ok (.invokestatic 62, 3) := by decide +kernel
theorem dX8_tool_7 : decode cX8_tool 7 = .ok (.ifCond .ne 51, 3) := by decide +kernel
theorem dX8_tool_10 : decode cX8_tool 10 = .ok (.iload_n 2, 1) := by decide +kernel
theorem dX8_tool_11 : decode cX8_tool 11 = .ok (.iconst 0, 1) := by decide +kernel
theorem dX8_tool_12 : decode cX8_tool 12 = .ok (.bipush 30, 2) := by decide +kernel
theorem dX8_tool_14 : decode cX8_tool 14 = .ok (.invokestatic 62, 3) := by decide +kernel
theorem dX8_tool_17 : decode cX8_tool 17 = .ok (.ifCond .ne 41, 3) := by decide +kernel
theorem dX8_tool_20 : decode cX8_tool 20 = .ok (.iload_n 3, 1) := by decide +kernel
theorem dX8_tool_21 : decode cX8_tool 21 = .ok (.bipush 10, 2) := by decide +kernel
theorem dX8_tool_23 : decode cX8_tool 23 = .ok (.sipush 200, 3) := by decide +kernel
theorem dX8_tool_26 : decode cX8_tool 26 = .ok (.invokestatic 62, 3) := by decide +kernel
theorem dX8_tool_29 : decode cX8_tool 29 = .ok (.ifCond .ne 29, 3) := by decide +kernel
theorem dX8_tool_32 : decode cX8_tool 32 = .ok (.iload 4, 2) := by decide +kernel
theorem dX8_tool_34 : decode cX8_tool 34 = .ok (.bipush 10, 2) := by decide +kernel
theorem dX8_tool_36 : decode cX8_tool 36 = .ok (.sipush 200, 3) := by decide +kernel
theorem dX8_tool_39 : decode cX8_tool 39 = .ok (.invokestatic 62, 3) := by decide +kernel
theorem dX8_tool_42 : decode cX8_tool 42 = .ok (.ifCond .ne 16, 3) := by decide +kernel
theorem dX8_tool_45 : decode cX8_tool 45 = .ok (.iload 5, 2) := by decide +kernel
theorem dX8_tool_47 : decode cX8_tool 47 = .ok (.bipush 20, 2) := by decide +kernel
theorem dX8_tool_49 : decode cX8_tool 49 = .ok (.sipush 600, 3) := by decide +kernel
theorem dX8_tool_52 : decode cX8_tool 52 = .ok (.invokestatic 62, 3) := by decide +kernel
theorem dX8_tool_55 : decode cX8_tool 55 = .ok (.ifCond .eq 13, 3) := by decide +kernel
theorem dX8_tool_58 : decode cX8_tool 58 = .ok (.new 66, 3) := by decide +kernel
theorem dX8_tool_61 : decode cX8_tool 61 = .ok (.dup, 1) := by decide +kernel
theorem dX8_tool_62 : decode cX8_tool 62 = .ok (.ldc 164, 2) := by decide +kernel
theorem dX8_tool_64 : decode cX8_tool 64 = .ok (.invokespecial 70, 3) := by decide +kernel
theorem dX8_tool_67 : decode cX8_tool 67 = .ok (.athrow, 1) := by decide +kernel
theorem dX8_tool_68 : decode cX8_tool 68 = .ok (.aload_n 0, 1) := by decide +kernel
theorem dX8_tool_69 : decode cX8_tool 69 = .ok (.getfield 166, 3) := by decide +kernel
theorem dX8_tool_72 : decode cX8_tool 72 = .ok (.iconst 4, 1) := by decide +kernel
theorem dX8_tool_73 : decode cX8_tool 73 = .ok (.if_icmp .lt 13, 3) := by decide +kernel
theorem dX8_tool_76 : decode cX8_tool 76 = .ok (.new 77, 3) := by decide +kernel
theorem dX8_tool_79 : decode cX8_tool 79 = .ok (.dup, 1) := by decide +kernel
theorem dX8_tool_80 : decode cX8_tool 80 = .ok (.ldc 169, 2) := by decide +kernel
theorem dX8_tool_82 : decode cX8_tool 82 = .ok (.invokespecial 81, 3) := by decide +kernel
theorem dX8_tool_85 : decode cX8_tool 85 = .ok (.athrow, 1) := by decide +kernel
theorem dX8_tool_86 : decode cX8_tool 86 = .ok (.aload_n 0, 1) := by decide +kernel
theorem dX8_tool_87 : decode cX8_tool 87 = .ok (.getfield 24, 3) := by decide +kernel
theorem dX8_tool_90 : decode cX8_tool 90 = .ok (.aload_n 0, 1) := by decide +kernel
theorem dX8_tool_91 : decode cX8_tool 91 = .ok (.getfield 166, 3) := by decide +kernel
theorem dX8_tool_94 : decode cX8_tool 94 = .ok (.aaload, 1) := by decide +kernel
theorem dX8_tool_95 : decode cX8_tool 95 = .ok (.astore 6, 2) := by decide +kernel
theorem dX8_tool_97 : decode cX8_tool 97 = .ok (.aload 6, 2) := by decide +kernel
theorem dX8_tool_99 : decode cX8_tool 99 = .ok (.iload_n 1, 1) := by decide +kernel
theorem dX8_tool_100 : decode cX8_tool 100 = .ok (.putfield 171, 3) := by decide +kernel
theorem dX8_tool_103 : decode cX8_tool 103 = .ok (.aload 6, 2) := by decide +kernel
theorem dX8_tool_105 : decode cX8_tool 105 = .ok (.iload_n 2, 1) := by decide +kernel
theorem dX8_tool_106 : decode cX8_tool 106 = .ok (.putfield 174, 3) := by decide +kernel
theorem dX8_tool_109 : decode cX8_tool 109 = .ok (.aload 6, 2) := by decide +kernel
theorem dX8_tool_111 : decode cX8_tool 111 = .ok (.iload_n 3, 1) := by decide +kernel
theorem dX8_tool_112 : decode cX8_tool 112 = .ok (.putfield 177, 3) := by decide +kernel
theorem dX8_tool_115 : decode cX8_tool 115 = .ok (.aload 6, 2) := by decide +kernel
theorem dX8_tool_117 : decode cX8_tool 117 = .ok (.iload 4, 2) := by decide +kernel
theorem dX8_tool_119 : decode cX8_tool 119 = .ok (.putfield 180, 3) := by decide +kernel
theorem dX8_tool_122 : decode cX8_tool 122 = .ok (.aload 6, 2) := by decide +kernel
theorem dX8_tool_124 : decode cX8_tool 124 = .ok (.iload 5, 2) := by decide +kernel
theorem dX8_tool_126 : decode cX8_tool 126 = .ok (.putfield 183, 3) := by decide +kernel
theorem dX8_tool_129 : decode cX8_tool 129 = .ok (.aload_n 0, 1) := by decide +kernel
theorem dX8_tool_130 : decode cX8_tool 130 = .ok (.dup, 1) := by decide +kernel
theorem dX8_tool_131 : decode cX8_tool 131 = .ok (.getfield 166, 3) := by decide +kernel
theorem dX8_tool_134 : decode cX8_tool 134 = .ok (.iconst 1, 1) := by decide +kernel
theorem dX8_tool_135 : decode cX8_tool 135 = .ok (.iadd, 1) := by decide +kernel
theorem dX8_tool_136 : decode cX8_tool 136 = .ok (.putfield 166, 3) := by decide +kernel
theorem dX8_tool_139 : decode cX8_tool 139 = .ok (.aload_n 0, 1) := by decide +kernel
theorem dX8_tool_140 : decode cX8_tool 140 = .ok (.getfield 166, 3) := by decide +kernel
theorem dX8_tool_143 : decode cX8_tool 143 = .ok (.iconst 1, 1) := by decide +kernel
theorem dX8_tool_144 : decode cX8_tool 144 = .ok (.isub, 1) := by decide +kernel
theorem dX8_tool_145 : decode cX8_tool 145 = .ok (.ireturn, 1) := by decide +kernel
theorem dX8_trial_0 : decode cX8_trial 0 = .ok (.aload_n 0, 1) := by decide +kernel
theorem dX8_trial_1 : decode cX8_trial 1 = .ok (.iload_n 1, 1) := by decide +kernel
theorem dX8_trial_2 : decode cX8_trial 2 = .ok (.invokevirtual 186, 3) := by decide +kernel
theorem dX8_trial_5 : decode cX8_trial 5 = .ok (.astore 4, 2) := by decide +kernel
theorem dX8_trial_7 : decode cX8_trial 7 = .ok (.iload_n 2, 1) := by decide +kernel
theorem dX8_trial_8 : decode cX8_trial 8 = .ok (.iconst 1, 1) := by decide +kernel
theorem dX8_trial_9 : decode cX8_trial 9 = .ok (.iconst 4, 1) := by decide +kernel
theorem dX8_trial_10 : decode cX8_trial 10 = .ok (.invokestatic 62, 3) := by decide +kernel
theorem dX8_trial_13 : decode cX8_trial 13 = .ok (.ifCond .ne 13, 3) := by decide +kernel
theorem dX8_trial_16 : decode cX8_trial 16 = .ok (.iload_n 3, 1) := by decide +kernel
theorem dX8_trial_17 : decode cX8_trial 17 = .ok (.iconst 0, 1) := by decide +kernel
theorem dX8_trial_18 : decode cX8_trial 18 = .ok (.bipush 9, 2) := by decide +kernel
theorem dX8_trial_20 : decode cX8_trial 20 = .ok (.invokestatic 62, 3) := by decide +kernel
theorem dX8_trial_23 : decode cX8_trial 23 = .ok (.ifCond .eq 13, 3) := by decide +kernel
theorem dX8_trial_26 : decode cX8_trial 26 = .ok (.new 66, 3) := by decide +kernel
theorem dX8_trial_29 : decode cX8_trial 29 = .ok (.dup, 1) := by decide +kernel
theorem dX8_trial_30 : decode cX8_trial 30 = .ok (.ldc 190, 2) := by decide +kernel
theorem dX8_trial_32 : decode cX8_trial 32 = .ok (.invokespecial 70, 3) := by decide +kernel
theorem dX8_trial_35 : decode cX8_trial 35 = .ok (.athrow, 1) := by decide +kernel
theorem dX8_trial_36 : decode cX8_trial 36 = .ok (.aload 4, 2) := by decide +kernel
theorem dX8_trial_38 : decode cX8_trial 38 = .ok (.getfield 192, 3) := by decide +kernel
theorem dX8_trial_41 : decode cX8_trial 41 = .ok (.iload_n 2, 1) := by decide +kernel
theorem dX8_trial_42 : decode cX8_trial 42 = .ok (.iaload, 1) := by decide +kernel
theorem dX8_trial_43 : decode cX8_trial 43 = .ok (.istore 5, 2) := by decide +kernel
theorem dX8_trial_45 : decode cX8_trial 45 = .ok (.aload 4, 2) := by decide +kernel
theorem dX8_trial_47 : decode cX8_trial 47 = .ok (.getfield 192, 3) := by decide +kernel
theorem dX8_trial_50 : decode cX8_trial 50 = .ok (.iload_n 2, 1) := by decide +kernel
theorem dX8_trial_51 : decode cX8_trial 51 = .ok (.iload_n 3, 1) := by decide +kernel
theorem dX8_trial_52 : decode cX8_trial 52 = .ok (.iastore, 1) := by decide +kernel
theorem dX8_trial_53 : decode cX8_trial 53 = .ok (.iload 5, 2) := by decide +kernel
theorem dX8_trial_55 : decode cX8_trial 55 = .ok (.ireturn, 1) := by decide +kernel
theorem dX8_blank_0 : decode cX8_blank 0 = .ok (.aload_n 0, 1) := by decide +kernel
theorem dX8_blank_1 : decode cX8_blank 1 = .ok (.iload_n 1, 1) := by decide +kernel
theorem dX8_blank_2 : decode cX8_blank 2 = .ok (.invokevirtual 104, 3) := by decide +kernel
theorem dX8_blank_5 : decode cX8_blank 5 = .ok (.astore_n 3, 1) := by decide +kernel
theorem dX8_blank_6 : decode cX8_blank 6 = .ok (.aload_n 3, 1) := by decide +kernel
theorem dX8_blank_7 : decode cX8_blank 7 = .ok (.aload_n 0, 1) := by decide +kernel
theorem dX8_blank_8 : decode cX8_blank 8 = .ok (.iload_n 2, 1) := by decide +kernel
theorem dX8_blank_9 : decode cX8_blank 9 = .ok (.invokevirtual 186, 3) := by decide +kernel
theorem dX8_blank_12 : decode cX8_blank 12 = .ok (.invokevirtual 195, 3) := by decide +kernel
theorem dX8_blank_15 : decode cX8_blank 15 = .ok (.ireturn, 1) := by decide +kernel
theorem dX8_why_0 : decode cX8_why 0 = .ok (.aload_n 0, 1) := by decide +kernel
theorem dX8_why_1 : decode cX8_why 1 = .ok (.iload_n 1, 1) := by decide +kernel
theorem dX8_why_2 : decode cX8_why 2 = .ok (.invokevirtual 104, 3) := by decide +kernel
theorem dX8_why_5 : decode cX8_why 5 = .ok (.astore 5, 2) := by decide +kernel
theorem dX8_why_7 : decode cX8_why 7 = .ok (.aload_n 0, 1) := by decide +kernel
theorem dX8_why_8 : decode cX8_why 8 = .ok (.iload_n 2, 1) := by decide +kernel
theorem dX8_why_9 : decode cX8_why 9 = .ok (.invokevirtual 186, 3) := by decide +kernel
theorem dX8_why_12 : decode cX8_why 12 = .ok (.astore 6, 2) := by decide +kernel
theorem dX8_why_14 : decode cX8_why 14 = .ok (.aload 5, 2) := by decide +kernel
theorem dX8_why_16 : decode cX8_why 16 = .ok (.getfield 117, 3) := by decide +kernel
theorem dX8_why_19 : decode cX8_why 19 = .ok (.iload 4, 2) := by decide +kernel
theorem dX8_why_21 : decode cX8_why 21 = .ok (.invokestatic 199, 3) := by decide +kernel
theorem dX8_why_24 : decode cX8_why 24 = .ok (.aload 5, 2) := by decide +kernel
theorem dX8_why_26 : decode cX8_why 26 = .ok (.getfield 117, 3) := by decide +kernel
theorem dX8_why_29 : decode cX8_why 29 = .ok (.iload_n 3, 1) := by decide +kernel
theorem dX8_why_30 : decode cX8_why 30 = .ok (.iload 4, 2) := by decide +kernel
theorem dX8_why_32 : decode cX8_why 32 = .ok (.invokestatic 203, 3) := by decide +kernel
theorem dX8_why_35 : decode cX8_why 35 = .ok (.aload_n 0, 1) := by decide +kernel
theorem dX8_why_36 : decode cX8_why 36 = .ok (.getfield 41, 3) := by decide +kernel
theorem dX8_why_39 : decode cX8_why 39 = .ok (.aload 5, 2) := by decide +kernel
theorem dX8_why_41 : decode cX8_why 41 = .ok (.aload 6, 2) := by decide +kernel
theorem dX8_why_43 : decode cX8_why 43 = .ok (.iload_n 3, 1) := by decide +kernel
theorem dX8_why_44 : decode cX8_why 44 = .ok (.iload 4, 2) := by decide +kernel
theorem dX8_why_46 : decode cX8_why 46 = .ok (.invokevirtual 206, 3) := by decide +kernel
theorem dX8_why_49 : decode cX8_why 49 = .ok (.ireturn, 1) := by decide +kernel
theorem dX8_point_0 : decode cX8_point 0 = .ok (.aload_n 0, 1) := by decide +kernel
theorem dX8_point_1 : decode cX8_point 1 = .ok (.iload_n 1, 1) := by decide +kernel
theorem dX8_point_2 : decode cX8_point 2 = .ok (.invokevirtual 104, 3) := by decide +kernel
theorem dX8_point_5 : decode cX8_point 5 = .ok (.getfield 117, 3) := by decide +kernel
theorem dX8_point_8 : decode cX8_point 8 = .ok (.astore 7, 2) := by decide +kernel
theorem dX8_point_10 : decode cX8_point 10 = .ok (.aload 7, 2) := by decide +kernel
theorem dX8_point_12 : decode cX8_point 12 = .ok (.iload_n 3, 1) := by decide +kernel
theorem dX8_point_13 : decode cX8_point 13 = .ok (.invokestatic 199, 3) := by decide +kernel
theorem dX8_point_16 : decode cX8_point 16 = .ok (.iload 5, 2) := by decide +kernel
theorem dX8_point_18 : decode cX8_point 18 = .ok (.iconst 0, 1) := by decide +kernel
theorem dX8_point_19 : decode cX8_point 19 = .ok (.aload 7, 2) := by decide +kernel
theorem dX8_point_21 : decode cX8_point 21 = .ok (.iload_n 3, 1) := by decide +kernel
theorem dX8_point_22 : decode cX8_point 22 = .ok (.iload 4, 2) := by decide +kernel
theorem dX8_point_24 : decode cX8_point 24 = .ok (.invokevirtual 210, 3) := by decide +kernel
theorem dX8_point_27 : decode cX8_point 27 = .ok (.iconst 1, 1) := by decide +kernel
theorem dX8_point_28 : decode cX8_point 28 = .ok (.isub, 1) := by decide +kernel
theorem dX8_point_29 : decode cX8_point 29 = .ok (.invokestatic 62, 3) := by decide +kernel
theorem dX8_point_32 : decode cX8_point 32 = .ok (.ifCond .eq 13, 3) := by decide +kernel
theorem dX8_point_35 : decode cX8_point 35 = .ok (.new 131, 3) := by decide +kernel
theorem dX8_point_38 : decode cX8_point 38 = .ok (.dup, 1) := by decide +kernel
theorem dX8_point_39 : decode cX8_point 39 = .ok (.ldc 214, 2) := by decide +kernel
theorem dX8_point_41 : decode cX8_point 41 = .ok (.invokespecial 135, 3) := by decide +kernel
theorem dX8_point_44 : decode cX8_point 44 = .ok (.athrow, 1) := by decide +kernel
theorem dX8_point_45 : decode cX8_point 45 = .ok (.aload 7, 2) := by decide +kernel
theorem dX8_point_47 : decode cX8_point 47 = .ok (.iload_n 2, 1) := by decide +kernel
theorem dX8_point_48 : decode cX8_point 48 = .ok (.iload_n 3, 1) := by decide +kernel
theorem dX8_point_49 : decode cX8_point 49 = .ok (.invokestatic 203, 3) := by decide +kernel
theorem dX8_point_52 : decode cX8_point 52 = .ok (.aload_n 0, 1) := by decide +kernel
theorem dX8_point_53 : decode cX8_point 53 = .ok (.getfield 41, 3) := by decide +kernel
theorem dX8_point_56 : decode cX8_point 56 = .ok (.getfield 216, 3) := by decide +kernel
theorem dX8_point_59 : decode cX8_point 59 = .ok (.astore 8, 2) := by decide +kernel
theorem dX8_point_61 : decode cX8_point 61 = .ok (.aload 8, 2) := by decide +kernel
theorem dX8_point_63 : decode cX8_point 63 = .ok (.aload 7, 2) := by decide +kernel
theorem dX8_point_65 : decode cX8_point 65 = .ok (.iload_n 2, 1) := by decide +kernel
theorem dX8_point_66 : decode cX8_point 66 = .ok (.iload_n 3, 1) := by decide +kernel
theorem dX8_point_67 : decode cX8_point 67 = .ok (.iload 4, 2) := by decide +kernel
theorem dX8_point_69 : decode cX8_point 69 = .ok (.invokevirtual 220, 3) := by decide +kernel
theorem dX8_point_72 : decode cX8_point 72 = .ok (.iload 6, 2) := by decide +kernel
theorem dX8_point_74 : decode cX8_point 74 = .ok (.ifCond .eq 14, 3) := by decide +kernel
theorem dX8_point_77 : decode cX8_point 77 = .ok (.aload 8, 2) := by decide +kernel
theorem dX8_point_79 : decode cX8_point 79 = .ok (.getfield 226, 3) := by decide +kernel
theorem dX8_point_82 : decode cX8_point 82 = .ok (.iload 5, 2) := by decide +kernel
theorem dX8_point_84 : decode cX8_point 84 = .ok (.iaload, 1) := by decide +kernel
theorem dX8_point_85 : decode cX8_point 85 = .ok (.goto 11, 3) := by decide +kernel
theorem dX8_point_88 : decode cX8_point 88 = .ok (.aload 8, 2) := by decide +kernel
theorem dX8_point_90 : decode cX8_point 90 = .ok (.getfield 229, 3) := by decide +kernel
theorem dX8_point_93 : decode cX8_point 93 = .ok (.iload 5, 2) := by decide +kernel
theorem dX8_point_95 : decode cX8_point 95 = .ok (.iaload, 1) := by decide +kernel
theorem dX8_point_96 : decode cX8_point 96 = .ok (.ireturn, 1) := by decide +kernel
theorem dX8_flips_0 : decode cX8_flips 0 = .ok (.aload_n 0, 1) := by decide +kernel
theorem dX8_flips_1 : decode cX8_flips 1 = .ok (.iload_n 1, 1) := by decide +kernel
theorem dX8_flips_2 : decode cX8_flips 2 = .ok (.invokevirtual 104, 3) := by decide +kernel
theorem dX8_flips_5 : decode cX8_flips 5 = .ok (.astore_n 3, 1) := by decide +kernel
theorem dX8_flips_6 : decode cX8_flips 6 = .ok (.aload_n 0, 1) := by decide +kernel
theorem dX8_flips_7 : decode cX8_flips 7 = .ok (.getfield 48, 3) := by decide +kernel
theorem dX8_flips_10 : decode cX8_flips 10 = .ok (.aload_n 3, 1) := by decide +kernel
theorem dX8_flips_11 : decode cX8_flips 11 = .ok (.aload_n 0, 1) := by decide +kernel
theorem dX8_flips_12 : decode cX8_flips 12 = .ok (.iload_n 2, 1) := by decide +kernel
theorem dX8_flips_13 : decode cX8_flips 13 = .ok (.invokevirtual 186, 3) := by decide +kernel
theorem dX8_flips_16 : decode cX8_flips 16 = .ok (.aload_n 0, 1) := by decide +kernel
theorem dX8_flips_17 : decode cX8_flips 17 = .ok (.getfield 41, 3) := by decide +kernel
theorem dX8_flips_20 : decode cX8_flips 20 = .ok (.invokevirtual 232, 3) := by decide +kernel
theorem dX8_flips_23 : decode cX8_flips 23 = .ok (.aload_n 0, 1) := by decide +kernel
theorem dX8_flips_24 : decode cX8_flips 24 = .ok (.getfield 48, 3) := by decide +kernel
theorem dX8_flips_27 : decode cX8_flips 27 = .ok (.getfield 236, 3) := by decide +kernel
theorem dX8_flips_30 : decode cX8_flips 30 = .ok (.ireturn, 1) := by decide +kernel
theorem dX8_flipsAnew_0 : decode cX8_flipsAnew 0 = .ok (.aload_n 0, 1) := by decide +kernel
theorem dX8_flipsAnew_1 : decode cX8_flipsAnew 1 = .ok (.iload_n 1, 1) := by decide +kernel
theorem dX8_flipsAnew_2 : decode cX8_flipsAnew 2 = .ok (.invokevirtual 104, 3) := by decide +kernel
theorem dX8_flipsAnew_5 : decode cX8_flipsAnew 5 = .ok (.astore_n 3, 1) := by decide +kernel
theorem dX8_flipsAnew_6 : decode cX8_flipsAnew 6 = .ok (.aload_n 0, 1) := by decide +kernel
theorem dX8_flipsAnew_7 : decode cX8_flipsAnew 7 = .ok (.getfield 48, 3) := by decide +kernel
theorem dX8_flipsAnew_10 : decode cX8_flipsAnew 10 = .ok (.aload_n 3, 1) := by decide +kernel
theorem dX8_flipsAnew_11 : decode cX8_flipsAnew 11 = .ok (.aload_n 0, 1) := by decide +kernel
theorem dX8_flipsAnew_12 : decode cX8_flipsAnew 12 = .ok (.iload_n 2, 1) := by decide +kernel
theorem dX8_flipsAnew_13 : decode cX8_flipsAnew 13 = .ok (.invokevirtual 186, 3) := by decide +kernel
theorem dX8_flipsAnew_16 : decode cX8_flipsAnew 16 = .ok (.aload_n 0, 1) := by decide +kernel
theorem dX8_flipsAnew_17 : decode cX8_flipsAnew 17 = .ok (.getfield 41, 3) := by decide +kernel
theorem dX8_flipsAnew_20 : decode cX8_flipsAnew 20 = .ok (.invokevirtual 239, 3) := by decide +kernel
theorem dX8_flipsAnew_23 : decode cX8_flipsAnew 23 = .ok (.ireturn, 1) := by decide +kernel
theorem dX8_ordered_0 : decode cX8_ordered 0 = .ok (.aload_n 0, 1) := by decide +kernel
theorem dX8_ordered_1 : decode cX8_ordered 1 = .ok (.iload_n 1, 1) := by decide +kernel
theorem dX8_ordered_2 : decode cX8_ordered 2 = .ok (.invokevirtual 104, 3) := by decide +kernel
theorem dX8_ordered_5 : decode cX8_ordered 5 = .ok (.astore 4, 2) := by decide +kernel
theorem dX8_ordered_7 : decode cX8_ordered 7 = .ok (.aload_n 0, 1) := by decide +kernel
theorem dX8_ordered_8 : decode cX8_ordered 8 = .ok (.iload_n 2, 1) := by decide +kernel
theorem dX8_ordered_9 : decode cX8_ordered 9 = .ok (.invokevirtual 186, 3) := by decide +kernel
theorem dX8_ordered_12 : decode cX8_ordered 12 = .ok (.astore 5, 2) := by decide +kernel
theorem dX8_ordered_14 : decode cX8_ordered 14 = .ok (.iload_n 3, 1) := by decide +kernel
theorem dX8_ordered_15 : decode cX8_ordered 15 = .ok (.ifCond .ge 13, 3) := by decide +kernel
theorem dX8_ordered_18 : decode cX8_ordered 18 = .ok (.new 131, 3) := by decide +kernel
theorem dX8_ordered_21 : decode cX8_ordered 21 = .ok (.dup, 1) := by decide +kernel
theorem dX8_ordered_22 : decode cX8_ordered 22 = .ok (.ldc 243, 2) := by decide +kernel
theorem dX8_ordered_24 : decode cX8_ordered 24 = .ok (.invokespecial 135, 3) := by decide +kernel
theorem dX8_ordered_27 : decode cX8_ordered 27 = .ok (.athrow, 1) := by decide +kernel
theorem dX8_ordered_28 : decode cX8_ordered 28 = .ok (.aload_n 0, 1) := by decide +kernel
theorem dX8_ordered_29 : decode cX8_ordered 29 = .ok (.getfield 48, 3) := by decide +kernel
theorem dX8_ordered_32 : decode cX8_ordered 32 = .ok (.aload 4, 2) := by decide +kernel
theorem dX8_ordered_34 : decode cX8_ordered 34 = .ok (.aload 5, 2) := by decide +kernel
theorem dX8_ordered_36 : decode cX8_ordered 36 = .ok (.aload_n 0, 1) := by decide +kernel
theorem dX8_ordered_37 : decode cX8_ordered 37 = .ok (.getfield 41, 3) := by decide +kernel
theorem dX8_ordered_40 : decode cX8_ordered 40 = .ok (.invokevirtual 232, 3) := by decide +kernel
theorem dX8_ordered_43 : decode cX8_ordered 43 = .ok (.iload_n 3, 1) := by decide +kernel
theorem dX8_ordered_44 : decode cX8_ordered 44 = .ok (.aload_n 0, 1) := by decide +kernel
theorem dX8_ordered_45 : decode cX8_ordered 45 = .ok (.getfield 48, 3) := by decide +kernel
theorem dX8_ordered_48 : decode cX8_ordered 48 = .ok (.getfield 245, 3) := by decide +kernel
theorem dX8_ordered_51 : decode cX8_ordered 51 = .ok (.if_icmp .ge 15, 3) := by decide +kernel
theorem dX8_ordered_54 : decode cX8_ordered 54 = .ok (.aload_n 0, 1) := by decide +kernel
theorem dX8_ordered_55 : decode cX8_ordered 55 = .ok (.getfield 48, 3) := by decide +kernel
theorem dX8_ordered_58 : decode cX8_ordered 58 = .ok (.getfield 248, 3) := by decide +kernel
theorem dX8_ordered_61 : decode cX8_ordered 61 = .ok (.iload_n 3, 1) := by decide +kernel
theorem dX8_ordered_62 : decode cX8_ordered 62 = .ok (.iaload, 1) := by decide +kernel
theorem dX8_ordered_63 : decode cX8_ordered 63 = .ok (.goto 4, 3) := by decide +kernel
theorem dX8_ordered_66 : decode cX8_ordered 66 = .ok (.iconst (-1), 1) := by decide +kernel
theorem dX8_ordered_67 : decode cX8_ordered 67 = .ok (.ireturn, 1) := by decide +kernel
theorem dX8_want_0 : decode cX8_want 0 = .ok (.aload_n 0, 1) := by decide +kernel
theorem dX8_want_1 : decode cX8_want 1 = .ok (.iload_n 1, 1) := by decide +kernel
theorem dX8_want_2 : decode cX8_want 2 = .ok (.invokevirtual 104, 3) := by decide +kernel
theorem dX8_want_5 : decode cX8_want 5 = .ok (.pop, 1) := by decide +kernel
theorem dX8_want_6 : decode cX8_want 6 = .ok (.iload_n 2, 1) := by decide +kernel
theorem dX8_want_7 : decode cX8_want 7 = .ok (.iconst 1, 1) := by decide +kernel
theorem dX8_want_8 : decode cX8_want 8 = .ok (.bipush 40, 2) := by decide +kernel
theorem dX8_want_10 : decode cX8_want 10 = .ok (.invokestatic 62, 3) := by decide +kernel
theorem dX8_want_13 : decode cX8_want 13 = .ok (.ifCond .eq 13, 3) := by decide +kernel
theorem dX8_want_16 : decode cX8_want 16 = .ok (.new 66, 3) := by decide +kernel
theorem dX8_want_19 : decode cX8_want 19 = .ok (.dup, 1) := by decide +kernel
theorem dX8_want_20 : decode cX8_want 20 = .ok (.ldc 251, 2) := by decide +kernel
theorem dX8_want_22 : decode cX8_want 22 = .ok (.invokespecial 70, 3) := by decide +kernel
theorem dX8_want_25 : decode cX8_want 25 = .ok (.athrow, 1) := by decide +kernel
theorem dX8_want_26 : decode cX8_want 26 = .ok (.aload_n 0, 1) := by decide +kernel
theorem dX8_want_27 : decode cX8_want 27 = .ok (.getfield 253, 3) := by decide +kernel
theorem dX8_want_30 : decode cX8_want 30 = .ok (.iload_n 2, 1) := by decide +kernel
theorem dX8_want_31 : decode cX8_want 31 = .ok (.iadd, 1) := by decide +kernel
theorem dX8_want_32 : decode cX8_want 32 = .ok (.bipush 40, 2) := by decide +kernel
theorem dX8_want_34 : decode cX8_want 34 = .ok (.if_icmp .le 14, 3) := by decide +kernel
theorem dX8_want_37 : decode cX8_want 37 = .ok (.new 77, 3) := by decide +kernel
theorem dX8_want_40 : decode cX8_want 40 = .ok (.dup, 1) := by decide +kernel
theorem dX8_want_41 : decode cX8_want 41 = .ok (.ldc_w 256, 3) := by decide +kernel
theorem dX8_want_44 : decode cX8_want 44 = .ok (.invokespecial 81, 3) := by decide +kernel
theorem dX8_want_47 : decode cX8_want 47 = .ok (.athrow, 1) := by decide +kernel
theorem dX8_want_48 : decode cX8_want 48 = .ok (.aload_n 0, 1) := by decide +kernel
theorem dX8_want_49 : decode cX8_want 49 = .ok (.getfield 28, 3) := by decide +kernel
theorem dX8_want_52 : decode cX8_want 52 = .ok (.iload_n 1, 1) := by decide +kernel
theorem dX8_want_53 : decode cX8_want 53 = .ok (.dup2, 1) := by decide +kernel
theorem dX8_want_54 : decode cX8_want 54 = .ok (.iaload, 1) := by decide +kernel
theorem dX8_want_55 : decode cX8_want 55 = .ok (.iload_n 2, 1) := by decide +kernel
theorem dX8_want_56 : decode cX8_want 56 = .ok (.iadd, 1) := by decide +kernel
theorem dX8_want_57 : decode cX8_want 57 = .ok (.iastore, 1) := by decide +kernel
theorem dX8_want_58 : decode cX8_want 58 = .ok (.aload_n 0, 1) := by decide +kernel
theorem dX8_want_59 : decode cX8_want 59 = .ok (.dup, 1) := by decide +kernel
theorem dX8_want_60 : decode cX8_want 60 = .ok (.getfield 253, 3) := by decide +kernel
theorem dX8_want_63 : decode cX8_want 63 = .ok (.iload_n 2, 1) := by decide +kernel
theorem dX8_want_64 : decode cX8_want 64 = .ok (.iadd, 1) := by decide +kernel
theorem dX8_want_65 : decode cX8_want 65 = .ok (.putfield 253, 3) := by decide +kernel
theorem dX8_want_68 : decode cX8_want 68 = .ok (.aload_n 0, 1) := by decide +kernel
theorem dX8_want_69 : decode cX8_want 69 = .ok (.getfield 253, 3) := by decide +kernel
theorem dX8_want_72 : decode cX8_want 72 = .ok (.ireturn, 1) := by decide +kernel
theorem dX8_clear_0 : decode cX8_clear 0 = .ok (.aload_n 0, 1) := by decide +kernel
theorem dX8_clear_1 : decode cX8_clear 1 = .ok (.getfield 253, 3) := by decide +kernel
theorem dX8_clear_4 : decode cX8_clear 4 = .ok (.istore_n 1, 1) := by decide +kernel
theorem dX8_clear_5 : decode cX8_clear 5 = .ok (.iconst 0, 1) := by decide +kernel
theorem dX8_clear_6 : decode cX8_clear 6 = .ok (.istore_n 2, 1) := by decide +kernel
theorem dX8_clear_7 : decode cX8_clear 7 = .ok (.iload_n 2, 1) := by decide +kernel
theorem dX8_clear_8 : decode cX8_clear 8 = .ok (.bipush 8, 2) := by decide +kernel
theorem dX8_clear_10 : decode cX8_clear 10 = .ok (.if_icmp .ge 16, 3) := by decide +kernel
theorem dX8_clear_13 : decode cX8_clear 13 = .ok (.aload_n 0, 1) := by decide +kernel
theorem dX8_clear_14 : decode cX8_clear 14 = .ok (.getfield 28, 3) := by decide +kernel
theorem dX8_clear_17 : decode cX8_clear 17 = .ok (.iload_n 2, 1) := by decide +kernel
theorem dX8_clear_18 : decode cX8_clear 18 = .ok (.iconst 0, 1) := by decide +kernel
theorem dX8_clear_19 : decode cX8_clear 19 = .ok (.iastore, 1) := by decide +kernel
theorem dX8_clear_20 : decode cX8_clear 20 = .ok (.iinc 2 1, 3) := by decide +kernel
theorem dX8_clear_23 : decode cX8_clear 23 = .ok (.goto (-16), 3) := by decide +kernel
theorem dX8_clear_26 : decode cX8_clear 26 = .ok (.aload_n 0, 1) := by decide +kernel
theorem dX8_clear_27 : decode cX8_clear 27 = .ok (.iconst 0, 1) := by decide +kernel
theorem dX8_clear_28 : decode cX8_clear 28 = .ok (.putfield 253, 3) := by decide +kernel
theorem dX8_clear_31 : decode cX8_clear 31 = .ok (.iload_n 1, 1) := by decide +kernel
theorem dX8_clear_32 : decode cX8_clear 32 = .ok (.ireturn, 1) := by decide +kernel
theorem dX8_nest_0 : decode cX8_nest 0 = .ok (.aload_n 0, 1) := by decide +kernel
theorem dX8_nest_1 : decode cX8_nest 1 = .ok (.iload_n 1, 1) := by decide +kernel
theorem dX8_nest_2 : decode cX8_nest 2 = .ok (.invokevirtual 186, 3) := by decide +kernel
theorem dX8_nest_5 : decode cX8_nest 5 = .ok (.astore 5, 2) := by decide +kernel
theorem dX8_nest_7 : decode cX8_nest 7 = .ok (.iload_n 2, 1) := by decide +kernel
theorem dX8_nest_8 : decode cX8_nest 8 = .ok (.bipush 50, 2) := by decide +kernel
theorem dX8_nest_10 : decode cX8_nest 10 = .ok (.sipush 3000, 3) := by decide +kernel
theorem dX8_nest_13 : decode cX8_nest 13 = .ok (.invokestatic 62, 3) := by decide +kernel
theorem dX8_nest_16 : decode cX8_nest 16 = .ok (.ifCond .ne 29, 3) := by decide +kernel
theorem dX8_nest_19 : decode cX8_nest 19 = .ok (.iload_n 3, 1) := by decide +kernel
theorem dX8_nest_20 : decode cX8_nest 20 = .ok (.bipush 50, 2) := by decide +kernel
theorem dX8_nest_22 : decode cX8_nest 22 = .ok (.sipush 1500, 3) := by decide +kernel
theorem dX8_nest_25 : decode cX8_nest 25 = .ok (.iload_n 2, 1) := by decide +kernel
theorem dX8_nest_26 : decode cX8_nest 26 = .ok (.invokestatic 258, 3) := by decide +kernel
theorem dX8_nest_29 : decode cX8_nest 29 = .ok (.invokestatic 62, 3) := by decide +kernel
theorem dX8_nest_32 : decode cX8_nest 32 = .ok (.ifCond .ne 13, 3) := by decide +kernel
theorem dX8_nest_35 : decode cX8_nest 35 = .ok (.iload 4, 2) := by decide +kernel
theorem dX8_nest_37 : decode cX8_nest 37 = .ok (.iconst 0, 1) := by decide +kernel
theorem dX8_nest_38 : decode cX8_nest 38 = .ok (.iconst 3, 1) := by decide +kernel
theorem dX8_nest_39 : decode cX8_nest 39 = .ok (.invokestatic 62, 3) := by decide +kernel
theorem dX8_nest_42 : decode cX8_nest 42 = .ok (.ifCond .eq 14, 3) := by decide +kernel
theorem dX8_nest_45 : decode cX8_nest 45 = .ok (.new 66, 3) := by decide +kernel
theorem dX8_nest_48 : decode cX8_nest 48 = .ok (.dup, 1) := by decide +kernel
theorem dX8_nest_49 : decode cX8_nest 49 = .ok (.ldc_w 264, 3) := by decide +kernel
theorem dX8_nest_52 : decode cX8_nest 52 = .ok (.invokespecial 70, 3) := by decide +kernel
theorem dX8_nest_55 : decode cX8_nest 55 = .ok (.athrow, 1) := by decide +kernel
theorem dX8_nest_56 : decode cX8_nest 56 = .ok (.aload_n 0, 1) := by decide +kernel
theorem dX8_nest_57 : decode cX8_nest 57 = .ok (.getfield 55, 3) := by decide +kernel
theorem dX8_nest_60 : decode cX8_nest 60 = .ok (.iload_n 2, 1) := by decide +kernel
theorem dX8_nest_61 : decode cX8_nest 61 = .ok (.iload_n 3, 1) := by decide +kernel
theorem dX8_nest_62 : decode cX8_nest 62 = .ok (.invokevirtual 266, 3) := by decide +kernel
theorem dX8_nest_65 : decode cX8_nest 65 = .ok (.iconst 0, 1) := by decide +kernel
theorem dX8_nest_66 : decode cX8_nest 66 = .ok (.istore 6, 2) := by decide +kernel
theorem dX8_nest_68 : decode cX8_nest 68 = .ok (.iload 6, 2) := by decide +kernel
theorem dX8_nest_70 : decode cX8_nest 70 = .ok (.aload_n 0, 1) := by decide +kernel
theorem dX8_nest_71 : decode cX8_nest 71 = .ok (.getfield 95, 3) := by decide +kernel
theorem dX8_nest_74 : decode cX8_nest 74 = .ok (.if_icmp .ge 55, 3) := by decide +kernel
theorem dX8_nest_77 : decode cX8_nest 77 = .ok (.aload_n 0, 1) := by decide +kernel
theorem dX8_nest_78 : decode cX8_nest 78 = .ok (.getfield 28, 3) := by decide +kernel
theorem dX8_nest_81 : decode cX8_nest 81 = .ok (.iload 6, 2) := by decide +kernel
theorem dX8_nest_83 : decode cX8_nest 83 = .ok (.iaload, 1) := by decide +kernel
theorem dX8_nest_84 : decode cX8_nest 84 = .ok (.ifCond .le 39, 3) := by decide +kernel
theorem dX8_nest_87 : decode cX8_nest 87 = .ok (.aload_n 0, 1) := by decide +kernel
theorem dX8_nest_88 : decode cX8_nest 88 = .ok (.getfield 55, 3) := by decide +kernel
theorem dX8_nest_91 : decode cX8_nest 91 = .ok (.aload_n 0, 1) := by decide +kernel
theorem dX8_nest_92 : decode cX8_nest 92 = .ok (.getfield 18, 3) := by decide +kernel
theorem dX8_nest_95 : decode cX8_nest 95 = .ok (.iload 6, 2) := by decide +kernel
theorem dX8_nest_97 : decode cX8_nest 97 = .ok (.aaload, 1) := by decide +kernel
theorem dX8_nest_98 : decode cX8_nest 98 = .ok (.aload 5, 2) := by decide +kernel
theorem dX8_nest_100 : decode cX8_nest 100 = .ok (.invokevirtual 195, 3) := by decide +kernel
theorem dX8_nest_103 : decode cX8_nest 103 = .ok (.aload_n 0, 1) := by decide +kernel
theorem dX8_nest_104 : decode cX8_nest 104 = .ok (.getfield 18, 3) := by decide +kernel
theorem dX8_nest_107 : decode cX8_nest 107 = .ok (.iload 6, 2) := by decide +kernel
theorem dX8_nest_109 : decode cX8_nest 109 = .ok (.aaload, 1) := by decide +kernel
theorem dX8_nest_110 : decode cX8_nest 110 = .ok (.getfield 111, 3) := by decide +kernel
theorem dX8_nest_113 : decode cX8_nest 113 = .ok (.aload_n 0, 1) := by decide +kernel
theorem dX8_nest_114 : decode cX8_nest 114 = .ok (.getfield 28, 3) := by decide +kernel
theorem dX8_nest_117 : decode cX8_nest 117 = .ok (.iload 6, 2) := by decide +kernel
theorem dX8_nest_119 : decode cX8_nest 119 = .ok (.iaload, 1) := by decide +kernel
theorem dX8_nest_120 : decode cX8_nest 120 = .ok (.invokevirtual 269, 3) := by decide +kernel
theorem dX8_nest_123 : decode cX8_nest 123 = .ok (.iinc 6 1, 3) := by decide +kernel
theorem dX8_nest_126 : decode cX8_nest 126 = .ok (.goto (-58), 3) := by decide +kernel
theorem dX8_nest_129 : decode cX8_nest 129 = .ok (.aload_n 0, 1) := by decide +kernel
theorem dX8_nest_130 : decode cX8_nest 130 = .ok (.getfield 55, 3) := by decide +kernel
theorem dX8_nest_133 : decode cX8_nest 133 = .ok (.invokevirtual 273, 3) := by decide +kernel
theorem dX8_nest_136 : decode cX8_nest 136 = .ok (.ifCond .ne 7, 3) := by decide +kernel
theorem dX8_nest_139 : decode cX8_nest 139 = .ok (.ldc2_w 277, 3) := by decide +kernel
theorem dX8_nest_142 : decode cX8_nest 142 = .ok (.lreturn, 1) := by decide +kernel
theorem dX8_nest_143 : decode cX8_nest 143 = .ok (.aload_n 0, 1) := by decide +kernel
theorem dX8_nest_144 : decode cX8_nest 144 = .ok (.getfield 55, 3) := by decide +kernel
theorem dX8_nest_147 : decode cX8_nest 147 = .ok (.invokevirtual 279, 3) := by decide +kernel
theorem dX8_nest_150 : decode cX8_nest 150 = .ok (.aload_n 0, 1) := by decide +kernel
theorem dX8_nest_151 : decode cX8_nest 151 = .ok (.getfield 55, 3) := by decide +kernel
theorem dX8_nest_154 : decode cX8_nest 154 = .ok (.iload 4, 2) := by decide +kernel
theorem dX8_nest_156 : decode cX8_nest 156 = .ok (.invokevirtual 282, 3) := by decide +kernel
theorem dX8_nest_159 : decode cX8_nest 159 = .ok (.lreturn, 1) := by decide +kernel
theorem dX8_batch_0 : decode cX8_batch 0 = .ok (.aload_n 0, 1) := by decide +kernel
theorem dX8_batch_1 : decode cX8_batch 1 = .ok (.iload_n 1, 1) := by decide +kernel
theorem dX8_batch_2 : decode cX8_batch 2 = .ok (.invokevirtual 104, 3) := by decide +kernel
theorem dX8_batch_5 : decode cX8_batch 5 = .ok (.astore 4, 2) := by decide +kernel
theorem dX8_batch_7 : decode cX8_batch 7 = .ok (.aload_n 0, 1) := by decide +kernel
theorem dX8_batch_8 : decode cX8_batch 8 = .ok (.iload_n 2, 1) := by decide +kernel
theorem dX8_batch_9 : decode cX8_batch 9 = .ok (.invokevirtual 186, 3) := by decide +kernel
theorem dX8_batch_12 : decode cX8_batch 12 = .ok (.astore 5, 2) := by decide +kernel
theorem dX8_batch_14 : decode cX8_batch 14 = .ok (.iload_n 3, 1) := by decide +kernel
theorem dX8_batch_15 : decode cX8_batch 15 = .ok (.iconst 1, 1) := by decide +kernel
theorem dX8_batch_16 : decode cX8_batch 16 = .ok (.bipush 50, 2) := by decide +kernel
theorem dX8_batch_18 : decode cX8_batch 18 = .ok (.invokestatic 62, 3) := by decide +kernel
theorem dX8_batch_21 : decode cX8_batch 21 = .ok (.ifCond .eq 13, 3) := by decide +kernel
theorem dX8_batch_24 : decode cX8_batch 24 = .ok (.new 66, 3) := by decide +kernel
theorem dX8_batch_27 : decode cX8_batch 27 = .ok (.dup, 1) := by decide +kernel
theorem dX8_batch_28 : decode cX8_batch 28 = .ok (.ldc 251, 2) := by decide +kernel
theorem dX8_batch_30 : decode cX8_batch 30 = .ok (.invokespecial 70, 3) := by decide +kernel
theorem dX8_batch_33 : decode cX8_batch 33 = .ok (.athrow, 1) := by decide +kernel
theorem dX8_batch_34 : decode cX8_batch 34 = .ok (.aload_n 0, 1) := by decide +kernel
theorem dX8_batch_35 : decode cX8_batch 35 = .ok (.getfield 286, 3) := by decide +kernel
theorem dX8_batch_38 : decode cX8_batch 38 = .ok (.bipush 20, 2) := by decide +kernel
theorem dX8_batch_40 : decode cX8_batch 40 = .ok (.if_icmp .lt 14, 3) := by decide +kernel
theorem dX8_batch_43 : decode cX8_batch 43 = .ok (.new 77, 3) := by decide +kernel
theorem dX8_batch_46 : decode cX8_batch 46 = .ok (.dup, 1) := by decide +kernel
theorem dX8_batch_47 : decode cX8_batch 47 = .ok (.ldc_w 289, 3) := by decide +kernel
theorem dX8_batch_50 : decode cX8_batch 50 = .ok (.invokespecial 81, 3) := by decide +kernel
theorem dX8_batch_53 : decode cX8_batch 53 = .ok (.athrow, 1) := by decide +kernel
theorem dX8_batch_54 : decode cX8_batch 54 = .ok (.aload_n 0, 1) := by decide +kernel
theorem dX8_batch_55 : decode cX8_batch 55 = .ok (.getfield 34, 3) := by decide +kernel
theorem dX8_batch_58 : decode cX8_batch 58 = .ok (.aload_n 0, 1) := by decide +kernel
theorem dX8_batch_59 : decode cX8_batch 59 = .ok (.getfield 286, 3) := by decide +kernel
theorem dX8_batch_62 : decode cX8_batch 62 = .ok (.aaload, 1) := by decide +kernel
theorem dX8_batch_63 : decode cX8_batch 63 = .ok (.astore 6, 2) := by decide +kernel
theorem dX8_batch_65 : decode cX8_batch 65 = .ok (.aload 6, 2) := by decide +kernel
theorem dX8_batch_67 : decode cX8_batch 67 = .ok (.iload_n 1, 1) := by decide +kernel
theorem dX8_batch_68 : decode cX8_batch 68 = .ok (.putfield 291, 3) := by decide +kernel
theorem dX8_batch_71 : decode cX8_batch 71 = .ok (.aload 6, 2) := by decide +kernel
theorem dX8_batch_73 : decode cX8_batch 73 = .ok (.iload_n 2, 1) := by decide +kernel
theorem dX8_batch_74 : decode cX8_batch 74 = .ok (.putfield 294, 3) := by decide +kernel
theorem dX8_batch_77 : decode cX8_batch 77 = .ok (.aload 6, 2) := by decide +kernel
theorem dX8_batch_79 : decode cX8_batch 79 = .ok (.iconst 0, 1) := by decide +kernel
theorem dX8_batch_80 : decode cX8_batch 80 = .ok (.putfield 297, 3) := by decide +kernel
theorem dX8_batch_83 : decode cX8_batch 83 = .ok (.aload 6, 2) := by decide +kernel
theorem dX8_batch_85 : decode cX8_batch 85 = .ok (.iload_n 3, 1) := by decide +kernel
theorem dX8_batch_86 : decode cX8_batch 86 = .ok (.putfield 300, 3) := by decide +kernel
theorem dX8_batch_89 : decode cX8_batch 89 = .ok (.aload 6, 2) := by decide +kernel
theorem dX8_batch_91 : decode cX8_batch 91 = .ok (.aload 4, 2) := by decide +kernel
theorem dX8_batch_93 : decode cX8_batch 93 = .ok (.getfield 124, 3) := by decide +kernel
theorem dX8_batch_96 : decode cX8_batch 96 = .ok (.putfield 303, 3) := by decide +kernel
theorem dX8_batch_99 : decode cX8_batch 99 = .ok (.aload 6, 2) := by decide +kernel
theorem dX8_batch_101 : decode cX8_batch 101 = .ok (.aload 4, 2) := by decide +kernel
theorem dX8_batch_103 : decode cX8_batch 103 = .ok (.aload 5, 2) := by decide +kernel
theorem dX8_batch_105 : decode cX8_batch 105 = .ok (.invokevirtual 195, 3) := by decide +kernel
theorem dX8_batch_108 : decode cX8_batch 108 = .ok (.putfield 304, 3) := by decide +kernel
theorem dX8_batch_111 : decode cX8_batch 111 = .ok (.aload_n 0, 1) := by decide +kernel
theorem dX8_batch_112 : decode cX8_batch 112 = .ok (.dup, 1) := by decide +kernel
theorem dX8_batch_113 : decode cX8_batch 113 = .ok (.getfield 286, 3) := by decide +kernel
theorem dX8_batch_116 : decode cX8_batch 116 = .ok (.iconst 1, 1) := by decide +kernel
theorem dX8_batch_117 : decode cX8_batch 117 = .ok (.iadd, 1) := by decide +kernel
theorem dX8_batch_118 : decode cX8_batch 118 = .ok (.putfield 286, 3) := by decide +kernel
theorem dX8_batch_121 : decode cX8_batch 121 = .ok (.aload_n 0, 1) := by decide +kernel
theorem dX8_batch_122 : decode cX8_batch 122 = .ok (.getfield 286, 3) := by decide +kernel
theorem dX8_batch_125 : decode cX8_batch 125 = .ok (.iconst 1, 1) := by decide +kernel
theorem dX8_batch_126 : decode cX8_batch 126 = .ok (.isub, 1) := by decide +kernel
theorem dX8_batch_127 : decode cX8_batch 127 = .ok (.ireturn, 1) := by decide +kernel
theorem dX8_work_0 : decode cX8_work 0 = .ok (.aload_n 0, 1) := by decide +kernel
theorem dX8_work_1 : decode cX8_work 1 = .ok (.iload_n 1, 1) := by decide +kernel
theorem dX8_work_2 : decode cX8_work 2 = .ok (.invokevirtual 307, 3) := by decide +kernel
theorem dX8_work_5 : decode cX8_work 5 = .ok (.astore_n 2, 1) := by decide +kernel
theorem dX8_work_6 : decode cX8_work 6 = .ok (.aload_n 2, 1) := by decide +kernel
theorem dX8_work_7 : decode cX8_work 7 = .ok (.getfield 297, 3) := by decide +kernel
theorem dX8_work_10 : decode cX8_work 10 = .ok (.ifCond .eq 22, 3) := by decide +kernel
theorem dX8_work_13 : decode cX8_work 13 = .ok (.aload_n 2, 1) := by decide +kernel
theorem dX8_work_14 : decode cX8_work 14 = .ok (.getfield 297, 3) := by decide +kernel
theorem dX8_work_17 : decode cX8_work 17 = .ok (.iconst 1, 1) := by decide +kernel
theorem dX8_work_18 : decode cX8_work 18 = .ok (.if_icmp .eq 14, 3) := by decide +kernel
theorem dX8_work_21 : decode cX8_work 21 = .ok (.new 77, 3) := by decide +kernel
theorem dX8_work_24 : decode cX8_work 24 = .ok (.dup, 1) := by decide +kernel
theorem dX8_work_25 : decode cX8_work 25 = .ok (.ldc_w 311, 3) := by decide +kernel
theorem dX8_work_28 : decode cX8_work 28 = .ok (.invokespecial 81, 3) := by decide +kernel
theorem dX8_work_31 : decode cX8_work 31 = .ok (.athrow, 1) := by decide +kernel
theorem dX8_work_32 : decode cX8_work 32 = .ok (.aload_n 2, 1) := by decide +kernel
theorem dX8_work_33 : decode cX8_work 33 = .ok (.getfield 297, 3) := by decide +kernel
theorem dX8_work_36 : decode cX8_work 36 = .ok (.ifCond .ne 22, 3) := by decide +kernel
theorem dX8_work_39 : decode cX8_work 39 = .ok (.aload_n 0, 1) := by decide +kernel
theorem dX8_work_40 : decode cX8_work 40 = .ok (.aload_n 2, 1) := by decide +kernel
theorem dX8_work_41 : decode cX8_work 41 = .ok (.invokevirtual 313, 3) := by decide +kernel
theorem dX8_work_44 : decode cX8_work 44 = .ok (.ifCond .ne 14, 3) := by decide +kernel
theorem dX8_work_47 : decode cX8_work 47 = .ok (.new 77, 3) := by decide +kernel
theorem dX8_work_50 : decode cX8_work 50 = .ok (.dup, 1) := by decide +kernel
theorem dX8_work_51 : decode cX8_work 51 = .ok (.ldc_w 317, 3) := by decide +kernel
theorem dX8_work_54 : decode cX8_work 54 = .ok (.invokespecial 81, 3) := by decide +kernel
theorem dX8_work_57 : decode cX8_work 57 = .ok (.athrow, 1) := by decide +kernel
theorem dX8_work_58 : decode cX8_work 58 = .ok (.aload_n 2, 1) := by decide +kernel
theorem dX8_work_59 : decode cX8_work 59 = .ok (.aload_n 2, 1) := by decide +kernel
theorem dX8_work_60 : decode cX8_work 60 = .ok (.getfield 297, 3) := by decide +kernel
theorem dX8_work_63 : decode cX8_work 63 = .ok (.ifCond .ne 7, 3) := by decide +kernel
theorem dX8_work_66 : decode cX8_work 66 = .ok (.iconst 1, 1) := by decide +kernel
theorem dX8_work_67 : decode cX8_work 67 = .ok (.goto 4, 3) := by decide +kernel
theorem dX8_work_70 : decode cX8_work 70 = .ok (.iconst 2, 1) := by decide +kernel
theorem dX8_work_71 : decode cX8_work 71 = .ok (.putfield 297, 3) := by decide +kernel
theorem dX8_work_74 : decode cX8_work 74 = .ok (.aload_n 2, 1) := by decide +kernel
theorem dX8_work_75 : decode cX8_work 75 = .ok (.getfield 297, 3) := by decide +kernel
theorem dX8_work_78 : decode cX8_work 78 = .ok (.ireturn, 1) := by decide +kernel
theorem dX8_batchOf_0 : decode cX8_batchOf 0 = .ok (.aload_n 0, 1) := by decide +kernel
theorem dX8_batchOf_1 : decode cX8_batchOf 1 = .ok (.iload_n 1, 1) := by decide +kernel
theorem dX8_batchOf_2 : decode cX8_batchOf 2 = .ok (.invokevirtual 307, 3) := by decide +kernel
theorem dX8_batchOf_5 : decode cX8_batchOf 5 = .ok (.astore_n 3, 1) := by decide +kernel
theorem dX8_batchOf_6 : decode cX8_batchOf 6 = .ok (.iload_n 2, 1) := by decide +kernel
theorem dX8_batchOf_7 : decode cX8_batchOf 7 = .ok (.tableswitch 49 0 3 #[29, 34, 39, 44], 29) := by decide +kernel
theorem dX8_batchOf_36 : decode cX8_batchOf 36 = .ok (.aload_n 3, 1) := by decide +kernel
theorem dX8_batchOf_37 : decode cX8_batchOf 37 = .ok (.getfield 297, 3) := by decide +kernel
theorem dX8_batchOf_40 : decode cX8_batchOf 40 = .ok (.ireturn, 1) := by decide +kernel
theorem dX8_batchOf_41 : decode cX8_batchOf 41 = .ok (.aload_n 3, 1) := by decide +kernel
theorem dX8_batchOf_42 : decode cX8_batchOf 42 = .ok (.getfield 300, 3) := by decide +kernel
theorem dX8_batchOf_45 : decode cX8_batchOf 45 = .ok (.ireturn, 1) := by decide +kernel
theorem dX8_batchOf_46 : decode cX8_batchOf 46 = .ok (.aload_n 3, 1) := by decide +kernel
theorem dX8_batchOf_47 : decode cX8_batchOf 47 = .ok (.getfield 303, 3) := by decide +kernel
theorem dX8_batchOf_50 : decode cX8_batchOf 50 = .ok (.ireturn, 1) := by decide +kernel
theorem dX8_batchOf_51 : decode cX8_batchOf 51 = .ok (.aload_n 3, 1) := by decide +kernel
theorem dX8_batchOf_52 : decode cX8_batchOf 52 = .ok (.getfield 304, 3) := by decide +kernel
theorem dX8_batchOf_55 : decode cX8_batchOf 55 = .ok (.ireturn, 1) := by decide +kernel
theorem dX8_batchOf_56 : decode cX8_batchOf 56 = .ok (.new 66, 3) := by decide +kernel
theorem dX8_batchOf_59 : decode cX8_batchOf 59 = .ok (.dup, 1) := by decide +kernel
theorem dX8_batchOf_60 : decode cX8_batchOf 60 = .ok (.ldc 162, 2) := by decide +kernel
theorem dX8_batchOf_62 : decode cX8_batchOf 62 = .ok (.invokespecial 70, 3) := by decide +kernel
theorem dX8_batchOf_65 : decode cX8_batchOf 65 = .ok (.athrow, 1) := by decide +kernel
theorem dX8_kits_0 : decode cX8_kits 0 = .ok (.aload_n 0, 1) := by decide +kernel
theorem dX8_kits_1 : decode cX8_kits 1 = .ok (.iload_n 1, 1) := by decide +kernel
theorem dX8_kits_2 : decode cX8_kits 2 = .ok (.invokevirtual 319, 3) := by decide +kernel
theorem dX8_kits_5 : decode cX8_kits 5 = .ok (.aload_n 0, 1) := by decide +kernel
theorem dX8_kits_6 : decode cX8_kits 6 = .ok (.iload_n 1, 1) := by decide +kernel
theorem dX8_kits_7 : decode cX8_kits 7 = .ok (.invokevirtual 323, 3) := by decide +kernel
theorem dX8_kits_10 : decode cX8_kits 10 = .ok (.ireturn, 1) := by decide +kernel
theorem dX8_take_0 : decode cX8_take 0 = .ok (.aload_n 0, 1) := by decide +kernel
theorem dX8_take_1 : decode cX8_take 1 = .ok (.iload_n 1, 1) := by decide +kernel
theorem dX8_take_2 : decode cX8_take 2 = .ok (.invokevirtual 319, 3) := by decide +kernel
theorem dX8_take_5 : decode cX8_take 5 = .ok (.iload_n 2, 1) := by decide +kernel
theorem dX8_take_6 : decode cX8_take 6 = .ok (.iconst 1, 1) := by decide +kernel
theorem dX8_take_7 : decode cX8_take 7 = .ok (.bipush 50, 2) := by decide +kernel
theorem dX8_take_9 : decode cX8_take 9 = .ok (.invokestatic 62, 3) := by decide +kernel
theorem dX8_take_12 : decode cX8_take 12 = .ok (.ifCond .eq 13, 3) := by decide +kernel
theorem dX8_take_15 : decode cX8_take 15 = .ok (.new 66, 3) := by decide +kernel
theorem dX8_take_18 : decode cX8_take 18 = .ok (.dup, 1) := by decide +kernel
theorem dX8_take_19 : decode cX8_take 19 = .ok (.ldc 251, 2) := by decide +kernel
theorem dX8_take_21 : decode cX8_take 21 = .ok (.invokespecial 70, 3) := by decide +kernel
theorem dX8_take_24 : decode cX8_take 24 = .ok (.athrow, 1) := by decide +kernel
theorem dX8_take_25 : decode cX8_take 25 = .ok (.aload_n 0, 1) := by decide +kernel
theorem dX8_take_26 : decode cX8_take 26 = .ok (.iload_n 1, 1) := by decide +kernel
theorem dX8_take_27 : decode cX8_take 27 = .ok (.invokevirtual 323, 3) := by decide +kernel
theorem dX8_take_30 : decode cX8_take 30 = .ok (.iload_n 2, 1) := by decide +kernel
theorem dX8_take_31 : decode cX8_take 31 = .ok (.if_icmp .ge 14, 3) := by decide +kernel
theorem dX8_take_34 : decode cX8_take 34 = .ok (.new 77, 3) := by decide +kernel
theorem dX8_take_37 : decode cX8_take 37 = .ok (.dup, 1) := by decide +kernel
theorem dX8_take_38 : decode cX8_take 38 = .ok (.ldc_w 327, 3) := by decide +kernel
theorem dX8_take_41 : decode cX8_take 41 = .ok (.invokespecial 81, 3) := by decide +kernel
theorem dX8_take_44 : decode cX8_take 44 = .ok (.athrow, 1) := by decide +kernel
theorem dX8_take_45 : decode cX8_take 45 = .ok (.iconst 0, 1) := by decide +kernel
theorem dX8_take_46 : decode cX8_take 46 = .ok (.istore_n 3, 1) := by decide +kernel
theorem dX8_take_47 : decode cX8_take 47 = .ok (.iconst 0, 1) := by decide +kernel
theorem dX8_take_48 : decode cX8_take 48 = .ok (.istore 4, 2) := by decide +kernel
theorem dX8_take_50 : decode cX8_take 50 = .ok (.iload 4, 2) := by decide +kernel
theorem dX8_take_52 : decode cX8_take 52 = .ok (.aload_n 0, 1) := by decide +kernel
theorem dX8_take_53 : decode cX8_take 53 = .ok (.getfield 95, 3) := by decide +kernel
theorem dX8_take_56 : decode cX8_take 56 = .ok (.if_icmp .ge 28, 3) := by decide +kernel
theorem dX8_take_59 : decode cX8_take 59 = .ok (.iload_n 1, 1) := by decide +kernel
theorem dX8_take_60 : decode cX8_take 60 = .ok (.iload 4, 2) := by decide +kernel
theorem dX8_take_62 : decode cX8_take 62 = .ok (.invokestatic 329, 3) := by decide +kernel
theorem dX8_take_65 : decode cX8_take 65 = .ok (.ifCond .eq 13, 3) := by decide +kernel
theorem dX8_take_68 : decode cX8_take 68 = .ok (.iload_n 3, 1) := by decide +kernel
theorem dX8_take_69 : decode cX8_take 69 = .ok (.aload_n 0, 1) := by decide +kernel
theorem dX8_take_70 : decode cX8_take 70 = .ok (.iload 4, 2) := by decide +kernel
theorem dX8_take_72 : decode cX8_take 72 = .ok (.iload_n 2, 1) := by decide +kernel
theorem dX8_take_73 : decode cX8_take 73 = .ok (.invokevirtual 333, 3) := by decide +kernel
theorem dX8_take_76 : decode cX8_take 76 = .ok (.iadd, 1) := by decide +kernel
theorem dX8_take_77 : decode cX8_take 77 = .ok (.istore_n 3, 1) := by decide +kernel
theorem dX8_take_78 : decode cX8_take 78 = .ok (.iinc 4 1, 3) := by decide +kernel
theorem dX8_take_81 : decode cX8_take 81 = .ok (.goto (-31), 3) := by decide +kernel
theorem dX8_take_84 : decode cX8_take 84 = .ok (.iload_n 3, 1) := by decide +kernel
theorem dX8_take_85 : decode cX8_take 85 = .ok (.ireturn, 1) := by decide +kernel
theorem dX8_isOut_0 : decode cX8_isOut 0 = .ok (.iload_n 0, 1) := by decide +kernel
theorem dX8_isOut_1 : decode cX8_isOut 1 = .ok (.iload_n 1, 1) := by decide +kernel
theorem dX8_isOut_2 : decode cX8_isOut 2 = .ok (.if_icmp .lt 8, 3) := by decide +kernel
theorem dX8_isOut_5 : decode cX8_isOut 5 = .ok (.iload_n 0, 1) := by decide +kernel
theorem dX8_isOut_6 : decode cX8_isOut 6 = .ok (.iload_n 2, 1) := by decide +kernel
theorem dX8_isOut_7 : decode cX8_isOut 7 = .ok (.if_icmp .le 7, 3) := by decide +kernel
theorem dX8_isOut_10 : decode cX8_isOut 10 = .ok (.iconst 1, 1) := by decide +kernel
theorem dX8_isOut_11 : decode cX8_isOut 11 = .ok (.goto 4, 3) := by decide +kernel
theorem dX8_isOut_14 : decode cX8_isOut 14 = .ok (.iconst 0, 1) := by decide +kernel
theorem dX8_isOut_15 : decode cX8_isOut 15 = .ok (.ireturn, 1) := by decide +kernel
theorem dX8_hasBit_0 : decode cX8_hasBit 0 = .ok (.iload_n 0, 1) := by decide +kernel
theorem dX8_hasBit_1 : decode cX8_hasBit 1 = .ok (.iload_n 1, 1) := by decide +kernel
theorem dX8_hasBit_2 : decode cX8_hasBit 2 = .ok (.ishr, 1) := by decide +kernel
theorem dX8_hasBit_3 : decode cX8_hasBit 3 = .ok (.iconst 1, 1) := by decide +kernel
theorem dX8_hasBit_4 : decode cX8_hasBit 4 = .ok (.iand, 1) := by decide +kernel
theorem dX8_hasBit_5 : decode cX8_hasBit 5 = .ok (.ifCond .eq 7, 3) := by decide +kernel
theorem dX8_hasBit_8 : decode cX8_hasBit 8 = .ok (.iconst 1, 1) := by decide +kernel
theorem dX8_hasBit_9 : decode cX8_hasBit 9 = .ok (.goto 4, 3) := by decide +kernel
theorem dX8_hasBit_12 : decode cX8_hasBit 12 = .ok (.iconst 0, 1) := by decide +kernel
theorem dX8_hasBit_13 : decode cX8_hasBit 13 = .ok (.ireturn, 1) := by decide +kernel
theorem dX8_partAt_0 : decode cX8_partAt 0 = .ok (.iload_n 1, 1) := by decide +kernel
theorem dX8_partAt_1 : decode cX8_partAt 1 = .ok (.iconst 0, 1) := by decide +kernel
theorem dX8_partAt_2 : decode cX8_partAt 2 = .ok (.aload_n 0, 1) := by decide +kernel
theorem dX8_partAt_3 : decode cX8_partAt 3 = .ok (.getfield 95, 3) := by decide +kernel
theorem dX8_partAt_6 : decode cX8_partAt 6 = .ok (.iconst 1, 1) := by decide +kernel
theorem dX8_partAt_7 : decode cX8_partAt 7 = .ok (.isub, 1) := by decide +kernel
theorem dX8_partAt_8 : decode cX8_partAt 8 = .ok (.invokestatic 62, 3) := by decide +kernel
theorem dX8_partAt_11 : decode cX8_partAt 11 = .ok (.ifCond .eq 14, 3) := by decide +kernel
theorem dX8_partAt_14 : decode cX8_partAt 14 = .ok (.new 131, 3) := by decide +kernel
theorem dX8_partAt_17 : decode cX8_partAt 17 = .ok (.dup, 1) := by decide +kernel
theorem dX8_partAt_18 : decode cX8_partAt 18 = .ok (.ldc_w 336, 3) := by decide +kernel
theorem dX8_partAt_21 : decode cX8_partAt 21 = .ok (.invokespecial 135, 3) := by decide +kernel
theorem dX8_partAt_24 : decode cX8_partAt 24 = .ok (.athrow, 1) := by decide +kernel
theorem dX8_partAt_25 : decode cX8_partAt 25 = .ok (.aload_n 0, 1) := by decide +kernel
theorem dX8_partAt_26 : decode cX8_partAt 26 = .ok (.getfield 18, 3) := by decide +kernel
theorem dX8_partAt_29 : decode cX8_partAt 29 = .ok (.iload_n 1, 1) := by decide +kernel
theorem dX8_partAt_30 : decode cX8_partAt 30 = .ok (.aaload, 1) := by decide +kernel
theorem dX8_partAt_31 : decode cX8_partAt 31 = .ok (.areturn, 1) := by decide +kernel
theorem dX8_toolAt_0 : decode cX8_toolAt 0 = .ok (.iload_n 1, 1) := by decide +kernel
theorem dX8_toolAt_1 : decode cX8_toolAt 1 = .ok (.iconst 0, 1) := by decide +kernel
theorem dX8_toolAt_2 : decode cX8_toolAt 2 = .ok (.aload_n 0, 1) := by decide +kernel
theorem dX8_toolAt_3 : decode cX8_toolAt 3 = .ok (.getfield 166, 3) := by decide +kernel
theorem dX8_toolAt_6 : decode cX8_toolAt 6 = .ok (.iconst 1, 1) := by decide +kernel
theorem dX8_toolAt_7 : decode cX8_toolAt 7 = .ok (.isub, 1) := by decide +kernel
theorem dX8_toolAt_8 : decode cX8_toolAt 8 = .ok (.invokestatic 62, 3) := by decide +kernel
theorem dX8_toolAt_11 : decode cX8_toolAt 11 = .ok (.ifCond .eq 14, 3) := by decide +kernel
theorem dX8_toolAt_14 : decode cX8_toolAt 14 = .ok (.new 131, 3) := by decide +kernel
theorem dX8_toolAt_17 : decode cX8_toolAt 17 = .ok (.dup, 1) := by decide +kernel
theorem dX8_toolAt_18 : decode cX8_toolAt 18 = .ok (.ldc_w 338, 3) := by decide +kernel
theorem dX8_toolAt_21 : decode cX8_toolAt 21 = .ok (.invokespecial 135, 3) := by decide +kernel
theorem dX8_toolAt_24 : decode cX8_toolAt 24 = .ok (.athrow, 1) := by decide +kernel
theorem dX8_toolAt_25 : decode cX8_toolAt 25 = .ok (.aload_n 0, 1) := by decide +kernel
theorem dX8_toolAt_26 : decode cX8_toolAt 26 = .ok (.getfield 24, 3) := by decide +kernel
theorem dX8_toolAt_29 : decode cX8_toolAt 29 = .ok (.iload_n 1, 1) := by decide +kernel
theorem dX8_toolAt_30 : decode cX8_toolAt 30 = .ok (.aaload, 1) := by decide +kernel
theorem dX8_toolAt_31 : decode cX8_toolAt 31 = .ok (.areturn, 1) := by decide +kernel
theorem dX8_batchAt_0 : decode cX8_batchAt 0 = .ok (.iload_n 1, 1) := by decide +kernel
theorem dX8_batchAt_1 : decode cX8_batchAt 1 = .ok (.iconst 0, 1) := by decide +kernel
theorem dX8_batchAt_2 : decode cX8_batchAt 2 = .ok (.aload_n 0, 1) := by decide +kernel
theorem dX8_batchAt_3 : decode cX8_batchAt 3 = .ok (.getfield 286, 3) := by decide +kernel
theorem dX8_batchAt_6 : decode cX8_batchAt 6 = .ok (.iconst 1, 1) := by decide +kernel
theorem dX8_batchAt_7 : decode cX8_batchAt 7 = .ok (.isub, 1) := by decide +kernel
theorem dX8_batchAt_8 : decode cX8_batchAt 8 = .ok (.invokestatic 62, 3) := by decide +kernel
theorem dX8_batchAt_11 : decode cX8_batchAt 11 = .ok (.ifCond .eq 14, 3) := by decide +kernel
theorem dX8_batchAt_14 : decode cX8_batchAt 14 = .ok (.new 131, 3) := by decide +kernel
theorem dX8_batchAt_17 : decode cX8_batchAt 17 = .ok (.dup, 1) := by decide +kernel
theorem dX8_batchAt_18 : decode cX8_batchAt 18 = .ok (.ldc_w 340, 3) := by decide +kernel
theorem dX8_batchAt_21 : decode cX8_batchAt 21 = .ok (.invokespecial 135, 3) := by decide +kernel
theorem dX8_batchAt_24 : decode cX8_batchAt 24 = .ok (.athrow, 1) := by decide +kernel
theorem dX8_batchAt_25 : decode cX8_batchAt 25 = .ok (.aload_n 0, 1) := by decide +kernel
theorem dX8_batchAt_26 : decode cX8_batchAt 26 = .ok (.getfield 34, 3) := by decide +kernel
theorem dX8_batchAt_29 : decode cX8_batchAt 29 = .ok (.iload_n 1, 1) := by decide +kernel
theorem dX8_batchAt_30 : decode cX8_batchAt 30 = .ok (.aaload, 1) := by decide +kernel
theorem dX8_batchAt_31 : decode cX8_batchAt 31 = .ok (.areturn, 1) := by decide +kernel
theorem dX8_checkSheet_0 : decode cX8_checkSheet 0 = .ok (.iload_n 0, 1) := by decide +kernel
theorem dX8_checkSheet_1 : decode cX8_checkSheet 1 = .ok (.bipush 10, 2) := by decide +kernel
theorem dX8_checkSheet_3 : decode cX8_checkSheet 3 = .ok (.sipush 300, 3) := by decide +kernel
theorem dX8_checkSheet_6 : decode cX8_checkSheet 6 = .ok (.invokestatic 62, 3) := by decide +kernel
theorem dX8_checkSheet_9 : decode cX8_checkSheet 9 = .ok (.ifCond .ne 12, 3) := by decide +kernel
theorem dX8_checkSheet_12 : decode cX8_checkSheet 12 = .ok (.iload_n 1, 1) := by decide +kernel
theorem dX8_checkSheet_13 : decode cX8_checkSheet 13 = .ok (.iconst 1, 1) := by decide +kernel
theorem dX8_checkSheet_14 : decode cX8_checkSheet 14 = .ok (.iconst 4, 1) := by decide +kernel
theorem dX8_checkSheet_15 : decode cX8_checkSheet 15 = .ok (.invokestatic 62, 3) := by decide +kernel
theorem dX8_checkSheet_18 : decode cX8_checkSheet 18 = .ok (.ifCond .eq 14, 3) := by decide +kernel
theorem dX8_checkSheet_21 : decode cX8_checkSheet 21 = .ok (.new 66, 3) := by decide +kernel
theorem dX8_checkSheet_24 : decode cX8_checkSheet 24 = .ok (.dup, 1) := by decide +kernel
theorem dX8_checkSheet_25 : decode cX8_checkSheet 25 = .ok (.ldc_w 342, 3) := by decide +kernel
theorem dX8_checkSheet_28 : decode cX8_checkSheet 28 = .ok (.invokespecial 70, 3) := by decide +kernel
theorem dX8_checkSheet_31 : decode cX8_checkSheet 31 = .ok (.athrow, 1) := by decide +kernel
theorem dX8_checkSheet_32 : decode cX8_checkSheet 32 = .ok (.return_, 1) := by decide +kernel
theorem dX8_checkPad_0 : decode cX8_checkPad 0 = .ok (.aload_n 0, 1) := by decide +kernel
theorem dX8_checkPad_1 : decode cX8_checkPad 1 = .ok (.getfield 12, 3) := by decide +kernel
theorem dX8_checkPad_4 : decode cX8_checkPad 4 = .ok (.getfield 73, 3) := by decide +kernel
theorem dX8_checkPad_7 : decode cX8_checkPad 7 = .ok (.ifCond .ne 14, 3) := by decide +kernel
theorem dX8_checkPad_10 : decode cX8_checkPad 10 = .ok (.new 77, 3) := by decide +kernel
theorem dX8_checkPad_13 : decode cX8_checkPad 13 = .ok (.dup, 1) := by decide +kernel
theorem dX8_checkPad_14 : decode cX8_checkPad 14 = .ok (.ldc_w 344, 3) := by decide +kernel
theorem dX8_checkPad_17 : decode cX8_checkPad 17 = .ok (.invokespecial 81, 3) := by decide +kernel
theorem dX8_checkPad_20 : decode cX8_checkPad 20 = .ok (.athrow, 1) := by decide +kernel
theorem dX8_checkPad_21 : decode cX8_checkPad 21 = .ok (.return_, 1) := by decide +kernel
theorem dX8_checkBend_0 : decode cX8_checkBend 0 = .ok (.iload_n 1, 1) := by decide +kernel
theorem dX8_checkBend_1 : decode cX8_checkBend 1 = .ok (.iconst 0, 1) := by decide +kernel
theorem dX8_checkBend_2 : decode cX8_checkBend 2 = .ok (.aload_n 0, 1) := by decide +kernel
theorem dX8_checkBend_3 : decode cX8_checkBend 3 = .ok (.invokevirtual 346, 3) := by decide +kernel
theorem dX8_checkBend_6 : decode cX8_checkBend 6 = .ok (.iconst 1, 1) := by decide +kernel
theorem dX8_checkBend_7 : decode cX8_checkBend 7 = .ok (.isub, 1) := by decide +kernel
theorem dX8_checkBend_8 : decode cX8_checkBend 8 = .ok (.invokestatic 62, 3) := by decide +kernel
theorem dX8_checkBend_11 : decode cX8_checkBend 11 = .ok (.ifCond .eq 14, 3) := by decide +kernel
theorem dX8_checkBend_14 : decode cX8_checkBend 14 = .ok (.new 131, 3) := by decide +kernel
theorem dX8_checkBend_17 : decode cX8_checkBend 17 = .ok (.dup, 1) := by decide +kernel
theorem dX8_checkBend_18 : decode cX8_checkBend 18 = .ok (.ldc_w 349, 3) := by decide +kernel
theorem dX8_checkBend_21 : decode cX8_checkBend 21 = .ok (.invokespecial 135, 3) := by decide +kernel
theorem dX8_checkBend_24 : decode cX8_checkBend 24 = .ok (.athrow, 1) := by decide +kernel
theorem dX8_checkBend_25 : decode cX8_checkBend 25 = .ok (.return_, 1) := by decide +kernel
theorem dX8_checkDone_0 : decode cX8_checkDone 0 = .ok (.iload_n 1, 1) := by decide +kernel
theorem dX8_checkDone_1 : decode cX8_checkDone 1 = .ok (.aload_n 0, 1) := by decide +kernel
theorem dX8_checkDone_2 : decode cX8_checkDone 2 = .ok (.invokevirtual 346, 3) := by decide +kernel
theorem dX8_checkDone_5 : decode cX8_checkDone 5 = .ok (.iushr, 1) := by decide +kernel
theorem dX8_checkDone_6 : decode cX8_checkDone 6 = .ok (.ifCond .ne 11, 3) := by decide +kernel
theorem dX8_checkDone_9 : decode cX8_checkDone 9 = .ok (.iload_n 1, 1) := by decide +kernel
theorem dX8_checkDone_10 : decode cX8_checkDone 10 = .ok (.iload_n 2, 1) := by decide +kernel
theorem dX8_checkDone_11 : decode cX8_checkDone 11 = .ok (.invokestatic 329, 3) := by decide +kernel
theorem dX8_checkDone_14 : decode cX8_checkDone 14 = .ok (.ifCond .eq 14, 3) := by decide +kernel
theorem dX8_checkDone_17 : decode cX8_checkDone 17 = .ok (.new 66, 3) := by decide +kernel
theorem dX8_checkDone_20 : decode cX8_checkDone 20 = .ok (.dup, 1) := by decide +kernel
theorem dX8_checkDone_21 : decode cX8_checkDone 21 = .ok (.ldc_w 351, 3) := by decide +kernel
theorem dX8_checkDone_24 : decode cX8_checkDone 24 = .ok (.invokespecial 70, 3) := by decide +kernel
theorem dX8_checkDone_27 : decode cX8_checkDone 27 = .ok (.athrow, 1) := by decide +kernel
theorem dX8_checkDone_28 : decode cX8_checkDone 28 = .ok (.return_, 1) := by decide +kernel
theorem dX8_checkKit_0 : decode cX8_checkKit 0 = .ok (.iload_n 1, 1) := by decide +kernel
theorem dX8_checkKit_1 : decode cX8_checkKit 1 = .ok (.ifCond .eq 12, 3) := by decide +kernel
theorem dX8_checkKit_4 : decode cX8_checkKit 4 = .ok (.iload_n 1, 1) := by decide +kernel
theorem dX8_checkKit_5 : decode cX8_checkKit 5 = .ok (.aload_n 0, 1) := by decide +kernel
theorem dX8_checkKit_6 : decode cX8_checkKit 6 = .ok (.getfield 95, 3) := by decide +kernel
theorem dX8_checkKit_9 : decode cX8_checkKit 9 = .ok (.iushr, 1) := by decide +kernel
theorem dX8_checkKit_10 : decode cX8_checkKit 10 = .ok (.ifCond .eq 14, 3) := by decide +kernel
theorem dX8_checkKit_13 : decode cX8_checkKit 13 = .ok (.new 66, 3) := by decide +kernel
theorem dX8_checkKit_16 : decode cX8_checkKit 16 = .ok (.dup, 1) := by decide +kernel
theorem dX8_checkKit_17 : decode cX8_checkKit 17 = .ok (.ldc_w 353, 3) := by decide +kernel
theorem dX8_checkKit_20 : decode cX8_checkKit 20 = .ok (.invokespecial 70, 3) := by decide +kernel
theorem dX8_checkKit_23 : decode cX8_checkKit 23 = .ok (.athrow, 1) := by decide +kernel
theorem dX8_checkKit_24 : decode cX8_checkKit 24 = .ok (.return_, 1) := by decide +kernel
theorem dX8_hasBatch_0 : decode cX8_hasBatch 0 = .ok (.iconst 0, 1) := by decide +kernel
theorem dX8_hasBatch_1 : decode cX8_hasBatch 1 = .ok (.istore_n 2, 1) := by decide +kernel
theorem dX8_hasBatch_2 : decode cX8_hasBatch 2 = .ok (.iload_n 2, 1) := by decide +kernel
theorem dX8_hasBatch_3 : decode cX8_hasBatch 3 = .ok (.aload_n 0, 1) := by decide +kernel
theorem dX8_hasBatch_4 : decode cX8_hasBatch 4 = .ok (.getfield 286, 3) := by decide +kernel
theorem dX8_hasBatch_7 : decode cX8_hasBatch 7 = .ok (.if_icmp .ge 37, 3) := by decide +kernel
theorem dX8_hasBatch_10 : decode cX8_hasBatch 10 = .ok (.aload_n 0, 1) := by decide +kernel
theorem dX8_hasBatch_11 : decode cX8_hasBatch 11 = .ok (.getfield 34, 3) := by decide +kernel
theorem dX8_hasBatch_14 : decode cX8_hasBatch 14 = .ok (.iload_n 2, 1) := by decide +kernel
theorem dX8_hasBatch_15 : decode cX8_hasBatch 15 = .ok (.aaload, 1) := by decide +kernel
theorem dX8_hasBatch_16 : decode cX8_hasBatch 16 = .ok (.getfield 291, 3) := by decide +kernel
theorem dX8_hasBatch_19 : decode cX8_hasBatch 19 = .ok (.iload_n 1, 1) := by decide +kernel
theorem dX8_hasBatch_20 : decode cX8_hasBatch 20 = .ok (.if_icmp .ne 18, 3) := by decide +kernel
theorem dX8_hasBatch_23 : decode cX8_hasBatch 23 = .ok (.aload_n 0, 1) := by decide +kernel
theorem dX8_hasBatch_24 : decode cX8_hasBatch 24 = .ok (.getfield 34, 3) := by decide +kernel
theorem dX8_hasBatch_27 : decode cX8_hasBatch 27 = .ok (.iload_n 2, 1) := by decide +kernel
theorem dX8_hasBatch_28 : decode cX8_hasBatch 28 = .ok (.aaload, 1) := by decide +kernel
theorem dX8_hasBatch_29 : decode cX8_hasBatch 29 = .ok (.getfield 297, 3) := by decide +kernel
theorem dX8_hasBatch_32 : decode cX8_hasBatch 32 = .ok (.iconst 3, 1) := by decide +kernel
theorem dX8_hasBatch_33 : decode cX8_hasBatch 33 = .ok (.if_icmp .eq 5, 3) := by decide +kernel
theorem dX8_hasBatch_36 : decode cX8_hasBatch 36 = .ok (.iconst 1, 1) := by decide +kernel
theorem dX8_hasBatch_37 : decode cX8_hasBatch 37 = .ok (.ireturn, 1) := by decide +kernel
theorem dX8_hasBatch_38 : decode cX8_hasBatch 38 = .ok (.iinc 2 1, 3) := by decide +kernel
theorem dX8_hasBatch_41 : decode cX8_hasBatch 41 = .ok (.goto (-39), 3) := by decide +kernel
theorem dX8_hasBatch_44 : decode cX8_hasBatch 44 = .ok (.iconst 0, 1) := by decide +kernel
theorem dX8_hasBatch_45 : decode cX8_hasBatch 45 = .ok (.ireturn, 1) := by decide +kernel
theorem dX8_hasOrder_0 : decode cX8_hasOrder 0 = .ok (.aload_n 0, 1) := by decide +kernel
theorem dX8_hasOrder_1 : decode cX8_hasOrder 1 = .ok (.getfield 48, 3) := by decide +kernel
theorem dX8_hasOrder_4 : decode cX8_hasOrder 4 = .ok (.aload_n 0, 1) := by decide +kernel
theorem dX8_hasOrder_5 : decode cX8_hasOrder 5 = .ok (.getfield 18, 3) := by decide +kernel
theorem dX8_hasOrder_8 : decode cX8_hasOrder 8 = .ok (.aload_n 1, 1) := by decide +kernel
theorem dX8_hasOrder_9 : decode cX8_hasOrder 9 = .ok (.getfield 291, 3) := by decide +kernel
theorem dX8_hasOrder_12 : decode cX8_hasOrder 12 = .ok (.aaload, 1) := by decide +kernel
theorem dX8_hasOrder_13 : decode cX8_hasOrder 13 = .ok (.aload_n 0, 1) := by decide +kernel
theorem dX8_hasOrder_14 : decode cX8_hasOrder 14 = .ok (.getfield 24, 3) := by decide +kernel
theorem dX8_hasOrder_17 : decode cX8_hasOrder 17 = .ok (.aload_n 1, 1) := by decide +kernel
theorem dX8_hasOrder_18 : decode cX8_hasOrder 18 = .ok (.getfield 294, 3) := by decide +kernel
theorem dX8_hasOrder_21 : decode cX8_hasOrder 21 = .ok (.aaload, 1) := by decide +kernel
theorem dX8_hasOrder_22 : decode cX8_hasOrder 22 = .ok (.aload_n 0, 1) := by decide +kernel
theorem dX8_hasOrder_23 : decode cX8_hasOrder 23 = .ok (.getfield 41, 3) := by decide +kernel
theorem dX8_hasOrder_26 : decode cX8_hasOrder 26 = .ok (.invokevirtual 232, 3) := by decide +kernel
theorem dX8_hasOrder_29 : decode cX8_hasOrder 29 = .ok (.aload_n 0, 1) := by decide +kernel
theorem dX8_hasOrder_30 : decode cX8_hasOrder 30 = .ok (.getfield 48, 3) := by decide +kernel
theorem dX8_hasOrder_33 : decode cX8_hasOrder 33 = .ok (.getfield 236, 3) := by decide +kernel
theorem dX8_hasOrder_36 : decode cX8_hasOrder 36 = .ok (.iconst (-1), 1) := by decide +kernel
theorem dX8_hasOrder_37 : decode cX8_hasOrder 37 = .ok (.if_icmp .eq 7, 3) := by decide +kernel
theorem dX8_hasOrder_40 : decode cX8_hasOrder 40 = .ok (.iconst 1, 1) := by decide +kernel
theorem dX8_hasOrder_41 : decode cX8_hasOrder 41 = .ok (.goto 4, 3) := by decide +kernel
theorem dX8_hasOrder_44 : decode cX8_hasOrder 44 = .ok (.iconst 0, 1) := by decide +kernel
theorem dX8_hasOrder_45 : decode cX8_hasOrder 45 = .ok (.ireturn, 1) := by decide +kernel
theorem dX8_changeBatches_0 : decode cX8_changeBatches 0 = .ok (.iconst 0, 1) := by decide +kernel
theorem dX8_changeBatches_1 : decode cX8_changeBatches 1 = .ok (.istore 4, 2) := by decide +kernel
theorem dX8_changeBatches_3 : decode cX8_changeBatches 3 = .ok (.iconst 0, 1) := by decide +kernel
theorem dX8_changeBatches_4 : decode cX8_changeBatches 4 = .ok (.istore 5, 2) := by decide +kernel
theorem dX8_changeBatches_6 : decode cX8_changeBatches 6 = .ok (.iload 5, 2) := by decide +kernel
theorem dX8_changeBatches_8 : decode cX8_changeBatches 8 = .ok (.aload_n 0, 1) := by decide +kernel
theorem dX8_changeBatches_9 : decode cX8_changeBatches 9 = .ok (.getfield 286, 3) := by decide +kernel
theorem dX8_changeBatches_12 : decode cX8_changeBatches 12 = .ok (.if_icmp .ge 127, 3) := by decide +kernel
theorem dX8_changeBatches_15 : decode cX8_changeBatches 15 = .ok (.aload_n 0, 1) := by decide +kernel
theorem dX8_changeBatches_16 : decode cX8_changeBatches 16 = .ok (.getfield 34, 3) := by decide +kernel
theorem dX8_changeBatches_19 : decode cX8_changeBatches 19 = .ok (.iload 5, 2) := by decide +kernel
theorem dX8_changeBatches_21 : decode cX8_changeBatches 21 = .ok (.aaload, 1) := by decide +kernel
theorem dX8_changeBatches_22 : decode cX8_changeBatches 22 = .ok (.astore 6, 2) := by decide +kernel
theorem dX8_changeBatches_24 : decode cX8_changeBatches 24 = .ok (.aload 6, 2) := by decide +kernel
theorem dX8_changeBatches_26 : decode cX8_changeBatches 26 = .ok (.getfield 291, 3) := by decide +kernel
theorem dX8_changeBatches_29 : decode cX8_changeBatches 29 = .ok (.iload_n 1, 1) := by decide +kernel
theorem dX8_changeBatches_30 : decode cX8_changeBatches 30 = .ok (.if_icmp .ne 103, 3) := by decide +kernel
theorem dX8_changeBatches_33 : decode cX8_changeBatches 33 = .ok (.aload 6, 2) := by decide +kernel
theorem dX8_changeBatches_35 : decode cX8_changeBatches 35 = .ok (.getfield 297, 3) := by decide +kernel
theorem dX8_changeBatches_38 : decode cX8_changeBatches 38 = .ok (.iconst 3, 1) := by decide +kernel
theorem dX8_changeBatches_39 : decode cX8_changeBatches 39 = .ok (.if_icmp .ne 6, 3) := by decide +kernel
theorem dX8_changeBatches_42 : decode cX8_changeBatches 42 = .ok (.goto 91, 3) := by decide +kernel
theorem dX8_changeBatches_45 : decode cX8_changeBatches 45 = .ok (.aload 6, 2) := by decide +kernel
theorem dX8_changeBatches_47 : decode cX8_changeBatches 47 = .ok (.getfield 297, 3) := by decide +kernel
theorem dX8_changeBatches_50 : decode cX8_changeBatches 50 = .ok (.ifCond .ne 38, 3) := by decide +kernel
theorem dX8_changeBatches_53 : decode cX8_changeBatches 53 = .ok (.aload 6, 2) := by decide +kernel
theorem dX8_changeBatches_55 : decode cX8_changeBatches 55 = .ok (.getfield 304, 3) := by decide +kernel
theorem dX8_changeBatches_58 : decode cX8_changeBatches 58 = .ok (.aload_n 0, 1) := by decide +kernel
theorem dX8_changeBatches_59 : decode cX8_changeBatches 59 = .ok (.getfield 18, 3) := by decide +kernel
theorem dX8_changeBatches_62 : decode cX8_changeBatches 62 = .ok (.iload_n 1, 1) := by decide +kernel
theorem dX8_changeBatches_63 : decode cX8_changeBatches 63 = .ok (.aaload, 1) := by decide +kernel
theorem dX8_changeBatches_64 : decode cX8_changeBatches 64 = .ok (.aload_n 0, 1) := by decide +kernel
theorem dX8_changeBatches_65 : decode cX8_changeBatches 65 = .ok (.getfield 24, 3) := by decide +kernel
theorem dX8_changeBatches_68 : decode cX8_changeBatches 68 = .ok (.aload 6, 2) := by decide +kernel
theorem dX8_changeBatches_70 : decode cX8_changeBatches 70 = .ok (.getfield 294, 3) := by decide +kernel
theorem dX8_changeBatches_73 : decode cX8_changeBatches 73 = .ok (.aaload, 1) := by decide +kernel
theorem dX8_changeBatches_74 : decode cX8_changeBatches 74 = .ok (.invokevirtual 195, 3) := by decide +kernel
theorem dX8_changeBatches_77 : decode cX8_changeBatches 77 = .ok (.if_icmp .ne 7, 3) := by decide +kernel
theorem dX8_changeBatches_80 : decode cX8_changeBatches 80 = .ok (.iconst 1, 1) := by decide +kernel
theorem dX8_changeBatches_81 : decode cX8_changeBatches 81 = .ok (.goto 8, 3) := by decide +kernel
theorem dX8_changeBatches_84 : decode cX8_changeBatches 84 = .ok (.iconst 0, 1) := by decide +kernel
theorem dX8_changeBatches_85 : decode cX8_changeBatches 85 = .ok (.goto 4, 3) := by decide +kernel
theorem dX8_changeBatches_88 : decode cX8_changeBatches 88 = .ok (.iload_n 3, 1) := by decide +kernel
theorem dX8_changeBatches_89 : decode cX8_changeBatches 89 = .ok (.istore 7, 2) := by decide +kernel
theorem dX8_changeBatches_91 : decode cX8_changeBatches 91 = .ok (.iload_n 2, 1) := by decide +kernel
theorem dX8_changeBatches_92 : decode cX8_changeBatches 92 = .ok (.ifCond .eq 25, 3) := by decide +kernel
theorem dX8_changeBatches_95 : decode cX8_changeBatches 95 = .ok (.iload 7, 2) := by decide +kernel
theorem dX8_changeBatches_97 : decode cX8_changeBatches 97 = .ok (.ifCond .eq 20, 3) := by decide +kernel
theorem dX8_changeBatches_100 : decode cX8_changeBatches 100 = .ok (.aload 6, 2) := by decide +kernel
theorem dX8_changeBatches_102 : decode cX8_changeBatches 102 = .ok (.aload_n 0, 1) := by decide +kernel
theorem dX8_changeBatches_103 : decode cX8_changeBatches 103 = .ok (.getfield 18, 3) := by decide +kernel
theorem dX8_changeBatches_106 : decode cX8_changeBatches 106 = .ok (.iload_n 1, 1) := by decide +kernel
theorem dX8_changeBatches_107 : decode cX8_changeBatches 107 = .ok (.aaload, 1) := by decide +kernel
theorem dX8_changeBatches_108 : decode cX8_changeBatches 108 = .ok (.getfield 124, 3) := by decide +kernel
theorem dX8_changeBatches_111 : decode cX8_changeBatches 111 = .ok (.putfield 303, 3) := by decide +kernel
theorem dX8_changeBatches_114 : decode cX8_changeBatches 114 = .ok (.goto 19, 3) := by decide +kernel
theorem dX8_changeBatches_117 : decode cX8_changeBatches 117 = .ok (.aload 6, 2) := by decide +kernel
theorem dX8_changeBatches_119 : decode cX8_changeBatches 119 = .ok (.iconst 3, 1) := by decide +kernel
theorem dX8_changeBatches_120 : decode cX8_changeBatches 120 = .ok (.putfield 297, 3) := by decide +kernel
theorem dX8_changeBatches_123 : decode cX8_changeBatches 123 = .ok (.iload 4, 2) := by decide +kernel
theorem dX8_changeBatches_125 : decode cX8_changeBatches 125 = .ok (.aload 6, 2) := by decide +kernel
theorem dX8_changeBatches_127 : decode cX8_changeBatches 127 = .ok (.getfield 300, 3) := by decide +kernel
theorem dX8_changeBatches_130 : decode cX8_changeBatches 130 = .ok (.iadd, 1) := by decide +kernel
theorem dX8_changeBatches_131 : decode cX8_changeBatches 131 = .ok (.istore 4, 2) := by decide +kernel
theorem dX8_changeBatches_133 : decode cX8_changeBatches 133 = .ok (.iinc 5 1, 3) := by decide +kernel
theorem dX8_changeBatches_136 : decode cX8_changeBatches 136 = .ok (.goto (-130), 3) := by decide +kernel
theorem dX8_changeBatches_139 : decode cX8_changeBatches 139 = .ok (.iload 4, 2) := by decide +kernel
theorem dX8_changeBatches_141 : decode cX8_changeBatches 141 = .ok (.ireturn, 1) := by decide +kernel
theorem dX8_kitsOf_0 : decode cX8_kitsOf 0 = .ok (.sipush 1000, 3) := by decide +kernel
theorem dX8_kitsOf_3 : decode cX8_kitsOf 3 = .ok (.istore_n 2, 1) := by decide +kernel
theorem dX8_kitsOf_4 : decode cX8_kitsOf 4 = .ok (.iconst 0, 1) := by decide +kernel
theorem dX8_kitsOf_5 : decode cX8_kitsOf 5 = .ok (.istore_n 3, 1) := by decide +kernel
theorem dX8_kitsOf_6 : decode cX8_kitsOf 6 = .ok (.iload_n 3, 1) := by decide +kernel
theorem dX8_kitsOf_7 : decode cX8_kitsOf 7 = .ok (.aload_n 0, 1) := by decide +kernel
theorem dX8_kitsOf_8 : decode cX8_kitsOf 8 = .ok (.getfield 95, 3) := by decide +kernel
theorem dX8_kitsOf_11 : decode cX8_kitsOf 11 = .ok (.if_icmp .ge 27, 3) := by decide +kernel
theorem dX8_kitsOf_14 : decode cX8_kitsOf 14 = .ok (.iload_n 1, 1) := by decide +kernel
theorem dX8_kitsOf_15 : decode cX8_kitsOf 15 = .ok (.iload_n 3, 1) := by decide +kernel
theorem dX8_kitsOf_16 : decode cX8_kitsOf 16 = .ok (.invokestatic 329, 3) := by decide +kernel
theorem dX8_kitsOf_19 : decode cX8_kitsOf 19 = .ok (.ifCond .eq 13, 3) := by decide +kernel
theorem dX8_kitsOf_22 : decode cX8_kitsOf 22 = .ok (.iload_n 2, 1) := by decide +kernel
theorem dX8_kitsOf_23 : decode cX8_kitsOf 23 = .ok (.aload_n 0, 1) := by decide +kernel
theorem dX8_kitsOf_24 : decode cX8_kitsOf 24 = .ok (.iload_n 3, 1) := by decide +kernel
theorem dX8_kitsOf_25 : decode cX8_kitsOf 25 = .ok (.invokevirtual 355, 3) := by decide +kernel
theorem dX8_kitsOf_28 : decode cX8_kitsOf 28 = .ok (.invokestatic 258, 3) := by decide +kernel
theorem dX8_kitsOf_31 : decode cX8_kitsOf 31 = .ok (.istore_n 2, 1) := by decide +kernel
theorem dX8_kitsOf_32 : decode cX8_kitsOf 32 = .ok (.iinc 3 1, 3) := by decide +kernel
theorem dX8_kitsOf_35 : decode cX8_kitsOf 35 = .ok (.goto (-29), 3) := by decide +kernel
theorem dX8_kitsOf_38 : decode cX8_kitsOf 38 = .ok (.iload_n 2, 1) := by decide +kernel
theorem dX8_kitsOf_39 : decode cX8_kitsOf 39 = .ok (.ireturn, 1) := by decide +kernel
theorem dX8_coatedPieces_0 : decode cX8_coatedPieces 0 = .ok (.iconst 0, 1) := by decide +kernel
theorem dX8_coatedPieces_1 : decode cX8_coatedPieces 1 = .ok (.istore_n 2, 1) := by decide +kernel
theorem dX8_coatedPieces_2 : decode cX8_coatedPieces 2 = .ok (.iconst 0, 1) := by decide +kernel
theorem dX8_coatedPieces_3 : decode cX8_coatedPieces 3 = .ok (.istore_n 3, 1) := by decide +kernel
theorem dX8_coatedPieces_4 : decode cX8_coatedPieces 4 = .ok (.iload_n 3, 1) := by decide +kernel
theorem dX8_coatedPieces_5 : decode cX8_coatedPieces 5 = .ok (.aload_n 0, 1) := by decide +kernel
theorem dX8_coatedPieces_6 : decode cX8_coatedPieces 6 = .ok (.getfield 286, 3) := by decide +kernel
theorem dX8_coatedPieces_9 : decode cX8_coatedPieces 9 = .ok (.if_icmp .ge 47, 3) := by decide +kernel
theorem dX8_coatedPieces_12 : decode cX8_coatedPieces 12 = .ok (.aload_n 0, 1) := by decide +kernel
theorem dX8_coatedPieces_13 : decode cX8_coatedPieces 13 = .ok (.getfield 34, 3) := by decide +kernel
theorem dX8_coatedPieces_16 : decode cX8_coatedPieces 16 = .ok (.iload_n 3, 1) := by decide +kernel
theorem dX8_coatedPieces_17 : decode cX8_coatedPieces 17 = .ok (.aaload, 1) := by decide +kernel
theorem dX8_coatedPieces_18 : decode cX8_coatedPieces 18 = .ok (.getfield 291, 3) := by decide +kernel
theorem dX8_coatedPieces_21 : decode cX8_coatedPieces 21 = .ok (.iload_n 1, 1) := by decide +kernel
theorem dX8_coatedPieces_22 : decode cX8_coatedPieces 22 = .ok (.if_icmp .ne 28, 3) := by decide +kernel
theorem dX8_coatedPieces_25 : decode cX8_coatedPieces 25 = .ok (.aload_n 0, 1) := by decide +kernel
theorem dX8_coatedPieces_26 : decode cX8_coatedPieces 26 = .ok (.getfield 34, 3) := by decide +kernel
theorem dX8_coatedPieces_29 : decode cX8_coatedPieces 29 = .ok (.iload_n 3, 1) := by decide +kernel
theorem dX8_coatedPieces_30 : decode cX8_coatedPieces 30 = .ok (.aaload, 1) := by decide +kernel
theorem dX8_coatedPieces_31 : decode cX8_coatedPieces 31 = .ok (.getfield 297, 3) := by decide +kernel
theorem dX8_coatedPieces_34 : decode cX8_coatedPieces 34 = .ok (.iconst 2, 1) := by decide +kernel
theorem dX8_coatedPieces_35 : decode cX8_coatedPieces 35 = .ok (.if_icmp .ne 15, 3) := by decide +kernel
theorem dX8_coatedPieces_38 : decode cX8_coatedPieces 38 = .ok (.iload_n 2, 1) := by decide +kernel
theorem dX8_coatedPieces_39 : decode cX8_coatedPieces 39 = .ok (.aload_n 0, 1) := by decide +kernel
theorem dX8_coatedPieces_40 : decode cX8_coatedPieces 40 = .ok (.getfield 34, 3) := by decide +kernel
theorem dX8_coatedPieces_43 : decode cX8_coatedPieces 43 = .ok (.iload_n 3, 1) := by decide +kernel
theorem dX8_coatedPieces_44 : decode cX8_coatedPieces 44 = .ok (.aaload, 1) := by decide +kernel
theorem dX8_coatedPieces_45 : decode cX8_coatedPieces 45 = .ok (.getfield 300, 3) := by decide +kernel
theorem dX8_coatedPieces_48 : decode cX8_coatedPieces 48 = .ok (.iadd, 1) := by decide +kernel
theorem dX8_coatedPieces_49 : decode cX8_coatedPieces 49 = .ok (.istore_n 2, 1) := by decide +kernel
theorem dX8_coatedPieces_50 : decode cX8_coatedPieces 50 = .ok (.iinc 3 1, 3) := by decide +kernel
theorem dX8_coatedPieces_53 : decode cX8_coatedPieces 53 = .ok (.goto (-49), 3) := by decide +kernel
theorem dX8_coatedPieces_56 : decode cX8_coatedPieces 56 = .ok (.iload_n 2, 1) := by decide +kernel
theorem dX8_coatedPieces_57 : decode cX8_coatedPieces 57 = .ok (.ireturn, 1) := by decide +kernel
theorem dX8_takePieces_0 : decode cX8_takePieces 0 = .ok (.iload_n 2, 1) := by decide +kernel
theorem dX8_takePieces_1 : decode cX8_takePieces 1 = .ok (.istore_n 3, 1) := by decide +kernel
theorem dX8_takePieces_2 : decode cX8_takePieces 2 = .ok (.iconst 0, 1) := by decide +kernel
theorem dX8_takePieces_3 : decode cX8_takePieces 3 = .ok (.istore 4, 2) := by decide +kernel
theorem dX8_takePieces_5 : decode cX8_takePieces 5 = .ok (.iconst 0, 1) := by decide +kernel
theorem dX8_takePieces_6 : decode cX8_takePieces 6 = .ok (.istore 5, 2) := by decide +kernel
theorem dX8_takePieces_8 : decode cX8_takePieces 8 = .ok (.iload 5, 2) := by decide +kernel
theorem dX8_takePieces_10 : decode cX8_takePieces 10 = .ok (.aload_n 0, 1) := by decide +kernel
theorem dX8_takePieces_11 : decode cX8_takePieces 11 = .ok (.getfield 286, 3) := by decide +kernel
theorem dX8_takePieces_14 : decode cX8_takePieces 14 = .ok (.if_icmp .ge 94, 3) := by decide +kernel
theorem dX8_takePieces_17 : decode cX8_takePieces 17 = .ok (.iload_n 3, 1) := by decide +kernel
theorem dX8_takePieces_18 : decode cX8_takePieces 18 = .ok (.ifCond .le 90, 3) := by decide +kernel
theorem dX8_takePieces_21 : decode cX8_takePieces 21 = .ok (.aload_n 0, 1) := by decide +kernel
theorem dX8_takePieces_22 : decode cX8_takePieces 22 = .ok (.getfield 34, 3) := by decide +kernel
theorem dX8_takePieces_25 : decode cX8_takePieces 25 = .ok (.iload 5, 2) := by decide +kernel
theorem dX8_takePieces_27 : decode cX8_takePieces 27 = .ok (.aaload, 1) := by decide +kernel
theorem dX8_takePieces_28 : decode cX8_takePieces 28 = .ok (.astore 6, 2) := by decide +kernel
theorem dX8_takePieces_30 : decode cX8_takePieces 30 = .ok (.aload 6, 2) := by decide +kernel
theorem dX8_takePieces_32 : decode cX8_takePieces 32 = .ok (.getfield 291, 3) := by decide +kernel
theorem dX8_takePieces_35 : decode cX8_takePieces 35 = .ok (.iload_n 1, 1) := by decide +kernel
theorem dX8_takePieces_36 : decode cX8_takePieces 36 = .ok (.if_icmp .ne 66, 3) := by decide +kernel
theorem dX8_takePieces_39 : decode cX8_takePieces 39 = .ok (.aload 6, 2) := by decide +kernel
theorem dX8_takePieces_41 : decode cX8_takePieces 41 = .ok (.getfield 297, 3) := by decide +kernel
theorem dX8_takePieces_44 : decode cX8_takePieces 44 = .ok (.iconst 2, 1) := by decide +kernel
theorem dX8_takePieces_45 : decode cX8_takePieces 45 = .ok (.if_icmp .ne 57, 3) := by decide +kernel
theorem dX8_takePieces_48 : decode cX8_takePieces 48 = .ok (.aload 6, 2) := by decide +kernel
theorem dX8_takePieces_50 : decode cX8_takePieces 50 = .ok (.getfield 300, 3) := by decide +kernel
theorem dX8_takePieces_53 : decode cX8_takePieces 53 = .ok (.ifCond .le 49, 3) := by decide +kernel
theorem dX8_takePieces_56 : decode cX8_takePieces 56 = .ok (.iload_n 3, 1) := by decide +kernel
theorem dX8_takePieces_57 : decode cX8_takePieces 57 = .ok (.aload 6, 2) := by decide +kernel
theorem dX8_takePieces_59 : decode cX8_takePieces 59 = .ok (.getfield 300, 3) := by decide +kernel
theorem dX8_takePieces_62 : decode cX8_takePieces 62 = .ok (.invokestatic 258, 3) := by decide +kernel
theorem dX8_takePieces_65 : decode cX8_takePieces 65 = .ok (.istore 7, 2) := by decide +kernel
theorem dX8_takePieces_67 : decode cX8_takePieces 67 = .ok (.aload 6, 2) := by decide +kernel
theorem dX8_takePieces_69 : decode cX8_takePieces 69 = .ok (.dup, 1) := by decide +kernel
theorem dX8_takePieces_70 : decode cX8_takePieces 70 = .ok (.getfield 300, 3) := by decide +kernel
theorem dX8_takePieces_73 : decode cX8_takePieces 73 = .ok (.iload 7, 2) := by decide +kernel
theorem dX8_takePieces_75 : decode cX8_takePieces 75 = .ok (.isub, 1) := by decide +kernel
theorem dX8_takePieces_76 : decode cX8_takePieces 76 = .ok (.putfield 300, 3) := by decide +kernel
theorem dX8_takePieces_79 : decode cX8_takePieces 79 = .ok (.iload_n 3, 1) := by decide +kernel
theorem dX8_takePieces_80 : decode cX8_takePieces 80 = .ok (.iload 7, 2) := by decide +kernel
theorem dX8_takePieces_82 : decode cX8_takePieces 82 = .ok (.isub, 1) := by decide +kernel
theorem dX8_takePieces_83 : decode cX8_takePieces 83 = .ok (.istore_n 3, 1) := by decide +kernel
theorem dX8_takePieces_84 : decode cX8_takePieces 84 = .ok (.iload 4, 2) := by decide +kernel
theorem dX8_takePieces_86 : decode cX8_takePieces 86 = .ok (.aload 6, 2) := by decide +kernel
theorem dX8_takePieces_88 : decode cX8_takePieces 88 = .ok (.getfield 300, 3) := by decide +kernel
theorem dX8_takePieces_91 : decode cX8_takePieces 91 = .ok (.ifCond .ne 7, 3) := by decide +kernel
theorem dX8_takePieces_94 : decode cX8_takePieces 94 = .ok (.iconst 1, 1) := by decide +kernel
theorem dX8_takePieces_95 : decode cX8_takePieces 95 = .ok (.goto 4, 3) := by decide +kernel
theorem dX8_takePieces_98 : decode cX8_takePieces 98 = .ok (.iconst 0, 1) := by decide +kernel
theorem dX8_takePieces_99 : decode cX8_takePieces 99 = .ok (.iadd, 1) := by decide +kernel
theorem dX8_takePieces_100 : decode cX8_takePieces 100 = .ok (.istore 4, 2) := by decide +kernel
theorem dX8_takePieces_102 : decode cX8_takePieces 102 = .ok (.iinc 5 1, 3) := by decide +kernel
theorem dX8_takePieces_105 : decode cX8_takePieces 105 = .ok (.goto (-97), 3) := by decide +kernel
theorem dX8_takePieces_108 : decode cX8_takePieces 108 = .ok (.iload 4, 2) := by decide +kernel
theorem dX8_takePieces_110 : decode cX8_takePieces 110 = .ok (.ireturn, 1) := by decide +kernel
end
section
theorem dX9_init_0 : decode cX9_init 0 = .ok (.aload_n 0, 1) := by decide +kernel
theorem dX9_init_1 : decode cX9_init 1 = .ok (.invokespecial 1, 3) := by decide +kernel
theorem dX9_init_4 : decode cX9_init 4 = .ok (.aload_n 0, 1) := by decide +kernel
theorem dX9_init_5 : decode cX9_init 5 = .ok (.bipush 6, 2) := by decide +kernel
theorem dX9_init_7 : decode cX9_init 7 = .ok (.newarray .int, 2) := by decide +kernel
theorem dX9_init_9 : decode cX9_init 9 = .ok (.putfield 7, 3) := by decide +kernel
theorem dX9_init_12 : decode cX9_init 12 = .ok (.aload_n 0, 1) := by decide +kernel
theorem dX9_init_13 : decode cX9_init 13 = .ok (.bipush 6, 2) := by decide +kernel
theorem dX9_init_15 : decode cX9_init 15 = .ok (.newarray .int, 2) := by decide +kernel
theorem dX9_init_17 : decode cX9_init 17 = .ok (.putfield 13, 3) := by decide +kernel
theorem dX9_init_20 : decode cX9_init 20 = .ok (.aload_n 0, 1) := by decide +kernel
theorem dX9_init_21 : decode cX9_init 21 = .ok (.bipush 8, 2) := by decide +kernel
theorem dX9_init_23 : decode cX9_init 23 = .ok (.newarray .int, 2) := by decide +kernel
theorem dX9_init_25 : decode cX9_init 25 = .ok (.putfield 16, 3) := by decide +kernel
theorem dX9_init_28 : decode cX9_init 28 = .ok (.aload_n 0, 1) := by decide +kernel
theorem dX9_init_29 : decode cX9_init 29 = .ok (.bipush 48, 2) := by decide +kernel
theorem dX9_init_31 : decode cX9_init 31 = .ok (.newarray .int, 2) := by decide +kernel
theorem dX9_init_33 : decode cX9_init 33 = .ok (.putfield 19, 3) := by decide +kernel
theorem dX9_init_36 : decode cX9_init 36 = .ok (.aload_n 0, 1) := by decide +kernel
theorem dX9_init_37 : decode cX9_init 37 = .ok (.bipush 48, 2) := by decide +kernel
theorem dX9_init_39 : decode cX9_init 39 = .ok (.newarray .int, 2) := by decide +kernel
theorem dX9_init_41 : decode cX9_init 41 = .ok (.putfield 22, 3) := by decide +kernel
theorem dX9_init_44 : decode cX9_init 44 = .ok (.aload_n 0, 1) := by decide +kernel
theorem dX9_init_45 : decode cX9_init 45 = .ok (.bipush 8, 2) := by decide +kernel
theorem dX9_init_47 : decode cX9_init 47 = .ok (.newarray .int, 2) := by decide +kernel
theorem dX9_init_49 : decode cX9_init 49 = .ok (.putfield 25, 3) := by decide +kernel
theorem dX9_init_52 : decode cX9_init 52 = .ok (.aload_n 0, 1) := by decide +kernel
theorem dX9_init_53 : decode cX9_init 53 = .ok (.bipush 8, 2) := by decide +kernel
theorem dX9_init_55 : decode cX9_init 55 = .ok (.newarray .int, 2) := by decide +kernel
theorem dX9_init_57 : decode cX9_init 57 = .ok (.putfield 28, 3) := by decide +kernel
theorem dX9_init_60 : decode cX9_init 60 = .ok (.aload_n 0, 1) := by decide +kernel
theorem dX9_init_61 : decode cX9_init 61 = .ok (.bipush 8, 2) := by decide +kernel
theorem dX9_init_63 : decode cX9_init 63 = .ok (.newarray .int, 2) := by decide +kernel
theorem dX9_init_65 : decode cX9_init 65 = .ok (.putfield 31, 3) := by decide +kernel
theorem dX9_init_68 : decode cX9_init 68 = .ok (.aload_n 0, 1) := by decide +kernel
theorem dX9_init_69 : decode cX9_init 69 = .ok (.bipush 8, 2) := by decide +kernel
theorem dX9_init_71 : decode cX9_init 71 = .ok (.newarray .int, 2) := by decide +kernel
theorem dX9_init_73 : decode cX9_init 73 = .ok (.putfield 34, 3) := by decide +kernel
theorem dX9_init_76 : decode cX9_init 76 = .ok (.aload_n 0, 1) := by decide +kernel
theorem dX9_init_77 : decode cX9_init 77 = .ok (.bipush 48, 2) := by decide +kernel
theorem dX9_init_79 : decode cX9_init 79 = .ok (.newarray .int, 2) := by decide +kernel
theorem dX9_init_81 : decode cX9_init 81 = .ok (.putfield 37, 3) := by decide +kernel
theorem dX9_init_84 : decode cX9_init 84 = .ok (.aload_n 0, 1) := by decide +kernel
theorem dX9_init_85 : decode cX9_init 85 = .ok (.bipush 48, 2) := by decide +kernel
theorem dX9_init_87 : decode cX9_init 87 = .ok (.newarray .int, 2) := by decide +kernel
theorem dX9_init_89 : decode cX9_init 89 = .ok (.putfield 40, 3) := by decide +kernel
theorem dX9_init_92 : decode cX9_init 92 = .ok (.aload_n 0, 1) := by decide +kernel
theorem dX9_init_93 : decode cX9_init 93 = .ok (.bipush 48, 2) := by decide +kernel
theorem dX9_init_95 : decode cX9_init 95 = .ok (.newarray .int, 2) := by decide +kernel
theorem dX9_init_97 : decode cX9_init 97 = .ok (.putfield 43, 3) := by decide +kernel
theorem dX9_init_100 : decode cX9_init 100 = .ok (.aload_n 0, 1) := by decide +kernel
theorem dX9_init_101 : decode cX9_init 101 = .ok (.iconst 4, 1) := by decide +kernel
theorem dX9_init_102 : decode cX9_init 102 = .ok (.newarray .int, 2) := by decide +kernel
theorem dX9_init_104 : decode cX9_init 104 = .ok (.putfield 46, 3) := by decide +kernel
theorem dX9_init_107 : decode cX9_init 107 = .ok (.aload_n 0, 1) := by decide +kernel
theorem dX9_init_108 : decode cX9_init 108 = .ok (.iconst 4, 1) := by decide +kernel
theorem dX9_init_109 : decode cX9_init 109 = .ok (.newarray .int, 2) := by decide +kernel
theorem dX9_init_111 : decode cX9_init 111 = .ok (.putfield 49, 3) := by decide +kernel
theorem dX9_init_114 : decode cX9_init 114 = .ok (.aload_n 0, 1) := by decide +kernel
theorem dX9_init_115 : decode cX9_init 115 = .ok (.iconst 4, 1) := by decide +kernel
theorem dX9_init_116 : decode cX9_init 116 = .ok (.newarray .int, 2) := by decide +kernel
theorem dX9_init_118 : decode cX9_init 118 = .ok (.putfield 52, 3) := by decide +kernel
theorem dX9_init_121 : decode cX9_init 121 = .ok (.aload_n 0, 1) := by decide +kernel
theorem dX9_init_122 : decode cX9_init 122 = .ok (.iconst 4, 1) := by decide +kernel
theorem dX9_init_123 : decode cX9_init 123 = .ok (.newarray .int, 2) := by decide +kernel
theorem dX9_init_125 : decode cX9_init 125 = .ok (.putfield 55, 3) := by decide +kernel
theorem dX9_init_128 : decode cX9_init 128 = .ok (.aload_n 0, 1) := by decide +kernel
theorem dX9_init_129 : decode cX9_init 129 = .ok (.iconst 4, 1) := by decide +kernel
theorem dX9_init_130 : decode cX9_init 130 = .ok (.newarray .int, 2) := by decide +kernel
theorem dX9_init_132 : decode cX9_init 132 = .ok (.putfield 58, 3) := by decide +kernel
theorem dX9_init_135 : decode cX9_init 135 = .ok (.aload_n 0, 1) := by decide +kernel
theorem dX9_init_136 : decode cX9_init 136 = .ok (.bipush 20, 2) := by decide +kernel
theorem dX9_init_138 : decode cX9_init 138 = .ok (.newarray .int, 2) := by decide +kernel
theorem dX9_init_140 : decode cX9_init 140 = .ok (.putfield 61, 3) := by decide +kernel
theorem dX9_init_143 : decode cX9_init 143 = .ok (.aload_n 0, 1) := by decide +kernel
theorem dX9_init_144 : decode cX9_init 144 = .ok (.bipush 8, 2) := by decide +kernel
theorem dX9_init_146 : decode cX9_init 146 = .ok (.newarray .int, 2) := by decide +kernel
theorem dX9_init_148 : decode cX9_init 148 = .ok (.putfield 64, 3) := by decide +kernel
theorem dX9_init_151 : decode cX9_init 151 = .ok (.aload_n 0, 1) := by decide +kernel
theorem dX9_init_152 : decode cX9_init 152 = .ok (.bipush 20, 2) := by decide +kernel
theorem dX9_init_154 : decode cX9_init 154 = .ok (.newarray .int, 2) := by decide +kernel
theorem dX9_init_156 : decode cX9_init 156 = .ok (.putfield 67, 3) := by decide +kernel
theorem dX9_init_159 : decode cX9_init 159 = .ok (.aload_n 0, 1) := by decide +kernel
theorem dX9_init_160 : decode cX9_init 160 = .ok (.bipush 20, 2) := by decide +kernel
theorem dX9_init_162 : decode cX9_init 162 = .ok (.newarray .int, 2) := by decide +kernel
theorem dX9_init_164 : decode cX9_init 164 = .ok (.putfield 70, 3) := by decide +kernel
theorem dX9_init_167 : decode cX9_init 167 = .ok (.aload_n 0, 1) := by decide +kernel
theorem dX9_init_168 : decode cX9_init 168 = .ok (.bipush 20, 2) := by decide +kernel
theorem dX9_init_170 : decode cX9_init 170 = .ok (.newarray .int, 2) := by decide +kernel
theorem dX9_init_172 : decode cX9_init 172 = .ok (.putfield 73, 3) := by decide +kernel
theorem dX9_init_175 : decode cX9_init 175 = .ok (.aload_n 0, 1) := by decide +kernel
theorem dX9_init_176 : decode cX9_init 176 = .ok (.bipush 20, 2) := by decide +kernel
theorem dX9_init_178 : decode cX9_init 178 = .ok (.newarray .int, 2) := by decide +kernel
theorem dX9_init_180 : decode cX9_init 180 = .ok (.putfield 76, 3) := by decide +kernel
theorem dX9_init_183 : decode cX9_init 183 = .ok (.aload_n 0, 1) := by decide +kernel
theorem dX9_init_184 : decode cX9_init 184 = .ok (.bipush 20, 2) := by decide +kernel
theorem dX9_init_186 : decode cX9_init 186 = .ok (.newarray .int, 2) := by decide +kernel
theorem dX9_init_188 : decode cX9_init 188 = .ok (.putfield 79, 3) := by decide +kernel
theorem dX9_init_191 : decode cX9_init 191 = .ok (.aload_n 0, 1) := by decide +kernel
theorem dX9_init_192 : decode cX9_init 192 = .ok (.bipush 20, 2) := by decide +kernel
theorem dX9_init_194 : decode cX9_init 194 = .ok (.newarray .int, 2) := by decide +kernel
theorem dX9_init_196 : decode cX9_init 196 = .ok (.putfield 82, 3) := by decide +kernel
theorem dX9_init_199 : decode cX9_init 199 = .ok (.aload_n 0, 1) := by decide +kernel
theorem dX9_init_200 : decode cX9_init 200 = .ok (.sipush 224, 3) := by decide +kernel
theorem dX9_init_203 : decode cX9_init 203 = .ok (.newarray .int, 2) := by decide +kernel
theorem dX9_init_205 : decode cX9_init 205 = .ok (.putfield 85, 3) := by decide +kernel
theorem dX9_init_208 : decode cX9_init 208 = .ok (.aload_n 0, 1) := by decide +kernel
theorem dX9_init_209 : decode cX9_init 209 = .ok (.bipush 8, 2) := by decide +kernel
theorem dX9_init_211 : decode cX9_init 211 = .ok (.newarray .int, 2) := by decide +kernel
theorem dX9_init_213 : decode cX9_init 213 = .ok (.putfield 88, 3) := by decide +kernel
theorem dX9_init_216 : decode cX9_init 216 = .ok (.aload_n 0, 1) := by decide +kernel
theorem dX9_init_217 : decode cX9_init 217 = .ok (.bipush 40, 2) := by decide +kernel
theorem dX9_init_219 : decode cX9_init 219 = .ok (.newarray .int, 2) := by decide +kernel
theorem dX9_init_221 : decode cX9_init 221 = .ok (.putfield 91, 3) := by decide +kernel
theorem dX9_init_224 : decode cX9_init 224 = .ok (.aload_n 0, 1) := by decide +kernel
theorem dX9_init_225 : decode cX9_init 225 = .ok (.bipush 40, 2) := by decide +kernel
theorem dX9_init_227 : decode cX9_init 227 = .ok (.newarray .int, 2) := by decide +kernel
theorem dX9_init_229 : decode cX9_init 229 = .ok (.putfield 94, 3) := by decide +kernel
theorem dX9_init_232 : decode cX9_init 232 = .ok (.aload_n 0, 1) := by decide +kernel
theorem dX9_init_233 : decode cX9_init 233 = .ok (.bipush 40, 2) := by decide +kernel
theorem dX9_init_235 : decode cX9_init 235 = .ok (.newarray .int, 2) := by decide +kernel
theorem dX9_init_237 : decode cX9_init 237 = .ok (.putfield 97, 3) := by decide +kernel
theorem dX9_init_240 : decode cX9_init 240 = .ok (.aload_n 0, 1) := by decide +kernel
theorem dX9_init_241 : decode cX9_init 241 = .ok (.bipush 40, 2) := by decide +kernel
theorem dX9_init_243 : decode cX9_init 243 = .ok (.newarray .int, 2) := by decide +kernel
theorem dX9_init_245 : decode cX9_init 245 = .ok (.putfield 100, 3) := by decide +kernel
theorem dX9_init_248 : decode cX9_init 248 = .ok (.aload_n 0, 1) := by decide +kernel
theorem dX9_init_249 : decode cX9_init 249 = .ok (.bipush 40, 2) := by decide +kernel
theorem dX9_init_251 : decode cX9_init 251 = .ok (.newarray .int, 2) := by decide +kernel
theorem dX9_init_253 : decode cX9_init 253 = .ok (.putfield 103, 3) := by decide +kernel
theorem dX9_init_256 : decode cX9_init 256 = .ok (.return_, 1) := by decide +kernel
theorem dX9_thrown_0 : decode cX9_thrown 0 = .ok (.aload_n 0, 1) := by decide +kernel
theorem dX9_thrown_1 : decode cX9_thrown 1 = .ok (.getfield 106, 3) := by decide +kernel
theorem dX9_thrown_4 : decode cX9_thrown 4 = .ok (.ireturn, 1) := by decide +kernel
theorem dX9_goesWell_0 : decode cX9_goesWell 0 = .ok (.aload_n 0, 1) := by decide +kernel
theorem dX9_goesWell_1 : decode cX9_goesWell 1 = .ok (.iload_n 1, 1) := by decide +kernel
theorem dX9_goesWell_2 : decode cX9_goesWell 2 = .ok (.putfield 106, 3) := by decide +kernel
theorem dX9_goesWell_5 : decode cX9_goesWell 5 = .ok (.iload_n 1, 1) := by decide +kernel
theorem dX9_goesWell_6 : decode cX9_goesWell 6 = .ok (.ifCond .ne 7, 3) := by decide +kernel
theorem dX9_goesWell_9 : decode cX9_goesWell 9 = .ok (.iconst 1, 1) := by decide +kernel
theorem dX9_goesWell_10 : decode cX9_goesWell 10 = .ok (.goto 4, 3) := by decide +kernel
theorem dX9_goesWell_13 : decode cX9_goesWell 13 = .ok (.iconst 0, 1) := by decide +kernel
theorem dX9_goesWell_14 : decode cX9_goesWell 14 = .ok (.ireturn, 1) := by decide +kernel
theorem dX9_in_0 : decode cX9_in 0 = .ok (.iload_n 0, 1) := by decide +kernel
theorem dX9_in_1 : decode cX9_in 1 = .ok (.iload_n 1, 1) := by decide +kernel
theorem dX9_in_2 : decode cX9_in 2 = .ok (.if_icmp .lt 12, 3) := by decide +kernel
theorem dX9_in_5 : decode cX9_in 5 = .ok (.iload_n 0, 1) := by decide +kernel
theorem dX9_in_6 : decode cX9_in 6 = .ok (.iload_n 2, 1) := by decide +kernel
theorem dX9_in_7 : decode cX9_in 7 = .ok (.if_icmp .gt 7, 3) := by decide +kernel
theorem dX9_in_10 : decode cX9_in 10 = .ok (.iconst 1, 1) := by decide +kernel
theorem dX9_in_11 : decode cX9_in 11 = .ok (.goto 4, 3) := by decide +kernel
theorem dX9_in_14 : decode cX9_in 14 = .ok (.iconst 0, 1) := by decide +kernel
theorem dX9_in_15 : decode cX9_in 15 = .ok (.ireturn, 1) := by decide +kernel
theorem dX9_isPart_0 : decode cX9_isPart 0 = .ok (.iload_n 1, 1) := by decide +kernel
theorem dX9_isPart_1 : decode cX9_isPart 1 = .ok (.iconst 0, 1) := by decide +kernel
theorem dX9_isPart_2 : decode cX9_isPart 2 = .ok (.aload_n 0, 1) := by decide +kernel
theorem dX9_isPart_3 : decode cX9_isPart 3 = .ok (.getfield 110, 3) := by decide +kernel
theorem dX9_isPart_6 : decode cX9_isPart 6 = .ok (.iconst 1, 1) := by decide +kernel
theorem dX9_isPart_7 : decode cX9_isPart 7 = .ok (.isub, 1) := by decide +kernel
theorem dX9_isPart_8 : decode cX9_isPart 8 = .ok (.invokestatic 113, 3) := by decide +kernel
theorem dX9_isPart_11 : decode cX9_isPart 11 = .ok (.ireturn, 1) := by decide +kernel
theorem dX9_isTool_0 : decode cX9_isTool 0 = .ok (.iload_n 1, 1) := by decide +kernel
theorem dX9_isTool_1 : decode cX9_isTool 1 = .ok (.iconst 0, 1) := by decide +kernel
theorem dX9_isTool_2 : decode cX9_isTool 2 = .ok (.aload_n 0, 1) := by decide +kernel
theorem dX9_isTool_3 : decode cX9_isTool 3 = .ok (.getfield 117, 3) := by decide +kernel
theorem dX9_isTool_6 : decode cX9_isTool 6 = .ok (.iconst 1, 1) := by decide +kernel
theorem dX9_isTool_7 : decode cX9_isTool 7 = .ok (.isub, 1) := by decide +kernel
theorem dX9_isTool_8 : decode cX9_isTool 8 = .ok (.invokestatic 113, 3) := by decide +kernel
theorem dX9_isTool_11 : decode cX9_isTool 11 = .ok (.ireturn, 1) := by decide +kernel
theorem dX9_isBatch_0 : decode cX9_isBatch 0 = .ok (.iload_n 1, 1) := by decide +kernel
theorem dX9_isBatch_1 : decode cX9_isBatch 1 = .ok (.iconst 0, 1) := by decide +kernel
theorem dX9_isBatch_2 : decode cX9_isBatch 2 = .ok (.aload_n 0, 1) := by decide +kernel
theorem dX9_isBatch_3 : decode cX9_isBatch 3 = .ok (.getfield 120, 3) := by decide +kernel
theorem dX9_isBatch_6 : decode cX9_isBatch 6 = .ok (.iconst 1, 1) := by decide +kernel
theorem dX9_isBatch_7 : decode cX9_isBatch 7 = .ok (.isub, 1) := by decide +kernel
theorem dX9_isBatch_8 : decode cX9_isBatch 8 = .ok (.invokestatic 113, 3) := by decide +kernel
theorem dX9_isBatch_11 : decode cX9_isBatch 11 = .ok (.ireturn, 1) := by decide +kernel
theorem dX9_face_0 : decode cX9_face 0 = .ok (.iload_n 1, 1) := by decide +kernel
theorem dX9_face_1 : decode cX9_face 1 = .ok (.bipush 10, 2) := by decide +kernel
theorem dX9_face_3 : decode cX9_face 3 = .ok (.sipush 200, 3) := by decide +kernel
theorem dX9_face_6 : decode cX9_face 6 = .ok (.invokestatic 113, 3) := by decide +kernel
theorem dX9_face_9 : decode cX9_face 9 = .ok (.ifCond .eq 16, 3) := by decide +kernel
theorem dX9_face_12 : decode cX9_face 12 = .ok (.iload_n 2, 1) := by decide +kernel
theorem dX9_face_13 : decode cX9_face 13 = .ok (.iconst 0, 1) := by decide +kernel
theorem dX9_face_14 : decode cX9_face 14 = .ok (.iconst 1, 1) := by decide +kernel
theorem dX9_face_15 : decode cX9_face 15 = .ok (.invokestatic 113, 3) := by decide +kernel
theorem dX9_face_18 : decode cX9_face 18 = .ok (.ifCond .eq 7, 3) := by decide +kernel
theorem dX9_face_21 : decode cX9_face 21 = .ok (.iconst 1, 1) := by decide +kernel
theorem dX9_face_22 : decode cX9_face 22 = .ok (.goto 4, 3) := by decide +kernel
theorem dX9_face_25 : decode cX9_face 25 = .ok (.iconst 0, 1) := by decide +kernel
theorem dX9_face_26 : decode cX9_face 26 = .ok (.istore_n 3, 1) := by decide +kernel
theorem dX9_face_27 : decode cX9_face 27 = .ok (.aload_n 0, 1) := by decide +kernel
theorem dX9_face_28 : decode cX9_face 28 = .ok (.iload_n 3, 1) := by decide +kernel
theorem dX9_face_29 : decode cX9_face 29 = .ok (.ifCond .ne 7, 3) := by decide +kernel
theorem dX9_face_32 : decode cX9_face 32 = .ok (.iconst 1, 1) := by decide +kernel
theorem dX9_face_33 : decode cX9_face 33 = .ok (.goto 17, 3) := by decide +kernel
theorem dX9_face_36 : decode cX9_face 36 = .ok (.aload_n 0, 1) := by decide +kernel
theorem dX9_face_37 : decode cX9_face 37 = .ok (.getfield 123, 3) := by decide +kernel
theorem dX9_face_40 : decode cX9_face 40 = .ok (.bipush 6, 2) := by decide +kernel
theorem dX9_face_42 : decode cX9_face 42 = .ok (.if_icmp .ne 7, 3) := by decide +kernel
theorem dX9_face_45 : decode cX9_face 45 = .ok (.iconst 2, 1) := by decide +kernel
theorem dX9_face_46 : decode cX9_face 46 = .ok (.goto 4, 3) := by decide +kernel
theorem dX9_face_49 : decode cX9_face 49 = .ok (.iconst 0, 1) := by decide +kernel
theorem dX9_face_50 : decode cX9_face 50 = .ok (.invokevirtual 126, 3) := by decide +kernel
theorem dX9_face_53 : decode cX9_face 53 = .ok (.ifCond .ne 5, 3) := by decide +kernel
theorem dX9_face_56 : decode cX9_face 56 = .ok (.iconst 0, 1) := by decide +kernel
theorem dX9_face_57 : decode cX9_face 57 = .ok (.ireturn, 1) := by decide +kernel
theorem dX9_face_58 : decode cX9_face 58 = .ok (.aload_n 0, 1) := by decide +kernel
theorem dX9_face_59 : decode cX9_face 59 = .ok (.getfield 7, 3) := by decide +kernel
theorem dX9_face_62 : decode cX9_face 62 = .ok (.aload_n 0, 1) := by decide +kernel
theorem dX9_face_63 : decode cX9_face 63 = .ok (.getfield 123, 3) := by decide +kernel
theorem dX9_face_66 : decode cX9_face 66 = .ok (.iload_n 1, 1) := by decide +kernel
theorem dX9_face_67 : decode cX9_face 67 = .ok (.iastore, 1) := by decide +kernel
theorem dX9_face_68 : decode cX9_face 68 = .ok (.aload_n 0, 1) := by decide +kernel
theorem dX9_face_69 : decode cX9_face 69 = .ok (.getfield 123, 3) := by decide +kernel
theorem dX9_face_72 : decode cX9_face 72 = .ok (.ifCond .le 15, 3) := by decide +kernel
theorem dX9_face_75 : decode cX9_face 75 = .ok (.aload_n 0, 1) := by decide +kernel
theorem dX9_face_76 : decode cX9_face 76 = .ok (.getfield 13, 3) := by decide +kernel
theorem dX9_face_79 : decode cX9_face 79 = .ok (.aload_n 0, 1) := by decide +kernel
theorem dX9_face_80 : decode cX9_face 80 = .ok (.getfield 123, 3) := by decide +kernel
theorem dX9_face_83 : decode cX9_face 83 = .ok (.iconst 1, 1) := by decide +kernel
theorem dX9_face_84 : decode cX9_face 84 = .ok (.isub, 1) := by decide +kernel
theorem dX9_face_85 : decode cX9_face 85 = .ok (.iload_n 2, 1) := by decide +kernel
theorem dX9_face_86 : decode cX9_face 86 = .ok (.iastore, 1) := by decide +kernel
theorem dX9_face_87 : decode cX9_face 87 = .ok (.aload_n 0, 1) := by decide +kernel
theorem dX9_face_88 : decode cX9_face 88 = .ok (.dup, 1) := by decide +kernel
theorem dX9_face_89 : decode cX9_face 89 = .ok (.getfield 123, 3) := by decide +kernel
theorem dX9_face_92 : decode cX9_face 92 = .ok (.iconst 1, 1) := by decide +kernel
theorem dX9_face_93 : decode cX9_face 93 = .ok (.iadd, 1) := by decide +kernel
theorem dX9_face_94 : decode cX9_face 94 = .ok (.putfield 123, 3) := by decide +kernel
theorem dX9_face_97 : decode cX9_face 97 = .ok (.aload_n 0, 1) := by decide +kernel
theorem dX9_face_98 : decode cX9_face 98 = .ok (.getfield 123, 3) := by decide +kernel
theorem dX9_face_101 : decode cX9_face 101 = .ok (.ireturn, 1) := by decide +kernel
theorem dX9_wipe_0 : decode cX9_wipe 0 = .ok (.aload_n 0, 1) := by decide +kernel
theorem dX9_wipe_1 : decode cX9_wipe 1 = .ok (.iconst 0, 1) := by decide +kernel
theorem dX9_wipe_2 : decode cX9_wipe 2 = .ok (.putfield 106, 3) := by decide +kernel
theorem dX9_wipe_5 : decode cX9_wipe 5 = .ok (.aload_n 0, 1) := by decide +kernel
theorem dX9_wipe_6 : decode cX9_wipe 6 = .ok (.getfield 123, 3) := by decide +kernel
theorem dX9_wipe_9 : decode cX9_wipe 9 = .ok (.istore_n 1, 1) := by decide +kernel
theorem dX9_wipe_10 : decode cX9_wipe 10 = .ok (.aload_n 0, 1) := by decide +kernel
theorem dX9_wipe_11 : decode cX9_wipe 11 = .ok (.iconst 0, 1) := by decide +kernel
theorem dX9_wipe_12 : decode cX9_wipe 12 = .ok (.putfield 123, 3) := by decide +kernel
theorem dX9_wipe_15 : decode cX9_wipe 15 = .ok (.iload_n 1, 1) := by decide +kernel
theorem dX9_wipe_16 : decode cX9_wipe 16 = .ok (.ireturn, 1) := by decide +kernel
theorem dX9_isSheet_0 : decode cX9_isSheet 0 = .ok (.iload_n 0, 1) := by decide +kernel
theorem dX9_isSheet_1 : decode cX9_isSheet 1 = .ok (.bipush 10, 2) := by decide +kernel
theorem dX9_isSheet_3 : decode cX9_isSheet 3 = .ok (.sipush 300, 3) := by decide +kernel
theorem dX9_isSheet_6 : decode cX9_isSheet 6 = .ok (.invokestatic 113, 3) := by decide +kernel
theorem dX9_isSheet_9 : decode cX9_isSheet 9 = .ok (.ifCond .eq 16, 3) := by decide +kernel
theorem dX9_isSheet_12 : decode cX9_isSheet 12 = .ok (.iload_n 1, 1) := by decide +kernel
theorem dX9_isSheet_13 : decode cX9_isSheet 13 = .ok (.iconst 1, 1) := by decide +kernel
theorem dX9_isSheet_14 : decode cX9_isSheet 14 = .ok (.iconst 4, 1) := by decide +kernel
theorem dX9_isSheet_15 : decode cX9_isSheet 15 = .ok (.invokestatic 113, 3) := by decide +kernel
theorem dX9_isSheet_18 : decode cX9_isSheet 18 = .ok (.ifCond .eq 7, 3) := by decide +kernel
theorem dX9_isSheet_21 : decode cX9_isSheet 21 = .ok (.iconst 1, 1) := by decide +kernel
theorem dX9_isSheet_22 : decode cX9_isSheet 22 = .ok (.goto 4, 3) := by decide +kernel
theorem dX9_isSheet_25 : decode cX9_isSheet 25 = .ok (.iconst 0, 1) := by decide +kernel
theorem dX9_isSheet_26 : decode cX9_isSheet 26 = .ok (.ireturn, 1) := by decide +kernel
theorem dX9_draw_0 : decode cX9_draw 0 = .ok (.aload_n 0, 1) := by decide +kernel
theorem dX9_draw_1 : decode cX9_draw 1 = .ok (.getfield 16, 3) := by decide +kernel
theorem dX9_draw_4 : decode cX9_draw 4 = .ok (.iload_n 1, 1) := by decide +kernel
theorem dX9_draw_5 : decode cX9_draw 5 = .ok (.aload_n 0, 1) := by decide +kernel
theorem dX9_draw_6 : decode cX9_draw 6 = .ok (.getfield 123, 3) := by decide +kernel
theorem dX9_draw_9 : decode cX9_draw 9 = .ok (.iastore, 1) := by decide +kernel
theorem dX9_draw_10 : decode cX9_draw 10 = .ok (.iconst 0, 1) := by decide +kernel
theorem dX9_draw_11 : decode cX9_draw 11 = .ok (.istore 4, 2) := by decide +kernel
theorem dX9_draw_13 : decode cX9_draw 13 = .ok (.iload 4, 2) := by decide +kernel
theorem dX9_draw_15 : decode cX9_draw 15 = .ok (.aload_n 0, 1) := by decide +kernel
theorem dX9_draw_16 : decode cX9_draw 16 = .ok (.getfield 123, 3) := by decide +kernel
theorem dX9_draw_19 : decode cX9_draw 19 = .ok (.if_icmp .ge 47, 3) := by decide +kernel
theorem dX9_draw_22 : decode cX9_draw 22 = .ok (.aload_n 0, 1) := by decide +kernel
theorem dX9_draw_23 : decode cX9_draw 23 = .ok (.getfield 19, 3) := by decide +kernel
theorem dX9_draw_26 : decode cX9_draw 26 = .ok (.bipush 6, 2) := by decide +kernel
theorem dX9_draw_28 : decode cX9_draw 28 = .ok (.iload_n 1, 1) := by decide +kernel
theorem dX9_draw_29 : decode cX9_draw 29 = .ok (.imul, 1) := by decide +kernel
theorem dX9_draw_30 : decode cX9_draw 30 = .ok (.iload 4, 2) := by decide +kernel
theorem dX9_draw_32 : decode cX9_draw 32 = .ok (.iadd, 1) := by decide +kernel
theorem dX9_draw_33 : decode cX9_draw 33 = .ok (.aload_n 0, 1) := by decide +kernel
theorem dX9_draw_34 : decode cX9_draw 34 = .ok (.getfield 7, 3) := by decide +kernel
theorem dX9_draw_37 : decode cX9_draw 37 = .ok (.iload 4, 2) := by decide +kernel
theorem dX9_draw_39 : decode cX9_draw 39 = .ok (.iaload, 1) := by decide +kernel
theorem dX9_draw_40 : decode cX9_draw 40 = .ok (.iastore, 1) := by decide +kernel
theorem dX9_draw_41 : decode cX9_draw 41 = .ok (.aload_n 0, 1) := by decide +kernel
theorem dX9_draw_42 : decode cX9_draw 42 = .ok (.getfield 22, 3) := by decide +kernel
theorem dX9_draw_45 : decode cX9_draw 45 = .ok (.bipush 6, 2) := by decide +kernel
theorem dX9_draw_47 : decode cX9_draw 47 = .ok (.iload_n 1, 1) := by decide +kernel
theorem dX9_draw_48 : decode cX9_draw 48 = .ok (.imul, 1) := by decide +kernel
theorem dX9_draw_49 : decode cX9_draw 49 = .ok (.iload 4, 2) := by decide +kernel
theorem dX9_draw_51 : decode cX9_draw 51 = .ok (.iadd, 1) := by decide +kernel
theorem dX9_draw_52 : decode cX9_draw 52 = .ok (.aload_n 0, 1) := by decide +kernel
theorem dX9_draw_53 : decode cX9_draw 53 = .ok (.getfield 13, 3) := by decide +kernel
theorem dX9_draw_56 : decode cX9_draw 56 = .ok (.iload 4, 2) := by decide +kernel
theorem dX9_draw_58 : decode cX9_draw 58 = .ok (.iaload, 1) := by decide +kernel
theorem dX9_draw_59 : decode cX9_draw 59 = .ok (.iastore, 1) := by decide +kernel
theorem dX9_draw_60 : decode cX9_draw 60 = .ok (.iinc 4 1, 3) := by decide +kernel
theorem dX9_draw_63 : decode cX9_draw 63 = .ok (.goto (-50), 3) := by decide +kernel
theorem dX9_draw_66 : decode cX9_draw 66 = .ok (.aload_n 0, 1) := by decide +kernel
theorem dX9_draw_67 : decode cX9_draw 67 = .ok (.getfield 25, 3) := by decide +kernel
theorem dX9_draw_70 : decode cX9_draw 70 = .ok (.iload_n 1, 1) := by decide +kernel
theorem dX9_draw_71 : decode cX9_draw 71 = .ok (.iload_n 2, 1) := by decide +kernel
theorem dX9_draw_72 : decode cX9_draw 72 = .ok (.iastore, 1) := by decide +kernel
theorem dX9_draw_73 : decode cX9_draw 73 = .ok (.aload_n 0, 1) := by decide +kernel
theorem dX9_draw_74 : decode cX9_draw 74 = .ok (.getfield 28, 3) := by decide +kernel
theorem dX9_draw_77 : decode cX9_draw 77 = .ok (.iload_n 1, 1) := by decide +kernel
theorem dX9_draw_78 : decode cX9_draw 78 = .ok (.iload_n 3, 1) := by decide +kernel
theorem dX9_draw_79 : decode cX9_draw 79 = .ok (.iastore, 1) := by decide +kernel
theorem dX9_draw_80 : decode cX9_draw 80 = .ok (.aload_n 0, 1) := by decide +kernel
theorem dX9_draw_81 : decode cX9_draw 81 = .ok (.getfield 34, 3) := by decide +kernel
theorem dX9_draw_84 : decode cX9_draw 84 = .ok (.iload_n 1, 1) := by decide +kernel
theorem dX9_draw_85 : decode cX9_draw 85 = .ok (.iconst 0, 1) := by decide +kernel
theorem dX9_draw_86 : decode cX9_draw 86 = .ok (.iastore, 1) := by decide +kernel
theorem dX9_draw_87 : decode cX9_draw 87 = .ok (.aload_n 0, 1) := by decide +kernel
theorem dX9_draw_88 : decode cX9_draw 88 = .ok (.iconst 0, 1) := by decide +kernel
theorem dX9_draw_89 : decode cX9_draw 89 = .ok (.putfield 123, 3) := by decide +kernel
theorem dX9_draw_92 : decode cX9_draw 92 = .ok (.return_, 1) := by decide +kernel
theorem dX9_part_0 : decode cX9_part 0 = .ok (.iload_n 1, 1) := by decide +kernel
theorem dX9_part_1 : decode cX9_part 1 = .ok (.iload_n 2, 1) := by decide +kernel
theorem dX9_part_2 : decode cX9_part 2 = .ok (.invokestatic 130, 3) := by decide +kernel
theorem dX9_part_5 : decode cX9_part 5 = .ok (.istore_n 3, 1) := by decide +kernel
theorem dX9_part_6 : decode cX9_part 6 = .ok (.aload_n 0, 1) := by decide +kernel
theorem dX9_part_7 : decode cX9_part 7 = .ok (.iload_n 3, 1) := by decide +kernel
theorem dX9_part_8 : decode cX9_part 8 = .ok (.ifCond .ne 7, 3) := by decide +kernel
theorem dX9_part_11 : decode cX9_part 11 = .ok (.iconst 1, 1) := by decide +kernel
theorem dX9_part_12 : decode cX9_part 12 = .ok (.goto 24, 3) := by decide +kernel
theorem dX9_part_15 : decode cX9_part 15 = .ok (.aload_n 0, 1) := by decide +kernel
theorem dX9_part_16 : decode cX9_part 16 = .ok (.getfield 123, 3) := by decide +kernel
theorem dX9_part_19 : decode cX9_part 19 = .ok (.ifCond .eq 12, 3) := by decide +kernel
theorem dX9_part_22 : decode cX9_part 22 = .ok (.aload_n 0, 1) := by decide +kernel
theorem dX9_part_23 : decode cX9_part 23 = .ok (.getfield 110, 3) := by decide +kernel
theorem dX9_part_26 : decode cX9_part 26 = .ok (.bipush 8, 2) := by decide +kernel
theorem dX9_part_28 : decode cX9_part 28 = .ok (.if_icmp .ne 7, 3) := by decide +kernel
theorem dX9_part_31 : decode cX9_part 31 = .ok (.iconst 2, 1) := by decide +kernel
theorem dX9_part_32 : decode cX9_part 32 = .ok (.goto 4, 3) := by decide +kernel
theorem dX9_part_35 : decode cX9_part 35 = .ok (.iconst 0, 1) := by decide +kernel
theorem dX9_part_36 : decode cX9_part 36 = .ok (.invokevirtual 126, 3) := by decide +kernel
theorem dX9_part_39 : decode cX9_part 39 = .ok (.ifCond .ne 5, 3) := by decide +kernel
theorem dX9_part_42 : decode cX9_part 42 = .ok (.iconst 0, 1) := by decide +kernel
theorem dX9_part_43 : decode cX9_part 43 = .ok (.ireturn, 1) := by decide +kernel
theorem dX9_part_44 : decode cX9_part 44 = .ok (.aload_n 0, 1) := by decide +kernel
theorem dX9_part_45 : decode cX9_part 45 = .ok (.aload_n 0, 1) := by decide +kernel
theorem dX9_part_46 : decode cX9_part 46 = .ok (.getfield 110, 3) := by decide +kernel
theorem dX9_part_49 : decode cX9_part 49 = .ok (.iload_n 1, 1) := by decide +kernel
theorem dX9_part_50 : decode cX9_part 50 = .ok (.iload_n 2, 1) := by decide +kernel
theorem dX9_part_51 : decode cX9_part 51 = .ok (.invokevirtual 134, 3) := by decide +kernel
theorem dX9_part_54 : decode cX9_part 54 = .ok (.aload_n 0, 1) := by decide +kernel
theorem dX9_part_55 : decode cX9_part 55 = .ok (.dup, 1) := by decide +kernel
theorem dX9_part_56 : decode cX9_part 56 = .ok (.getfield 110, 3) := by decide +kernel
theorem dX9_part_59 : decode cX9_part 59 = .ok (.iconst 1, 1) := by decide +kernel
theorem dX9_part_60 : decode cX9_part 60 = .ok (.iadd, 1) := by decide +kernel
theorem dX9_part_61 : decode cX9_part 61 = .ok (.putfield 110, 3) := by decide +kernel
theorem dX9_part_64 : decode cX9_part 64 = .ok (.aload_n 0, 1) := by decide +kernel
theorem dX9_part_65 : decode cX9_part 65 = .ok (.getfield 110, 3) := by decide +kernel
theorem dX9_part_68 : decode cX9_part 68 = .ok (.iconst 1, 1) := by decide +kernel
theorem dX9_part_69 : decode cX9_part 69 = .ok (.isub, 1) := by decide +kernel
theorem dX9_part_70 : decode cX9_part 70 = .ok (.ireturn, 1) := by decide +kernel
theorem dX9_isSame_0 : decode cX9_isSame 0 = .ok (.aload_n 0, 1) := by decide +kernel
theorem dX9_isSame_1 : decode cX9_isSame 1 = .ok (.getfield 16, 3) := by decide +kernel
theorem dX9_isSame_4 : decode cX9_isSame 4 = .ok (.iload_n 1, 1) := by decide +kernel
theorem dX9_isSame_5 : decode cX9_isSame 5 = .ok (.iaload, 1) := by decide +kernel
theorem dX9_isSame_6 : decode cX9_isSame 6 = .ok (.aload_n 0, 1) := by decide +kernel
theorem dX9_isSame_7 : decode cX9_isSame 7 = .ok (.getfield 123, 3) := by decide +kernel
theorem dX9_isSame_10 : decode cX9_isSame 10 = .ok (.if_icmp .ne 27, 3) := by decide +kernel
theorem dX9_isSame_13 : decode cX9_isSame 13 = .ok (.aload_n 0, 1) := by decide +kernel
theorem dX9_isSame_14 : decode cX9_isSame 14 = .ok (.getfield 25, 3) := by decide +kernel
theorem dX9_isSame_17 : decode cX9_isSame 17 = .ok (.iload_n 1, 1) := by decide +kernel
theorem dX9_isSame_18 : decode cX9_isSame 18 = .ok (.iaload, 1) := by decide +kernel
theorem dX9_isSame_19 : decode cX9_isSame 19 = .ok (.iload_n 2, 1) := by decide +kernel
theorem dX9_isSame_20 : decode cX9_isSame 20 = .ok (.if_icmp .ne 17, 3) := by decide +kernel
theorem dX9_isSame_23 : decode cX9_isSame 23 = .ok (.aload_n 0, 1) := by decide +kernel
theorem dX9_isSame_24 : decode cX9_isSame 24 = .ok (.getfield 28, 3) := by decide +kernel
theorem dX9_isSame_27 : decode cX9_isSame 27 = .ok (.iload_n 1, 1) := by decide +kernel
theorem dX9_isSame_28 : decode cX9_isSame 28 = .ok (.iaload, 1) := by decide +kernel
theorem dX9_isSame_29 : decode cX9_isSame 29 = .ok (.iload_n 3, 1) := by decide +kernel
theorem dX9_isSame_30 : decode cX9_isSame 30 = .ok (.if_icmp .ne 7, 3) := by decide +kernel
theorem dX9_isSame_33 : decode cX9_isSame 33 = .ok (.iconst 1, 1) := by decide +kernel
theorem dX9_isSame_34 : decode cX9_isSame 34 = .ok (.goto 4, 3) := by decide +kernel
theorem dX9_isSame_37 : decode cX9_isSame 37 = .ok (.iconst 0, 1) := by decide +kernel
theorem dX9_isSame_38 : decode cX9_isSame 38 = .ok (.istore 4, 2) := by decide +kernel
theorem dX9_isSame_40 : decode cX9_isSame 40 = .ok (.iconst 0, 1) := by decide +kernel
theorem dX9_isSame_41 : decode cX9_isSame 41 = .ok (.istore 5, 2) := by decide +kernel
theorem dX9_isSame_43 : decode cX9_isSame 43 = .ok (.iload 5, 2) := by decide +kernel
theorem dX9_isSame_45 : decode cX9_isSame 45 = .ok (.aload_n 0, 1) := by decide +kernel
theorem dX9_isSame_46 : decode cX9_isSame 46 = .ok (.getfield 123, 3) := by decide +kernel
theorem dX9_isSame_49 : decode cX9_isSame 49 = .ok (.if_icmp .ge 76, 3) := by decide +kernel
theorem dX9_isSame_52 : decode cX9_isSame 52 = .ok (.iload 4, 2) := by decide +kernel
theorem dX9_isSame_54 : decode cX9_isSame 54 = .ok (.ifCond .eq 71, 3) := by decide +kernel
theorem dX9_isSame_57 : decode cX9_isSame 57 = .ok (.aload_n 0, 1) := by decide +kernel
theorem dX9_isSame_58 : decode cX9_isSame 58 = .ok (.getfield 19, 3) := by decide +kernel
theorem dX9_isSame_61 : decode cX9_isSame 61 = .ok (.bipush 6, 2) := by decide +kernel
theorem dX9_isSame_63 : decode cX9_isSame 63 = .ok (.iload_n 1, 1) := by decide +kernel
theorem dX9_isSame_64 : decode cX9_isSame 64 = .ok (.imul, 1) := by decide +kernel
theorem dX9_isSame_65 : decode cX9_isSame 65 = .ok (.iload 5, 2) := by decide +kernel
theorem dX9_isSame_67 : decode cX9_isSame 67 = .ok (.iadd, 1) := by decide +kernel
theorem dX9_isSame_68 : decode cX9_isSame 68 = .ok (.iaload, 1) := by decide +kernel
theorem dX9_isSame_69 : decode cX9_isSame 69 = .ok (.aload_n 0, 1) := by decide +kernel
theorem dX9_isSame_70 : decode cX9_isSame 70 = .ok (.getfield 7, 3) := by decide +kernel
theorem dX9_isSame_73 : decode cX9_isSame 73 = .ok (.iload 5, 2) := by decide +kernel
theorem dX9_isSame_75 : decode cX9_isSame 75 = .ok (.iaload, 1) := by decide +kernel
theorem dX9_isSame_76 : decode cX9_isSame 76 = .ok (.if_icmp .ne 40, 3) := by decide +kernel
theorem dX9_isSame_79 : decode cX9_isSame 79 = .ok (.iload 5, 2) := by decide +kernel
theorem dX9_isSame_81 : decode cX9_isSame 81 = .ok (.iconst 1, 1) := by decide +kernel
theorem dX9_isSame_82 : decode cX9_isSame 82 = .ok (.iadd, 1) := by decide +kernel
theorem dX9_isSame_83 : decode cX9_isSame 83 = .ok (.aload_n 0, 1) := by decide +kernel
theorem dX9_isSame_84 : decode cX9_isSame 84 = .ok (.getfield 123, 3) := by decide +kernel
theorem dX9_isSame_87 : decode cX9_isSame 87 = .ok (.if_icmp .eq 25, 3) := by decide +kernel
theorem dX9_isSame_90 : decode cX9_isSame 90 = .ok (.aload_n 0, 1) := by decide +kernel
theorem dX9_isSame_91 : decode cX9_isSame 91 = .ok (.getfield 22, 3) := by decide +kernel
theorem dX9_isSame_94 : decode cX9_isSame 94 = .ok (.bipush 6, 2) := by decide +kernel
theorem dX9_isSame_96 : decode cX9_isSame 96 = .ok (.iload_n 1, 1) := by decide +kernel
theorem dX9_isSame_97 : decode cX9_isSame 97 = .ok (.imul, 1) := by decide +kernel
theorem dX9_isSame_98 : decode cX9_isSame 98 = .ok (.iload 5, 2) := by decide +kernel
theorem dX9_isSame_100 : decode cX9_isSame 100 = .ok (.iadd, 1) := by decide +kernel
theorem dX9_isSame_101 : decode cX9_isSame 101 = .ok (.iaload, 1) := by decide +kernel
theorem dX9_isSame_102 : decode cX9_isSame 102 = .ok (.aload_n 0, 1) := by decide +kernel
theorem dX9_isSame_103 : decode cX9_isSame 103 = .ok (.getfield 13, 3) := by decide +kernel
theorem dX9_isSame_106 : decode cX9_isSame 106 = .ok (.iload 5, 2) := by decide +kernel
theorem dX9_isSame_108 : decode cX9_isSame 108 = .ok (.iaload, 1) := by decide +kernel
theorem dX9_isSame_109 : decode cX9_isSame 109 = .ok (.if_icmp .ne 7, 3) := by decide +kernel
theorem dX9_isSame_112 : decode cX9_isSame 112 = .ok (.iconst 1, 1) := by decide +kernel
theorem dX9_isSame_113 : decode cX9_isSame 113 = .ok (.goto 4, 3) := by decide +kernel
theorem dX9_isSame_116 : decode cX9_isSame 116 = .ok (.iconst 0, 1) := by decide +kernel
theorem dX9_isSame_117 : decode cX9_isSame 117 = .ok (.istore 4, 2) := by decide +kernel
theorem dX9_isSame_119 : decode cX9_isSame 119 = .ok (.iinc 5 1, 3) := by decide +kernel
theorem dX9_isSame_122 : decode cX9_isSame 122 = .ok (.goto (-79), 3) := by decide +kernel
theorem dX9_isSame_125 : decode cX9_isSame 125 = .ok (.iload 4, 2) := by decide +kernel
theorem dX9_isSame_127 : decode cX9_isSame 127 = .ok (.ireturn, 1) := by decide +kernel
theorem dX9_redraw_0 : decode cX9_redraw 0 = .ok (.aload_n 0, 1) := by decide +kernel
theorem dX9_redraw_1 : decode cX9_redraw 1 = .ok (.iload_n 1, 1) := by decide +kernel
theorem dX9_redraw_2 : decode cX9_redraw 2 = .ok (.invokevirtual 138, 3) := by decide +kernel
theorem dX9_redraw_5 : decode cX9_redraw 5 = .ok (.istore 4, 2) := by decide +kernel
theorem dX9_redraw_7 : decode cX9_redraw 7 = .ok (.aload_n 0, 1) := by decide +kernel
theorem dX9_redraw_8 : decode cX9_redraw 8 = .ok (.iload 4, 2) := by decide +kernel
theorem dX9_redraw_10 : decode cX9_redraw 10 = .ok (.ifCond .ne 7, 3) := by decide +kernel
theorem dX9_redraw_13 : decode cX9_redraw 13 = .ok (.iconst 1, 1) := by decide +kernel
theorem dX9_redraw_14 : decode cX9_redraw 14 = .ok (.goto 27, 3) := by decide +kernel
theorem dX9_redraw_17 : decode cX9_redraw 17 = .ok (.iload_n 2, 1) := by decide +kernel
theorem dX9_redraw_18 : decode cX9_redraw 18 = .ok (.iload_n 3, 1) := by decide +kernel
theorem dX9_redraw_19 : decode cX9_redraw 19 = .ok (.invokestatic 130, 3) := by decide +kernel
theorem dX9_redraw_22 : decode cX9_redraw 22 = .ok (.ifCond .ne 7, 3) := by decide +kernel
theorem dX9_redraw_25 : decode cX9_redraw 25 = .ok (.iconst 2, 1) := by decide +kernel
theorem dX9_redraw_26 : decode cX9_redraw 26 = .ok (.goto 15, 3) := by decide +kernel
theorem dX9_redraw_29 : decode cX9_redraw 29 = .ok (.aload_n 0, 1) := by decide +kernel
theorem dX9_redraw_30 : decode cX9_redraw 30 = .ok (.getfield 123, 3) := by decide +kernel
theorem dX9_redraw_33 : decode cX9_redraw 33 = .ok (.ifCond .ne 7, 3) := by decide +kernel
theorem dX9_redraw_36 : decode cX9_redraw 36 = .ok (.iconst 3, 1) := by decide +kernel
theorem dX9_redraw_37 : decode cX9_redraw 37 = .ok (.goto 4, 3) := by decide +kernel
theorem dX9_redraw_40 : decode cX9_redraw 40 = .ok (.iconst 0, 1) := by decide +kernel
theorem dX9_redraw_41 : decode cX9_redraw 41 = .ok (.invokevirtual 126, 3) := by decide +kernel
theorem dX9_redraw_44 : decode cX9_redraw 44 = .ok (.ifCond .ne 5, 3) := by decide +kernel
theorem dX9_redraw_47 : decode cX9_redraw 47 = .ok (.iconst 0, 1) := by decide +kernel
theorem dX9_redraw_48 : decode cX9_redraw 48 = .ok (.ireturn, 1) := by decide +kernel
theorem dX9_redraw_49 : decode cX9_redraw 49 = .ok (.aload_n 0, 1) := by decide +kernel
theorem dX9_redraw_50 : decode cX9_redraw 50 = .ok (.iload_n 1, 1) := by decide +kernel
theorem dX9_redraw_51 : decode cX9_redraw 51 = .ok (.iload_n 2, 1) := by decide +kernel
theorem dX9_redraw_52 : decode cX9_redraw 52 = .ok (.iload_n 3, 1) := by decide +kernel
theorem dX9_redraw_53 : decode cX9_redraw 53 = .ok (.invokevirtual 141, 3) := by decide +kernel
theorem dX9_redraw_56 : decode cX9_redraw 56 = .ok (.ifCond .eq 16, 3) := by decide +kernel
theorem dX9_redraw_59 : decode cX9_redraw 59 = .ok (.aload_n 0, 1) := by decide +kernel
theorem dX9_redraw_60 : decode cX9_redraw 60 = .ok (.getfield 34, 3) := by decide +kernel
theorem dX9_redraw_63 : decode cX9_redraw 63 = .ok (.iload_n 1, 1) := by decide +kernel
theorem dX9_redraw_64 : decode cX9_redraw 64 = .ok (.iaload, 1) := by decide +kernel
theorem dX9_redraw_65 : decode cX9_redraw 65 = .ok (.ifCond .ne 7, 3) := by decide +kernel
theorem dX9_redraw_68 : decode cX9_redraw 68 = .ok (.iconst 1, 1) := by decide +kernel
theorem dX9_redraw_69 : decode cX9_redraw 69 = .ok (.goto 4, 3) := by decide +kernel
theorem dX9_redraw_72 : decode cX9_redraw 72 = .ok (.iconst 0, 1) := by decide +kernel
theorem dX9_redraw_73 : decode cX9_redraw 73 = .ok (.istore 5, 2) := by decide +kernel
theorem dX9_redraw_75 : decode cX9_redraw 75 = .ok (.aload_n 0, 1) := by decide +kernel
theorem dX9_redraw_76 : decode cX9_redraw 76 = .ok (.getfield 25, 3) := by decide +kernel
theorem dX9_redraw_79 : decode cX9_redraw 79 = .ok (.iload_n 1, 1) := by decide +kernel
theorem dX9_redraw_80 : decode cX9_redraw 80 = .ok (.iaload, 1) := by decide +kernel
theorem dX9_redraw_81 : decode cX9_redraw 81 = .ok (.iload_n 2, 1) := by decide +kernel
theorem dX9_redraw_82 : decode cX9_redraw 82 = .ok (.if_icmp .ne 26, 3) := by decide +kernel
theorem dX9_redraw_85 : decode cX9_redraw 85 = .ok (.aload_n 0, 1) := by decide +kernel
theorem dX9_redraw_86 : decode cX9_redraw 86 = .ok (.getfield 28, 3) := by decide +kernel
theorem dX9_redraw_89 : decode cX9_redraw 89 = .ok (.iload_n 1, 1) := by decide +kernel
theorem dX9_redraw_90 : decode cX9_redraw 90 = .ok (.iaload, 1) := by decide +kernel
theorem dX9_redraw_91 : decode cX9_redraw 91 = .ok (.iload_n 3, 1) := by decide +kernel
theorem dX9_redraw_92 : decode cX9_redraw 92 = .ok (.if_icmp .ne 16, 3) := by decide +kernel
theorem dX9_redraw_95 : decode cX9_redraw 95 = .ok (.aload_n 0, 1) := by decide +kernel
theorem dX9_redraw_96 : decode cX9_redraw 96 = .ok (.getfield 34, 3) := by decide +kernel
theorem dX9_redraw_99 : decode cX9_redraw 99 = .ok (.iload_n 1, 1) := by decide +kernel
theorem dX9_redraw_100 : decode cX9_redraw 100 = .ok (.iaload, 1) := by decide +kernel
theorem dX9_redraw_101 : decode cX9_redraw 101 = .ok (.ifCond .ne 7, 3) := by decide +kernel
theorem dX9_redraw_104 : decode cX9_redraw 104 = .ok (.iconst 1, 1) := by decide +kernel
theorem dX9_redraw_105 : decode cX9_redraw 105 = .ok (.goto 4, 3) := by decide +kernel
theorem dX9_redraw_108 : decode cX9_redraw 108 = .ok (.iconst 0, 1) := by decide +kernel
theorem dX9_redraw_109 : decode cX9_redraw 109 = .ok (.istore 6, 2) := by decide +kernel
theorem dX9_redraw_111 : decode cX9_redraw 111 = .ok (.aload_n 0, 1) := by decide +kernel
theorem dX9_redraw_112 : decode cX9_redraw 112 = .ok (.iload_n 1, 1) := by decide +kernel
theorem dX9_redraw_113 : decode cX9_redraw 113 = .ok (.iload_n 2, 1) := by decide +kernel
theorem dX9_redraw_114 : decode cX9_redraw 114 = .ok (.iload_n 3, 1) := by decide +kernel
theorem dX9_redraw_115 : decode cX9_redraw 115 = .ok (.invokevirtual 134, 3) := by decide +kernel
theorem dX9_redraw_118 : decode cX9_redraw 118 = .ok (.aload_n 0, 1) := by decide +kernel
theorem dX9_redraw_119 : decode cX9_redraw 119 = .ok (.getfield 31, 3) := by decide +kernel
theorem dX9_redraw_122 : decode cX9_redraw 122 = .ok (.iload_n 1, 1) := by decide +kernel
theorem dX9_redraw_123 : decode cX9_redraw 123 = .ok (.dup2, 1) := by decide +kernel
theorem dX9_redraw_124 : decode cX9_redraw 124 = .ok (.iaload, 1) := by decide +kernel
theorem dX9_redraw_125 : decode cX9_redraw 125 = .ok (.iconst 1, 1) := by decide +kernel
theorem dX9_redraw_126 : decode cX9_redraw 126 = .ok (.iadd, 1) := by decide +kernel
theorem dX9_redraw_127 : decode cX9_redraw 127 = .ok (.iastore, 1) := by decide +kernel
theorem dX9_redraw_128 : decode cX9_redraw 128 = .ok (.iconst 0, 1) := by decide +kernel
theorem dX9_redraw_129 : decode cX9_redraw 129 = .ok (.istore 7, 2) := by decide +kernel
theorem dX9_redraw_131 : decode cX9_redraw 131 = .ok (.iconst 0, 1) := by decide +kernel
theorem dX9_redraw_132 : decode cX9_redraw 132 = .ok (.istore 8, 2) := by decide +kernel
theorem dX9_redraw_134 : decode cX9_redraw 134 = .ok (.iload 8, 2) := by decide +kernel
theorem dX9_redraw_136 : decode cX9_redraw 136 = .ok (.aload_n 0, 1) := by decide +kernel
theorem dX9_redraw_137 : decode cX9_redraw 137 = .ok (.getfield 120, 3) := by decide +kernel
theorem dX9_redraw_140 : decode cX9_redraw 140 = .ok (.if_icmp .ge 152, 3) := by decide +kernel
theorem dX9_redraw_143 : decode cX9_redraw 143 = .ok (.aload_n 0, 1) := by decide +kernel
theorem dX9_redraw_144 : decode cX9_redraw 144 = .ok (.getfield 67, 3) := by decide +kernel
theorem dX9_redraw_147 : decode cX9_redraw 147 = .ok (.iload 8, 2) := by decide +kernel
theorem dX9_redraw_149 : decode cX9_redraw 149 = .ok (.iaload, 1) := by decide +kernel
theorem dX9_redraw_150 : decode cX9_redraw 150 = .ok (.iload_n 1, 1) := by decide +kernel
theorem dX9_redraw_151 : decode cX9_redraw 151 = .ok (.if_icmp .ne 135, 3) := by decide +kernel
theorem dX9_redraw_154 : decode cX9_redraw 154 = .ok (.aload_n 0, 1) := by decide +kernel
theorem dX9_redraw_155 : decode cX9_redraw 155 = .ok (.getfield 76, 3) := by decide +kernel
theorem dX9_redraw_158 : decode cX9_redraw 158 = .ok (.iload 8, 2) := by decide +kernel
theorem dX9_redraw_160 : decode cX9_redraw 160 = .ok (.iaload, 1) := by decide +kernel
theorem dX9_redraw_161 : decode cX9_redraw 161 = .ok (.iconst 3, 1) := by decide +kernel
theorem dX9_redraw_162 : decode cX9_redraw 162 = .ok (.if_icmp .eq 124, 3) := by decide +kernel
theorem dX9_redraw_165 : decode cX9_redraw 165 = .ok (.aload_n 0, 1) := by decide +kernel
theorem dX9_redraw_166 : decode cX9_redraw 166 = .ok (.getfield 76, 3) := by decide +kernel
theorem dX9_redraw_169 : decode cX9_redraw 169 = .ok (.iload 8, 2) := by decide +kernel
theorem dX9_redraw_171 : decode cX9_redraw 171 = .ok (.iaload, 1) := by decide +kernel
theorem dX9_redraw_172 : decode cX9_redraw 172 = .ok (.ifCond .ne 38, 3) := by decide +kernel
theorem dX9_redraw_175 : decode cX9_redraw 175 = .ok (.iload 6, 2) := by decide +kernel
theorem dX9_redraw_177 : decode cX9_redraw 177 = .ok (.ifCond .eq 29, 3) := by decide +kernel
theorem dX9_redraw_180 : decode cX9_redraw 180 = .ok (.aload_n 0, 1) := by decide +kernel
theorem dX9_redraw_181 : decode cX9_redraw 181 = .ok (.getfield 82, 3) := by decide +kernel
theorem dX9_redraw_184 : decode cX9_redraw 184 = .ok (.iload 8, 2) := by decide +kernel
theorem dX9_redraw_186 : decode cX9_redraw 186 = .ok (.iaload, 1) := by decide +kernel
theorem dX9_redraw_187 : decode cX9_redraw 187 = .ok (.aload_n 0, 1) := by decide +kernel
theorem dX9_redraw_188 : decode cX9_redraw 188 = .ok (.iload_n 1, 1) := by decide +kernel
theorem dX9_redraw_189 : decode cX9_redraw 189 = .ok (.aload_n 0, 1) := by decide +kernel
theorem dX9_redraw_190 : decode cX9_redraw 190 = .ok (.getfield 70, 3) := by decide +kernel
theorem dX9_redraw_193 : decode cX9_redraw 193 = .ok (.iload 8, 2) := by decide +kernel
theorem dX9_redraw_195 : decode cX9_redraw 195 = .ok (.iaload, 1) := by decide +kernel
theorem dX9_redraw_196 : decode cX9_redraw 196 = .ok (.invokevirtual 144, 3) := by decide +kernel
theorem dX9_redraw_199 : decode cX9_redraw 199 = .ok (.if_icmp .ne 7, 3) := by decide +kernel
theorem dX9_redraw_202 : decode cX9_redraw 202 = .ok (.iconst 1, 1) := by decide +kernel
theorem dX9_redraw_203 : decode cX9_redraw 203 = .ok (.goto 9, 3) := by decide +kernel
theorem dX9_redraw_206 : decode cX9_redraw 206 = .ok (.iconst 0, 1) := by decide +kernel
theorem dX9_redraw_207 : decode cX9_redraw 207 = .ok (.goto 5, 3) := by decide +kernel
theorem dX9_redraw_210 : decode cX9_redraw 210 = .ok (.iload 5, 2) := by decide +kernel
theorem dX9_redraw_212 : decode cX9_redraw 212 = .ok (.istore 9, 2) := by decide +kernel
theorem dX9_redraw_214 : decode cX9_redraw 214 = .ok (.aload_n 0, 1) := by decide +kernel
theorem dX9_redraw_215 : decode cX9_redraw 215 = .ok (.getfield 79, 3) := by decide +kernel
theorem dX9_redraw_218 : decode cX9_redraw 218 = .ok (.iload 8, 2) := by decide +kernel
theorem dX9_redraw_220 : decode cX9_redraw 220 = .ok (.iload 9, 2) := by decide +kernel
theorem dX9_redraw_222 : decode cX9_redraw 222 = .ok (.ifCond .eq 12, 3) := by decide +kernel
theorem dX9_redraw_225 : decode cX9_redraw 225 = .ok (.aload_n 0, 1) := by decide +kernel
theorem dX9_redraw_226 : decode cX9_redraw 226 = .ok (.getfield 31, 3) := by decide +kernel
theorem dX9_redraw_229 : decode cX9_redraw 229 = .ok (.iload_n 1, 1) := by decide +kernel
theorem dX9_redraw_230 : decode cX9_redraw 230 = .ok (.iaload, 1) := by decide +kernel
theorem dX9_redraw_231 : decode cX9_redraw 231 = .ok (.goto 10, 3) := by decide +kernel
theorem dX9_redraw_234 : decode cX9_redraw 234 = .ok (.aload_n 0, 1) := by decide +kernel
theorem dX9_redraw_235 : decode cX9_redraw 235 = .ok (.getfield 79, 3) := by decide +kernel
theorem dX9_redraw_238 : decode cX9_redraw 238 = .ok (.iload 8, 2) := by decide +kernel
theorem dX9_redraw_240 : decode cX9_redraw 240 = .ok (.iaload, 1) := by decide +kernel
theorem dX9_redraw_241 : decode cX9_redraw 241 = .ok (.iastore, 1) := by decide +kernel
theorem dX9_redraw_242 : decode cX9_redraw 242 = .ok (.aload_n 0, 1) := by decide +kernel
theorem dX9_redraw_243 : decode cX9_redraw 243 = .ok (.getfield 76, 3) := by decide +kernel
theorem dX9_redraw_246 : decode cX9_redraw 246 = .ok (.iload 8, 2) := by decide +kernel
theorem dX9_redraw_248 : decode cX9_redraw 248 = .ok (.iload 9, 2) := by decide +kernel
theorem dX9_redraw_250 : decode cX9_redraw 250 = .ok (.ifCond .eq 13, 3) := by decide +kernel
theorem dX9_redraw_253 : decode cX9_redraw 253 = .ok (.aload_n 0, 1) := by decide +kernel
theorem dX9_redraw_254 : decode cX9_redraw 254 = .ok (.getfield 76, 3) := by decide +kernel
theorem dX9_redraw_257 : decode cX9_redraw 257 = .ok (.iload 8, 2) := by decide +kernel
theorem dX9_redraw_259 : decode cX9_redraw 259 = .ok (.iaload, 1) := by decide +kernel
theorem dX9_redraw_260 : decode cX9_redraw 260 = .ok (.goto 4, 3) := by decide +kernel
theorem dX9_redraw_263 : decode cX9_redraw 263 = .ok (.iconst 3, 1) := by decide +kernel
theorem dX9_redraw_264 : decode cX9_redraw 264 = .ok (.iastore, 1) := by decide +kernel
theorem dX9_redraw_265 : decode cX9_redraw 265 = .ok (.iload 7, 2) := by decide +kernel
theorem dX9_redraw_267 : decode cX9_redraw 267 = .ok (.iload 9, 2) := by decide +kernel
theorem dX9_redraw_269 : decode cX9_redraw 269 = .ok (.ifCond .eq 7, 3) := by decide +kernel
theorem dX9_redraw_272 : decode cX9_redraw 272 = .ok (.iconst 0, 1) := by decide +kernel
theorem dX9_redraw_273 : decode cX9_redraw 273 = .ok (.goto 10, 3) := by decide +kernel
theorem dX9_redraw_276 : decode cX9_redraw 276 = .ok (.aload_n 0, 1) := by decide +kernel
theorem dX9_redraw_277 : decode cX9_redraw 277 = .ok (.getfield 73, 3) := by decide +kernel
theorem dX9_redraw_280 : decode cX9_redraw 280 = .ok (.iload 8, 2) := by decide +kernel
theorem dX9_redraw_282 : decode cX9_redraw 282 = .ok (.iaload, 1) := by decide +kernel
theorem dX9_redraw_283 : decode cX9_redraw 283 = .ok (.iadd, 1) := by decide +kernel
theorem dX9_redraw_284 : decode cX9_redraw 284 = .ok (.istore 7, 2) := by decide +kernel
theorem dX9_redraw_286 : decode cX9_redraw 286 = .ok (.iinc 8 1, 3) := by decide +kernel
theorem dX9_redraw_289 : decode cX9_redraw 289 = .ok (.goto (-155), 3) := by decide +kernel
theorem dX9_redraw_292 : decode cX9_redraw 292 = .ok (.iload 7, 2) := by decide +kernel
theorem dX9_redraw_294 : decode cX9_redraw 294 = .ok (.ireturn, 1) := by decide +kernel
theorem dX9_hole_0 : decode cX9_hole 0 = .ok (.aload_n 0, 1) := by decide +kernel
theorem dX9_hole_1 : decode cX9_hole 1 = .ok (.iload_n 1, 1) := by decide +kernel
theorem dX9_hole_2 : decode cX9_hole 2 = .ok (.invokevirtual 138, 3) := by decide +kernel
theorem dX9_hole_5 : decode cX9_hole 5 = .ok (.ifCond .eq 23, 3) := by decide +kernel
theorem dX9_hole_8 : decode cX9_hole 8 = .ok (.iload_n 2, 1) := by decide +kernel
theorem dX9_hole_9 : decode cX9_hole 9 = .ok (.iconst 0, 1) := by decide +kernel
theorem dX9_hole_10 : decode cX9_hole 10 = .ok (.aload_n 0, 1) := by decide +kernel
theorem dX9_hole_11 : decode cX9_hole 11 = .ok (.getfield 16, 3) := by decide +kernel
theorem dX9_hole_14 : decode cX9_hole 14 = .ok (.iload_n 1, 1) := by decide +kernel
theorem dX9_hole_15 : decode cX9_hole 15 = .ok (.iaload, 1) := by decide +kernel
theorem dX9_hole_16 : decode cX9_hole 16 = .ok (.iconst 1, 1) := by decide +kernel
theorem dX9_hole_17 : decode cX9_hole 17 = .ok (.isub, 1) := by decide +kernel
theorem dX9_hole_18 : decode cX9_hole 18 = .ok (.invokestatic 113, 3) := by decide +kernel
theorem dX9_hole_21 : decode cX9_hole 21 = .ok (.ifCond .eq 7, 3) := by decide +kernel
theorem dX9_hole_24 : decode cX9_hole 24 = .ok (.iconst 1, 1) := by decide +kernel
theorem dX9_hole_25 : decode cX9_hole 25 = .ok (.goto 4, 3) := by decide +kernel
theorem dX9_hole_28 : decode cX9_hole 28 = .ok (.iconst 0, 1) := by decide +kernel
theorem dX9_hole_29 : decode cX9_hole 29 = .ok (.istore 5, 2) := by decide +kernel
theorem dX9_hole_31 : decode cX9_hole 31 = .ok (.iload 5, 2) := by decide +kernel
theorem dX9_hole_33 : decode cX9_hole 33 = .ok (.ifCond .eq 39, 3) := by decide +kernel
theorem dX9_hole_36 : decode cX9_hole 36 = .ok (.iload_n 3, 1) := by decide +kernel
theorem dX9_hole_37 : decode cX9_hole 37 = .ok (.iconst 1, 1) := by decide +kernel
theorem dX9_hole_38 : decode cX9_hole 38 = .ok (.aload_n 0, 1) := by decide +kernel
theorem dX9_hole_39 : decode cX9_hole 39 = .ok (.getfield 19, 3) := by decide +kernel
theorem dX9_hole_42 : decode cX9_hole 42 = .ok (.bipush 6, 2) := by decide +kernel
theorem dX9_hole_44 : decode cX9_hole 44 = .ok (.iload_n 1, 1) := by decide +kernel
theorem dX9_hole_45 : decode cX9_hole 45 = .ok (.imul, 1) := by decide +kernel
theorem dX9_hole_46 : decode cX9_hole 46 = .ok (.iload_n 2, 1) := by decide +kernel
theorem dX9_hole_47 : decode cX9_hole 47 = .ok (.iadd, 1) := by decide +kernel
theorem dX9_hole_48 : decode cX9_hole 48 = .ok (.iaload, 1) := by decide +kernel
theorem dX9_hole_49 : decode cX9_hole 49 = .ok (.iconst 1, 1) := by decide +kernel
theorem dX9_hole_50 : decode cX9_hole 50 = .ok (.isub, 1) := by decide +kernel
theorem dX9_hole_51 : decode cX9_hole 51 = .ok (.invokestatic 113, 3) := by decide +kernel
theorem dX9_hole_54 : decode cX9_hole 54 = .ok (.ifCond .eq 18, 3) := by decide +kernel
theorem dX9_hole_57 : decode cX9_hole 57 = .ok (.iload 4, 2) := by decide +kernel
theorem dX9_hole_59 : decode cX9_hole 59 = .ok (.iconst 1, 1) := by decide +kernel
theorem dX9_hole_60 : decode cX9_hole 60 = .ok (.bipush 20, 2) := by decide +kernel
theorem dX9_hole_62 : decode cX9_hole 62 = .ok (.invokestatic 113, 3) := by decide +kernel
theorem dX9_hole_65 : decode cX9_hole 65 = .ok (.ifCond .eq 7, 3) := by decide +kernel
theorem dX9_hole_68 : decode cX9_hole 68 = .ok (.iconst 1, 1) := by decide +kernel
theorem dX9_hole_69 : decode cX9_hole 69 = .ok (.goto 4, 3) := by decide +kernel
theorem dX9_hole_72 : decode cX9_hole 72 = .ok (.iconst 0, 1) := by decide +kernel
theorem dX9_hole_73 : decode cX9_hole 73 = .ok (.istore 6, 2) := by decide +kernel
theorem dX9_hole_75 : decode cX9_hole 75 = .ok (.iconst 1, 1) := by decide +kernel
theorem dX9_hole_76 : decode cX9_hole 76 = .ok (.istore 7, 2) := by decide +kernel
theorem dX9_hole_78 : decode cX9_hole 78 = .ok (.iconst 0, 1) := by decide +kernel
theorem dX9_hole_79 : decode cX9_hole 79 = .ok (.istore 8, 2) := by decide +kernel
theorem dX9_hole_81 : decode cX9_hole 81 = .ok (.iload 8, 2) := by decide +kernel
theorem dX9_hole_83 : decode cX9_hole 83 = .ok (.aload_n 0, 1) := by decide +kernel
theorem dX9_hole_84 : decode cX9_hole 84 = .ok (.getfield 120, 3) := by decide +kernel
theorem dX9_hole_87 : decode cX9_hole 87 = .ok (.if_icmp .ge 43, 3) := by decide +kernel
theorem dX9_hole_90 : decode cX9_hole 90 = .ok (.iload 7, 2) := by decide +kernel
theorem dX9_hole_92 : decode cX9_hole 92 = .ok (.ifCond .eq 29, 3) := by decide +kernel
theorem dX9_hole_95 : decode cX9_hole 95 = .ok (.aload_n 0, 1) := by decide +kernel
theorem dX9_hole_96 : decode cX9_hole 96 = .ok (.getfield 67, 3) := by decide +kernel
theorem dX9_hole_99 : decode cX9_hole 99 = .ok (.iload 8, 2) := by decide +kernel
theorem dX9_hole_101 : decode cX9_hole 101 = .ok (.iaload, 1) := by decide +kernel
theorem dX9_hole_102 : decode cX9_hole 102 = .ok (.iload_n 1, 1) := by decide +kernel
theorem dX9_hole_103 : decode cX9_hole 103 = .ok (.if_icmp .ne 14, 3) := by decide +kernel
theorem dX9_hole_106 : decode cX9_hole 106 = .ok (.aload_n 0, 1) := by decide +kernel
theorem dX9_hole_107 : decode cX9_hole 107 = .ok (.getfield 76, 3) := by decide +kernel
theorem dX9_hole_110 : decode cX9_hole 110 = .ok (.iload 8, 2) := by decide +kernel
theorem dX9_hole_112 : decode cX9_hole 112 = .ok (.iaload, 1) := by decide +kernel
theorem dX9_hole_113 : decode cX9_hole 113 = .ok (.iconst 3, 1) := by decide +kernel
theorem dX9_hole_114 : decode cX9_hole 114 = .ok (.if_icmp .ne 7, 3) := by decide +kernel
theorem dX9_hole_117 : decode cX9_hole 117 = .ok (.iconst 1, 1) := by decide +kernel
theorem dX9_hole_118 : decode cX9_hole 118 = .ok (.goto 4, 3) := by decide +kernel
theorem dX9_hole_121 : decode cX9_hole 121 = .ok (.iconst 0, 1) := by decide +kernel
theorem dX9_hole_122 : decode cX9_hole 122 = .ok (.istore 7, 2) := by decide +kernel
theorem dX9_hole_124 : decode cX9_hole 124 = .ok (.iinc 8 1, 3) := by decide +kernel
theorem dX9_hole_127 : decode cX9_hole 127 = .ok (.goto (-46), 3) := by decide +kernel
theorem dX9_hole_130 : decode cX9_hole 130 = .ok (.aload_n 0, 1) := by decide +kernel
theorem dX9_hole_131 : decode cX9_hole 131 = .ok (.iload 5, 2) := by decide +kernel
theorem dX9_hole_133 : decode cX9_hole 133 = .ok (.ifCond .ne 7, 3) := by decide +kernel
theorem dX9_hole_136 : decode cX9_hole 136 = .ok (.iconst 1, 1) := by decide +kernel
theorem dX9_hole_137 : decode cX9_hole 137 = .ok (.goto 33, 3) := by decide +kernel
theorem dX9_hole_140 : decode cX9_hole 140 = .ok (.iload 6, 2) := by decide +kernel
theorem dX9_hole_142 : decode cX9_hole 142 = .ok (.ifCond .ne 7, 3) := by decide +kernel
theorem dX9_hole_145 : decode cX9_hole 145 = .ok (.iconst 2, 1) := by decide +kernel
theorem dX9_hole_146 : decode cX9_hole 146 = .ok (.goto 24, 3) := by decide +kernel
theorem dX9_hole_149 : decode cX9_hole 149 = .ok (.aload_n 0, 1) := by decide +kernel
theorem dX9_hole_150 : decode cX9_hole 150 = .ok (.getfield 34, 3) := by decide +kernel
theorem dX9_hole_153 : decode cX9_hole 153 = .ok (.iload_n 1, 1) := by decide +kernel
theorem dX9_hole_154 : decode cX9_hole 154 = .ok (.iaload, 1) := by decide +kernel
theorem dX9_hole_155 : decode cX9_hole 155 = .ok (.bipush 6, 2) := by decide +kernel
theorem dX9_hole_157 : decode cX9_hole 157 = .ok (.if_icmp .eq 8, 3) := by decide +kernel
theorem dX9_hole_160 : decode cX9_hole 160 = .ok (.iload 7, 2) := by decide +kernel
theorem dX9_hole_162 : decode cX9_hole 162 = .ok (.ifCond .ne 7, 3) := by decide +kernel
theorem dX9_hole_165 : decode cX9_hole 165 = .ok (.iconst 3, 1) := by decide +kernel
theorem dX9_hole_166 : decode cX9_hole 166 = .ok (.goto 4, 3) := by decide +kernel
theorem dX9_hole_169 : decode cX9_hole 169 = .ok (.iconst 0, 1) := by decide +kernel
theorem dX9_hole_170 : decode cX9_hole 170 = .ok (.invokevirtual 126, 3) := by decide +kernel
theorem dX9_hole_173 : decode cX9_hole 173 = .ok (.ifCond .ne 5, 3) := by decide +kernel
theorem dX9_hole_176 : decode cX9_hole 176 = .ok (.iconst 0, 1) := by decide +kernel
theorem dX9_hole_177 : decode cX9_hole 177 = .ok (.ireturn, 1) := by decide +kernel
theorem dX9_hole_178 : decode cX9_hole 178 = .ok (.bipush 6, 2) := by decide +kernel
theorem dX9_hole_180 : decode cX9_hole 180 = .ok (.iload_n 1, 1) := by decide +kernel
theorem dX9_hole_181 : decode cX9_hole 181 = .ok (.imul, 1) := by decide +kernel
theorem dX9_hole_182 : decode cX9_hole 182 = .ok (.aload_n 0, 1) := by decide +kernel
theorem dX9_hole_183 : decode cX9_hole 183 = .ok (.getfield 34, 3) := by decide +kernel
theorem dX9_hole_186 : decode cX9_hole 186 = .ok (.iload_n 1, 1) := by decide +kernel
theorem dX9_hole_187 : decode cX9_hole 187 = .ok (.iaload, 1) := by decide +kernel
theorem dX9_hole_188 : decode cX9_hole 188 = .ok (.iadd, 1) := by decide +kernel
theorem dX9_hole_189 : decode cX9_hole 189 = .ok (.istore 8, 2) := by decide +kernel
theorem dX9_hole_191 : decode cX9_hole 191 = .ok (.aload_n 0, 1) := by decide +kernel
theorem dX9_hole_192 : decode cX9_hole 192 = .ok (.getfield 37, 3) := by decide +kernel
theorem dX9_hole_195 : decode cX9_hole 195 = .ok (.iload 8, 2) := by decide +kernel
theorem dX9_hole_197 : decode cX9_hole 197 = .ok (.iload_n 2, 1) := by decide +kernel
theorem dX9_hole_198 : decode cX9_hole 198 = .ok (.iastore, 1) := by decide +kernel
theorem dX9_hole_199 : decode cX9_hole 199 = .ok (.aload_n 0, 1) := by decide +kernel
theorem dX9_hole_200 : decode cX9_hole 200 = .ok (.getfield 40, 3) := by decide +kernel
theorem dX9_hole_203 : decode cX9_hole 203 = .ok (.iload 8, 2) := by decide +kernel
theorem dX9_hole_205 : decode cX9_hole 205 = .ok (.iload_n 3, 1) := by decide +kernel
theorem dX9_hole_206 : decode cX9_hole 206 = .ok (.iastore, 1) := by decide +kernel
theorem dX9_hole_207 : decode cX9_hole 207 = .ok (.aload_n 0, 1) := by decide +kernel
theorem dX9_hole_208 : decode cX9_hole 208 = .ok (.getfield 43, 3) := by decide +kernel
theorem dX9_hole_211 : decode cX9_hole 211 = .ok (.iload 8, 2) := by decide +kernel
theorem dX9_hole_213 : decode cX9_hole 213 = .ok (.iload 4, 2) := by decide +kernel
theorem dX9_hole_215 : decode cX9_hole 215 = .ok (.iastore, 1) := by decide +kernel
theorem dX9_hole_216 : decode cX9_hole 216 = .ok (.aload_n 0, 1) := by decide +kernel
theorem dX9_hole_217 : decode cX9_hole 217 = .ok (.getfield 34, 3) := by decide +kernel
theorem dX9_hole_220 : decode cX9_hole 220 = .ok (.iload_n 1, 1) := by decide +kernel
theorem dX9_hole_221 : decode cX9_hole 221 = .ok (.dup2, 1) := by decide +kernel
theorem dX9_hole_222 : decode cX9_hole 222 = .ok (.iaload, 1) := by decide +kernel
theorem dX9_hole_223 : decode cX9_hole 223 = .ok (.iconst 1, 1) := by decide +kernel
theorem dX9_hole_224 : decode cX9_hole 224 = .ok (.iadd, 1) := by decide +kernel
theorem dX9_hole_225 : decode cX9_hole 225 = .ok (.iastore, 1) := by decide +kernel
theorem dX9_hole_226 : decode cX9_hole 226 = .ok (.aload_n 0, 1) := by decide +kernel
theorem dX9_hole_227 : decode cX9_hole 227 = .ok (.getfield 34, 3) := by decide +kernel
theorem dX9_hole_230 : decode cX9_hole 230 = .ok (.iload_n 1, 1) := by decide +kernel
theorem dX9_hole_231 : decode cX9_hole 231 = .ok (.iaload, 1) := by decide +kernel
theorem dX9_hole_232 : decode cX9_hole 232 = .ok (.iconst 1, 1) := by decide +kernel
theorem dX9_hole_233 : decode cX9_hole 233 = .ok (.isub, 1) := by decide +kernel
theorem dX9_hole_234 : decode cX9_hole 234 = .ok (.ireturn, 1) := by decide +kernel
theorem dX9_isClose_0 : decode cX9_isClose 0 = .ok (.aload_n 0, 1) := by decide +kernel
theorem dX9_isClose_1 : decode cX9_isClose 1 = .ok (.getfield 37, 3) := by decide +kernel
theorem dX9_isClose_4 : decode cX9_isClose 4 = .ok (.bipush 6, 2) := by decide +kernel
theorem dX9_isClose_6 : decode cX9_isClose 6 = .ok (.iload_n 1, 1) := by decide +kernel
theorem dX9_isClose_7 : decode cX9_isClose 7 = .ok (.imul, 1) := by decide +kernel
theorem dX9_isClose_8 : decode cX9_isClose 8 = .ok (.iload_n 2, 1) := by decide +kernel
theorem dX9_isClose_9 : decode cX9_isClose 9 = .ok (.iadd, 1) := by decide +kernel
theorem dX9_isClose_10 : decode cX9_isClose 10 = .ok (.iaload, 1) := by decide +kernel
theorem dX9_isClose_11 : decode cX9_isClose 11 = .ok (.istore_n 3, 1) := by decide +kernel
theorem dX9_isClose_12 : decode cX9_isClose 12 = .ok (.aload_n 0, 1) := by decide +kernel
theorem dX9_isClose_13 : decode cX9_isClose 13 = .ok (.getfield 40, 3) := by decide +kernel
theorem dX9_isClose_16 : decode cX9_isClose 16 = .ok (.bipush 6, 2) := by decide +kernel
theorem dX9_isClose_18 : decode cX9_isClose 18 = .ok (.iload_n 1, 1) := by decide +kernel
theorem dX9_isClose_19 : decode cX9_isClose 19 = .ok (.imul, 1) := by decide +kernel
theorem dX9_isClose_20 : decode cX9_isClose 20 = .ok (.iload_n 2, 1) := by decide +kernel
theorem dX9_isClose_21 : decode cX9_isClose 21 = .ok (.iadd, 1) := by decide +kernel
theorem dX9_isClose_22 : decode cX9_isClose 22 = .ok (.iaload, 1) := by decide +kernel
theorem dX9_isClose_23 : decode cX9_isClose 23 = .ok (.istore 4, 2) := by decide +kernel
theorem dX9_isClose_25 : decode cX9_isClose 25 = .ok (.iconst 2, 1) := by decide +kernel
theorem dX9_isClose_26 : decode cX9_isClose 26 = .ok (.aload_n 0, 1) := by decide +kernel
theorem dX9_isClose_27 : decode cX9_isClose 27 = .ok (.getfield 28, 3) := by decide +kernel
theorem dX9_isClose_30 : decode cX9_isClose 30 = .ok (.iload_n 1, 1) := by decide +kernel
theorem dX9_isClose_31 : decode cX9_isClose 31 = .ok (.iaload, 1) := by decide +kernel
theorem dX9_isClose_32 : decode cX9_isClose 32 = .ok (.imul, 1) := by decide +kernel
theorem dX9_isClose_33 : decode cX9_isClose 33 = .ok (.aload_n 0, 1) := by decide +kernel
theorem dX9_isClose_34 : decode cX9_isClose 34 = .ok (.getfield 43, 3) := by decide +kernel
theorem dX9_isClose_37 : decode cX9_isClose 37 = .ok (.bipush 6, 2) := by decide +kernel
theorem dX9_isClose_39 : decode cX9_isClose 39 = .ok (.iload_n 1, 1) := by decide +kernel
theorem dX9_isClose_40 : decode cX9_isClose 40 = .ok (.imul, 1) := by decide +kernel
theorem dX9_isClose_41 : decode cX9_isClose 41 = .ok (.iload_n 2, 1) := by decide +kernel
theorem dX9_isClose_42 : decode cX9_isClose 42 = .ok (.iadd, 1) := by decide +kernel
theorem dX9_isClose_43 : decode cX9_isClose 43 = .ok (.iaload, 1) := by decide +kernel
theorem dX9_isClose_44 : decode cX9_isClose 44 = .ok (.iconst 2, 1) := by decide +kernel
theorem dX9_isClose_45 : decode cX9_isClose 45 = .ok (.idiv, 1) := by decide +kernel
theorem dX9_isClose_46 : decode cX9_isClose 46 = .ok (.iadd, 1) := by decide +kernel
theorem dX9_isClose_47 : decode cX9_isClose 47 = .ok (.istore 5, 2) := by decide +kernel
theorem dX9_isClose_49 : decode cX9_isClose 49 = .ok (.iload_n 3, 1) := by decide +kernel
theorem dX9_isClose_50 : decode cX9_isClose 50 = .ok (.ifCond .le 10, 3) := by decide +kernel
theorem dX9_isClose_53 : decode cX9_isClose 53 = .ok (.iload 4, 2) := by decide +kernel
theorem dX9_isClose_55 : decode cX9_isClose 55 = .ok (.iload 5, 2) := by decide +kernel
theorem dX9_isClose_57 : decode cX9_isClose 57 = .ok (.if_icmp .lt 34, 3) := by decide +kernel
theorem dX9_isClose_60 : decode cX9_isClose 60 = .ok (.iload_n 3, 1) := by decide +kernel
theorem dX9_isClose_61 : decode cX9_isClose 61 = .ok (.iconst 1, 1) := by decide +kernel
theorem dX9_isClose_62 : decode cX9_isClose 62 = .ok (.iadd, 1) := by decide +kernel
theorem dX9_isClose_63 : decode cX9_isClose 63 = .ok (.aload_n 0, 1) := by decide +kernel
theorem dX9_isClose_64 : decode cX9_isClose 64 = .ok (.getfield 16, 3) := by decide +kernel
theorem dX9_isClose_67 : decode cX9_isClose 67 = .ok (.iload_n 1, 1) := by decide +kernel
theorem dX9_isClose_68 : decode cX9_isClose 68 = .ok (.iaload, 1) := by decide +kernel
theorem dX9_isClose_69 : decode cX9_isClose 69 = .ok (.if_icmp .ge 26, 3) := by decide +kernel
theorem dX9_isClose_72 : decode cX9_isClose 72 = .ok (.aload_n 0, 1) := by decide +kernel
theorem dX9_isClose_73 : decode cX9_isClose 73 = .ok (.getfield 19, 3) := by decide +kernel
theorem dX9_isClose_76 : decode cX9_isClose 76 = .ok (.bipush 6, 2) := by decide +kernel
theorem dX9_isClose_78 : decode cX9_isClose 78 = .ok (.iload_n 1, 1) := by decide +kernel
theorem dX9_isClose_79 : decode cX9_isClose 79 = .ok (.imul, 1) := by decide +kernel
theorem dX9_isClose_80 : decode cX9_isClose 80 = .ok (.iload_n 3, 1) := by decide +kernel
theorem dX9_isClose_81 : decode cX9_isClose 81 = .ok (.iadd, 1) := by decide +kernel
theorem dX9_isClose_82 : decode cX9_isClose 82 = .ok (.iaload, 1) := by decide +kernel
theorem dX9_isClose_83 : decode cX9_isClose 83 = .ok (.iload 4, 2) := by decide +kernel
theorem dX9_isClose_85 : decode cX9_isClose 85 = .ok (.isub, 1) := by decide +kernel
theorem dX9_isClose_86 : decode cX9_isClose 86 = .ok (.iload 5, 2) := by decide +kernel
theorem dX9_isClose_88 : decode cX9_isClose 88 = .ok (.if_icmp .ge 7, 3) := by decide +kernel
theorem dX9_isClose_91 : decode cX9_isClose 91 = .ok (.iconst 1, 1) := by decide +kernel
theorem dX9_isClose_92 : decode cX9_isClose 92 = .ok (.goto 4, 3) := by decide +kernel
theorem dX9_isClose_95 : decode cX9_isClose 95 = .ok (.iconst 0, 1) := by decide +kernel
theorem dX9_isClose_96 : decode cX9_isClose 96 = .ok (.ireturn, 1) := by decide +kernel
theorem dX9_isNear_0 : decode cX9_isNear 0 = .ok (.aload_n 0, 1) := by decide +kernel
theorem dX9_isNear_1 : decode cX9_isNear 1 = .ok (.aload_n 0, 1) := by decide +kernel
theorem dX9_isNear_2 : decode cX9_isNear 2 = .ok (.iload_n 1, 1) := by decide +kernel
theorem dX9_isNear_3 : decode cX9_isNear 3 = .ok (.invokevirtual 138, 3) := by decide +kernel
theorem dX9_isNear_6 : decode cX9_isNear 6 = .ok (.ifCond .eq 23, 3) := by decide +kernel
theorem dX9_isNear_9 : decode cX9_isNear 9 = .ok (.iload_n 2, 1) := by decide +kernel
theorem dX9_isNear_10 : decode cX9_isNear 10 = .ok (.iconst 0, 1) := by decide +kernel
theorem dX9_isNear_11 : decode cX9_isNear 11 = .ok (.aload_n 0, 1) := by decide +kernel
theorem dX9_isNear_12 : decode cX9_isNear 12 = .ok (.getfield 34, 3) := by decide +kernel
theorem dX9_isNear_15 : decode cX9_isNear 15 = .ok (.iload_n 1, 1) := by decide +kernel
theorem dX9_isNear_16 : decode cX9_isNear 16 = .ok (.iaload, 1) := by decide +kernel
theorem dX9_isNear_17 : decode cX9_isNear 17 = .ok (.iconst 1, 1) := by decide +kernel
theorem dX9_isNear_18 : decode cX9_isNear 18 = .ok (.isub, 1) := by decide +kernel
theorem dX9_isNear_19 : decode cX9_isNear 19 = .ok (.invokestatic 113, 3) := by decide +kernel
theorem dX9_isNear_22 : decode cX9_isNear 22 = .ok (.ifCond .eq 7, 3) := by decide +kernel
theorem dX9_isNear_25 : decode cX9_isNear 25 = .ok (.iconst 0, 1) := by decide +kernel
theorem dX9_isNear_26 : decode cX9_isNear 26 = .ok (.goto 4, 3) := by decide +kernel
theorem dX9_isNear_29 : decode cX9_isNear 29 = .ok (.iconst 1, 1) := by decide +kernel
theorem dX9_isNear_30 : decode cX9_isNear 30 = .ok (.invokevirtual 126, 3) := by decide +kernel
theorem dX9_isNear_33 : decode cX9_isNear 33 = .ok (.ifCond .eq 16, 3) := by decide +kernel
theorem dX9_isNear_36 : decode cX9_isNear 36 = .ok (.aload_n 0, 1) := by decide +kernel
theorem dX9_isNear_37 : decode cX9_isNear 37 = .ok (.iload_n 1, 1) := by decide +kernel
theorem dX9_isNear_38 : decode cX9_isNear 38 = .ok (.iload_n 2, 1) := by decide +kernel
theorem dX9_isNear_39 : decode cX9_isNear 39 = .ok (.invokevirtual 148, 3) := by decide +kernel
theorem dX9_isNear_42 : decode cX9_isNear 42 = .ok (.ifCond .eq 7, 3) := by decide +kernel
theorem dX9_isNear_45 : decode cX9_isNear 45 = .ok (.iconst 1, 1) := by decide +kernel
theorem dX9_isNear_46 : decode cX9_isNear 46 = .ok (.goto 4, 3) := by decide +kernel
theorem dX9_isNear_49 : decode cX9_isNear 49 = .ok (.iconst 0, 1) := by decide +kernel
theorem dX9_isNear_50 : decode cX9_isNear 50 = .ok (.ireturn, 1) := by decide +kernel
theorem dX9_told_0 : decode cX9_told 0 = .ok (.aload_n 0, 1) := by decide +kernel
theorem dX9_told_1 : decode cX9_told 1 = .ok (.iload_n 1, 1) := by decide +kernel
theorem dX9_told_2 : decode cX9_told 2 = .ok (.invokevirtual 138, 3) := by decide +kernel
theorem dX9_told_5 : decode cX9_told 5 = .ok (.istore_n 3, 1) := by decide +kernel
theorem dX9_told_6 : decode cX9_told 6 = .ok (.aload_n 0, 1) := by decide +kernel
theorem dX9_told_7 : decode cX9_told 7 = .ok (.iload_n 3, 1) := by decide +kernel
theorem dX9_told_8 : decode cX9_told 8 = .ok (.ifCond .ne 7, 3) := by decide +kernel
theorem dX9_told_11 : decode cX9_told 11 = .ok (.iconst 1, 1) := by decide +kernel
theorem dX9_told_12 : decode cX9_told 12 = .ok (.goto 17, 3) := by decide +kernel
theorem dX9_told_15 : decode cX9_told 15 = .ok (.iload_n 2, 1) := by decide +kernel
theorem dX9_told_16 : decode cX9_told 16 = .ok (.iconst 0, 1) := by decide +kernel
theorem dX9_told_17 : decode cX9_told 17 = .ok (.iconst 5, 1) := by decide +kernel
theorem dX9_told_18 : decode cX9_told 18 = .ok (.invokestatic 113, 3) := by decide +kernel
theorem dX9_told_21 : decode cX9_told 21 = .ok (.ifCond .eq 7, 3) := by decide +kernel
theorem dX9_told_24 : decode cX9_told 24 = .ok (.iconst 0, 1) := by decide +kernel
theorem dX9_told_25 : decode cX9_told 25 = .ok (.goto 4, 3) := by decide +kernel
theorem dX9_told_28 : decode cX9_told 28 = .ok (.iconst 2, 1) := by decide +kernel
theorem dX9_told_29 : decode cX9_told 29 = .ok (.invokevirtual 126, 3) := by decide +kernel
theorem dX9_told_32 : decode cX9_told 32 = .ok (.ifCond .ne 5, 3) := by decide +kernel
theorem dX9_told_35 : decode cX9_told 35 = .ok (.iconst 0, 1) := by decide +kernel
theorem dX9_told_36 : decode cX9_told 36 = .ok (.ireturn, 1) := by decide +kernel
theorem dX9_told_37 : decode cX9_told 37 = .ok (.iconst 0, 1) := by decide +kernel
theorem dX9_told_38 : decode cX9_told 38 = .ok (.istore 4, 2) := by decide +kernel
theorem dX9_told_40 : decode cX9_told 40 = .ok (.iconst 0, 1) := by decide +kernel
theorem dX9_told_41 : decode cX9_told 41 = .ok (.istore 5, 2) := by decide +kernel
theorem dX9_told_43 : decode cX9_told 43 = .ok (.iload 5, 2) := by decide +kernel
theorem dX9_told_45 : decode cX9_told 45 = .ok (.aload_n 0, 1) := by decide +kernel
theorem dX9_told_46 : decode cX9_told 46 = .ok (.getfield 34, 3) := by decide +kernel
theorem dX9_told_49 : decode cX9_told 49 = .ok (.iload_n 1, 1) := by decide +kernel
theorem dX9_told_50 : decode cX9_told 50 = .ok (.iaload, 1) := by decide +kernel
theorem dX9_told_51 : decode cX9_told 51 = .ok (.if_icmp .ge 29, 3) := by decide +kernel
theorem dX9_told_54 : decode cX9_told 54 = .ok (.iload 4, 2) := by decide +kernel
theorem dX9_told_56 : decode cX9_told 56 = .ok (.aload_n 0, 1) := by decide +kernel
theorem dX9_told_57 : decode cX9_told 57 = .ok (.iload_n 1, 1) := by decide +kernel
theorem dX9_told_58 : decode cX9_told 58 = .ok (.iload 5, 2) := by decide +kernel
theorem dX9_told_60 : decode cX9_told 60 = .ok (.invokevirtual 148, 3) := by decide +kernel
theorem dX9_told_63 : decode cX9_told 63 = .ok (.ifCond .eq 7, 3) := by decide +kernel
theorem dX9_told_66 : decode cX9_told 66 = .ok (.iconst 1, 1) := by decide +kernel
theorem dX9_told_67 : decode cX9_told 67 = .ok (.goto 4, 3) := by decide +kernel
theorem dX9_told_70 : decode cX9_told 70 = .ok (.iconst 0, 1) := by decide +kernel
theorem dX9_told_71 : decode cX9_told 71 = .ok (.iadd, 1) := by decide +kernel
theorem dX9_told_72 : decode cX9_told 72 = .ok (.istore 4, 2) := by decide +kernel
theorem dX9_told_74 : decode cX9_told 74 = .ok (.iinc 5 1, 3) := by decide +kernel
theorem dX9_told_77 : decode cX9_told 77 = .ok (.goto (-34), 3) := by decide +kernel
theorem dX9_told_80 : decode cX9_told 80 = .ok (.iload_n 2, 1) := by decide +kernel
theorem dX9_told_81 : decode cX9_told 81 = .ok (.tableswitch 70 0 4 #[35, 42, 49, 56, 63], 35) := by decide +kernel
theorem dX9_told_116 : decode cX9_told 116 = .ok (.aload_n 0, 1) := by decide +kernel
theorem dX9_told_117 : decode cX9_told 117 = .ok (.getfield 31, 3) := by decide +kernel
theorem dX9_told_120 : decode cX9_told 120 = .ok (.iload_n 1, 1) := by decide +kernel
theorem dX9_told_121 : decode cX9_told 121 = .ok (.iaload, 1) := by decide +kernel
theorem dX9_told_122 : decode cX9_told 122 = .ok (.ireturn, 1) := by decide +kernel
theorem dX9_told_123 : decode cX9_told 123 = .ok (.aload_n 0, 1) := by decide +kernel
theorem dX9_told_124 : decode cX9_told 124 = .ok (.getfield 16, 3) := by decide +kernel
theorem dX9_told_127 : decode cX9_told 127 = .ok (.iload_n 1, 1) := by decide +kernel
theorem dX9_told_128 : decode cX9_told 128 = .ok (.iaload, 1) := by decide +kernel
theorem dX9_told_129 : decode cX9_told 129 = .ok (.ireturn, 1) := by decide +kernel
theorem dX9_told_130 : decode cX9_told 130 = .ok (.aload_n 0, 1) := by decide +kernel
theorem dX9_told_131 : decode cX9_told 131 = .ok (.getfield 25, 3) := by decide +kernel
theorem dX9_told_134 : decode cX9_told 134 = .ok (.iload_n 1, 1) := by decide +kernel
theorem dX9_told_135 : decode cX9_told 135 = .ok (.iaload, 1) := by decide +kernel
theorem dX9_told_136 : decode cX9_told 136 = .ok (.ireturn, 1) := by decide +kernel
theorem dX9_told_137 : decode cX9_told 137 = .ok (.aload_n 0, 1) := by decide +kernel
theorem dX9_told_138 : decode cX9_told 138 = .ok (.getfield 28, 3) := by decide +kernel
theorem dX9_told_141 : decode cX9_told 141 = .ok (.iload_n 1, 1) := by decide +kernel
theorem dX9_told_142 : decode cX9_told 142 = .ok (.iaload, 1) := by decide +kernel
theorem dX9_told_143 : decode cX9_told 143 = .ok (.ireturn, 1) := by decide +kernel
theorem dX9_told_144 : decode cX9_told 144 = .ok (.aload_n 0, 1) := by decide +kernel
theorem dX9_told_145 : decode cX9_told 145 = .ok (.getfield 34, 3) := by decide +kernel
theorem dX9_told_148 : decode cX9_told 148 = .ok (.iload_n 1, 1) := by decide +kernel
theorem dX9_told_149 : decode cX9_told 149 = .ok (.iaload, 1) := by decide +kernel
theorem dX9_told_150 : decode cX9_told 150 = .ok (.ireturn, 1) := by decide +kernel
theorem dX9_told_151 : decode cX9_told 151 = .ok (.iload 4, 2) := by decide +kernel
theorem dX9_told_153 : decode cX9_told 153 = .ok (.ireturn, 1) := by decide +kernel
theorem dX9_tool_0 : decode cX9_tool 0 = .ok (.iload_n 1, 1) := by decide +kernel
theorem dX9_tool_1 : decode cX9_tool 1 = .ok (.iconst 4, 1) := by decide +kernel
theorem dX9_tool_2 : decode cX9_tool 2 = .ok (.bipush 60, 2) := by decide +kernel
theorem dX9_tool_4 : decode cX9_tool 4 = .ok (.invokestatic 113, 3) := by decide +kernel
theorem dX9_tool_7 : decode cX9_tool 7 = .ok (.ifCond .eq 55, 3) := by decide +kernel
theorem dX9_tool_10 : decode cX9_tool 10 = .ok (.iload_n 2, 1) := by decide +kernel
theorem dX9_tool_11 : decode cX9_tool 11 = .ok (.iconst 0, 1) := by decide +kernel
theorem dX9_tool_12 : decode cX9_tool 12 = .ok (.bipush 30, 2) := by decide +kernel
theorem dX9_tool_14 : decode cX9_tool 14 = .ok (.invokestatic 113, 3) := by decide +kernel
theorem dX9_tool_17 : decode cX9_tool 17 = .ok (.ifCond .eq 45, 3) := by decide +kernel
theorem dX9_tool_20 : decode cX9_tool 20 = .ok (.iload_n 3, 1) := by decide +kernel
theorem dX9_tool_21 : decode cX9_tool 21 = .ok (.bipush 10, 2) := by decide +kernel
theorem dX9_tool_23 : decode cX9_tool 23 = .ok (.sipush 200, 3) := by decide +kernel
theorem dX9_tool_26 : decode cX9_tool 26 = .ok (.invokestatic 113, 3) := by decide +kernel
theorem dX9_tool_29 : decode cX9_tool 29 = .ok (.ifCond .eq 33, 3) := by decide +kernel
theorem dX9_tool_32 : decode cX9_tool 32 = .ok (.iload 4, 2) := by decide +kernel
theorem dX9_tool_34 : decode cX9_tool 34 = .ok (.bipush 10, 2) := by decide +kernel
theorem dX9_tool_36 : decode cX9_tool 36 = .ok (.sipush 200, 3) := by decide +kernel
theorem dX9_tool_39 : decode cX9_tool 39 = .ok (.invokestatic 113, 3) := by decide +kernel
theorem dX9_tool_42 : decode cX9_tool 42 = .ok (.ifCond .eq 20, 3) := by decide +kernel
theorem dX9_tool_45 : decode cX9_tool 45 = .ok (.iload 5, 2) := by decide +kernel
theorem dX9_tool_47 : decode cX9_tool 47 = .ok (.bipush 20, 2) := by decide +kernel
theorem dX9_tool_49 : decode cX9_tool 49 = .ok (.sipush 600, 3) := by decide +kernel
theorem dX9_tool_52 : decode cX9_tool 52 = .ok (.invokestatic 113, 3) := by decide +kernel
theorem dX9_tool_55 : decode cX9_tool 55 = .ok (.ifCond .eq 7, 3) := by decide +kernel
theorem dX9_tool_58 : decode cX9_tool 58 = .ok (.iconst 1, 1) := by decide +kernel
theorem dX9_tool_59 : decode cX9_tool 59 = .ok (.goto 4, 3) := by decide +kernel
theorem dX9_tool_62 : decode cX9_tool 62 = .ok (.iconst 0, 1) := by decide +kernel
theorem dX9_tool_63 : decode cX9_tool 63 = .ok (.istore 6, 2) := by decide +kernel
theorem dX9_tool_65 : decode cX9_tool 65 = .ok (.aload_n 0, 1) := by decide +kernel
theorem dX9_tool_66 : decode cX9_tool 66 = .ok (.iload 6, 2) := by decide +kernel
theorem dX9_tool_68 : decode cX9_tool 68 = .ok (.ifCond .ne 7, 3) := by decide +kernel
theorem dX9_tool_71 : decode cX9_tool 71 = .ok (.iconst 1, 1) := by decide +kernel
theorem dX9_tool_72 : decode cX9_tool 72 = .ok (.goto 16, 3) := by decide +kernel
theorem dX9_tool_75 : decode cX9_tool 75 = .ok (.aload_n 0, 1) := by decide +kernel
theorem dX9_tool_76 : decode cX9_tool 76 = .ok (.getfield 117, 3) := by decide +kernel
theorem dX9_tool_79 : decode cX9_tool 79 = .ok (.iconst 4, 1) := by decide +kernel
theorem dX9_tool_80 : decode cX9_tool 80 = .ok (.if_icmp .ne 7, 3) := by decide +kernel
theorem dX9_tool_83 : decode cX9_tool 83 = .ok (.iconst 2, 1) := by decide +kernel
theorem dX9_tool_84 : decode cX9_tool 84 = .ok (.goto 4, 3) := by decide +kernel
theorem dX9_tool_87 : decode cX9_tool 87 = .ok (.iconst 0, 1) := by decide +kernel
theorem dX9_tool_88 : decode cX9_tool 88 = .ok (.invokevirtual 126, 3) := by decide +kernel
theorem dX9_tool_91 : decode cX9_tool 91 = .ok (.ifCond .ne 5, 3) := by decide +kernel
theorem dX9_tool_94 : decode cX9_tool 94 = .ok (.iconst 0, 1) := by decide +kernel
theorem dX9_tool_95 : decode cX9_tool 95 = .ok (.ireturn, 1) := by decide +kernel
theorem dX9_tool_96 : decode cX9_tool 96 = .ok (.aload_n 0, 1) := by decide +kernel
theorem dX9_tool_97 : decode cX9_tool 97 = .ok (.getfield 46, 3) := by decide +kernel
theorem dX9_tool_100 : decode cX9_tool 100 = .ok (.aload_n 0, 1) := by decide +kernel
theorem dX9_tool_101 : decode cX9_tool 101 = .ok (.getfield 117, 3) := by decide +kernel
theorem dX9_tool_104 : decode cX9_tool 104 = .ok (.iload_n 1, 1) := by decide +kernel
theorem dX9_tool_105 : decode cX9_tool 105 = .ok (.iastore, 1) := by decide +kernel
theorem dX9_tool_106 : decode cX9_tool 106 = .ok (.aload_n 0, 1) := by decide +kernel
theorem dX9_tool_107 : decode cX9_tool 107 = .ok (.getfield 49, 3) := by decide +kernel
theorem dX9_tool_110 : decode cX9_tool 110 = .ok (.aload_n 0, 1) := by decide +kernel
theorem dX9_tool_111 : decode cX9_tool 111 = .ok (.getfield 117, 3) := by decide +kernel
theorem dX9_tool_114 : decode cX9_tool 114 = .ok (.iload_n 2, 1) := by decide +kernel
theorem dX9_tool_115 : decode cX9_tool 115 = .ok (.iastore, 1) := by decide +kernel
theorem dX9_tool_116 : decode cX9_tool 116 = .ok (.aload_n 0, 1) := by decide +kernel
theorem dX9_tool_117 : decode cX9_tool 117 = .ok (.getfield 52, 3) := by decide +kernel
theorem dX9_tool_120 : decode cX9_tool 120 = .ok (.aload_n 0, 1) := by decide +kernel
theorem dX9_tool_121 : decode cX9_tool 121 = .ok (.getfield 117, 3) := by decide +kernel
theorem dX9_tool_124 : decode cX9_tool 124 = .ok (.iload_n 3, 1) := by decide +kernel
theorem dX9_tool_125 : decode cX9_tool 125 = .ok (.iastore, 1) := by decide +kernel
theorem dX9_tool_126 : decode cX9_tool 126 = .ok (.aload_n 0, 1) := by decide +kernel
theorem dX9_tool_127 : decode cX9_tool 127 = .ok (.getfield 55, 3) := by decide +kernel
theorem dX9_tool_130 : decode cX9_tool 130 = .ok (.aload_n 0, 1) := by decide +kernel
theorem dX9_tool_131 : decode cX9_tool 131 = .ok (.getfield 117, 3) := by decide +kernel
theorem dX9_tool_134 : decode cX9_tool 134 = .ok (.iload 4, 2) := by decide +kernel
theorem dX9_tool_136 : decode cX9_tool 136 = .ok (.iastore, 1) := by decide +kernel
theorem dX9_tool_137 : decode cX9_tool 137 = .ok (.aload_n 0, 1) := by decide +kernel
theorem dX9_tool_138 : decode cX9_tool 138 = .ok (.getfield 58, 3) := by decide +kernel
theorem dX9_tool_141 : decode cX9_tool 141 = .ok (.aload_n 0, 1) := by decide +kernel
theorem dX9_tool_142 : decode cX9_tool 142 = .ok (.getfield 117, 3) := by decide +kernel
theorem dX9_tool_145 : decode cX9_tool 145 = .ok (.iload 5, 2) := by decide +kernel
theorem dX9_tool_147 : decode cX9_tool 147 = .ok (.iastore, 1) := by decide +kernel
theorem dX9_tool_148 : decode cX9_tool 148 = .ok (.iconst 1, 1) := by decide +kernel
theorem dX9_tool_149 : decode cX9_tool 149 = .ok (.istore 7, 2) := by decide +kernel
theorem dX9_tool_151 : decode cX9_tool 151 = .ok (.iload 7, 2) := by decide +kernel
theorem dX9_tool_153 : decode cX9_tool 153 = .ok (.iconst 5, 1) := by decide +kernel
theorem dX9_tool_154 : decode cX9_tool 154 = .ok (.if_icmp .ge 27, 3) := by decide +kernel
theorem dX9_tool_157 : decode cX9_tool 157 = .ok (.aload_n 0, 1) := by decide +kernel
theorem dX9_tool_158 : decode cX9_tool 158 = .ok (.getfield 61, 3) := by decide +kernel
theorem dX9_tool_161 : decode cX9_tool 161 = .ok (.iconst 5, 1) := by decide +kernel
theorem dX9_tool_162 : decode cX9_tool 162 = .ok (.aload_n 0, 1) := by decide +kernel
theorem dX9_tool_163 : decode cX9_tool 163 = .ok (.getfield 117, 3) := by decide +kernel
theorem dX9_tool_166 : decode cX9_tool 166 = .ok (.imul, 1) := by decide +kernel
theorem dX9_tool_167 : decode cX9_tool 167 = .ok (.iload 7, 2) := by decide +kernel
theorem dX9_tool_169 : decode cX9_tool 169 = .ok (.iadd, 1) := by decide +kernel
theorem dX9_tool_170 : decode cX9_tool 170 = .ok (.iconst 2, 1) := by decide +kernel
theorem dX9_tool_171 : decode cX9_tool 171 = .ok (.iload 7, 2) := by decide +kernel
theorem dX9_tool_173 : decode cX9_tool 173 = .ok (.imul, 1) := by decide +kernel
theorem dX9_tool_174 : decode cX9_tool 174 = .ok (.iastore, 1) := by decide +kernel
theorem dX9_tool_175 : decode cX9_tool 175 = .ok (.iinc 7 1, 3) := by decide +kernel
theorem dX9_tool_178 : decode cX9_tool 178 = .ok (.goto (-27), 3) := by decide +kernel
theorem dX9_tool_181 : decode cX9_tool 181 = .ok (.aload_n 0, 1) := by decide +kernel
theorem dX9_tool_182 : decode cX9_tool 182 = .ok (.dup, 1) := by decide +kernel
theorem dX9_tool_183 : decode cX9_tool 183 = .ok (.getfield 117, 3) := by decide +kernel
theorem dX9_tool_186 : decode cX9_tool 186 = .ok (.iconst 1, 1) := by decide +kernel
theorem dX9_tool_187 : decode cX9_tool 187 = .ok (.iadd, 1) := by decide +kernel
theorem dX9_tool_188 : decode cX9_tool 188 = .ok (.putfield 117, 3) := by decide +kernel
theorem dX9_tool_191 : decode cX9_tool 191 = .ok (.aload_n 0, 1) := by decide +kernel
theorem dX9_tool_192 : decode cX9_tool 192 = .ok (.getfield 117, 3) := by decide +kernel
theorem dX9_tool_195 : decode cX9_tool 195 = .ok (.iconst 1, 1) := by decide +kernel
theorem dX9_tool_196 : decode cX9_tool 196 = .ok (.isub, 1) := by decide +kernel
theorem dX9_tool_197 : decode cX9_tool 197 = .ok (.ireturn, 1) := by decide +kernel
theorem dX9_trial_0 : decode cX9_trial 0 = .ok (.aload_n 0, 1) := by decide +kernel
theorem dX9_trial_1 : decode cX9_trial 1 = .ok (.iload_n 1, 1) := by decide +kernel
theorem dX9_trial_2 : decode cX9_trial 2 = .ok (.invokevirtual 151, 3) := by decide +kernel
theorem dX9_trial_5 : decode cX9_trial 5 = .ok (.istore 4, 2) := by decide +kernel
theorem dX9_trial_7 : decode cX9_trial 7 = .ok (.aload_n 0, 1) := by decide +kernel
theorem dX9_trial_8 : decode cX9_trial 8 = .ok (.iload 4, 2) := by decide +kernel
theorem dX9_trial_10 : decode cX9_trial 10 = .ok (.ifCond .ne 7, 3) := by decide +kernel
theorem dX9_trial_13 : decode cX9_trial 13 = .ok (.iconst 1, 1) := by decide +kernel
theorem dX9_trial_14 : decode cX9_trial 14 = .ok (.goto 27, 3) := by decide +kernel
theorem dX9_trial_17 : decode cX9_trial 17 = .ok (.iload_n 2, 1) := by decide +kernel
theorem dX9_trial_18 : decode cX9_trial 18 = .ok (.iconst 1, 1) := by decide +kernel
theorem dX9_trial_19 : decode cX9_trial 19 = .ok (.iconst 4, 1) := by decide +kernel
theorem dX9_trial_20 : decode cX9_trial 20 = .ok (.invokestatic 113, 3) := by decide +kernel
theorem dX9_trial_23 : decode cX9_trial 23 = .ok (.ifCond .eq 17, 3) := by decide +kernel
theorem dX9_trial_26 : decode cX9_trial 26 = .ok (.iload_n 3, 1) := by decide +kernel
theorem dX9_trial_27 : decode cX9_trial 27 = .ok (.iconst 0, 1) := by decide +kernel
theorem dX9_trial_28 : decode cX9_trial 28 = .ok (.bipush 9, 2) := by decide +kernel
theorem dX9_trial_30 : decode cX9_trial 30 = .ok (.invokestatic 113, 3) := by decide +kernel
theorem dX9_trial_33 : decode cX9_trial 33 = .ok (.ifCond .eq 7, 3) := by decide +kernel
theorem dX9_trial_36 : decode cX9_trial 36 = .ok (.iconst 0, 1) := by decide +kernel
theorem dX9_trial_37 : decode cX9_trial 37 = .ok (.goto 4, 3) := by decide +kernel
theorem dX9_trial_40 : decode cX9_trial 40 = .ok (.iconst 2, 1) := by decide +kernel
theorem dX9_trial_41 : decode cX9_trial 41 = .ok (.invokevirtual 126, 3) := by decide +kernel
theorem dX9_trial_44 : decode cX9_trial 44 = .ok (.ifCond .ne 5, 3) := by decide +kernel
theorem dX9_trial_47 : decode cX9_trial 47 = .ok (.iconst 0, 1) := by decide +kernel
theorem dX9_trial_48 : decode cX9_trial 48 = .ok (.ireturn, 1) := by decide +kernel
theorem dX9_trial_49 : decode cX9_trial 49 = .ok (.aload_n 0, 1) := by decide +kernel
theorem dX9_trial_50 : decode cX9_trial 50 = .ok (.getfield 61, 3) := by decide +kernel
theorem dX9_trial_53 : decode cX9_trial 53 = .ok (.iconst 5, 1) := by decide +kernel
theorem dX9_trial_54 : decode cX9_trial 54 = .ok (.iload_n 1, 1) := by decide +kernel
theorem dX9_trial_55 : decode cX9_trial 55 = .ok (.imul, 1) := by decide +kernel
theorem dX9_trial_56 : decode cX9_trial 56 = .ok (.iload_n 2, 1) := by decide +kernel
theorem dX9_trial_57 : decode cX9_trial 57 = .ok (.iadd, 1) := by decide +kernel
theorem dX9_trial_58 : decode cX9_trial 58 = .ok (.iaload, 1) := by decide +kernel
theorem dX9_trial_59 : decode cX9_trial 59 = .ok (.istore 5, 2) := by decide +kernel
theorem dX9_trial_61 : decode cX9_trial 61 = .ok (.aload_n 0, 1) := by decide +kernel
theorem dX9_trial_62 : decode cX9_trial 62 = .ok (.getfield 61, 3) := by decide +kernel
theorem dX9_trial_65 : decode cX9_trial 65 = .ok (.iconst 5, 1) := by decide +kernel
theorem dX9_trial_66 : decode cX9_trial 66 = .ok (.iload_n 1, 1) := by decide +kernel
theorem dX9_trial_67 : decode cX9_trial 67 = .ok (.imul, 1) := by decide +kernel
theorem dX9_trial_68 : decode cX9_trial 68 = .ok (.iload_n 2, 1) := by decide +kernel
theorem dX9_trial_69 : decode cX9_trial 69 = .ok (.iadd, 1) := by decide +kernel
theorem dX9_trial_70 : decode cX9_trial 70 = .ok (.iload_n 3, 1) := by decide +kernel
theorem dX9_trial_71 : decode cX9_trial 71 = .ok (.iastore, 1) := by decide +kernel
theorem dX9_trial_72 : decode cX9_trial 72 = .ok (.iload 5, 2) := by decide +kernel
theorem dX9_trial_74 : decode cX9_trial 74 = .ok (.ireturn, 1) := by decide +kernel
theorem dX9_blankBy_0 : decode cX9_blankBy 0 = .ok (.iconst 0, 1) := by decide +kernel
theorem dX9_blankBy_1 : decode cX9_blankBy 1 = .ok (.istore_n 3, 1) := by decide +kernel
theorem dX9_blankBy_2 : decode cX9_blankBy 2 = .ok (.iconst 0, 1) := by decide +kernel
theorem dX9_blankBy_3 : decode cX9_blankBy 3 = .ok (.istore 4, 2) := by decide +kernel
theorem dX9_blankBy_5 : decode cX9_blankBy 5 = .ok (.iload 4, 2) := by decide +kernel
theorem dX9_blankBy_7 : decode cX9_blankBy 7 = .ok (.aload_n 0, 1) := by decide +kernel
theorem dX9_blankBy_8 : decode cX9_blankBy 8 = .ok (.getfield 16, 3) := by decide +kernel
theorem dX9_blankBy_11 : decode cX9_blankBy 11 = .ok (.iload_n 1, 1) := by decide +kernel
theorem dX9_blankBy_12 : decode cX9_blankBy 12 = .ok (.iaload, 1) := by decide +kernel
theorem dX9_blankBy_13 : decode cX9_blankBy 13 = .ok (.if_icmp .ge 24, 3) := by decide +kernel
theorem dX9_blankBy_16 : decode cX9_blankBy 16 = .ok (.iload_n 3, 1) := by decide +kernel
theorem dX9_blankBy_17 : decode cX9_blankBy 17 = .ok (.aload_n 0, 1) := by decide +kernel
theorem dX9_blankBy_18 : decode cX9_blankBy 18 = .ok (.getfield 19, 3) := by decide +kernel
theorem dX9_blankBy_21 : decode cX9_blankBy 21 = .ok (.bipush 6, 2) := by decide +kernel
theorem dX9_blankBy_23 : decode cX9_blankBy 23 = .ok (.iload_n 1, 1) := by decide +kernel
theorem dX9_blankBy_24 : decode cX9_blankBy 24 = .ok (.imul, 1) := by decide +kernel
theorem dX9_blankBy_25 : decode cX9_blankBy 25 = .ok (.iload 4, 2) := by decide +kernel
theorem dX9_blankBy_27 : decode cX9_blankBy 27 = .ok (.iadd, 1) := by decide +kernel
theorem dX9_blankBy_28 : decode cX9_blankBy 28 = .ok (.iaload, 1) := by decide +kernel
theorem dX9_blankBy_29 : decode cX9_blankBy 29 = .ok (.iadd, 1) := by decide +kernel
theorem dX9_blankBy_30 : decode cX9_blankBy 30 = .ok (.istore_n 3, 1) := by decide +kernel
theorem dX9_blankBy_31 : decode cX9_blankBy 31 = .ok (.iinc 4 1, 3) := by decide +kernel
theorem dX9_blankBy_34 : decode cX9_blankBy 34 = .ok (.goto (-29), 3) := by decide +kernel
theorem dX9_blankBy_37 : decode cX9_blankBy 37 = .ok (.iload_n 3, 1) := by decide +kernel
theorem dX9_blankBy_38 : decode cX9_blankBy 38 = .ok (.aload_n 0, 1) := by decide +kernel
theorem dX9_blankBy_39 : decode cX9_blankBy 39 = .ok (.getfield 61, 3) := by decide +kernel
theorem dX9_blankBy_42 : decode cX9_blankBy 42 = .ok (.iconst 5, 1) := by decide +kernel
theorem dX9_blankBy_43 : decode cX9_blankBy 43 = .ok (.iload_n 2, 1) := by decide +kernel
theorem dX9_blankBy_44 : decode cX9_blankBy 44 = .ok (.imul, 1) := by decide +kernel
theorem dX9_blankBy_45 : decode cX9_blankBy 45 = .ok (.aload_n 0, 1) := by decide +kernel
theorem dX9_blankBy_46 : decode cX9_blankBy 46 = .ok (.getfield 28, 3) := by decide +kernel
theorem dX9_blankBy_49 : decode cX9_blankBy 49 = .ok (.iload_n 1, 1) := by decide +kernel
theorem dX9_blankBy_50 : decode cX9_blankBy 50 = .ok (.iaload, 1) := by decide +kernel
theorem dX9_blankBy_51 : decode cX9_blankBy 51 = .ok (.iadd, 1) := by decide +kernel
theorem dX9_blankBy_52 : decode cX9_blankBy 52 = .ok (.iaload, 1) := by decide +kernel
theorem dX9_blankBy_53 : decode cX9_blankBy 53 = .ok (.aload_n 0, 1) := by decide +kernel
theorem dX9_blankBy_54 : decode cX9_blankBy 54 = .ok (.getfield 16, 3) := by decide +kernel
theorem dX9_blankBy_57 : decode cX9_blankBy 57 = .ok (.iload_n 1, 1) := by decide +kernel
theorem dX9_blankBy_58 : decode cX9_blankBy 58 = .ok (.iaload, 1) := by decide +kernel
theorem dX9_blankBy_59 : decode cX9_blankBy 59 = .ok (.iconst 1, 1) := by decide +kernel
theorem dX9_blankBy_60 : decode cX9_blankBy 60 = .ok (.isub, 1) := by decide +kernel
theorem dX9_blankBy_61 : decode cX9_blankBy 61 = .ok (.imul, 1) := by decide +kernel
theorem dX9_blankBy_62 : decode cX9_blankBy 62 = .ok (.isub, 1) := by decide +kernel
theorem dX9_blankBy_63 : decode cX9_blankBy 63 = .ok (.ireturn, 1) := by decide +kernel
theorem dX9_blank_0 : decode cX9_blank 0 = .ok (.aload_n 0, 1) := by decide +kernel
theorem dX9_blank_1 : decode cX9_blank 1 = .ok (.aload_n 0, 1) := by decide +kernel
theorem dX9_blank_2 : decode cX9_blank 2 = .ok (.iload_n 1, 1) := by decide +kernel
theorem dX9_blank_3 : decode cX9_blank 3 = .ok (.invokevirtual 138, 3) := by decide +kernel
theorem dX9_blank_6 : decode cX9_blank 6 = .ok (.ifCond .eq 15, 3) := by decide +kernel
theorem dX9_blank_9 : decode cX9_blank 9 = .ok (.aload_n 0, 1) := by decide +kernel
theorem dX9_blank_10 : decode cX9_blank 10 = .ok (.iload_n 2, 1) := by decide +kernel
theorem dX9_blank_11 : decode cX9_blank 11 = .ok (.invokevirtual 151, 3) := by decide +kernel
theorem dX9_blank_14 : decode cX9_blank 14 = .ok (.ifCond .eq 7, 3) := by decide +kernel
theorem dX9_blank_17 : decode cX9_blank 17 = .ok (.iconst 0, 1) := by decide +kernel
theorem dX9_blank_18 : decode cX9_blank 18 = .ok (.goto 4, 3) := by decide +kernel
theorem dX9_blank_21 : decode cX9_blank 21 = .ok (.iconst 1, 1) := by decide +kernel
theorem dX9_blank_22 : decode cX9_blank 22 = .ok (.invokevirtual 126, 3) := by decide +kernel
theorem dX9_blank_25 : decode cX9_blank 25 = .ok (.ifCond .eq 12, 3) := by decide +kernel
theorem dX9_blank_28 : decode cX9_blank 28 = .ok (.aload_n 0, 1) := by decide +kernel
theorem dX9_blank_29 : decode cX9_blank 29 = .ok (.iload_n 1, 1) := by decide +kernel
theorem dX9_blank_30 : decode cX9_blank 30 = .ok (.iload_n 2, 1) := by decide +kernel
theorem dX9_blank_31 : decode cX9_blank 31 = .ok (.invokevirtual 144, 3) := by decide +kernel
theorem dX9_blank_34 : decode cX9_blank 34 = .ok (.goto 4, 3) := by decide +kernel
theorem dX9_blank_37 : decode cX9_blank 37 = .ok (.iconst 0, 1) := by decide +kernel
theorem dX9_blank_38 : decode cX9_blank 38 = .ok (.ireturn, 1) := by decide +kernel
theorem dX9_start_0 : decode cX9_start 0 = .ok (.aload_n 0, 1) := by decide +kernel
theorem dX9_start_1 : decode cX9_start 1 = .ok (.iconst 0, 1) := by decide +kernel
theorem dX9_start_2 : decode cX9_start 2 = .ok (.putfield 154, 3) := by decide +kernel
theorem dX9_start_5 : decode cX9_start 5 = .ok (.aload_n 0, 1) := by decide +kernel
theorem dX9_start_6 : decode cX9_start 6 = .ok (.iconst 0, 1) := by decide +kernel
theorem dX9_start_7 : decode cX9_start 7 = .ok (.putfield 157, 3) := by decide +kernel
theorem dX9_start_10 : decode cX9_start 10 = .ok (.aload_n 0, 1) := by decide +kernel
theorem dX9_start_11 : decode cX9_start 11 = .ok (.iconst 1, 1) := by decide +kernel
theorem dX9_start_12 : decode cX9_start 12 = .ok (.putfield 160, 3) := by decide +kernel
theorem dX9_start_15 : decode cX9_start 15 = .ok (.aload_n 0, 1) := by decide +kernel
theorem dX9_start_16 : decode cX9_start 16 = .ok (.iconst 0, 1) := by decide +kernel
theorem dX9_start_17 : decode cX9_start 17 = .ok (.putfield 163, 3) := by decide +kernel
theorem dX9_start_20 : decode cX9_start 20 = .ok (.aload_n 0, 1) := by decide +kernel
theorem dX9_start_21 : decode cX9_start 21 = .ok (.iconst 0, 1) := by decide +kernel
theorem dX9_start_22 : decode cX9_start 22 = .ok (.putfield 166, 3) := by decide +kernel
theorem dX9_start_25 : decode cX9_start 25 = .ok (.aload_n 0, 1) := by decide +kernel
theorem dX9_start_26 : decode cX9_start 26 = .ok (.iconst 1, 1) := by decide +kernel
theorem dX9_start_27 : decode cX9_start 27 = .ok (.putfield 169, 3) := by decide +kernel
theorem dX9_start_30 : decode cX9_start 30 = .ok (.return_, 1) := by decide +kernel
theorem dX9_go_0 : decode cX9_go 0 = .ok (.iload 4, 2) := by decide +kernel
theorem dX9_go_2 : decode cX9_go 2 = .ok (.ifCond .le 12, 3) := by decide +kernel
theorem dX9_go_5 : decode cX9_go 5 = .ok (.iload_n 3, 1) := by decide +kernel
theorem dX9_go_6 : decode cX9_go 6 = .ok (.iconst 1, 1) := by decide +kernel
theorem dX9_go_7 : decode cX9_go 7 = .ok (.iadd, 1) := by decide +kernel
theorem dX9_go_8 : decode cX9_go 8 = .ok (.iload 5, 2) := by decide +kernel
theorem dX9_go_10 : decode cX9_go 10 = .ok (.iadd, 1) := by decide +kernel
theorem dX9_go_11 : decode cX9_go 11 = .ok (.goto 7, 3) := by decide +kernel
theorem dX9_go_14 : decode cX9_go 14 = .ok (.iload_n 3, 1) := by decide +kernel
theorem dX9_go_15 : decode cX9_go 15 = .ok (.iload 5, 2) := by decide +kernel
theorem dX9_go_17 : decode cX9_go 17 = .ok (.isub, 1) := by decide +kernel
theorem dX9_go_18 : decode cX9_go 18 = .ok (.istore 6, 2) := by decide +kernel
theorem dX9_go_20 : decode cX9_go 20 = .ok (.iload 4, 2) := by decide +kernel
theorem dX9_go_22 : decode cX9_go 22 = .ok (.ifCond .le 10, 3) := by decide +kernel
theorem dX9_go_25 : decode cX9_go 25 = .ok (.iload 6, 2) := by decide +kernel
theorem dX9_go_27 : decode cX9_go 27 = .ok (.iconst 1, 1) := by decide +kernel
theorem dX9_go_28 : decode cX9_go 28 = .ok (.isub, 1) := by decide +kernel
theorem dX9_go_29 : decode cX9_go 29 = .ok (.goto 5, 3) := by decide +kernel
theorem dX9_go_32 : decode cX9_go 32 = .ok (.iload 6, 2) := by decide +kernel
theorem dX9_go_34 : decode cX9_go 34 = .ok (.istore 7, 2) := by decide +kernel
theorem dX9_go_36 : decode cX9_go 36 = .ok (.iload 5, 2) := by decide +kernel
theorem dX9_go_38 : decode cX9_go 38 = .ok (.ifCond .le 95, 3) := by decide +kernel
theorem dX9_go_41 : decode cX9_go 41 = .ok (.iload_n 2, 1) := by decide +kernel
theorem dX9_go_42 : decode cX9_go 42 = .ok (.iload 7, 2) := by decide +kernel
theorem dX9_go_44 : decode cX9_go 44 = .ok (.ishr, 1) := by decide +kernel
theorem dX9_go_45 : decode cX9_go 45 = .ok (.iconst 1, 1) := by decide +kernel
theorem dX9_go_46 : decode cX9_go 46 = .ok (.iand, 1) := by decide +kernel
theorem dX9_go_47 : decode cX9_go 47 = .ok (.iconst 1, 1) := by decide +kernel
theorem dX9_go_48 : decode cX9_go 48 = .ok (.if_icmp .ne 85, 3) := by decide +kernel
theorem dX9_go_51 : decode cX9_go 51 = .ok (.aload_n 0, 1) := by decide +kernel
theorem dX9_go_52 : decode cX9_go 52 = .ok (.getfield 22, 3) := by decide +kernel
theorem dX9_go_55 : decode cX9_go 55 = .ok (.bipush 6, 2) := by decide +kernel
theorem dX9_go_57 : decode cX9_go 57 = .ok (.iload_n 1, 1) := by decide +kernel
theorem dX9_go_58 : decode cX9_go 58 = .ok (.imul, 1) := by decide +kernel
theorem dX9_go_59 : decode cX9_go 59 = .ok (.iload 7, 2) := by decide +kernel
theorem dX9_go_61 : decode cX9_go 61 = .ok (.iadd, 1) := by decide +kernel
theorem dX9_go_62 : decode cX9_go 62 = .ok (.iaload, 1) := by decide +kernel
theorem dX9_go_63 : decode cX9_go 63 = .ok (.aload_n 0, 1) := by decide +kernel
theorem dX9_go_64 : decode cX9_go 64 = .ok (.getfield 22, 3) := by decide +kernel
theorem dX9_go_67 : decode cX9_go 67 = .ok (.bipush 6, 2) := by decide +kernel
theorem dX9_go_69 : decode cX9_go 69 = .ok (.iload_n 1, 1) := by decide +kernel
theorem dX9_go_70 : decode cX9_go 70 = .ok (.imul, 1) := by decide +kernel
theorem dX9_go_71 : decode cX9_go 71 = .ok (.iload_n 3, 1) := by decide +kernel
theorem dX9_go_72 : decode cX9_go 72 = .ok (.iadd, 1) := by decide +kernel
theorem dX9_go_73 : decode cX9_go 73 = .ok (.iaload, 1) := by decide +kernel
theorem dX9_go_74 : decode cX9_go 74 = .ok (.if_icmp .ne 7, 3) := by decide +kernel
theorem dX9_go_77 : decode cX9_go 77 = .ok (.iconst 1, 1) := by decide +kernel
theorem dX9_go_78 : decode cX9_go 78 = .ok (.goto 4, 3) := by decide +kernel
theorem dX9_go_81 : decode cX9_go 81 = .ok (.iconst 0, 1) := by decide +kernel
theorem dX9_go_82 : decode cX9_go 82 = .ok (.istore 8, 2) := by decide +kernel
theorem dX9_go_84 : decode cX9_go 84 = .ok (.aload_n 0, 1) := by decide +kernel
theorem dX9_go_85 : decode cX9_go 85 = .ok (.getfield 160, 3) := by decide +kernel
theorem dX9_go_88 : decode cX9_go 88 = .ok (.istore 9, 2) := by decide +kernel
theorem dX9_go_90 : decode cX9_go 90 = .ok (.aload_n 0, 1) := by decide +kernel
theorem dX9_go_91 : decode cX9_go 91 = .ok (.iload 8, 2) := by decide +kernel
theorem dX9_go_93 : decode cX9_go 93 = .ok (.ifCond .eq 11, 3) := by decide +kernel
theorem dX9_go_96 : decode cX9_go 96 = .ok (.aload_n 0, 1) := by decide +kernel
theorem dX9_go_97 : decode cX9_go 97 = .ok (.getfield 163, 3) := by decide +kernel
theorem dX9_go_100 : decode cX9_go 100 = .ok (.ineg, 1) := by decide +kernel
theorem dX9_go_101 : decode cX9_go 101 = .ok (.goto 7, 3) := by decide +kernel
theorem dX9_go_104 : decode cX9_go 104 = .ok (.aload_n 0, 1) := by decide +kernel
theorem dX9_go_105 : decode cX9_go 105 = .ok (.getfield 163, 3) := by decide +kernel
theorem dX9_go_108 : decode cX9_go 108 = .ok (.putfield 160, 3) := by decide +kernel
theorem dX9_go_111 : decode cX9_go 111 = .ok (.aload_n 0, 1) := by decide +kernel
theorem dX9_go_112 : decode cX9_go 112 = .ok (.iload 8, 2) := by decide +kernel
theorem dX9_go_114 : decode cX9_go 114 = .ok (.ifCond .eq 8, 3) := by decide +kernel
theorem dX9_go_117 : decode cX9_go 117 = .ok (.iload 9, 2) := by decide +kernel
theorem dX9_go_119 : decode cX9_go 119 = .ok (.goto 6, 3) := by decide +kernel
theorem dX9_go_122 : decode cX9_go 122 = .ok (.iload 9, 2) := by decide +kernel
theorem dX9_go_124 : decode cX9_go 124 = .ok (.ineg, 1) := by decide +kernel
theorem dX9_go_125 : decode cX9_go 125 = .ok (.putfield 163, 3) := by decide +kernel
theorem dX9_go_128 : decode cX9_go 128 = .ok (.aload_n 0, 1) := by decide +kernel
theorem dX9_go_129 : decode cX9_go 129 = .ok (.iconst 0, 1) := by decide +kernel
theorem dX9_go_130 : decode cX9_go 130 = .ok (.putfield 169, 3) := by decide +kernel
theorem dX9_go_133 : decode cX9_go 133 = .ok (.aload_n 0, 1) := by decide +kernel
theorem dX9_go_134 : decode cX9_go 134 = .ok (.dup, 1) := by decide +kernel
theorem dX9_go_135 : decode cX9_go 135 = .ok (.getfield 154, 3) := by decide +kernel
theorem dX9_go_138 : decode cX9_go 138 = .ok (.aload_n 0, 1) := by decide +kernel
theorem dX9_go_139 : decode cX9_go 139 = .ok (.getfield 160, 3) := by decide +kernel
theorem dX9_go_142 : decode cX9_go 142 = .ok (.aload_n 0, 1) := by decide +kernel
theorem dX9_go_143 : decode cX9_go 143 = .ok (.getfield 19, 3) := by decide +kernel
theorem dX9_go_146 : decode cX9_go 146 = .ok (.bipush 6, 2) := by decide +kernel
theorem dX9_go_148 : decode cX9_go 148 = .ok (.iload_n 1, 1) := by decide +kernel
theorem dX9_go_149 : decode cX9_go 149 = .ok (.imul, 1) := by decide +kernel
theorem dX9_go_150 : decode cX9_go 150 = .ok (.iload 6, 2) := by decide +kernel
theorem dX9_go_152 : decode cX9_go 152 = .ok (.iadd, 1) := by decide +kernel
theorem dX9_go_153 : decode cX9_go 153 = .ok (.iaload, 1) := by decide +kernel
theorem dX9_go_154 : decode cX9_go 154 = .ok (.imul, 1) := by decide +kernel
theorem dX9_go_155 : decode cX9_go 155 = .ok (.iadd, 1) := by decide +kernel
theorem dX9_go_156 : decode cX9_go 156 = .ok (.putfield 154, 3) := by decide +kernel
theorem dX9_go_159 : decode cX9_go 159 = .ok (.aload_n 0, 1) := by decide +kernel
theorem dX9_go_160 : decode cX9_go 160 = .ok (.dup, 1) := by decide +kernel
theorem dX9_go_161 : decode cX9_go 161 = .ok (.getfield 157, 3) := by decide +kernel
theorem dX9_go_164 : decode cX9_go 164 = .ok (.aload_n 0, 1) := by decide +kernel
theorem dX9_go_165 : decode cX9_go 165 = .ok (.getfield 163, 3) := by decide +kernel
theorem dX9_go_168 : decode cX9_go 168 = .ok (.aload_n 0, 1) := by decide +kernel
theorem dX9_go_169 : decode cX9_go 169 = .ok (.getfield 19, 3) := by decide +kernel
theorem dX9_go_172 : decode cX9_go 172 = .ok (.bipush 6, 2) := by decide +kernel
theorem dX9_go_174 : decode cX9_go 174 = .ok (.iload_n 1, 1) := by decide +kernel
theorem dX9_go_175 : decode cX9_go 175 = .ok (.imul, 1) := by decide +kernel
theorem dX9_go_176 : decode cX9_go 176 = .ok (.iload 6, 2) := by decide +kernel
theorem dX9_go_178 : decode cX9_go 178 = .ok (.iadd, 1) := by decide +kernel
theorem dX9_go_179 : decode cX9_go 179 = .ok (.iaload, 1) := by decide +kernel
theorem dX9_go_180 : decode cX9_go 180 = .ok (.imul, 1) := by decide +kernel
theorem dX9_go_181 : decode cX9_go 181 = .ok (.iadd, 1) := by decide +kernel
theorem dX9_go_182 : decode cX9_go 182 = .ok (.putfield 157, 3) := by decide +kernel
theorem dX9_go_185 : decode cX9_go 185 = .ok (.aload_n 0, 1) := by decide +kernel
theorem dX9_go_186 : decode cX9_go 186 = .ok (.dup, 1) := by decide +kernel
theorem dX9_go_187 : decode cX9_go 187 = .ok (.getfield 166, 3) := by decide +kernel
theorem dX9_go_190 : decode cX9_go 190 = .ok (.aload_n 0, 1) := by decide +kernel
theorem dX9_go_191 : decode cX9_go 191 = .ok (.getfield 169, 3) := by decide +kernel
theorem dX9_go_194 : decode cX9_go 194 = .ok (.ifCond .eq 18, 3) := by decide +kernel
theorem dX9_go_197 : decode cX9_go 197 = .ok (.aload_n 0, 1) := by decide +kernel
theorem dX9_go_198 : decode cX9_go 198 = .ok (.getfield 19, 3) := by decide +kernel
theorem dX9_go_201 : decode cX9_go 201 = .ok (.bipush 6, 2) := by decide +kernel
theorem dX9_go_203 : decode cX9_go 203 = .ok (.iload_n 1, 1) := by decide +kernel
theorem dX9_go_204 : decode cX9_go 204 = .ok (.imul, 1) := by decide +kernel
theorem dX9_go_205 : decode cX9_go 205 = .ok (.iload 6, 2) := by decide +kernel
theorem dX9_go_207 : decode cX9_go 207 = .ok (.iadd, 1) := by decide +kernel
theorem dX9_go_208 : decode cX9_go 208 = .ok (.iaload, 1) := by decide +kernel
theorem dX9_go_209 : decode cX9_go 209 = .ok (.goto 4, 3) := by decide +kernel
theorem dX9_go_212 : decode cX9_go 212 = .ok (.iconst 0, 1) := by decide +kernel
theorem dX9_go_213 : decode cX9_go 213 = .ok (.iadd, 1) := by decide +kernel
theorem dX9_go_214 : decode cX9_go 214 = .ok (.putfield 166, 3) := by decide +kernel
theorem dX9_go_217 : decode cX9_go 217 = .ok (.return_, 1) := by decide +kernel
theorem dX9_wing_0 : decode cX9_wing 0 = .ok (.iload_n 3, 1) := by decide +kernel
theorem dX9_wing_1 : decode cX9_wing 1 = .ok (.ifCond .le 16, 3) := by decide +kernel
theorem dX9_wing_4 : decode cX9_wing 4 = .ok (.aload_n 0, 1) := by decide +kernel
theorem dX9_wing_5 : decode cX9_wing 5 = .ok (.getfield 16, 3) := by decide +kernel
theorem dX9_wing_8 : decode cX9_wing 8 = .ok (.iload_n 1, 1) := by decide +kernel
theorem dX9_wing_9 : decode cX9_wing 9 = .ok (.iaload, 1) := by decide +kernel
theorem dX9_wing_10 : decode cX9_wing 10 = .ok (.iconst 1, 1) := by decide +kernel
theorem dX9_wing_11 : decode cX9_wing 11 = .ok (.isub, 1) := by decide +kernel
theorem dX9_wing_12 : decode cX9_wing 12 = .ok (.iload_n 2, 1) := by decide +kernel
theorem dX9_wing_13 : decode cX9_wing 13 = .ok (.isub, 1) := by decide +kernel
theorem dX9_wing_14 : decode cX9_wing 14 = .ok (.goto 6, 3) := by decide +kernel
theorem dX9_wing_17 : decode cX9_wing 17 = .ok (.iload_n 2, 1) := by decide +kernel
theorem dX9_wing_18 : decode cX9_wing 18 = .ok (.iconst 1, 1) := by decide +kernel
theorem dX9_wing_19 : decode cX9_wing 19 = .ok (.iadd, 1) := by decide +kernel
theorem dX9_wing_20 : decode cX9_wing 20 = .ok (.ireturn, 1) := by decide +kernel
theorem dX9_reason_0 : decode cX9_reason 0 = .ok (.iconst 0, 1) := by decide +kernel
theorem dX9_reason_1 : decode cX9_reason 1 = .ok (.istore 5, 2) := by decide +kernel
theorem dX9_reason_3 : decode cX9_reason 3 = .ok (.iconst 1, 1) := by decide +kernel
theorem dX9_reason_4 : decode cX9_reason 4 = .ok (.istore 6, 2) := by decide +kernel
theorem dX9_reason_6 : decode cX9_reason 6 = .ok (.iconst 0, 1) := by decide +kernel
theorem dX9_reason_7 : decode cX9_reason 7 = .ok (.istore 7, 2) := by decide +kernel
theorem dX9_reason_9 : decode cX9_reason 9 = .ok (.iconst 0, 1) := by decide +kernel
theorem dX9_reason_10 : decode cX9_reason 10 = .ok (.istore 8, 2) := by decide +kernel
theorem dX9_reason_12 : decode cX9_reason 12 = .ok (.iconst (-1), 1) := by decide +kernel
theorem dX9_reason_13 : decode cX9_reason 13 = .ok (.istore 9, 2) := by decide +kernel
theorem dX9_reason_15 : decode cX9_reason 15 = .ok (.iload 9, 2) := by decide +kernel
theorem dX9_reason_17 : decode cX9_reason 17 = .ok (.iconst 2, 1) := by decide +kernel
theorem dX9_reason_18 : decode cX9_reason 18 = .ok (.if_icmp .ge 183, 3) := by decide +kernel
theorem dX9_reason_21 : decode cX9_reason 21 = .ok (.aload_n 0, 1) := by decide +kernel
theorem dX9_reason_22 : decode cX9_reason 22 = .ok (.invokevirtual 173, 3) := by decide +kernel
theorem dX9_reason_25 : decode cX9_reason 25 = .ok (.iconst 0, 1) := by decide +kernel
theorem dX9_reason_26 : decode cX9_reason 26 = .ok (.istore 10, 2) := by decide +kernel
theorem dX9_reason_28 : decode cX9_reason 28 = .ok (.iload 10, 2) := by decide +kernel
theorem dX9_reason_30 : decode cX9_reason 30 = .ok (.aload_n 0, 1) := by decide +kernel
theorem dX9_reason_31 : decode cX9_reason 31 = .ok (.iload_n 1, 1) := by decide +kernel
theorem dX9_reason_32 : decode cX9_reason 32 = .ok (.iload 4, 2) := by decide +kernel
theorem dX9_reason_34 : decode cX9_reason 34 = .ok (.iload 9, 2) := by decide +kernel
theorem dX9_reason_36 : decode cX9_reason 36 = .ok (.invokevirtual 176, 3) := by decide +kernel
theorem dX9_reason_39 : decode cX9_reason 39 = .ok (.if_icmp .ge 97, 3) := by decide +kernel
theorem dX9_reason_42 : decode cX9_reason 42 = .ok (.aload_n 0, 1) := by decide +kernel
theorem dX9_reason_43 : decode cX9_reason 43 = .ok (.iload_n 1, 1) := by decide +kernel
theorem dX9_reason_44 : decode cX9_reason 44 = .ok (.iload_n 3, 1) := by decide +kernel
theorem dX9_reason_45 : decode cX9_reason 45 = .ok (.iload 4, 2) := by decide +kernel
theorem dX9_reason_47 : decode cX9_reason 47 = .ok (.iload 9, 2) := by decide +kernel
theorem dX9_reason_49 : decode cX9_reason 49 = .ok (.iload 10, 2) := by decide +kernel
theorem dX9_reason_51 : decode cX9_reason 51 = .ok (.invokevirtual 180, 3) := by decide +kernel
theorem dX9_reason_54 : decode cX9_reason 54 = .ok (.iload 7, 2) := by decide +kernel
theorem dX9_reason_56 : decode cX9_reason 56 = .ok (.ifCond .ne 28, 3) := by decide +kernel
theorem dX9_reason_59 : decode cX9_reason 59 = .ok (.aload_n 0, 1) := by decide +kernel
theorem dX9_reason_60 : decode cX9_reason 60 = .ok (.getfield 157, 3) := by decide +kernel
theorem dX9_reason_63 : decode cX9_reason 63 = .ok (.ifCond .le 25, 3) := by decide +kernel
theorem dX9_reason_66 : decode cX9_reason 66 = .ok (.aload_n 0, 1) := by decide +kernel
theorem dX9_reason_67 : decode cX9_reason 67 = .ok (.getfield 157, 3) := by decide +kernel
theorem dX9_reason_70 : decode cX9_reason 70 = .ok (.aload_n 0, 1) := by decide +kernel
theorem dX9_reason_71 : decode cX9_reason 71 = .ok (.getfield 49, 3) := by decide +kernel
theorem dX9_reason_74 : decode cX9_reason 74 = .ok (.iload_n 2, 1) := by decide +kernel
theorem dX9_reason_75 : decode cX9_reason 75 = .ok (.iaload, 1) := by decide +kernel
theorem dX9_reason_76 : decode cX9_reason 76 = .ok (.iadd, 1) := by decide +kernel
theorem dX9_reason_77 : decode cX9_reason 77 = .ok (.aload_n 0, 1) := by decide +kernel
theorem dX9_reason_78 : decode cX9_reason 78 = .ok (.getfield 154, 3) := by decide +kernel
theorem dX9_reason_81 : decode cX9_reason 81 = .ok (.if_icmp .le 7, 3) := by decide +kernel
theorem dX9_reason_84 : decode cX9_reason 84 = .ok (.iconst 1, 1) := by decide +kernel
theorem dX9_reason_85 : decode cX9_reason 85 = .ok (.goto 4, 3) := by decide +kernel
theorem dX9_reason_88 : decode cX9_reason 88 = .ok (.iconst 0, 1) := by decide +kernel
theorem dX9_reason_89 : decode cX9_reason 89 = .ok (.istore 7, 2) := by decide +kernel
theorem dX9_reason_91 : decode cX9_reason 91 = .ok (.iload 8, 2) := by decide +kernel
theorem dX9_reason_93 : decode cX9_reason 93 = .ok (.ifCond .ne 30, 3) := by decide +kernel
theorem dX9_reason_96 : decode cX9_reason 96 = .ok (.aload_n 0, 1) := by decide +kernel
theorem dX9_reason_97 : decode cX9_reason 97 = .ok (.getfield 157, 3) := by decide +kernel
theorem dX9_reason_100 : decode cX9_reason 100 = .ok (.ineg, 1) := by decide +kernel
theorem dX9_reason_101 : decode cX9_reason 101 = .ok (.aload_n 0, 1) := by decide +kernel
theorem dX9_reason_102 : decode cX9_reason 102 = .ok (.getfield 52, 3) := by decide +kernel
theorem dX9_reason_105 : decode cX9_reason 105 = .ok (.iload_n 2, 1) := by decide +kernel
theorem dX9_reason_106 : decode cX9_reason 106 = .ok (.iaload, 1) := by decide +kernel
theorem dX9_reason_107 : decode cX9_reason 107 = .ok (.if_icmp .le 20, 3) := by decide +kernel
theorem dX9_reason_110 : decode cX9_reason 110 = .ok (.aload_n 0, 1) := by decide +kernel
theorem dX9_reason_111 : decode cX9_reason 111 = .ok (.getfield 154, 3) := by decide +kernel
theorem dX9_reason_114 : decode cX9_reason 114 = .ok (.aload_n 0, 1) := by decide +kernel
theorem dX9_reason_115 : decode cX9_reason 115 = .ok (.getfield 55, 3) := by decide +kernel
theorem dX9_reason_118 : decode cX9_reason 118 = .ok (.iload_n 2, 1) := by decide +kernel
theorem dX9_reason_119 : decode cX9_reason 119 = .ok (.iaload, 1) := by decide +kernel
theorem dX9_reason_120 : decode cX9_reason 120 = .ok (.if_icmp .ge 7, 3) := by decide +kernel
theorem dX9_reason_123 : decode cX9_reason 123 = .ok (.iconst 1, 1) := by decide +kernel
theorem dX9_reason_124 : decode cX9_reason 124 = .ok (.goto 4, 3) := by decide +kernel
theorem dX9_reason_127 : decode cX9_reason 127 = .ok (.iconst 0, 1) := by decide +kernel
theorem dX9_reason_128 : decode cX9_reason 128 = .ok (.istore 8, 2) := by decide +kernel
theorem dX9_reason_130 : decode cX9_reason 130 = .ok (.iinc 10 1, 3) := by decide +kernel
theorem dX9_reason_133 : decode cX9_reason 133 = .ok (.goto (-105), 3) := by decide +kernel
theorem dX9_reason_136 : decode cX9_reason 136 = .ok (.iload 5, 2) := by decide +kernel
theorem dX9_reason_138 : decode cX9_reason 138 = .ok (.ifCond .ne 25, 3) := by decide +kernel
theorem dX9_reason_141 : decode cX9_reason 141 = .ok (.aload_n 0, 1) := by decide +kernel
theorem dX9_reason_142 : decode cX9_reason 142 = .ok (.getfield 166, 3) := by decide +kernel
theorem dX9_reason_145 : decode cX9_reason 145 = .ok (.aload_n 0, 1) := by decide +kernel
theorem dX9_reason_146 : decode cX9_reason 146 = .ok (.getfield 46, 3) := by decide +kernel
theorem dX9_reason_149 : decode cX9_reason 149 = .ok (.iload_n 2, 1) := by decide +kernel
theorem dX9_reason_150 : decode cX9_reason 150 = .ok (.iaload, 1) := by decide +kernel
theorem dX9_reason_151 : decode cX9_reason 151 = .ok (.iconst 2, 1) := by decide +kernel
theorem dX9_reason_152 : decode cX9_reason 152 = .ok (.idiv, 1) := by decide +kernel
theorem dX9_reason_153 : decode cX9_reason 153 = .ok (.aload_n 0, 1) := by decide +kernel
theorem dX9_reason_154 : decode cX9_reason 154 = .ok (.getfield 28, 3) := by decide +kernel
theorem dX9_reason_157 : decode cX9_reason 157 = .ok (.iload_n 1, 1) := by decide +kernel
theorem dX9_reason_158 : decode cX9_reason 158 = .ok (.iaload, 1) := by decide +kernel
theorem dX9_reason_159 : decode cX9_reason 159 = .ok (.iadd, 1) := by decide +kernel
theorem dX9_reason_160 : decode cX9_reason 160 = .ok (.if_icmp .ge 7, 3) := by decide +kernel
theorem dX9_reason_163 : decode cX9_reason 163 = .ok (.iconst 1, 1) := by decide +kernel
theorem dX9_reason_164 : decode cX9_reason 164 = .ok (.goto 4, 3) := by decide +kernel
theorem dX9_reason_167 : decode cX9_reason 167 = .ok (.iconst 0, 1) := by decide +kernel
theorem dX9_reason_168 : decode cX9_reason 168 = .ok (.istore 5, 2) := by decide +kernel
theorem dX9_reason_170 : decode cX9_reason 170 = .ok (.iload 6, 2) := by decide +kernel
theorem dX9_reason_172 : decode cX9_reason 172 = .ok (.ifCond .eq 20, 3) := by decide +kernel
theorem dX9_reason_175 : decode cX9_reason 175 = .ok (.aload_n 0, 1) := by decide +kernel
theorem dX9_reason_176 : decode cX9_reason 176 = .ok (.getfield 166, 3) := by decide +kernel
theorem dX9_reason_179 : decode cX9_reason 179 = .ok (.aload_n 0, 1) := by decide +kernel
theorem dX9_reason_180 : decode cX9_reason 180 = .ok (.getfield 58, 3) := by decide +kernel
theorem dX9_reason_183 : decode cX9_reason 183 = .ok (.iload_n 2, 1) := by decide +kernel
theorem dX9_reason_184 : decode cX9_reason 184 = .ok (.iaload, 1) := by decide +kernel
theorem dX9_reason_185 : decode cX9_reason 185 = .ok (.if_icmp .le 7, 3) := by decide +kernel
theorem dX9_reason_188 : decode cX9_reason 188 = .ok (.iconst 1, 1) := by decide +kernel
theorem dX9_reason_189 : decode cX9_reason 189 = .ok (.goto 4, 3) := by decide +kernel
theorem dX9_reason_192 : decode cX9_reason 192 = .ok (.iconst 0, 1) := by decide +kernel
theorem dX9_reason_193 : decode cX9_reason 193 = .ok (.istore 6, 2) := by decide +kernel
theorem dX9_reason_195 : decode cX9_reason 195 = .ok (.iinc 9 2, 3) := by decide +kernel
theorem dX9_reason_198 : decode cX9_reason 198 = .ok (.goto (-183), 3) := by decide +kernel
theorem dX9_reason_201 : decode cX9_reason 201 = .ok (.iload 5, 2) := by decide +kernel
theorem dX9_reason_203 : decode cX9_reason 203 = .ok (.ifCond .eq 7, 3) := by decide +kernel
theorem dX9_reason_206 : decode cX9_reason 206 = .ok (.iconst 1, 1) := by decide +kernel
theorem dX9_reason_207 : decode cX9_reason 207 = .ok (.goto 31, 3) := by decide +kernel
theorem dX9_reason_210 : decode cX9_reason 210 = .ok (.iload 6, 2) := by decide +kernel
theorem dX9_reason_212 : decode cX9_reason 212 = .ok (.ifCond .eq 7, 3) := by decide +kernel
theorem dX9_reason_215 : decode cX9_reason 215 = .ok (.iconst 2, 1) := by decide +kernel
theorem dX9_reason_216 : decode cX9_reason 216 = .ok (.goto 22, 3) := by decide +kernel
theorem dX9_reason_219 : decode cX9_reason 219 = .ok (.iload 7, 2) := by decide +kernel
theorem dX9_reason_221 : decode cX9_reason 221 = .ok (.ifCond .eq 7, 3) := by decide +kernel
theorem dX9_reason_224 : decode cX9_reason 224 = .ok (.iconst 3, 1) := by decide +kernel
theorem dX9_reason_225 : decode cX9_reason 225 = .ok (.goto 13, 3) := by decide +kernel
theorem dX9_reason_228 : decode cX9_reason 228 = .ok (.iload 8, 2) := by decide +kernel
theorem dX9_reason_230 : decode cX9_reason 230 = .ok (.ifCond .eq 7, 3) := by decide +kernel
theorem dX9_reason_233 : decode cX9_reason 233 = .ok (.iconst 4, 1) := by decide +kernel
theorem dX9_reason_234 : decode cX9_reason 234 = .ok (.goto 4, 3) := by decide +kernel
theorem dX9_reason_237 : decode cX9_reason 237 = .ok (.iconst 0, 1) := by decide +kernel
theorem dX9_reason_238 : decode cX9_reason 238 = .ok (.ireturn, 1) := by decide +kernel
theorem dX9_isDone_0 : decode cX9_isDone 0 = .ok (.iload_n 2, 1) := by decide +kernel
theorem dX9_isDone_1 : decode cX9_isDone 1 = .ok (.ifCond .lt 29, 3) := by decide +kernel
theorem dX9_isDone_4 : decode cX9_isDone 4 = .ok (.iload_n 2, 1) := by decide +kernel
theorem dX9_isDone_5 : decode cX9_isDone 5 = .ok (.iconst 1, 1) := by decide +kernel
theorem dX9_isDone_6 : decode cX9_isDone 6 = .ok (.aload_n 0, 1) := by decide +kernel
theorem dX9_isDone_7 : decode cX9_isDone 7 = .ok (.getfield 16, 3) := by decide +kernel
theorem dX9_isDone_10 : decode cX9_isDone 10 = .ok (.iload_n 1, 1) := by decide +kernel
theorem dX9_isDone_11 : decode cX9_isDone 11 = .ok (.iaload, 1) := by decide +kernel
theorem dX9_isDone_12 : decode cX9_isDone 12 = .ok (.iconst 1, 1) := by decide +kernel
theorem dX9_isDone_13 : decode cX9_isDone 13 = .ok (.isub, 1) := by decide +kernel
theorem dX9_isDone_14 : decode cX9_isDone 14 = .ok (.ishl, 1) := by decide +kernel
theorem dX9_isDone_15 : decode cX9_isDone 15 = .ok (.if_icmp .ge 15, 3) := by decide +kernel
theorem dX9_isDone_18 : decode cX9_isDone 18 = .ok (.iload_n 2, 1) := by decide +kernel
theorem dX9_isDone_19 : decode cX9_isDone 19 = .ok (.iload_n 3, 1) := by decide +kernel
theorem dX9_isDone_20 : decode cX9_isDone 20 = .ok (.ishr, 1) := by decide +kernel
theorem dX9_isDone_21 : decode cX9_isDone 21 = .ok (.iconst 1, 1) := by decide +kernel
theorem dX9_isDone_22 : decode cX9_isDone 22 = .ok (.iand, 1) := by decide +kernel
theorem dX9_isDone_23 : decode cX9_isDone 23 = .ok (.ifCond .ne 7, 3) := by decide +kernel
theorem dX9_isDone_26 : decode cX9_isDone 26 = .ok (.iconst 1, 1) := by decide +kernel
theorem dX9_isDone_27 : decode cX9_isDone 27 = .ok (.goto 4, 3) := by decide +kernel
theorem dX9_isDone_30 : decode cX9_isDone 30 = .ok (.iconst 0, 1) := by decide +kernel
theorem dX9_isDone_31 : decode cX9_isDone 31 = .ok (.ireturn, 1) := by decide +kernel
theorem dX9_why_0 : decode cX9_why 0 = .ok (.aload_n 0, 1) := by decide +kernel
theorem dX9_why_1 : decode cX9_why 1 = .ok (.iload_n 1, 1) := by decide +kernel
theorem dX9_why_2 : decode cX9_why 2 = .ok (.invokevirtual 138, 3) := by decide +kernel
theorem dX9_why_5 : decode cX9_why 5 = .ok (.ifCond .eq 32, 3) := by decide +kernel
theorem dX9_why_8 : decode cX9_why 8 = .ok (.aload_n 0, 1) := by decide +kernel
theorem dX9_why_9 : decode cX9_why 9 = .ok (.iload_n 2, 1) := by decide +kernel
theorem dX9_why_10 : decode cX9_why 10 = .ok (.invokevirtual 151, 3) := by decide +kernel
theorem dX9_why_13 : decode cX9_why 13 = .ok (.ifCond .eq 24, 3) := by decide +kernel
theorem dX9_why_16 : decode cX9_why 16 = .ok (.iload 4, 2) := by decide +kernel
theorem dX9_why_18 : decode cX9_why 18 = .ok (.iconst 0, 1) := by decide +kernel
theorem dX9_why_19 : decode cX9_why 19 = .ok (.aload_n 0, 1) := by decide +kernel
theorem dX9_why_20 : decode cX9_why 20 = .ok (.getfield 16, 3) := by decide +kernel
theorem dX9_why_23 : decode cX9_why 23 = .ok (.iload_n 1, 1) := by decide +kernel
theorem dX9_why_24 : decode cX9_why 24 = .ok (.iaload, 1) := by decide +kernel
theorem dX9_why_25 : decode cX9_why 25 = .ok (.iconst 2, 1) := by decide +kernel
theorem dX9_why_26 : decode cX9_why 26 = .ok (.isub, 1) := by decide +kernel
theorem dX9_why_27 : decode cX9_why 27 = .ok (.invokestatic 113, 3) := by decide +kernel
theorem dX9_why_30 : decode cX9_why 30 = .ok (.ifCond .eq 7, 3) := by decide +kernel
theorem dX9_why_33 : decode cX9_why 33 = .ok (.iconst 1, 1) := by decide +kernel
theorem dX9_why_34 : decode cX9_why 34 = .ok (.goto 4, 3) := by decide +kernel
theorem dX9_why_37 : decode cX9_why 37 = .ok (.iconst 0, 1) := by decide +kernel
theorem dX9_why_38 : decode cX9_why 38 = .ok (.istore 5, 2) := by decide +kernel
theorem dX9_why_40 : decode cX9_why 40 = .ok (.aload_n 0, 1) := by decide +kernel
theorem dX9_why_41 : decode cX9_why 41 = .ok (.iload 5, 2) := by decide +kernel
theorem dX9_why_43 : decode cX9_why 43 = .ok (.ifCond .ne 7, 3) := by decide +kernel
theorem dX9_why_46 : decode cX9_why 46 = .ok (.iconst 1, 1) := by decide +kernel
theorem dX9_why_47 : decode cX9_why 47 = .ok (.goto 19, 3) := by decide +kernel
theorem dX9_why_50 : decode cX9_why 50 = .ok (.aload_n 0, 1) := by decide +kernel
theorem dX9_why_51 : decode cX9_why 51 = .ok (.iload_n 1, 1) := by decide +kernel
theorem dX9_why_52 : decode cX9_why 52 = .ok (.iload_n 3, 1) := by decide +kernel
theorem dX9_why_53 : decode cX9_why 53 = .ok (.iload 4, 2) := by decide +kernel
theorem dX9_why_55 : decode cX9_why 55 = .ok (.invokevirtual 184, 3) := by decide +kernel
theorem dX9_why_58 : decode cX9_why 58 = .ok (.ifCond .eq 7, 3) := by decide +kernel
theorem dX9_why_61 : decode cX9_why 61 = .ok (.iconst 0, 1) := by decide +kernel
theorem dX9_why_62 : decode cX9_why 62 = .ok (.goto 4, 3) := by decide +kernel
theorem dX9_why_65 : decode cX9_why 65 = .ok (.iconst 2, 1) := by decide +kernel
theorem dX9_why_66 : decode cX9_why 66 = .ok (.invokevirtual 126, 3) := by decide +kernel
theorem dX9_why_69 : decode cX9_why 69 = .ok (.ifCond .eq 15, 3) := by decide +kernel
theorem dX9_why_72 : decode cX9_why 72 = .ok (.aload_n 0, 1) := by decide +kernel
theorem dX9_why_73 : decode cX9_why 73 = .ok (.iload_n 1, 1) := by decide +kernel
theorem dX9_why_74 : decode cX9_why 74 = .ok (.iload_n 2, 1) := by decide +kernel
theorem dX9_why_75 : decode cX9_why 75 = .ok (.iload_n 3, 1) := by decide +kernel
theorem dX9_why_76 : decode cX9_why 76 = .ok (.iload 4, 2) := by decide +kernel
theorem dX9_why_78 : decode cX9_why 78 = .ok (.invokevirtual 187, 3) := by decide +kernel
theorem dX9_why_81 : decode cX9_why 81 = .ok (.goto 4, 3) := by decide +kernel
theorem dX9_why_84 : decode cX9_why 84 = .ok (.iconst 0, 1) := by decide +kernel
theorem dX9_why_85 : decode cX9_why 85 = .ok (.ireturn, 1) := by decide +kernel
theorem dX9_point_0 : decode cX9_point 0 = .ok (.aload_n 0, 1) := by decide +kernel
theorem dX9_point_1 : decode cX9_point 1 = .ok (.iload_n 1, 1) := by decide +kernel
theorem dX9_point_2 : decode cX9_point 2 = .ok (.invokevirtual 138, 3) := by decide +kernel
theorem dX9_point_5 : decode cX9_point 5 = .ok (.ifCond .eq 50, 3) := by decide +kernel
theorem dX9_point_8 : decode cX9_point 8 = .ok (.iload_n 3, 1) := by decide +kernel
theorem dX9_point_9 : decode cX9_point 9 = .ok (.iconst 0, 1) := by decide +kernel
theorem dX9_point_10 : decode cX9_point 10 = .ok (.aload_n 0, 1) := by decide +kernel
theorem dX9_point_11 : decode cX9_point 11 = .ok (.getfield 16, 3) := by decide +kernel
theorem dX9_point_14 : decode cX9_point 14 = .ok (.iload_n 1, 1) := by decide +kernel
theorem dX9_point_15 : decode cX9_point 15 = .ok (.iaload, 1) := by decide +kernel
theorem dX9_point_16 : decode cX9_point 16 = .ok (.iconst 2, 1) := by decide +kernel
theorem dX9_point_17 : decode cX9_point 17 = .ok (.isub, 1) := by decide +kernel
theorem dX9_point_18 : decode cX9_point 18 = .ok (.invokestatic 113, 3) := by decide +kernel
theorem dX9_point_21 : decode cX9_point 21 = .ok (.ifCond .eq 34, 3) := by decide +kernel
theorem dX9_point_24 : decode cX9_point 24 = .ok (.iload 5, 2) := by decide +kernel
theorem dX9_point_26 : decode cX9_point 26 = .ok (.iconst 0, 1) := by decide +kernel
theorem dX9_point_27 : decode cX9_point 27 = .ok (.aload_n 0, 1) := by decide +kernel
theorem dX9_point_28 : decode cX9_point 28 = .ok (.iload_n 1, 1) := by decide +kernel
theorem dX9_point_29 : decode cX9_point 29 = .ok (.iload_n 3, 1) := by decide +kernel
theorem dX9_point_30 : decode cX9_point 30 = .ok (.iload 4, 2) := by decide +kernel
theorem dX9_point_32 : decode cX9_point 32 = .ok (.ifCond .eq 7, 3) := by decide +kernel
theorem dX9_point_35 : decode cX9_point 35 = .ok (.iconst 1, 1) := by decide +kernel
theorem dX9_point_36 : decode cX9_point 36 = .ok (.goto 4, 3) := by decide +kernel
theorem dX9_point_39 : decode cX9_point 39 = .ok (.iconst (-1), 1) := by decide +kernel
theorem dX9_point_40 : decode cX9_point 40 = .ok (.invokevirtual 176, 3) := by decide +kernel
theorem dX9_point_43 : decode cX9_point 43 = .ok (.iconst 1, 1) := by decide +kernel
theorem dX9_point_44 : decode cX9_point 44 = .ok (.isub, 1) := by decide +kernel
theorem dX9_point_45 : decode cX9_point 45 = .ok (.invokestatic 113, 3) := by decide +kernel
theorem dX9_point_48 : decode cX9_point 48 = .ok (.ifCond .eq 7, 3) := by decide +kernel
theorem dX9_point_51 : decode cX9_point 51 = .ok (.iconst 1, 1) := by decide +kernel
theorem dX9_point_52 : decode cX9_point 52 = .ok (.goto 4, 3) := by decide +kernel
theorem dX9_point_55 : decode cX9_point 55 = .ok (.iconst 0, 1) := by decide +kernel
theorem dX9_point_56 : decode cX9_point 56 = .ok (.istore 7, 2) := by decide +kernel
theorem dX9_point_58 : decode cX9_point 58 = .ok (.aload_n 0, 1) := by decide +kernel
theorem dX9_point_59 : decode cX9_point 59 = .ok (.iload 7, 2) := by decide +kernel
theorem dX9_point_61 : decode cX9_point 61 = .ok (.ifCond .ne 7, 3) := by decide +kernel
theorem dX9_point_64 : decode cX9_point 64 = .ok (.iconst 1, 1) := by decide +kernel
theorem dX9_point_65 : decode cX9_point 65 = .ok (.goto 18, 3) := by decide +kernel
theorem dX9_point_68 : decode cX9_point 68 = .ok (.aload_n 0, 1) := by decide +kernel
theorem dX9_point_69 : decode cX9_point 69 = .ok (.iload_n 1, 1) := by decide +kernel
theorem dX9_point_70 : decode cX9_point 70 = .ok (.iload_n 2, 1) := by decide +kernel
theorem dX9_point_71 : decode cX9_point 71 = .ok (.iload_n 3, 1) := by decide +kernel
theorem dX9_point_72 : decode cX9_point 72 = .ok (.invokevirtual 184, 3) := by decide +kernel
theorem dX9_point_75 : decode cX9_point 75 = .ok (.ifCond .eq 7, 3) := by decide +kernel
theorem dX9_point_78 : decode cX9_point 78 = .ok (.iconst 0, 1) := by decide +kernel
theorem dX9_point_79 : decode cX9_point 79 = .ok (.goto 4, 3) := by decide +kernel
theorem dX9_point_82 : decode cX9_point 82 = .ok (.iconst 2, 1) := by decide +kernel
theorem dX9_point_83 : decode cX9_point 83 = .ok (.invokevirtual 126, 3) := by decide +kernel
theorem dX9_point_86 : decode cX9_point 86 = .ok (.ifCond .ne 5, 3) := by decide +kernel
theorem dX9_point_89 : decode cX9_point 89 = .ok (.iconst 0, 1) := by decide +kernel
theorem dX9_point_90 : decode cX9_point 90 = .ok (.ireturn, 1) := by decide +kernel
theorem dX9_point_91 : decode cX9_point 91 = .ok (.aload_n 0, 1) := by decide +kernel
theorem dX9_point_92 : decode cX9_point 92 = .ok (.invokevirtual 173, 3) := by decide +kernel
theorem dX9_point_95 : decode cX9_point 95 = .ok (.iconst 0, 1) := by decide +kernel
theorem dX9_point_96 : decode cX9_point 96 = .ok (.istore 8, 2) := by decide +kernel
theorem dX9_point_98 : decode cX9_point 98 = .ok (.iload 8, 2) := by decide +kernel
theorem dX9_point_100 : decode cX9_point 100 = .ok (.iload 5, 2) := by decide +kernel
theorem dX9_point_102 : decode cX9_point 102 = .ok (.if_icmp .gt 28, 3) := by decide +kernel
theorem dX9_point_105 : decode cX9_point 105 = .ok (.aload_n 0, 1) := by decide +kernel
theorem dX9_point_106 : decode cX9_point 106 = .ok (.iload_n 1, 1) := by decide +kernel
theorem dX9_point_107 : decode cX9_point 107 = .ok (.iload_n 2, 1) := by decide +kernel
theorem dX9_point_108 : decode cX9_point 108 = .ok (.iload_n 3, 1) := by decide +kernel
theorem dX9_point_109 : decode cX9_point 109 = .ok (.iload 4, 2) := by decide +kernel
theorem dX9_point_111 : decode cX9_point 111 = .ok (.ifCond .eq 7, 3) := by decide +kernel
theorem dX9_point_114 : decode cX9_point 114 = .ok (.iconst 1, 1) := by decide +kernel
theorem dX9_point_115 : decode cX9_point 115 = .ok (.goto 4, 3) := by decide +kernel
theorem dX9_point_118 : decode cX9_point 118 = .ok (.iconst (-1), 1) := by decide +kernel
theorem dX9_point_119 : decode cX9_point 119 = .ok (.iload 8, 2) := by decide +kernel
theorem dX9_point_121 : decode cX9_point 121 = .ok (.invokevirtual 180, 3) := by decide +kernel
theorem dX9_point_124 : decode cX9_point 124 = .ok (.iinc 8 1, 3) := by decide +kernel
theorem dX9_point_127 : decode cX9_point 127 = .ok (.goto (-29), 3) := by decide +kernel
theorem dX9_point_130 : decode cX9_point 130 = .ok (.iload 6, 2) := by decide +kernel
theorem dX9_point_132 : decode cX9_point 132 = .ok (.ifCond .eq 10, 3) := by decide +kernel
theorem dX9_point_135 : decode cX9_point 135 = .ok (.aload_n 0, 1) := by decide +kernel
theorem dX9_point_136 : decode cX9_point 136 = .ok (.getfield 157, 3) := by decide +kernel
theorem dX9_point_139 : decode cX9_point 139 = .ok (.goto 7, 3) := by decide +kernel
theorem dX9_point_142 : decode cX9_point 142 = .ok (.aload_n 0, 1) := by decide +kernel
theorem dX9_point_143 : decode cX9_point 143 = .ok (.getfield 154, 3) := by decide +kernel
theorem dX9_point_146 : decode cX9_point 146 = .ok (.ireturn, 1) := by decide +kernel
theorem dX9_findOrders_0 : decode cX9_findOrders 0 = .ok (.aload_n 0, 1) := by decide +kernel
theorem dX9_findOrders_1 : decode cX9_findOrders 1 = .ok (.getfield 16, 3) := by decide +kernel
theorem dX9_findOrders_4 : decode cX9_findOrders 4 = .ok (.iload_n 1, 1) := by decide +kernel
theorem dX9_findOrders_5 : decode cX9_findOrders 5 = .ok (.iaload, 1) := by decide +kernel
theorem dX9_findOrders_6 : decode cX9_findOrders 6 = .ok (.iconst 1, 1) := by decide +kernel
theorem dX9_findOrders_7 : decode cX9_findOrders 7 = .ok (.isub, 1) := by decide +kernel
theorem dX9_findOrders_8 : decode cX9_findOrders 8 = .ok (.istore_n 3, 1) := by decide +kernel
theorem dX9_findOrders_9 : decode cX9_findOrders 9 = .ok (.iconst 1, 1) := by decide +kernel
theorem dX9_findOrders_10 : decode cX9_findOrders 10 = .ok (.iload_n 3, 1) := by decide +kernel
theorem dX9_findOrders_11 : decode cX9_findOrders 11 = .ok (.ishl, 1) := by decide +kernel
theorem dX9_findOrders_12 : decode cX9_findOrders 12 = .ok (.iconst 1, 1) := by decide +kernel
theorem dX9_findOrders_13 : decode cX9_findOrders 13 = .ok (.isub, 1) := by decide +kernel
theorem dX9_findOrders_14 : decode cX9_findOrders 14 = .ok (.istore 4, 2) := by decide +kernel
theorem dX9_findOrders_16 : decode cX9_findOrders 16 = .ok (.iload 4, 2) := by decide +kernel
theorem dX9_findOrders_18 : decode cX9_findOrders 18 = .ok (.ifCond .lt 199, 3) := by decide +kernel
theorem dX9_findOrders_21 : decode cX9_findOrders 21 = .ok (.iconst 0, 1) := by decide +kernel
theorem dX9_findOrders_22 : decode cX9_findOrders 22 = .ok (.istore 5, 2) := by decide +kernel
theorem dX9_findOrders_24 : decode cX9_findOrders 24 = .ok (.iload 5, 2) := by decide +kernel
theorem dX9_findOrders_26 : decode cX9_findOrders 26 = .ok (.bipush 7, 2) := by decide +kernel
theorem dX9_findOrders_28 : decode cX9_findOrders 28 = .ok (.if_icmp .ge 38, 3) := by decide +kernel
theorem dX9_findOrders_31 : decode cX9_findOrders 31 = .ok (.aload_n 0, 1) := by decide +kernel
theorem dX9_findOrders_32 : decode cX9_findOrders 32 = .ok (.getfield 85, 3) := by decide +kernel
theorem dX9_findOrders_35 : decode cX9_findOrders 35 = .ok (.bipush 7, 2) := by decide +kernel
theorem dX9_findOrders_37 : decode cX9_findOrders 37 = .ok (.iload 4, 2) := by decide +kernel
theorem dX9_findOrders_39 : decode cX9_findOrders 39 = .ok (.imul, 1) := by decide +kernel
theorem dX9_findOrders_40 : decode cX9_findOrders 40 = .ok (.iload 5, 2) := by decide +kernel
theorem dX9_findOrders_42 : decode cX9_findOrders 42 = .ok (.iadd, 1) := by decide +kernel
theorem dX9_findOrders_43 : decode cX9_findOrders 43 = .ok (.iload 4, 2) := by decide +kernel
theorem dX9_findOrders_45 : decode cX9_findOrders 45 = .ok (.iconst 1, 1) := by decide +kernel
theorem dX9_findOrders_46 : decode cX9_findOrders 46 = .ok (.iload_n 3, 1) := by decide +kernel
theorem dX9_findOrders_47 : decode cX9_findOrders 47 = .ok (.ishl, 1) := by decide +kernel
theorem dX9_findOrders_48 : decode cX9_findOrders 48 = .ok (.iconst 1, 1) := by decide +kernel
theorem dX9_findOrders_49 : decode cX9_findOrders 49 = .ok (.isub, 1) := by decide +kernel
theorem dX9_findOrders_50 : decode cX9_findOrders 50 = .ok (.if_icmp .ne 7, 3) := by decide +kernel
theorem dX9_findOrders_53 : decode cX9_findOrders 53 = .ok (.iconst 0, 1) := by decide +kernel
theorem dX9_findOrders_54 : decode cX9_findOrders 54 = .ok (.goto 5, 3) := by decide +kernel
theorem dX9_findOrders_57 : decode cX9_findOrders 57 = .ok (.bipush 99, 2) := by decide +kernel
theorem dX9_findOrders_59 : decode cX9_findOrders 59 = .ok (.iastore, 1) := by decide +kernel
theorem dX9_findOrders_60 : decode cX9_findOrders 60 = .ok (.iinc 5 1, 3) := by decide +kernel
theorem dX9_findOrders_63 : decode cX9_findOrders 63 = .ok (.goto (-39), 3) := by decide +kernel
theorem dX9_findOrders_66 : decode cX9_findOrders 66 = .ok (.iconst 0, 1) := by decide +kernel
theorem dX9_findOrders_67 : decode cX9_findOrders 67 = .ok (.istore 5, 2) := by decide +kernel
theorem dX9_findOrders_69 : decode cX9_findOrders 69 = .ok (.iload 5, 2) := by decide +kernel
theorem dX9_findOrders_71 : decode cX9_findOrders 71 = .ok (.iload_n 3, 1) := by decide +kernel
theorem dX9_findOrders_72 : decode cX9_findOrders 72 = .ok (.if_icmp .ge 139, 3) := by decide +kernel
theorem dX9_findOrders_75 : decode cX9_findOrders 75 = .ok (.iload 4, 2) := by decide +kernel
theorem dX9_findOrders_77 : decode cX9_findOrders 77 = .ok (.iload 5, 2) := by decide +kernel
theorem dX9_findOrders_79 : decode cX9_findOrders 79 = .ok (.ishr, 1) := by decide +kernel
theorem dX9_findOrders_80 : decode cX9_findOrders 80 = .ok (.iconst 1, 1) := by decide +kernel
theorem dX9_findOrders_81 : decode cX9_findOrders 81 = .ok (.iand, 1) := by decide +kernel
theorem dX9_findOrders_82 : decode cX9_findOrders 82 = .ok (.ifCond .ne 20, 3) := by decide +kernel
theorem dX9_findOrders_85 : decode cX9_findOrders 85 = .ok (.aload_n 0, 1) := by decide +kernel
theorem dX9_findOrders_86 : decode cX9_findOrders 86 = .ok (.iload_n 1, 1) := by decide +kernel
theorem dX9_findOrders_87 : decode cX9_findOrders 87 = .ok (.iload_n 2, 1) := by decide +kernel
theorem dX9_findOrders_88 : decode cX9_findOrders 88 = .ok (.iload 4, 2) := by decide +kernel
theorem dX9_findOrders_90 : decode cX9_findOrders 90 = .ok (.iload 5, 2) := by decide +kernel
theorem dX9_findOrders_92 : decode cX9_findOrders 92 = .ok (.invokevirtual 187, 3) := by decide +kernel
theorem dX9_findOrders_95 : decode cX9_findOrders 95 = .ok (.ifCond .ne 7, 3) := by decide +kernel
theorem dX9_findOrders_98 : decode cX9_findOrders 98 = .ok (.iconst 1, 1) := by decide +kernel
theorem dX9_findOrders_99 : decode cX9_findOrders 99 = .ok (.goto 4, 3) := by decide +kernel
theorem dX9_findOrders_102 : decode cX9_findOrders 102 = .ok (.iconst 0, 1) := by decide +kernel
theorem dX9_findOrders_103 : decode cX9_findOrders 103 = .ok (.istore 6, 2) := by decide +kernel
theorem dX9_findOrders_105 : decode cX9_findOrders 105 = .ok (.iconst 0, 1) := by decide +kernel
theorem dX9_findOrders_106 : decode cX9_findOrders 106 = .ok (.istore 7, 2) := by decide +kernel
theorem dX9_findOrders_108 : decode cX9_findOrders 108 = .ok (.iload 7, 2) := by decide +kernel
theorem dX9_findOrders_110 : decode cX9_findOrders 110 = .ok (.bipush 7, 2) := by decide +kernel
theorem dX9_findOrders_112 : decode cX9_findOrders 112 = .ok (.if_icmp .ge 93, 3) := by decide +kernel
theorem dX9_findOrders_115 : decode cX9_findOrders 115 = .ok (.iload 6, 2) := by decide +kernel
theorem dX9_findOrders_117 : decode cX9_findOrders 117 = .ok (.ifCond .eq 88, 3) := by decide +kernel
theorem dX9_findOrders_120 : decode cX9_findOrders 120 = .ok (.aload_n 0, 1) := by decide +kernel
theorem dX9_findOrders_121 : decode cX9_findOrders 121 = .ok (.iload_n 1, 1) := by decide +kernel
theorem dX9_findOrders_122 : decode cX9_findOrders 122 = .ok (.iload 7, 2) := by decide +kernel
theorem dX9_findOrders_124 : decode cX9_findOrders 124 = .ok (.iload 5, 2) := by decide +kernel
theorem dX9_findOrders_126 : decode cX9_findOrders 126 = .ok (.invokevirtual 191, 3) := by decide +kernel
theorem dX9_findOrders_129 : decode cX9_findOrders 129 = .ok (.aload_n 0, 1) := by decide +kernel
theorem dX9_findOrders_130 : decode cX9_findOrders 130 = .ok (.getfield 85, 3) := by decide +kernel
theorem dX9_findOrders_133 : decode cX9_findOrders 133 = .ok (.bipush 7, 2) := by decide +kernel
theorem dX9_findOrders_135 : decode cX9_findOrders 135 = .ok (.iload 4, 2) := by decide +kernel
theorem dX9_findOrders_137 : decode cX9_findOrders 137 = .ok (.iconst 1, 1) := by decide +kernel
theorem dX9_findOrders_138 : decode cX9_findOrders 138 = .ok (.iload 5, 2) := by decide +kernel
theorem dX9_findOrders_140 : decode cX9_findOrders 140 = .ok (.ishl, 1) := by decide +kernel
theorem dX9_findOrders_141 : decode cX9_findOrders 141 = .ok (.ior, 1) := by decide +kernel
theorem dX9_findOrders_142 : decode cX9_findOrders 142 = .ok (.imul, 1) := by decide +kernel
theorem dX9_findOrders_143 : decode cX9_findOrders 143 = .ok (.iload 5, 2) := by decide +kernel
theorem dX9_findOrders_145 : decode cX9_findOrders 145 = .ok (.iadd, 1) := by decide +kernel
theorem dX9_findOrders_146 : decode cX9_findOrders 146 = .ok (.iaload, 1) := by decide +kernel
theorem dX9_findOrders_147 : decode cX9_findOrders 147 = .ok (.iadd, 1) := by decide +kernel
theorem dX9_findOrders_148 : decode cX9_findOrders 148 = .ok (.istore 8, 2) := by decide +kernel
theorem dX9_findOrders_150 : decode cX9_findOrders 150 = .ok (.aload_n 0, 1) := by decide +kernel
theorem dX9_findOrders_151 : decode cX9_findOrders 151 = .ok (.getfield 85, 3) := by decide +kernel
theorem dX9_findOrders_154 : decode cX9_findOrders 154 = .ok (.bipush 7, 2) := by decide +kernel
theorem dX9_findOrders_156 : decode cX9_findOrders 156 = .ok (.iload 4, 2) := by decide +kernel
theorem dX9_findOrders_158 : decode cX9_findOrders 158 = .ok (.imul, 1) := by decide +kernel
theorem dX9_findOrders_159 : decode cX9_findOrders 159 = .ok (.iload 7, 2) := by decide +kernel
theorem dX9_findOrders_161 : decode cX9_findOrders 161 = .ok (.iadd, 1) := by decide +kernel
theorem dX9_findOrders_162 : decode cX9_findOrders 162 = .ok (.iload 8, 2) := by decide +kernel
theorem dX9_findOrders_164 : decode cX9_findOrders 164 = .ok (.aload_n 0, 1) := by decide +kernel
theorem dX9_findOrders_165 : decode cX9_findOrders 165 = .ok (.getfield 85, 3) := by decide +kernel
theorem dX9_findOrders_168 : decode cX9_findOrders 168 = .ok (.bipush 7, 2) := by decide +kernel
theorem dX9_findOrders_170 : decode cX9_findOrders 170 = .ok (.iload 4, 2) := by decide +kernel
theorem dX9_findOrders_172 : decode cX9_findOrders 172 = .ok (.imul, 1) := by decide +kernel
theorem dX9_findOrders_173 : decode cX9_findOrders 173 = .ok (.iload 7, 2) := by decide +kernel
theorem dX9_findOrders_175 : decode cX9_findOrders 175 = .ok (.iadd, 1) := by decide +kernel
theorem dX9_findOrders_176 : decode cX9_findOrders 176 = .ok (.iaload, 1) := by decide +kernel
theorem dX9_findOrders_177 : decode cX9_findOrders 177 = .ok (.if_icmp .ge 8, 3) := by decide +kernel
theorem dX9_findOrders_180 : decode cX9_findOrders 180 = .ok (.iload 8, 2) := by decide +kernel
theorem dX9_findOrders_182 : decode cX9_findOrders 182 = .ok (.goto 16, 3) := by decide +kernel
theorem dX9_findOrders_185 : decode cX9_findOrders 185 = .ok (.aload_n 0, 1) := by decide +kernel
theorem dX9_findOrders_186 : decode cX9_findOrders 186 = .ok (.getfield 85, 3) := by decide +kernel
theorem dX9_findOrders_189 : decode cX9_findOrders 189 = .ok (.bipush 7, 2) := by decide +kernel
theorem dX9_findOrders_191 : decode cX9_findOrders 191 = .ok (.iload 4, 2) := by decide +kernel
theorem dX9_findOrders_193 : decode cX9_findOrders 193 = .ok (.imul, 1) := by decide +kernel
theorem dX9_findOrders_194 : decode cX9_findOrders 194 = .ok (.iload 7, 2) := by decide +kernel
theorem dX9_findOrders_196 : decode cX9_findOrders 196 = .ok (.iadd, 1) := by decide +kernel
theorem dX9_findOrders_197 : decode cX9_findOrders 197 = .ok (.iaload, 1) := by decide +kernel
theorem dX9_findOrders_198 : decode cX9_findOrders 198 = .ok (.iastore, 1) := by decide +kernel
theorem dX9_findOrders_199 : decode cX9_findOrders 199 = .ok (.iinc 7 1, 3) := by decide +kernel
theorem dX9_findOrders_202 : decode cX9_findOrders 202 = .ok (.goto (-94), 3) := by decide +kernel
theorem dX9_findOrders_205 : decode cX9_findOrders 205 = .ok (.iinc 5 1, 3) := by decide +kernel
theorem dX9_findOrders_208 : decode cX9_findOrders 208 = .ok (.goto (-139), 3) := by decide +kernel
theorem dX9_findOrders_211 : decode cX9_findOrders 211 = .ok (.iinc 4 (-1), 3) := by decide +kernel
theorem dX9_findOrders_214 : decode cX9_findOrders 214 = .ok (.goto (-198), 3) := by decide +kernel
theorem dX9_findOrders_217 : decode cX9_findOrders 217 = .ok (.return_, 1) := by decide +kernel
theorem dX9_turn_0 : decode cX9_turn 0 = .ok (.iload_n 2, 1) := by decide +kernel
theorem dX9_turn_1 : decode cX9_turn 1 = .ok (.aload_n 0, 1) := by decide +kernel
theorem dX9_turn_2 : decode cX9_turn 2 = .ok (.getfield 16, 3) := by decide +kernel
theorem dX9_turn_5 : decode cX9_turn 5 = .ok (.iload_n 1, 1) := by decide +kernel
theorem dX9_turn_6 : decode cX9_turn 6 = .ok (.iaload, 1) := by decide +kernel
theorem dX9_turn_7 : decode cX9_turn 7 = .ok (.iconst 1, 1) := by decide +kernel
theorem dX9_turn_8 : decode cX9_turn 8 = .ok (.isub, 1) := by decide +kernel
theorem dX9_turn_9 : decode cX9_turn 9 = .ok (.if_icmp .ge 32, 3) := by decide +kernel
theorem dX9_turn_12 : decode cX9_turn 12 = .ok (.aload_n 0, 1) := by decide +kernel
theorem dX9_turn_13 : decode cX9_turn 13 = .ok (.getfield 22, 3) := by decide +kernel
theorem dX9_turn_16 : decode cX9_turn 16 = .ok (.bipush 6, 2) := by decide +kernel
theorem dX9_turn_18 : decode cX9_turn 18 = .ok (.iload_n 1, 1) := by decide +kernel
theorem dX9_turn_19 : decode cX9_turn 19 = .ok (.imul, 1) := by decide +kernel
theorem dX9_turn_20 : decode cX9_turn 20 = .ok (.iload_n 2, 1) := by decide +kernel
theorem dX9_turn_21 : decode cX9_turn 21 = .ok (.iadd, 1) := by decide +kernel
theorem dX9_turn_22 : decode cX9_turn 22 = .ok (.iaload, 1) := by decide +kernel
theorem dX9_turn_23 : decode cX9_turn 23 = .ok (.aload_n 0, 1) := by decide +kernel
theorem dX9_turn_24 : decode cX9_turn 24 = .ok (.getfield 22, 3) := by decide +kernel
theorem dX9_turn_27 : decode cX9_turn 27 = .ok (.bipush 6, 2) := by decide +kernel
theorem dX9_turn_29 : decode cX9_turn 29 = .ok (.iload_n 1, 1) := by decide +kernel
theorem dX9_turn_30 : decode cX9_turn 30 = .ok (.imul, 1) := by decide +kernel
theorem dX9_turn_31 : decode cX9_turn 31 = .ok (.iload_n 3, 1) := by decide +kernel
theorem dX9_turn_32 : decode cX9_turn 32 = .ok (.iadd, 1) := by decide +kernel
theorem dX9_turn_33 : decode cX9_turn 33 = .ok (.iaload, 1) := by decide +kernel
theorem dX9_turn_34 : decode cX9_turn 34 = .ok (.if_icmp .eq 7, 3) := by decide +kernel
theorem dX9_turn_37 : decode cX9_turn 37 = .ok (.iconst 1, 1) := by decide +kernel
theorem dX9_turn_38 : decode cX9_turn 38 = .ok (.goto 4, 3) := by decide +kernel
theorem dX9_turn_41 : decode cX9_turn 41 = .ok (.iconst 0, 1) := by decide +kernel
theorem dX9_turn_42 : decode cX9_turn 42 = .ok (.ireturn, 1) := by decide +kernel
theorem dX9_turns_0 : decode cX9_turns 0 = .ok (.aload_n 0, 1) := by decide +kernel
theorem dX9_turns_1 : decode cX9_turns 1 = .ok (.iload_n 1, 1) := by decide +kernel
theorem dX9_turns_2 : decode cX9_turns 2 = .ok (.iload_n 2, 1) := by decide +kernel
theorem dX9_turns_3 : decode cX9_turns 3 = .ok (.invokevirtual 194, 3) := by decide +kernel
theorem dX9_turns_6 : decode cX9_turns 6 = .ok (.aload_n 0, 1) := by decide +kernel
theorem dX9_turns_7 : decode cX9_turns 7 = .ok (.getfield 85, 3) := by decide +kernel
theorem dX9_turns_10 : decode cX9_turns 10 = .ok (.bipush 6, 2) := by decide +kernel
theorem dX9_turns_12 : decode cX9_turns 12 = .ok (.iaload, 1) := by decide +kernel
theorem dX9_turns_13 : decode cX9_turns 13 = .ok (.bipush 99, 2) := by decide +kernel
theorem dX9_turns_15 : decode cX9_turns 15 = .ok (.if_icmp .ge 13, 3) := by decide +kernel
theorem dX9_turns_18 : decode cX9_turns 18 = .ok (.aload_n 0, 1) := by decide +kernel
theorem dX9_turns_19 : decode cX9_turns 19 = .ok (.getfield 85, 3) := by decide +kernel
theorem dX9_turns_22 : decode cX9_turns 22 = .ok (.bipush 6, 2) := by decide +kernel
theorem dX9_turns_24 : decode cX9_turns 24 = .ok (.iaload, 1) := by decide +kernel
theorem dX9_turns_25 : decode cX9_turns 25 = .ok (.goto 4, 3) := by decide +kernel
theorem dX9_turns_28 : decode cX9_turns 28 = .ok (.iconst (-1), 1) := by decide +kernel
theorem dX9_turns_29 : decode cX9_turns 29 = .ok (.ireturn, 1) := by decide +kernel
theorem dX9_flips_0 : decode cX9_flips 0 = .ok (.aload_n 0, 1) := by decide +kernel
theorem dX9_flips_1 : decode cX9_flips 1 = .ok (.aload_n 0, 1) := by decide +kernel
theorem dX9_flips_2 : decode cX9_flips 2 = .ok (.iload_n 1, 1) := by decide +kernel
theorem dX9_flips_3 : decode cX9_flips 3 = .ok (.invokevirtual 138, 3) := by decide +kernel
theorem dX9_flips_6 : decode cX9_flips 6 = .ok (.ifCond .eq 15, 3) := by decide +kernel
theorem dX9_flips_9 : decode cX9_flips 9 = .ok (.aload_n 0, 1) := by decide +kernel
theorem dX9_flips_10 : decode cX9_flips 10 = .ok (.iload_n 2, 1) := by decide +kernel
theorem dX9_flips_11 : decode cX9_flips 11 = .ok (.invokevirtual 151, 3) := by decide +kernel
theorem dX9_flips_14 : decode cX9_flips 14 = .ok (.ifCond .eq 7, 3) := by decide +kernel
theorem dX9_flips_17 : decode cX9_flips 17 = .ok (.iconst 0, 1) := by decide +kernel
theorem dX9_flips_18 : decode cX9_flips 18 = .ok (.goto 4, 3) := by decide +kernel
theorem dX9_flips_21 : decode cX9_flips 21 = .ok (.iconst 1, 1) := by decide +kernel
theorem dX9_flips_22 : decode cX9_flips 22 = .ok (.invokevirtual 126, 3) := by decide +kernel
theorem dX9_flips_25 : decode cX9_flips 25 = .ok (.ifCond .eq 12, 3) := by decide +kernel
theorem dX9_flips_28 : decode cX9_flips 28 = .ok (.aload_n 0, 1) := by decide +kernel
theorem dX9_flips_29 : decode cX9_flips 29 = .ok (.iload_n 1, 1) := by decide +kernel
theorem dX9_flips_30 : decode cX9_flips 30 = .ok (.iload_n 2, 1) := by decide +kernel
theorem dX9_flips_31 : decode cX9_flips 31 = .ok (.invokevirtual 198, 3) := by decide +kernel
theorem dX9_flips_34 : decode cX9_flips 34 = .ok (.goto 4, 3) := by decide +kernel
theorem dX9_flips_37 : decode cX9_flips 37 = .ok (.iconst 0, 1) := by decide +kernel
theorem dX9_flips_38 : decode cX9_flips 38 = .ok (.ireturn, 1) := by decide +kernel
theorem dX9_flipsAnew_0 : decode cX9_flipsAnew 0 = .ok (.aload_n 0, 1) := by decide +kernel
theorem dX9_flipsAnew_1 : decode cX9_flipsAnew 1 = .ok (.aload_n 0, 1) := by decide +kernel
theorem dX9_flipsAnew_2 : decode cX9_flipsAnew 2 = .ok (.iload_n 1, 1) := by decide +kernel
theorem dX9_flipsAnew_3 : decode cX9_flipsAnew 3 = .ok (.invokevirtual 138, 3) := by decide +kernel
theorem dX9_flipsAnew_6 : decode cX9_flipsAnew 6 = .ok (.ifCond .eq 15, 3) := by decide +kernel
theorem dX9_flipsAnew_9 : decode cX9_flipsAnew 9 = .ok (.aload_n 0, 1) := by decide +kernel
theorem dX9_flipsAnew_10 : decode cX9_flipsAnew 10 = .ok (.iload_n 2, 1) := by decide +kernel
theorem dX9_flipsAnew_11 : decode cX9_flipsAnew 11 = .ok (.invokevirtual 151, 3) := by decide +kernel
theorem dX9_flipsAnew_14 : decode cX9_flipsAnew 14 = .ok (.ifCond .eq 7, 3) := by decide +kernel
theorem dX9_flipsAnew_17 : decode cX9_flipsAnew 17 = .ok (.iconst 0, 1) := by decide +kernel
theorem dX9_flipsAnew_18 : decode cX9_flipsAnew 18 = .ok (.goto 4, 3) := by decide +kernel
theorem dX9_flipsAnew_21 : decode cX9_flipsAnew 21 = .ok (.iconst 1, 1) := by decide +kernel
theorem dX9_flipsAnew_22 : decode cX9_flipsAnew 22 = .ok (.invokevirtual 126, 3) := by decide +kernel
theorem dX9_flipsAnew_25 : decode cX9_flipsAnew 25 = .ok (.ifCond .eq 12, 3) := by decide +kernel
theorem dX9_flipsAnew_28 : decode cX9_flipsAnew 28 = .ok (.aload_n 0, 1) := by decide +kernel
theorem dX9_flipsAnew_29 : decode cX9_flipsAnew 29 = .ok (.iload_n 1, 1) := by decide +kernel
theorem dX9_flipsAnew_30 : decode cX9_flipsAnew 30 = .ok (.iload_n 2, 1) := by decide +kernel
theorem dX9_flipsAnew_31 : decode cX9_flipsAnew 31 = .ok (.invokevirtual 198, 3) := by decide +kernel
theorem dX9_flipsAnew_34 : decode cX9_flipsAnew 34 = .ok (.goto 4, 3) := by decide +kernel
theorem dX9_flipsAnew_37 : decode cX9_flipsAnew 37 = .ok (.iconst 0, 1) := by decide +kernel
theorem dX9_flipsAnew_38 : decode cX9_flipsAnew 38 = .ok (.ireturn, 1) := by decide +kernel
theorem dX9_ordered_0 : decode cX9_ordered 0 = .ok (.aload_n 0, 1) := by decide +kernel
theorem dX9_ordered_1 : decode cX9_ordered 1 = .ok (.aload_n 0, 1) := by decide +kernel
theorem dX9_ordered_2 : decode cX9_ordered 2 = .ok (.iload_n 1, 1) := by decide +kernel
theorem dX9_ordered_3 : decode cX9_ordered 3 = .ok (.invokevirtual 138, 3) := by decide +kernel
theorem dX9_ordered_6 : decode cX9_ordered 6 = .ok (.ifCond .eq 19, 3) := by decide +kernel
theorem dX9_ordered_9 : decode cX9_ordered 9 = .ok (.aload_n 0, 1) := by decide +kernel
theorem dX9_ordered_10 : decode cX9_ordered 10 = .ok (.iload_n 2, 1) := by decide +kernel
theorem dX9_ordered_11 : decode cX9_ordered 11 = .ok (.invokevirtual 151, 3) := by decide +kernel
theorem dX9_ordered_14 : decode cX9_ordered 14 = .ok (.ifCond .eq 11, 3) := by decide +kernel
theorem dX9_ordered_17 : decode cX9_ordered 17 = .ok (.iload_n 3, 1) := by decide +kernel
theorem dX9_ordered_18 : decode cX9_ordered 18 = .ok (.ifCond .lt 7, 3) := by decide +kernel
theorem dX9_ordered_21 : decode cX9_ordered 21 = .ok (.iconst 0, 1) := by decide +kernel
theorem dX9_ordered_22 : decode cX9_ordered 22 = .ok (.goto 4, 3) := by decide +kernel
theorem dX9_ordered_25 : decode cX9_ordered 25 = .ok (.iconst 1, 1) := by decide +kernel
theorem dX9_ordered_26 : decode cX9_ordered 26 = .ok (.invokevirtual 126, 3) := by decide +kernel
theorem dX9_ordered_29 : decode cX9_ordered 29 = .ok (.ifCond .ne 5, 3) := by decide +kernel
theorem dX9_ordered_32 : decode cX9_ordered 32 = .ok (.iconst 0, 1) := by decide +kernel
theorem dX9_ordered_33 : decode cX9_ordered 33 = .ok (.ireturn, 1) := by decide +kernel
theorem dX9_ordered_34 : decode cX9_ordered 34 = .ok (.aload_n 0, 1) := by decide +kernel
theorem dX9_ordered_35 : decode cX9_ordered 35 = .ok (.iload_n 1, 1) := by decide +kernel
theorem dX9_ordered_36 : decode cX9_ordered 36 = .ok (.iload_n 2, 1) := by decide +kernel
theorem dX9_ordered_37 : decode cX9_ordered 37 = .ok (.invokevirtual 198, 3) := by decide +kernel
theorem dX9_ordered_40 : decode cX9_ordered 40 = .ok (.iconst (-1), 1) := by decide +kernel
theorem dX9_ordered_41 : decode cX9_ordered 41 = .ok (.if_icmp .eq 15, 3) := by decide +kernel
theorem dX9_ordered_44 : decode cX9_ordered 44 = .ok (.iload_n 3, 1) := by decide +kernel
theorem dX9_ordered_45 : decode cX9_ordered 45 = .ok (.aload_n 0, 1) := by decide +kernel
theorem dX9_ordered_46 : decode cX9_ordered 46 = .ok (.getfield 16, 3) := by decide +kernel
theorem dX9_ordered_49 : decode cX9_ordered 49 = .ok (.iload_n 1, 1) := by decide +kernel
theorem dX9_ordered_50 : decode cX9_ordered 50 = .ok (.iaload, 1) := by decide +kernel
theorem dX9_ordered_51 : decode cX9_ordered 51 = .ok (.iconst 1, 1) := by decide +kernel
theorem dX9_ordered_52 : decode cX9_ordered 52 = .ok (.isub, 1) := by decide +kernel
theorem dX9_ordered_53 : decode cX9_ordered 53 = .ok (.if_icmp .lt 5, 3) := by decide +kernel
theorem dX9_ordered_56 : decode cX9_ordered 56 = .ok (.iconst (-1), 1) := by decide +kernel
theorem dX9_ordered_57 : decode cX9_ordered 57 = .ok (.ireturn, 1) := by decide +kernel
theorem dX9_ordered_58 : decode cX9_ordered 58 = .ok (.iconst 0, 1) := by decide +kernel
theorem dX9_ordered_59 : decode cX9_ordered 59 = .ok (.istore 4, 2) := by decide +kernel
theorem dX9_ordered_61 : decode cX9_ordered 61 = .ok (.bipush 6, 2) := by decide +kernel
theorem dX9_ordered_63 : decode cX9_ordered 63 = .ok (.istore 5, 2) := by decide +kernel
theorem dX9_ordered_65 : decode cX9_ordered 65 = .ok (.iconst 0, 1) := by decide +kernel
theorem dX9_ordered_66 : decode cX9_ordered 66 = .ok (.istore 6, 2) := by decide +kernel
theorem dX9_ordered_68 : decode cX9_ordered 68 = .ok (.iload 6, 2) := by decide +kernel
theorem dX9_ordered_70 : decode cX9_ordered 70 = .ok (.iload_n 3, 1) := by decide +kernel
theorem dX9_ordered_71 : decode cX9_ordered 71 = .ok (.if_icmp .gt 134, 3) := by decide +kernel
theorem dX9_ordered_74 : decode cX9_ordered 74 = .ok (.iconst (-1), 1) := by decide +kernel
theorem dX9_ordered_75 : decode cX9_ordered 75 = .ok (.istore 7, 2) := by decide +kernel
theorem dX9_ordered_77 : decode cX9_ordered 77 = .ok (.aload_n 0, 1) := by decide +kernel
theorem dX9_ordered_78 : decode cX9_ordered 78 = .ok (.getfield 16, 3) := by decide +kernel
theorem dX9_ordered_81 : decode cX9_ordered 81 = .ok (.iload_n 1, 1) := by decide +kernel
theorem dX9_ordered_82 : decode cX9_ordered 82 = .ok (.iaload, 1) := by decide +kernel
theorem dX9_ordered_83 : decode cX9_ordered 83 = .ok (.iconst 2, 1) := by decide +kernel
theorem dX9_ordered_84 : decode cX9_ordered 84 = .ok (.isub, 1) := by decide +kernel
theorem dX9_ordered_85 : decode cX9_ordered 85 = .ok (.istore 8, 2) := by decide +kernel
theorem dX9_ordered_87 : decode cX9_ordered 87 = .ok (.iload 8, 2) := by decide +kernel
theorem dX9_ordered_89 : decode cX9_ordered 89 = .ok (.ifCond .lt 97, 3) := by decide +kernel
theorem dX9_ordered_92 : decode cX9_ordered 92 = .ok (.iload 4, 2) := by decide +kernel
theorem dX9_ordered_94 : decode cX9_ordered 94 = .ok (.iload 8, 2) := by decide +kernel
theorem dX9_ordered_96 : decode cX9_ordered 96 = .ok (.ishr, 1) := by decide +kernel
theorem dX9_ordered_97 : decode cX9_ordered 97 = .ok (.iconst 1, 1) := by decide +kernel
theorem dX9_ordered_98 : decode cX9_ordered 98 = .ok (.iand, 1) := by decide +kernel
theorem dX9_ordered_99 : decode cX9_ordered 99 = .ok (.ifCond .ne 20, 3) := by decide +kernel
theorem dX9_ordered_102 : decode cX9_ordered 102 = .ok (.aload_n 0, 1) := by decide +kernel
theorem dX9_ordered_103 : decode cX9_ordered 103 = .ok (.iload_n 1, 1) := by decide +kernel
theorem dX9_ordered_104 : decode cX9_ordered 104 = .ok (.iload_n 2, 1) := by decide +kernel
theorem dX9_ordered_105 : decode cX9_ordered 105 = .ok (.iload 4, 2) := by decide +kernel
theorem dX9_ordered_107 : decode cX9_ordered 107 = .ok (.iload 8, 2) := by decide +kernel
theorem dX9_ordered_109 : decode cX9_ordered 109 = .ok (.invokevirtual 187, 3) := by decide +kernel
theorem dX9_ordered_112 : decode cX9_ordered 112 = .ok (.ifCond .ne 7, 3) := by decide +kernel
theorem dX9_ordered_115 : decode cX9_ordered 115 = .ok (.iconst 1, 1) := by decide +kernel
theorem dX9_ordered_116 : decode cX9_ordered 116 = .ok (.goto 4, 3) := by decide +kernel
theorem dX9_ordered_119 : decode cX9_ordered 119 = .ok (.iconst 0, 1) := by decide +kernel
theorem dX9_ordered_120 : decode cX9_ordered 120 = .ok (.istore 9, 2) := by decide +kernel
theorem dX9_ordered_122 : decode cX9_ordered 122 = .ok (.iload 9, 2) := by decide +kernel
theorem dX9_ordered_124 : decode cX9_ordered 124 = .ok (.ifCond .eq 52, 3) := by decide +kernel
theorem dX9_ordered_127 : decode cX9_ordered 127 = .ok (.aload_n 0, 1) := by decide +kernel
theorem dX9_ordered_128 : decode cX9_ordered 128 = .ok (.iload_n 1, 1) := by decide +kernel
theorem dX9_ordered_129 : decode cX9_ordered 129 = .ok (.iload 5, 2) := by decide +kernel
theorem dX9_ordered_131 : decode cX9_ordered 131 = .ok (.iload 8, 2) := by decide +kernel
theorem dX9_ordered_133 : decode cX9_ordered 133 = .ok (.invokevirtual 191, 3) := by decide +kernel
theorem dX9_ordered_136 : decode cX9_ordered 136 = .ok (.aload_n 0, 1) := by decide +kernel
theorem dX9_ordered_137 : decode cX9_ordered 137 = .ok (.getfield 85, 3) := by decide +kernel
theorem dX9_ordered_140 : decode cX9_ordered 140 = .ok (.bipush 7, 2) := by decide +kernel
theorem dX9_ordered_142 : decode cX9_ordered 142 = .ok (.iload 4, 2) := by decide +kernel
theorem dX9_ordered_144 : decode cX9_ordered 144 = .ok (.iconst 1, 1) := by decide +kernel
theorem dX9_ordered_145 : decode cX9_ordered 145 = .ok (.iload 8, 2) := by decide +kernel
theorem dX9_ordered_147 : decode cX9_ordered 147 = .ok (.ishl, 1) := by decide +kernel
theorem dX9_ordered_148 : decode cX9_ordered 148 = .ok (.ior, 1) := by decide +kernel
theorem dX9_ordered_149 : decode cX9_ordered 149 = .ok (.imul, 1) := by decide +kernel
theorem dX9_ordered_150 : decode cX9_ordered 150 = .ok (.iload 8, 2) := by decide +kernel
theorem dX9_ordered_152 : decode cX9_ordered 152 = .ok (.iadd, 1) := by decide +kernel
theorem dX9_ordered_153 : decode cX9_ordered 153 = .ok (.iaload, 1) := by decide +kernel
theorem dX9_ordered_154 : decode cX9_ordered 154 = .ok (.iadd, 1) := by decide +kernel
theorem dX9_ordered_155 : decode cX9_ordered 155 = .ok (.aload_n 0, 1) := by decide +kernel
theorem dX9_ordered_156 : decode cX9_ordered 156 = .ok (.getfield 85, 3) := by decide +kernel
theorem dX9_ordered_159 : decode cX9_ordered 159 = .ok (.bipush 7, 2) := by decide +kernel
theorem dX9_ordered_161 : decode cX9_ordered 161 = .ok (.iload 4, 2) := by decide +kernel
theorem dX9_ordered_163 : decode cX9_ordered 163 = .ok (.imul, 1) := by decide +kernel
theorem dX9_ordered_164 : decode cX9_ordered 164 = .ok (.iload 5, 2) := by decide +kernel
theorem dX9_ordered_166 : decode cX9_ordered 166 = .ok (.iadd, 1) := by decide +kernel
theorem dX9_ordered_167 : decode cX9_ordered 167 = .ok (.iaload, 1) := by decide +kernel
theorem dX9_ordered_168 : decode cX9_ordered 168 = .ok (.if_icmp .ne 8, 3) := by decide +kernel
theorem dX9_ordered_171 : decode cX9_ordered 171 = .ok (.iload 8, 2) := by decide +kernel
theorem dX9_ordered_173 : decode cX9_ordered 173 = .ok (.goto 5, 3) := by decide +kernel
theorem dX9_ordered_176 : decode cX9_ordered 176 = .ok (.iload 7, 2) := by decide +kernel
theorem dX9_ordered_178 : decode cX9_ordered 178 = .ok (.istore 7, 2) := by decide +kernel
theorem dX9_ordered_180 : decode cX9_ordered 180 = .ok (.iinc 8 (-1), 3) := by decide +kernel
theorem dX9_ordered_183 : decode cX9_ordered 183 = .ok (.goto (-96), 3) := by decide +kernel
theorem dX9_ordered_186 : decode cX9_ordered 186 = .ok (.iload 4, 2) := by decide +kernel
theorem dX9_ordered_188 : decode cX9_ordered 188 = .ok (.iconst 1, 1) := by decide +kernel
theorem dX9_ordered_189 : decode cX9_ordered 189 = .ok (.iload 7, 2) := by decide +kernel
theorem dX9_ordered_191 : decode cX9_ordered 191 = .ok (.ishl, 1) := by decide +kernel
theorem dX9_ordered_192 : decode cX9_ordered 192 = .ok (.ior, 1) := by decide +kernel
theorem dX9_ordered_193 : decode cX9_ordered 193 = .ok (.istore 4, 2) := by decide +kernel
theorem dX9_ordered_195 : decode cX9_ordered 195 = .ok (.iload 7, 2) := by decide +kernel
theorem dX9_ordered_197 : decode cX9_ordered 197 = .ok (.istore 5, 2) := by decide +kernel
theorem dX9_ordered_199 : decode cX9_ordered 199 = .ok (.iinc 6 1, 3) := by decide +kernel
theorem dX9_ordered_202 : decode cX9_ordered 202 = .ok (.goto (-134), 3) := by decide +kernel
theorem dX9_ordered_205 : decode cX9_ordered 205 = .ok (.iload 5, 2) := by decide +kernel
theorem dX9_ordered_207 : decode cX9_ordered 207 = .ok (.ireturn, 1) := by decide +kernel
theorem dX9_wanted_0 : decode cX9_wanted 0 = .ok (.iconst 0, 1) := by decide +kernel
theorem dX9_wanted_1 : decode cX9_wanted 1 = .ok (.istore_n 1, 1) := by decide +kernel
theorem dX9_wanted_2 : decode cX9_wanted 2 = .ok (.iconst 0, 1) := by decide +kernel
theorem dX9_wanted_3 : decode cX9_wanted 3 = .ok (.istore_n 2, 1) := by decide +kernel
theorem dX9_wanted_4 : decode cX9_wanted 4 = .ok (.iload_n 2, 1) := by decide +kernel
theorem dX9_wanted_5 : decode cX9_wanted 5 = .ok (.aload_n 0, 1) := by decide +kernel
theorem dX9_wanted_6 : decode cX9_wanted 6 = .ok (.getfield 110, 3) := by decide +kernel
theorem dX9_wanted_9 : decode cX9_wanted 9 = .ok (.if_icmp .ge 18, 3) := by decide +kernel
theorem dX9_wanted_12 : decode cX9_wanted 12 = .ok (.iload_n 1, 1) := by decide +kernel
theorem dX9_wanted_13 : decode cX9_wanted 13 = .ok (.aload_n 0, 1) := by decide +kernel
theorem dX9_wanted_14 : decode cX9_wanted 14 = .ok (.getfield 64, 3) := by decide +kernel
theorem dX9_wanted_17 : decode cX9_wanted 17 = .ok (.iload_n 2, 1) := by decide +kernel
theorem dX9_wanted_18 : decode cX9_wanted 18 = .ok (.iaload, 1) := by decide +kernel
theorem dX9_wanted_19 : decode cX9_wanted 19 = .ok (.iadd, 1) := by decide +kernel
theorem dX9_wanted_20 : decode cX9_wanted 20 = .ok (.istore_n 1, 1) := by decide +kernel
theorem dX9_wanted_21 : decode cX9_wanted 21 = .ok (.iinc 2 1, 3) := by decide +kernel
theorem dX9_wanted_24 : decode cX9_wanted 24 = .ok (.goto (-20), 3) := by decide +kernel
theorem dX9_wanted_27 : decode cX9_wanted 27 = .ok (.iload_n 1, 1) := by decide +kernel
theorem dX9_wanted_28 : decode cX9_wanted 28 = .ok (.ireturn, 1) := by decide +kernel
theorem dX9_want_0 : decode cX9_want 0 = .ok (.aload_n 0, 1) := by decide +kernel
theorem dX9_want_1 : decode cX9_want 1 = .ok (.iload_n 1, 1) := by decide +kernel
theorem dX9_want_2 : decode cX9_want 2 = .ok (.invokevirtual 138, 3) := by decide +kernel
theorem dX9_want_5 : decode cX9_want 5 = .ok (.istore_n 3, 1) := by decide +kernel
theorem dX9_want_6 : decode cX9_want 6 = .ok (.aload_n 0, 1) := by decide +kernel
theorem dX9_want_7 : decode cX9_want 7 = .ok (.iload_n 3, 1) := by decide +kernel
theorem dX9_want_8 : decode cX9_want 8 = .ok (.ifCond .ne 7, 3) := by decide +kernel
theorem dX9_want_11 : decode cX9_want 11 = .ok (.iconst 1, 1) := by decide +kernel
theorem dX9_want_12 : decode cX9_want 12 = .ok (.goto 33, 3) := by decide +kernel
theorem dX9_want_15 : decode cX9_want 15 = .ok (.iload_n 2, 1) := by decide +kernel
theorem dX9_want_16 : decode cX9_want 16 = .ok (.iconst 1, 1) := by decide +kernel
theorem dX9_want_17 : decode cX9_want 17 = .ok (.bipush 40, 2) := by decide +kernel
theorem dX9_want_19 : decode cX9_want 19 = .ok (.invokestatic 113, 3) := by decide +kernel
theorem dX9_want_22 : decode cX9_want 22 = .ok (.ifCond .ne 7, 3) := by decide +kernel
theorem dX9_want_25 : decode cX9_want 25 = .ok (.iconst 2, 1) := by decide +kernel
theorem dX9_want_26 : decode cX9_want 26 = .ok (.goto 19, 3) := by decide +kernel
theorem dX9_want_29 : decode cX9_want 29 = .ok (.aload_n 0, 1) := by decide +kernel
theorem dX9_want_30 : decode cX9_want 30 = .ok (.invokevirtual 201, 3) := by decide +kernel
theorem dX9_want_33 : decode cX9_want 33 = .ok (.iload_n 2, 1) := by decide +kernel
theorem dX9_want_34 : decode cX9_want 34 = .ok (.iadd, 1) := by decide +kernel
theorem dX9_want_35 : decode cX9_want 35 = .ok (.bipush 40, 2) := by decide +kernel
theorem dX9_want_37 : decode cX9_want 37 = .ok (.if_icmp .le 7, 3) := by decide +kernel
theorem dX9_want_40 : decode cX9_want 40 = .ok (.iconst 3, 1) := by decide +kernel
theorem dX9_want_41 : decode cX9_want 41 = .ok (.goto 4, 3) := by decide +kernel
theorem dX9_want_44 : decode cX9_want 44 = .ok (.iconst 0, 1) := by decide +kernel
theorem dX9_want_45 : decode cX9_want 45 = .ok (.invokevirtual 126, 3) := by decide +kernel
theorem dX9_want_48 : decode cX9_want 48 = .ok (.ifCond .ne 5, 3) := by decide +kernel
theorem dX9_want_51 : decode cX9_want 51 = .ok (.iconst 0, 1) := by decide +kernel
theorem dX9_want_52 : decode cX9_want 52 = .ok (.ireturn, 1) := by decide +kernel
theorem dX9_want_53 : decode cX9_want 53 = .ok (.aload_n 0, 1) := by decide +kernel
theorem dX9_want_54 : decode cX9_want 54 = .ok (.getfield 64, 3) := by decide +kernel
theorem dX9_want_57 : decode cX9_want 57 = .ok (.iload_n 1, 1) := by decide +kernel
theorem dX9_want_58 : decode cX9_want 58 = .ok (.dup2, 1) := by decide +kernel
theorem dX9_want_59 : decode cX9_want 59 = .ok (.iaload, 1) := by decide +kernel
theorem dX9_want_60 : decode cX9_want 60 = .ok (.iload_n 2, 1) := by decide +kernel
theorem dX9_want_61 : decode cX9_want 61 = .ok (.iadd, 1) := by decide +kernel
theorem dX9_want_62 : decode cX9_want 62 = .ok (.iastore, 1) := by decide +kernel
theorem dX9_want_63 : decode cX9_want 63 = .ok (.aload_n 0, 1) := by decide +kernel
theorem dX9_want_64 : decode cX9_want 64 = .ok (.invokevirtual 201, 3) := by decide +kernel
theorem dX9_want_67 : decode cX9_want 67 = .ok (.ireturn, 1) := by decide +kernel
theorem dX9_clear_0 : decode cX9_clear 0 = .ok (.aload_n 0, 1) := by decide +kernel
theorem dX9_clear_1 : decode cX9_clear 1 = .ok (.iconst 0, 1) := by decide +kernel
theorem dX9_clear_2 : decode cX9_clear 2 = .ok (.putfield 106, 3) := by decide +kernel
theorem dX9_clear_5 : decode cX9_clear 5 = .ok (.aload_n 0, 1) := by decide +kernel
theorem dX9_clear_6 : decode cX9_clear 6 = .ok (.invokevirtual 201, 3) := by decide +kernel
theorem dX9_clear_9 : decode cX9_clear 9 = .ok (.istore_n 1, 1) := by decide +kernel
theorem dX9_clear_10 : decode cX9_clear 10 = .ok (.iconst 0, 1) := by decide +kernel
theorem dX9_clear_11 : decode cX9_clear 11 = .ok (.istore_n 2, 1) := by decide +kernel
theorem dX9_clear_12 : decode cX9_clear 12 = .ok (.iload_n 2, 1) := by decide +kernel
theorem dX9_clear_13 : decode cX9_clear 13 = .ok (.bipush 8, 2) := by decide +kernel
theorem dX9_clear_15 : decode cX9_clear 15 = .ok (.if_icmp .ge 16, 3) := by decide +kernel
theorem dX9_clear_18 : decode cX9_clear 18 = .ok (.aload_n 0, 1) := by decide +kernel
theorem dX9_clear_19 : decode cX9_clear 19 = .ok (.getfield 64, 3) := by decide +kernel
theorem dX9_clear_22 : decode cX9_clear 22 = .ok (.iload_n 2, 1) := by decide +kernel
theorem dX9_clear_23 : decode cX9_clear 23 = .ok (.iconst 0, 1) := by decide +kernel
theorem dX9_clear_24 : decode cX9_clear 24 = .ok (.iastore, 1) := by decide +kernel
theorem dX9_clear_25 : decode cX9_clear 25 = .ok (.iinc 2 1, 3) := by decide +kernel
theorem dX9_clear_28 : decode cX9_clear 28 = .ok (.goto (-16), 3) := by decide +kernel
theorem dX9_clear_31 : decode cX9_clear 31 = .ok (.iload_n 1, 1) := by decide +kernel
theorem dX9_clear_32 : decode cX9_clear 32 = .ok (.ireturn, 1) := by decide +kernel
theorem dX9_longer_0 : decode cX9_longer 0 = .ok (.aload_n 0, 1) := by decide +kernel
theorem dX9_longer_1 : decode cX9_longer 1 = .ok (.iload_n 1, 1) := by decide +kernel
theorem dX9_longer_2 : decode cX9_longer 2 = .ok (.iload_n 2, 1) := by decide +kernel
theorem dX9_longer_3 : decode cX9_longer 3 = .ok (.invokevirtual 144, 3) := by decide +kernel
theorem dX9_longer_6 : decode cX9_longer 6 = .ok (.aload_n 0, 1) := by decide +kernel
theorem dX9_longer_7 : decode cX9_longer 7 = .ok (.getfield 25, 3) := by decide +kernel
theorem dX9_longer_10 : decode cX9_longer 10 = .ok (.iload_n 1, 1) := by decide +kernel
theorem dX9_longer_11 : decode cX9_longer 11 = .ok (.iaload, 1) := by decide +kernel
theorem dX9_longer_12 : decode cX9_longer 12 = .ok (.if_icmp .le 12, 3) := by decide +kernel
theorem dX9_longer_15 : decode cX9_longer 15 = .ok (.aload_n 0, 1) := by decide +kernel
theorem dX9_longer_16 : decode cX9_longer 16 = .ok (.iload_n 1, 1) := by decide +kernel
theorem dX9_longer_17 : decode cX9_longer 17 = .ok (.iload_n 2, 1) := by decide +kernel
theorem dX9_longer_18 : decode cX9_longer 18 = .ok (.invokevirtual 144, 3) := by decide +kernel
theorem dX9_longer_21 : decode cX9_longer 21 = .ok (.goto 9, 3) := by decide +kernel
theorem dX9_longer_24 : decode cX9_longer 24 = .ok (.aload_n 0, 1) := by decide +kernel
theorem dX9_longer_25 : decode cX9_longer 25 = .ok (.getfield 25, 3) := by decide +kernel
theorem dX9_longer_28 : decode cX9_longer 28 = .ok (.iload_n 1, 1) := by decide +kernel
theorem dX9_longer_29 : decode cX9_longer 29 = .ok (.iaload, 1) := by decide +kernel
theorem dX9_longer_30 : decode cX9_longer 30 = .ok (.ireturn, 1) := by decide +kernel
theorem dX9_shorter_0 : decode cX9_shorter 0 = .ok (.aload_n 0, 1) := by decide +kernel
theorem dX9_shorter_1 : decode cX9_shorter 1 = .ok (.iload_n 1, 1) := by decide +kernel
theorem dX9_shorter_2 : decode cX9_shorter 2 = .ok (.iload_n 2, 1) := by decide +kernel
theorem dX9_shorter_3 : decode cX9_shorter 3 = .ok (.invokevirtual 144, 3) := by decide +kernel
theorem dX9_shorter_6 : decode cX9_shorter 6 = .ok (.aload_n 0, 1) := by decide +kernel
theorem dX9_shorter_7 : decode cX9_shorter 7 = .ok (.getfield 25, 3) := by decide +kernel
theorem dX9_shorter_10 : decode cX9_shorter 10 = .ok (.iload_n 1, 1) := by decide +kernel
theorem dX9_shorter_11 : decode cX9_shorter 11 = .ok (.iaload, 1) := by decide +kernel
theorem dX9_shorter_12 : decode cX9_shorter 12 = .ok (.if_icmp .le 12, 3) := by decide +kernel
theorem dX9_shorter_15 : decode cX9_shorter 15 = .ok (.aload_n 0, 1) := by decide +kernel
theorem dX9_shorter_16 : decode cX9_shorter 16 = .ok (.getfield 25, 3) := by decide +kernel
theorem dX9_shorter_19 : decode cX9_shorter 19 = .ok (.iload_n 1, 1) := by decide +kernel
theorem dX9_shorter_20 : decode cX9_shorter 20 = .ok (.iaload, 1) := by decide +kernel
theorem dX9_shorter_21 : decode cX9_shorter 21 = .ok (.goto 9, 3) := by decide +kernel
theorem dX9_shorter_24 : decode cX9_shorter 24 = .ok (.aload_n 0, 1) := by decide +kernel
theorem dX9_shorter_25 : decode cX9_shorter 25 = .ok (.iload_n 1, 1) := by decide +kernel
theorem dX9_shorter_26 : decode cX9_shorter 26 = .ok (.iload_n 2, 1) := by decide +kernel
theorem dX9_shorter_27 : decode cX9_shorter 27 = .ok (.invokevirtual 144, 3) := by decide +kernel
theorem dX9_shorter_30 : decode cX9_shorter 30 = .ok (.ireturn, 1) := by decide +kernel
theorem dX9_nextPiece_0 : decode cX9_nextPiece 0 = .ok (.iconst (-1), 1) := by decide +kernel
theorem dX9_nextPiece_1 : decode cX9_nextPiece 1 = .ok (.istore_n 2, 1) := by decide +kernel
theorem dX9_nextPiece_2 : decode cX9_nextPiece 2 = .ok (.iconst 0, 1) := by decide +kernel
theorem dX9_nextPiece_3 : decode cX9_nextPiece 3 = .ok (.istore_n 3, 1) := by decide +kernel
theorem dX9_nextPiece_4 : decode cX9_nextPiece 4 = .ok (.iload_n 3, 1) := by decide +kernel
theorem dX9_nextPiece_5 : decode cX9_nextPiece 5 = .ok (.aload_n 0, 1) := by decide +kernel
theorem dX9_nextPiece_6 : decode cX9_nextPiece 6 = .ok (.getfield 110, 3) := by decide +kernel
theorem dX9_nextPiece_9 : decode cX9_nextPiece 9 = .ok (.if_icmp .ge 97, 3) := by decide +kernel
theorem dX9_nextPiece_12 : decode cX9_nextPiece 12 = .ok (.iload_n 2, 1) := by decide +kernel
theorem dX9_nextPiece_13 : decode cX9_nextPiece 13 = .ok (.iconst (-1), 1) := by decide +kernel
theorem dX9_nextPiece_14 : decode cX9_nextPiece 14 = .ok (.if_icmp .eq 52, 3) := by decide +kernel
theorem dX9_nextPiece_17 : decode cX9_nextPiece 17 = .ok (.aload_n 0, 1) := by decide +kernel
theorem dX9_nextPiece_18 : decode cX9_nextPiece 18 = .ok (.iload_n 3, 1) := by decide +kernel
theorem dX9_nextPiece_19 : decode cX9_nextPiece 19 = .ok (.iload_n 1, 1) := by decide +kernel
theorem dX9_nextPiece_20 : decode cX9_nextPiece 20 = .ok (.invokevirtual 205, 3) := by decide +kernel
theorem dX9_nextPiece_23 : decode cX9_nextPiece 23 = .ok (.aload_n 0, 1) := by decide +kernel
theorem dX9_nextPiece_24 : decode cX9_nextPiece 24 = .ok (.iload_n 2, 1) := by decide +kernel
theorem dX9_nextPiece_25 : decode cX9_nextPiece 25 = .ok (.iload_n 1, 1) := by decide +kernel
theorem dX9_nextPiece_26 : decode cX9_nextPiece 26 = .ok (.invokevirtual 205, 3) := by decide +kernel
theorem dX9_nextPiece_29 : decode cX9_nextPiece 29 = .ok (.if_icmp .gt 33, 3) := by decide +kernel
theorem dX9_nextPiece_32 : decode cX9_nextPiece 32 = .ok (.aload_n 0, 1) := by decide +kernel
theorem dX9_nextPiece_33 : decode cX9_nextPiece 33 = .ok (.iload_n 3, 1) := by decide +kernel
theorem dX9_nextPiece_34 : decode cX9_nextPiece 34 = .ok (.iload_n 1, 1) := by decide +kernel
theorem dX9_nextPiece_35 : decode cX9_nextPiece 35 = .ok (.invokevirtual 205, 3) := by decide +kernel
theorem dX9_nextPiece_38 : decode cX9_nextPiece 38 = .ok (.aload_n 0, 1) := by decide +kernel
theorem dX9_nextPiece_39 : decode cX9_nextPiece 39 = .ok (.iload_n 2, 1) := by decide +kernel
theorem dX9_nextPiece_40 : decode cX9_nextPiece 40 = .ok (.iload_n 1, 1) := by decide +kernel
theorem dX9_nextPiece_41 : decode cX9_nextPiece 41 = .ok (.invokevirtual 205, 3) := by decide +kernel
theorem dX9_nextPiece_44 : decode cX9_nextPiece 44 = .ok (.if_icmp .ne 22, 3) := by decide +kernel
theorem dX9_nextPiece_47 : decode cX9_nextPiece 47 = .ok (.aload_n 0, 1) := by decide +kernel
theorem dX9_nextPiece_48 : decode cX9_nextPiece 48 = .ok (.iload_n 3, 1) := by decide +kernel
theorem dX9_nextPiece_49 : decode cX9_nextPiece 49 = .ok (.iload_n 1, 1) := by decide +kernel
theorem dX9_nextPiece_50 : decode cX9_nextPiece 50 = .ok (.invokevirtual 208, 3) := by decide +kernel
theorem dX9_nextPiece_53 : decode cX9_nextPiece 53 = .ok (.aload_n 0, 1) := by decide +kernel
theorem dX9_nextPiece_54 : decode cX9_nextPiece 54 = .ok (.iload_n 2, 1) := by decide +kernel
theorem dX9_nextPiece_55 : decode cX9_nextPiece 55 = .ok (.iload_n 1, 1) := by decide +kernel
theorem dX9_nextPiece_56 : decode cX9_nextPiece 56 = .ok (.invokevirtual 208, 3) := by decide +kernel
theorem dX9_nextPiece_59 : decode cX9_nextPiece 59 = .ok (.if_icmp .le 7, 3) := by decide +kernel
theorem dX9_nextPiece_62 : decode cX9_nextPiece 62 = .ok (.iconst 1, 1) := by decide +kernel
theorem dX9_nextPiece_63 : decode cX9_nextPiece 63 = .ok (.goto 4, 3) := by decide +kernel
theorem dX9_nextPiece_66 : decode cX9_nextPiece 66 = .ok (.iconst 0, 1) := by decide +kernel
theorem dX9_nextPiece_67 : decode cX9_nextPiece 67 = .ok (.istore 4, 2) := by decide +kernel
theorem dX9_nextPiece_69 : decode cX9_nextPiece 69 = .ok (.aload_n 0, 1) := by decide +kernel
theorem dX9_nextPiece_70 : decode cX9_nextPiece 70 = .ok (.getfield 88, 3) := by decide +kernel
theorem dX9_nextPiece_73 : decode cX9_nextPiece 73 = .ok (.iload_n 3, 1) := by decide +kernel
theorem dX9_nextPiece_74 : decode cX9_nextPiece 74 = .ok (.iaload, 1) := by decide +kernel
theorem dX9_nextPiece_75 : decode cX9_nextPiece 75 = .ok (.aload_n 0, 1) := by decide +kernel
theorem dX9_nextPiece_76 : decode cX9_nextPiece 76 = .ok (.getfield 64, 3) := by decide +kernel
theorem dX9_nextPiece_79 : decode cX9_nextPiece 79 = .ok (.iload_n 3, 1) := by decide +kernel
theorem dX9_nextPiece_80 : decode cX9_nextPiece 80 = .ok (.iaload, 1) := by decide +kernel
theorem dX9_nextPiece_81 : decode cX9_nextPiece 81 = .ok (.if_icmp .ge 17, 3) := by decide +kernel
theorem dX9_nextPiece_84 : decode cX9_nextPiece 84 = .ok (.iload_n 2, 1) := by decide +kernel
theorem dX9_nextPiece_85 : decode cX9_nextPiece 85 = .ok (.iconst (-1), 1) := by decide +kernel
theorem dX9_nextPiece_86 : decode cX9_nextPiece 86 = .ok (.if_icmp .eq 8, 3) := by decide +kernel
theorem dX9_nextPiece_89 : decode cX9_nextPiece 89 = .ok (.iload 4, 2) := by decide +kernel
theorem dX9_nextPiece_91 : decode cX9_nextPiece 91 = .ok (.ifCond .eq 7, 3) := by decide +kernel
theorem dX9_nextPiece_94 : decode cX9_nextPiece 94 = .ok (.iload_n 3, 1) := by decide +kernel
theorem dX9_nextPiece_95 : decode cX9_nextPiece 95 = .ok (.goto 4, 3) := by decide +kernel
theorem dX9_nextPiece_98 : decode cX9_nextPiece 98 = .ok (.iload_n 2, 1) := by decide +kernel
theorem dX9_nextPiece_99 : decode cX9_nextPiece 99 = .ok (.istore_n 2, 1) := by decide +kernel
theorem dX9_nextPiece_100 : decode cX9_nextPiece 100 = .ok (.iinc 3 1, 3) := by decide +kernel
theorem dX9_nextPiece_103 : decode cX9_nextPiece 103 = .ok (.goto (-99), 3) := by decide +kernel
theorem dX9_nextPiece_106 : decode cX9_nextPiece 106 = .ok (.iload_n 2, 1) := by decide +kernel
theorem dX9_nextPiece_107 : decode cX9_nextPiece 107 = .ok (.ireturn, 1) := by decide +kernel
theorem dX9_rowFor_0 : decode cX9_rowFor 0 = .ok (.iconst (-1), 1) := by decide +kernel
theorem dX9_rowFor_1 : decode cX9_rowFor 1 = .ok (.istore 5, 2) := by decide +kernel
theorem dX9_rowFor_3 : decode cX9_rowFor 3 = .ok (.iconst 0, 1) := by decide +kernel
theorem dX9_rowFor_4 : decode cX9_rowFor 4 = .ok (.istore 6, 2) := by decide +kernel
theorem dX9_rowFor_6 : decode cX9_rowFor 6 = .ok (.iload 6, 2) := by decide +kernel
theorem dX9_rowFor_8 : decode cX9_rowFor 8 = .ok (.aload_n 0, 1) := by decide +kernel
theorem dX9_rowFor_9 : decode cX9_rowFor 9 = .ok (.getfield 211, 3) := by decide +kernel
theorem dX9_rowFor_12 : decode cX9_rowFor 12 = .ok (.if_icmp .ge 75, 3) := by decide +kernel
theorem dX9_rowFor_15 : decode cX9_rowFor 15 = .ok (.aload_n 0, 1) := by decide +kernel
theorem dX9_rowFor_16 : decode cX9_rowFor 16 = .ok (.getfield 97, 3) := by decide +kernel
theorem dX9_rowFor_19 : decode cX9_rowFor 19 = .ok (.iload 6, 2) := by decide +kernel
theorem dX9_rowFor_21 : decode cX9_rowFor 21 = .ok (.iaload, 1) := by decide +kernel
theorem dX9_rowFor_22 : decode cX9_rowFor 22 = .ok (.iload_n 2, 1) := by decide +kernel
theorem dX9_rowFor_23 : decode cX9_rowFor 23 = .ok (.if_icmp .lt 18, 3) := by decide +kernel
theorem dX9_rowFor_26 : decode cX9_rowFor 26 = .ok (.aload_n 0, 1) := by decide +kernel
theorem dX9_rowFor_27 : decode cX9_rowFor 27 = .ok (.getfield 100, 3) := by decide +kernel
theorem dX9_rowFor_30 : decode cX9_rowFor 30 = .ok (.iload 6, 2) := by decide +kernel
theorem dX9_rowFor_32 : decode cX9_rowFor 32 = .ok (.iaload, 1) := by decide +kernel
theorem dX9_rowFor_33 : decode cX9_rowFor 33 = .ok (.iload_n 1, 1) := by decide +kernel
theorem dX9_rowFor_34 : decode cX9_rowFor 34 = .ok (.if_icmp .lt 7, 3) := by decide +kernel
theorem dX9_rowFor_37 : decode cX9_rowFor 37 = .ok (.iconst 1, 1) := by decide +kernel
theorem dX9_rowFor_38 : decode cX9_rowFor 38 = .ok (.goto 4, 3) := by decide +kernel
theorem dX9_rowFor_41 : decode cX9_rowFor 41 = .ok (.iconst 0, 1) := by decide +kernel
theorem dX9_rowFor_42 : decode cX9_rowFor 42 = .ok (.istore 7, 2) := by decide +kernel
theorem dX9_rowFor_44 : decode cX9_rowFor 44 = .ok (.iload 7, 2) := by decide +kernel
theorem dX9_rowFor_46 : decode cX9_rowFor 46 = .ok (.ifCond .eq 31, 3) := by decide +kernel
theorem dX9_rowFor_49 : decode cX9_rowFor 49 = .ok (.iload 5, 2) := by decide +kernel
theorem dX9_rowFor_51 : decode cX9_rowFor 51 = .ok (.iconst (-1), 1) := by decide +kernel
theorem dX9_rowFor_52 : decode cX9_rowFor 52 = .ok (.if_icmp .eq 20, 3) := by decide +kernel
theorem dX9_rowFor_55 : decode cX9_rowFor 55 = .ok (.aload_n 0, 1) := by decide +kernel
theorem dX9_rowFor_56 : decode cX9_rowFor 56 = .ok (.getfield 94, 3) := by decide +kernel
theorem dX9_rowFor_59 : decode cX9_rowFor 59 = .ok (.iload 6, 2) := by decide +kernel
theorem dX9_rowFor_61 : decode cX9_rowFor 61 = .ok (.iaload, 1) := by decide +kernel
theorem dX9_rowFor_62 : decode cX9_rowFor 62 = .ok (.aload_n 0, 1) := by decide +kernel
theorem dX9_rowFor_63 : decode cX9_rowFor 63 = .ok (.getfield 94, 3) := by decide +kernel
theorem dX9_rowFor_66 : decode cX9_rowFor 66 = .ok (.iload 5, 2) := by decide +kernel
theorem dX9_rowFor_68 : decode cX9_rowFor 68 = .ok (.iaload, 1) := by decide +kernel
theorem dX9_rowFor_69 : decode cX9_rowFor 69 = .ok (.if_icmp .ge 8, 3) := by decide +kernel
theorem dX9_rowFor_72 : decode cX9_rowFor 72 = .ok (.iload 6, 2) := by decide +kernel
theorem dX9_rowFor_74 : decode cX9_rowFor 74 = .ok (.goto 5, 3) := by decide +kernel
theorem dX9_rowFor_77 : decode cX9_rowFor 77 = .ok (.iload 5, 2) := by decide +kernel
theorem dX9_rowFor_79 : decode cX9_rowFor 79 = .ok (.istore 5, 2) := by decide +kernel
theorem dX9_rowFor_81 : decode cX9_rowFor 81 = .ok (.iinc 6 1, 3) := by decide +kernel
theorem dX9_rowFor_84 : decode cX9_rowFor 84 = .ok (.goto (-78), 3) := by decide +kernel
theorem dX9_rowFor_87 : decode cX9_rowFor 87 = .ok (.iload 5, 2) := by decide +kernel
theorem dX9_rowFor_89 : decode cX9_rowFor 89 = .ok (.iconst (-1), 1) := by decide +kernel
theorem dX9_rowFor_90 : decode cX9_rowFor 90 = .ok (.if_icmp .eq 6, 3) := by decide +kernel
theorem dX9_rowFor_93 : decode cX9_rowFor 93 = .ok (.iload 5, 2) := by decide +kernel
theorem dX9_rowFor_95 : decode cX9_rowFor 95 = .ok (.ireturn, 1) := by decide +kernel
theorem dX9_rowFor_96 : decode cX9_rowFor 96 = .ok (.iconst 0, 1) := by decide +kernel
theorem dX9_rowFor_97 : decode cX9_rowFor 97 = .ok (.istore 6, 2) := by decide +kernel
theorem dX9_rowFor_99 : decode cX9_rowFor 99 = .ok (.iload 6, 2) := by decide +kernel
theorem dX9_rowFor_101 : decode cX9_rowFor 101 = .ok (.aload_n 0, 1) := by decide +kernel
theorem dX9_rowFor_102 : decode cX9_rowFor 102 = .ok (.getfield 214, 3) := by decide +kernel
theorem dX9_rowFor_105 : decode cX9_rowFor 105 = .ok (.if_icmp .ge 20, 3) := by decide +kernel
theorem dX9_rowFor_108 : decode cX9_rowFor 108 = .ok (.aload_n 0, 1) := by decide +kernel
theorem dX9_rowFor_109 : decode cX9_rowFor 109 = .ok (.getfield 91, 3) := by decide +kernel
theorem dX9_rowFor_112 : decode cX9_rowFor 112 = .ok (.iload 6, 2) := by decide +kernel
theorem dX9_rowFor_114 : decode cX9_rowFor 114 = .ok (.iaload, 1) := by decide +kernel
theorem dX9_rowFor_115 : decode cX9_rowFor 115 = .ok (.iload_n 2, 1) := by decide +kernel
theorem dX9_rowFor_116 : decode cX9_rowFor 116 = .ok (.if_icmp .ge 9, 3) := by decide +kernel
theorem dX9_rowFor_119 : decode cX9_rowFor 119 = .ok (.iinc 6 1, 3) := by decide +kernel
theorem dX9_rowFor_122 : decode cX9_rowFor 122 = .ok (.goto (-23), 3) := by decide +kernel
theorem dX9_rowFor_125 : decode cX9_rowFor 125 = .ok (.iload 6, 2) := by decide +kernel
theorem dX9_rowFor_127 : decode cX9_rowFor 127 = .ok (.aload_n 0, 1) := by decide +kernel
theorem dX9_rowFor_128 : decode cX9_rowFor 128 = .ok (.getfield 214, 3) := by decide +kernel
theorem dX9_rowFor_131 : decode cX9_rowFor 131 = .ok (.if_icmp .ne 22, 3) := by decide +kernel
theorem dX9_rowFor_134 : decode cX9_rowFor 134 = .ok (.aload_n 0, 1) := by decide +kernel
theorem dX9_rowFor_135 : decode cX9_rowFor 135 = .ok (.getfield 91, 3) := by decide +kernel
theorem dX9_rowFor_138 : decode cX9_rowFor 138 = .ok (.iload 6, 2) := by decide +kernel
theorem dX9_rowFor_140 : decode cX9_rowFor 140 = .ok (.iload 4, 2) := by decide +kernel
theorem dX9_rowFor_142 : decode cX9_rowFor 142 = .ok (.iastore, 1) := by decide +kernel
theorem dX9_rowFor_143 : decode cX9_rowFor 143 = .ok (.aload_n 0, 1) := by decide +kernel
theorem dX9_rowFor_144 : decode cX9_rowFor 144 = .ok (.dup, 1) := by decide +kernel
theorem dX9_rowFor_145 : decode cX9_rowFor 145 = .ok (.getfield 214, 3) := by decide +kernel
theorem dX9_rowFor_148 : decode cX9_rowFor 148 = .ok (.iconst 1, 1) := by decide +kernel
theorem dX9_rowFor_149 : decode cX9_rowFor 149 = .ok (.iadd, 1) := by decide +kernel
theorem dX9_rowFor_150 : decode cX9_rowFor 150 = .ok (.putfield 214, 3) := by decide +kernel
theorem dX9_rowFor_153 : decode cX9_rowFor 153 = .ok (.aload_n 0, 1) := by decide +kernel
theorem dX9_rowFor_154 : decode cX9_rowFor 154 = .ok (.getfield 91, 3) := by decide +kernel
theorem dX9_rowFor_157 : decode cX9_rowFor 157 = .ok (.iload 6, 2) := by decide +kernel
theorem dX9_rowFor_159 : decode cX9_rowFor 159 = .ok (.dup2, 1) := by decide +kernel
theorem dX9_rowFor_160 : decode cX9_rowFor 160 = .ok (.iaload, 1) := by decide +kernel
theorem dX9_rowFor_161 : decode cX9_rowFor 161 = .ok (.iload_n 2, 1) := by decide +kernel
theorem dX9_rowFor_162 : decode cX9_rowFor 162 = .ok (.isub, 1) := by decide +kernel
theorem dX9_rowFor_163 : decode cX9_rowFor 163 = .ok (.iastore, 1) := by decide +kernel
theorem dX9_rowFor_164 : decode cX9_rowFor 164 = .ok (.aload_n 0, 1) := by decide +kernel
theorem dX9_rowFor_165 : decode cX9_rowFor 165 = .ok (.getfield 94, 3) := by decide +kernel
theorem dX9_rowFor_168 : decode cX9_rowFor 168 = .ok (.aload_n 0, 1) := by decide +kernel
theorem dX9_rowFor_169 : decode cX9_rowFor 169 = .ok (.getfield 211, 3) := by decide +kernel
theorem dX9_rowFor_172 : decode cX9_rowFor 172 = .ok (.iload 6, 2) := by decide +kernel
theorem dX9_rowFor_174 : decode cX9_rowFor 174 = .ok (.iastore, 1) := by decide +kernel
theorem dX9_rowFor_175 : decode cX9_rowFor 175 = .ok (.aload_n 0, 1) := by decide +kernel
theorem dX9_rowFor_176 : decode cX9_rowFor 176 = .ok (.getfield 97, 3) := by decide +kernel
theorem dX9_rowFor_179 : decode cX9_rowFor 179 = .ok (.aload_n 0, 1) := by decide +kernel
theorem dX9_rowFor_180 : decode cX9_rowFor 180 = .ok (.getfield 211, 3) := by decide +kernel
theorem dX9_rowFor_183 : decode cX9_rowFor 183 = .ok (.iload_n 2, 1) := by decide +kernel
theorem dX9_rowFor_184 : decode cX9_rowFor 184 = .ok (.iastore, 1) := by decide +kernel
theorem dX9_rowFor_185 : decode cX9_rowFor 185 = .ok (.aload_n 0, 1) := by decide +kernel
theorem dX9_rowFor_186 : decode cX9_rowFor 186 = .ok (.getfield 100, 3) := by decide +kernel
theorem dX9_rowFor_189 : decode cX9_rowFor 189 = .ok (.aload_n 0, 1) := by decide +kernel
theorem dX9_rowFor_190 : decode cX9_rowFor 190 = .ok (.getfield 211, 3) := by decide +kernel
theorem dX9_rowFor_193 : decode cX9_rowFor 193 = .ok (.iload_n 3, 1) := by decide +kernel
theorem dX9_rowFor_194 : decode cX9_rowFor 194 = .ok (.iastore, 1) := by decide +kernel
theorem dX9_rowFor_195 : decode cX9_rowFor 195 = .ok (.aload_n 0, 1) := by decide +kernel
theorem dX9_rowFor_196 : decode cX9_rowFor 196 = .ok (.getfield 103, 3) := by decide +kernel
theorem dX9_rowFor_199 : decode cX9_rowFor 199 = .ok (.aload_n 0, 1) := by decide +kernel
theorem dX9_rowFor_200 : decode cX9_rowFor 200 = .ok (.getfield 211, 3) := by decide +kernel
theorem dX9_rowFor_203 : decode cX9_rowFor 203 = .ok (.iconst 0, 1) := by decide +kernel
theorem dX9_rowFor_204 : decode cX9_rowFor 204 = .ok (.iastore, 1) := by decide +kernel
theorem dX9_rowFor_205 : decode cX9_rowFor 205 = .ok (.aload_n 0, 1) := by decide +kernel
theorem dX9_rowFor_206 : decode cX9_rowFor 206 = .ok (.dup, 1) := by decide +kernel
theorem dX9_rowFor_207 : decode cX9_rowFor 207 = .ok (.getfield 211, 3) := by decide +kernel
theorem dX9_rowFor_210 : decode cX9_rowFor 210 = .ok (.iconst 1, 1) := by decide +kernel
theorem dX9_rowFor_211 : decode cX9_rowFor 211 = .ok (.iadd, 1) := by decide +kernel
theorem dX9_rowFor_212 : decode cX9_rowFor 212 = .ok (.putfield 211, 3) := by decide +kernel
theorem dX9_rowFor_215 : decode cX9_rowFor 215 = .ok (.aload_n 0, 1) := by decide +kernel
theorem dX9_rowFor_216 : decode cX9_rowFor 216 = .ok (.getfield 211, 3) := by decide +kernel
theorem dX9_rowFor_219 : decode cX9_rowFor 219 = .ok (.iconst 1, 1) := by decide +kernel
theorem dX9_rowFor_220 : decode cX9_rowFor 220 = .ok (.isub, 1) := by decide +kernel
theorem dX9_rowFor_221 : decode cX9_rowFor 221 = .ok (.ireturn, 1) := by decide +kernel
theorem dX9_nest_0 : decode cX9_nest 0 = .ok (.aload_n 0, 1) := by decide +kernel
theorem dX9_nest_1 : decode cX9_nest 1 = .ok (.iload_n 1, 1) := by decide +kernel
theorem dX9_nest_2 : decode cX9_nest 2 = .ok (.invokevirtual 151, 3) := by decide +kernel
theorem dX9_nest_5 : decode cX9_nest 5 = .ok (.istore 5, 2) := by decide +kernel
theorem dX9_nest_7 : decode cX9_nest 7 = .ok (.iload_n 2, 1) := by decide +kernel
theorem dX9_nest_8 : decode cX9_nest 8 = .ok (.bipush 50, 2) := by decide +kernel
theorem dX9_nest_10 : decode cX9_nest 10 = .ok (.sipush 3000, 3) := by decide +kernel
theorem dX9_nest_13 : decode cX9_nest 13 = .ok (.invokestatic 113, 3) := by decide +kernel
theorem dX9_nest_16 : decode cX9_nest 16 = .ok (.ifCond .eq 34, 3) := by decide +kernel
theorem dX9_nest_19 : decode cX9_nest 19 = .ok (.iload_n 3, 1) := by decide +kernel
theorem dX9_nest_20 : decode cX9_nest 20 = .ok (.bipush 50, 2) := by decide +kernel
theorem dX9_nest_22 : decode cX9_nest 22 = .ok (.sipush 1500, 3) := by decide +kernel
theorem dX9_nest_25 : decode cX9_nest 25 = .ok (.invokestatic 113, 3) := by decide +kernel
theorem dX9_nest_28 : decode cX9_nest 28 = .ok (.ifCond .eq 22, 3) := by decide +kernel
theorem dX9_nest_31 : decode cX9_nest 31 = .ok (.iload_n 3, 1) := by decide +kernel
theorem dX9_nest_32 : decode cX9_nest 32 = .ok (.iload_n 2, 1) := by decide +kernel
theorem dX9_nest_33 : decode cX9_nest 33 = .ok (.if_icmp .gt 17, 3) := by decide +kernel
theorem dX9_nest_36 : decode cX9_nest 36 = .ok (.iload 4, 2) := by decide +kernel
theorem dX9_nest_38 : decode cX9_nest 38 = .ok (.iconst 0, 1) := by decide +kernel
theorem dX9_nest_39 : decode cX9_nest 39 = .ok (.iconst 3, 1) := by decide +kernel
theorem dX9_nest_40 : decode cX9_nest 40 = .ok (.invokestatic 113, 3) := by decide +kernel
theorem dX9_nest_43 : decode cX9_nest 43 = .ok (.ifCond .eq 7, 3) := by decide +kernel
theorem dX9_nest_46 : decode cX9_nest 46 = .ok (.iconst 1, 1) := by decide +kernel
theorem dX9_nest_47 : decode cX9_nest 47 = .ok (.goto 4, 3) := by decide +kernel
theorem dX9_nest_50 : decode cX9_nest 50 = .ok (.iconst 0, 1) := by decide +kernel
theorem dX9_nest_51 : decode cX9_nest 51 = .ok (.istore 6, 2) := by decide +kernel
theorem dX9_nest_53 : decode cX9_nest 53 = .ok (.aload_n 0, 1) := by decide +kernel
theorem dX9_nest_54 : decode cX9_nest 54 = .ok (.iload 5, 2) := by decide +kernel
theorem dX9_nest_56 : decode cX9_nest 56 = .ok (.ifCond .ne 7, 3) := by decide +kernel
theorem dX9_nest_59 : decode cX9_nest 59 = .ok (.iconst 1, 1) := by decide +kernel
theorem dX9_nest_60 : decode cX9_nest 60 = .ok (.goto 13, 3) := by decide +kernel
theorem dX9_nest_63 : decode cX9_nest 63 = .ok (.iload 6, 2) := by decide +kernel
theorem dX9_nest_65 : decode cX9_nest 65 = .ok (.ifCond .eq 7, 3) := by decide +kernel
theorem dX9_nest_68 : decode cX9_nest 68 = .ok (.iconst 0, 1) := by decide +kernel
theorem dX9_nest_69 : decode cX9_nest 69 = .ok (.goto 4, 3) := by decide +kernel
theorem dX9_nest_72 : decode cX9_nest 72 = .ok (.iconst 2, 1) := by decide +kernel
theorem dX9_nest_73 : decode cX9_nest 73 = .ok (.invokevirtual 126, 3) := by decide +kernel
theorem dX9_nest_76 : decode cX9_nest 76 = .ok (.ifCond .ne 5, 3) := by decide +kernel
theorem dX9_nest_79 : decode cX9_nest 79 = .ok (.lconst 0, 1) := by decide +kernel
theorem dX9_nest_80 : decode cX9_nest 80 = .ok (.lreturn, 1) := by decide +kernel
theorem dX9_nest_81 : decode cX9_nest 81 = .ok (.aload_n 0, 1) := by decide +kernel
theorem dX9_nest_82 : decode cX9_nest 82 = .ok (.iconst 0, 1) := by decide +kernel
theorem dX9_nest_83 : decode cX9_nest 83 = .ok (.putfield 214, 3) := by decide +kernel
theorem dX9_nest_86 : decode cX9_nest 86 = .ok (.aload_n 0, 1) := by decide +kernel
theorem dX9_nest_87 : decode cX9_nest 87 = .ok (.iconst 0, 1) := by decide +kernel
theorem dX9_nest_88 : decode cX9_nest 88 = .ok (.putfield 211, 3) := by decide +kernel
theorem dX9_nest_91 : decode cX9_nest 91 = .ok (.iconst 0, 1) := by decide +kernel
theorem dX9_nest_92 : decode cX9_nest 92 = .ok (.istore 7, 2) := by decide +kernel
theorem dX9_nest_94 : decode cX9_nest 94 = .ok (.iload 7, 2) := by decide +kernel
theorem dX9_nest_96 : decode cX9_nest 96 = .ok (.bipush 8, 2) := by decide +kernel
theorem dX9_nest_98 : decode cX9_nest 98 = .ok (.if_icmp .ge 17, 3) := by decide +kernel
theorem dX9_nest_101 : decode cX9_nest 101 = .ok (.aload_n 0, 1) := by decide +kernel
theorem dX9_nest_102 : decode cX9_nest 102 = .ok (.getfield 88, 3) := by decide +kernel
theorem dX9_nest_105 : decode cX9_nest 105 = .ok (.iload 7, 2) := by decide +kernel
theorem dX9_nest_107 : decode cX9_nest 107 = .ok (.iconst 0, 1) := by decide +kernel
theorem dX9_nest_108 : decode cX9_nest 108 = .ok (.iastore, 1) := by decide +kernel
theorem dX9_nest_109 : decode cX9_nest 109 = .ok (.iinc 7 1, 3) := by decide +kernel
theorem dX9_nest_112 : decode cX9_nest 112 = .ok (.goto (-18), 3) := by decide +kernel
theorem dX9_nest_115 : decode cX9_nest 115 = .ok (.lconst 0, 1) := by decide +kernel
theorem dX9_nest_116 : decode cX9_nest 116 = .ok (.lstore 7, 2) := by decide +kernel
theorem dX9_nest_118 : decode cX9_nest 118 = .ok (.lconst 0, 1) := by decide +kernel
theorem dX9_nest_119 : decode cX9_nest 119 = .ok (.lstore 9, 2) := by decide +kernel
theorem dX9_nest_121 : decode cX9_nest 121 = .ok (.aload_n 0, 1) := by decide +kernel
theorem dX9_nest_122 : decode cX9_nest 122 = .ok (.iload_n 1, 1) := by decide +kernel
theorem dX9_nest_123 : decode cX9_nest 123 = .ok (.invokevirtual 217, 3) := by decide +kernel
theorem dX9_nest_126 : decode cX9_nest 126 = .ok (.istore 11, 2) := by decide +kernel
theorem dX9_nest_128 : decode cX9_nest 128 = .ok (.iload 11, 2) := by decide +kernel
theorem dX9_nest_130 : decode cX9_nest 130 = .ok (.iconst (-1), 1) := by decide +kernel
theorem dX9_nest_131 : decode cX9_nest 131 = .ok (.if_icmp .eq 138, 3) := by decide +kernel
theorem dX9_nest_134 : decode cX9_nest 134 = .ok (.aload_n 0, 1) := by decide +kernel
theorem dX9_nest_135 : decode cX9_nest 135 = .ok (.iload 11, 2) := by decide +kernel
theorem dX9_nest_137 : decode cX9_nest 137 = .ok (.iload_n 1, 1) := by decide +kernel
theorem dX9_nest_138 : decode cX9_nest 138 = .ok (.invokevirtual 205, 3) := by decide +kernel
theorem dX9_nest_141 : decode cX9_nest 141 = .ok (.istore 12, 2) := by decide +kernel
theorem dX9_nest_143 : decode cX9_nest 143 = .ok (.aload_n 0, 1) := by decide +kernel
theorem dX9_nest_144 : decode cX9_nest 144 = .ok (.iload 11, 2) := by decide +kernel
theorem dX9_nest_146 : decode cX9_nest 146 = .ok (.iload_n 1, 1) := by decide +kernel
theorem dX9_nest_147 : decode cX9_nest 147 = .ok (.invokevirtual 208, 3) := by decide +kernel
theorem dX9_nest_150 : decode cX9_nest 150 = .ok (.istore 13, 2) := by decide +kernel
theorem dX9_nest_152 : decode cX9_nest 152 = .ok (.iload 12, 2) := by decide +kernel
theorem dX9_nest_154 : decode cX9_nest 154 = .ok (.iload_n 2, 1) := by decide +kernel
theorem dX9_nest_155 : decode cX9_nest 155 = .ok (.if_icmp .gt 9, 3) := by decide +kernel
theorem dX9_nest_158 : decode cX9_nest 158 = .ok (.iload 13, 2) := by decide +kernel
theorem dX9_nest_160 : decode cX9_nest 160 = .ok (.iload_n 3, 1) := by decide +kernel
theorem dX9_nest_161 : decode cX9_nest 161 = .ok (.if_icmp .le 7, 3) := by decide +kernel
theorem dX9_nest_164 : decode cX9_nest 164 = .ok (.ldc2_w 221, 3) := by decide +kernel
theorem dX9_nest_167 : decode cX9_nest 167 = .ok (.lreturn, 1) := by decide +kernel
theorem dX9_nest_168 : decode cX9_nest 168 = .ok (.aload_n 0, 1) := by decide +kernel
theorem dX9_nest_169 : decode cX9_nest 169 = .ok (.iload 12, 2) := by decide +kernel
theorem dX9_nest_171 : decode cX9_nest 171 = .ok (.iload 13, 2) := by decide +kernel
theorem dX9_nest_173 : decode cX9_nest 173 = .ok (.iload_n 2, 1) := by decide +kernel
theorem dX9_nest_174 : decode cX9_nest 174 = .ok (.iload_n 3, 1) := by decide +kernel
theorem dX9_nest_175 : decode cX9_nest 175 = .ok (.invokevirtual 223, 3) := by decide +kernel
theorem dX9_nest_178 : decode cX9_nest 178 = .ok (.istore 14, 2) := by decide +kernel
theorem dX9_nest_180 : decode cX9_nest 180 = .ok (.lload 7, 2) := by decide +kernel
theorem dX9_nest_182 : decode cX9_nest 182 = .ok (.ldc2_w 226, 3) := by decide +kernel
theorem dX9_nest_185 : decode cX9_nest 185 = .ok (.iload 12, 2) := by decide +kernel
theorem dX9_nest_187 : decode cX9_nest 187 = .ok (.iload 13, 2) := by decide +kernel
theorem dX9_nest_189 : decode cX9_nest 189 = .ok (.iadd, 1) := by decide +kernel
theorem dX9_nest_190 : decode cX9_nest 190 = .ok (.i2l, 1) := by decide +kernel
theorem dX9_nest_191 : decode cX9_nest 191 = .ok (.lmul, 1) := by decide +kernel
theorem dX9_nest_192 : decode cX9_nest 192 = .ok (.aload_n 0, 1) := by decide +kernel
theorem dX9_nest_193 : decode cX9_nest 193 = .ok (.getfield 103, 3) := by decide +kernel
theorem dX9_nest_196 : decode cX9_nest 196 = .ok (.iload 14, 2) := by decide +kernel
theorem dX9_nest_198 : decode cX9_nest 198 = .ok (.iaload, 1) := by decide +kernel
theorem dX9_nest_199 : decode cX9_nest 199 = .ok (.iload 13, 2) := by decide +kernel
theorem dX9_nest_201 : decode cX9_nest 201 = .ok (.if_icmp .ne 8, 3) := by decide +kernel
theorem dX9_nest_204 : decode cX9_nest 204 = .ok (.iload 13, 2) := by decide +kernel
theorem dX9_nest_206 : decode cX9_nest 206 = .ok (.goto 4, 3) := by decide +kernel
theorem dX9_nest_209 : decode cX9_nest 209 = .ok (.iconst 0, 1) := by decide +kernel
theorem dX9_nest_210 : decode cX9_nest 210 = .ok (.i2l, 1) := by decide +kernel
theorem dX9_nest_211 : decode cX9_nest 211 = .ok (.lsub, 1) := by decide +kernel
theorem dX9_nest_212 : decode cX9_nest 212 = .ok (.ladd, 1) := by decide +kernel
theorem dX9_nest_213 : decode cX9_nest 213 = .ok (.lstore 7, 2) := by decide +kernel
theorem dX9_nest_215 : decode cX9_nest 215 = .ok (.lload 9, 2) := by decide +kernel
theorem dX9_nest_217 : decode cX9_nest 217 = .ok (.iload 12, 2) := by decide +kernel
theorem dX9_nest_219 : decode cX9_nest 219 = .ok (.i2l, 1) := by decide +kernel
theorem dX9_nest_220 : decode cX9_nest 220 = .ok (.iload 13, 2) := by decide +kernel
theorem dX9_nest_222 : decode cX9_nest 222 = .ok (.i2l, 1) := by decide +kernel
theorem dX9_nest_223 : decode cX9_nest 223 = .ok (.lmul, 1) := by decide +kernel
theorem dX9_nest_224 : decode cX9_nest 224 = .ok (.ladd, 1) := by decide +kernel
theorem dX9_nest_225 : decode cX9_nest 225 = .ok (.lstore 9, 2) := by decide +kernel
theorem dX9_nest_227 : decode cX9_nest 227 = .ok (.aload_n 0, 1) := by decide +kernel
theorem dX9_nest_228 : decode cX9_nest 228 = .ok (.getfield 100, 3) := by decide +kernel
theorem dX9_nest_231 : decode cX9_nest 231 = .ok (.iload 14, 2) := by decide +kernel
theorem dX9_nest_233 : decode cX9_nest 233 = .ok (.dup2, 1) := by decide +kernel
theorem dX9_nest_234 : decode cX9_nest 234 = .ok (.iaload, 1) := by decide +kernel
theorem dX9_nest_235 : decode cX9_nest 235 = .ok (.iload 12, 2) := by decide +kernel
theorem dX9_nest_237 : decode cX9_nest 237 = .ok (.isub, 1) := by decide +kernel
theorem dX9_nest_238 : decode cX9_nest 238 = .ok (.iastore, 1) := by decide +kernel
theorem dX9_nest_239 : decode cX9_nest 239 = .ok (.aload_n 0, 1) := by decide +kernel
theorem dX9_nest_240 : decode cX9_nest 240 = .ok (.getfield 103, 3) := by decide +kernel
theorem dX9_nest_243 : decode cX9_nest 243 = .ok (.iload 14, 2) := by decide +kernel
theorem dX9_nest_245 : decode cX9_nest 245 = .ok (.iload 13, 2) := by decide +kernel
theorem dX9_nest_247 : decode cX9_nest 247 = .ok (.iastore, 1) := by decide +kernel
theorem dX9_nest_248 : decode cX9_nest 248 = .ok (.aload_n 0, 1) := by decide +kernel
theorem dX9_nest_249 : decode cX9_nest 249 = .ok (.getfield 88, 3) := by decide +kernel
theorem dX9_nest_252 : decode cX9_nest 252 = .ok (.iload 11, 2) := by decide +kernel
theorem dX9_nest_254 : decode cX9_nest 254 = .ok (.dup2, 1) := by decide +kernel
theorem dX9_nest_255 : decode cX9_nest 255 = .ok (.iaload, 1) := by decide +kernel
theorem dX9_nest_256 : decode cX9_nest 256 = .ok (.iconst 1, 1) := by decide +kernel
theorem dX9_nest_257 : decode cX9_nest 257 = .ok (.iadd, 1) := by decide +kernel
theorem dX9_nest_258 : decode cX9_nest 258 = .ok (.iastore, 1) := by decide +kernel
theorem dX9_nest_259 : decode cX9_nest 259 = .ok (.aload_n 0, 1) := by decide +kernel
theorem dX9_nest_260 : decode cX9_nest 260 = .ok (.iload_n 1, 1) := by decide +kernel
theorem dX9_nest_261 : decode cX9_nest 261 = .ok (.invokevirtual 217, 3) := by decide +kernel
theorem dX9_nest_264 : decode cX9_nest 264 = .ok (.istore 11, 2) := by decide +kernel
theorem dX9_nest_266 : decode cX9_nest 266 = .ok (.goto (-138), 3) := by decide +kernel
theorem dX9_nest_269 : decode cX9_nest 269 = .ok (.iload 4, 2) := by decide +kernel
theorem dX9_nest_271 : decode cX9_nest 271 = .ok (.ifCond .ne 11, 3) := by decide +kernel
theorem dX9_nest_274 : decode cX9_nest 274 = .ok (.aload_n 0, 1) := by decide +kernel
theorem dX9_nest_275 : decode cX9_nest 275 = .ok (.getfield 214, 3) := by decide +kernel
theorem dX9_nest_278 : decode cX9_nest 278 = .ok (.i2l, 1) := by decide +kernel
theorem dX9_nest_279 : decode cX9_nest 279 = .ok (.goto 42, 3) := by decide +kernel
theorem dX9_nest_282 : decode cX9_nest 282 = .ok (.iload 4, 2) := by decide +kernel
theorem dX9_nest_284 : decode cX9_nest 284 = .ok (.iconst 1, 1) := by decide +kernel
theorem dX9_nest_285 : decode cX9_nest 285 = .ok (.if_icmp .ne 11, 3) := by decide +kernel
theorem dX9_nest_288 : decode cX9_nest 288 = .ok (.aload_n 0, 1) := by decide +kernel
theorem dX9_nest_289 : decode cX9_nest 289 = .ok (.getfield 211, 3) := by decide +kernel
theorem dX9_nest_292 : decode cX9_nest 292 = .ok (.i2l, 1) := by decide +kernel
theorem dX9_nest_293 : decode cX9_nest 293 = .ok (.goto 28, 3) := by decide +kernel
theorem dX9_nest_296 : decode cX9_nest 296 = .ok (.iload 4, 2) := by decide +kernel
theorem dX9_nest_298 : decode cX9_nest 298 = .ok (.iconst 2, 1) := by decide +kernel
theorem dX9_nest_299 : decode cX9_nest 299 = .ok (.if_icmp .ne 8, 3) := by decide +kernel
theorem dX9_nest_302 : decode cX9_nest 302 = .ok (.lload 7, 2) := by decide +kernel
theorem dX9_nest_304 : decode cX9_nest 304 = .ok (.goto 17, 3) := by decide +kernel
theorem dX9_nest_307 : decode cX9_nest 307 = .ok (.aload_n 0, 1) := by decide +kernel
theorem dX9_nest_308 : decode cX9_nest 308 = .ok (.getfield 214, 3) := by decide +kernel
theorem dX9_nest_311 : decode cX9_nest 311 = .ok (.i2l, 1) := by decide +kernel
theorem dX9_nest_312 : decode cX9_nest 312 = .ok (.iload_n 2, 1) := by decide +kernel
theorem dX9_nest_313 : decode cX9_nest 313 = .ok (.i2l, 1) := by decide +kernel
theorem dX9_nest_314 : decode cX9_nest 314 = .ok (.lmul, 1) := by decide +kernel
theorem dX9_nest_315 : decode cX9_nest 315 = .ok (.iload_n 3, 1) := by decide +kernel
theorem dX9_nest_316 : decode cX9_nest 316 = .ok (.i2l, 1) := by decide +kernel
theorem dX9_nest_317 : decode cX9_nest 317 = .ok (.lmul, 1) := by decide +kernel
theorem dX9_nest_318 : decode cX9_nest 318 = .ok (.lload 9, 2) := by decide +kernel
theorem dX9_nest_320 : decode cX9_nest 320 = .ok (.lsub, 1) := by decide +kernel
theorem dX9_nest_321 : decode cX9_nest 321 = .ok (.lreturn, 1) := by decide +kernel
theorem dX9_batch_0 : decode cX9_batch 0 = .ok (.aload_n 0, 1) := by decide +kernel
theorem dX9_batch_1 : decode cX9_batch 1 = .ok (.iload_n 1, 1) := by decide +kernel
theorem dX9_batch_2 : decode cX9_batch 2 = .ok (.invokevirtual 138, 3) := by decide +kernel
theorem dX9_batch_5 : decode cX9_batch 5 = .ok (.ifCond .eq 15, 3) := by decide +kernel
theorem dX9_batch_8 : decode cX9_batch 8 = .ok (.aload_n 0, 1) := by decide +kernel
theorem dX9_batch_9 : decode cX9_batch 9 = .ok (.iload_n 2, 1) := by decide +kernel
theorem dX9_batch_10 : decode cX9_batch 10 = .ok (.invokevirtual 151, 3) := by decide +kernel
theorem dX9_batch_13 : decode cX9_batch 13 = .ok (.ifCond .eq 7, 3) := by decide +kernel
theorem dX9_batch_16 : decode cX9_batch 16 = .ok (.iconst 1, 1) := by decide +kernel
theorem dX9_batch_17 : decode cX9_batch 17 = .ok (.goto 4, 3) := by decide +kernel
theorem dX9_batch_20 : decode cX9_batch 20 = .ok (.iconst 0, 1) := by decide +kernel
theorem dX9_batch_21 : decode cX9_batch 21 = .ok (.istore 4, 2) := by decide +kernel
theorem dX9_batch_23 : decode cX9_batch 23 = .ok (.aload_n 0, 1) := by decide +kernel
theorem dX9_batch_24 : decode cX9_batch 24 = .ok (.iload 4, 2) := by decide +kernel
theorem dX9_batch_26 : decode cX9_batch 26 = .ok (.ifCond .ne 7, 3) := by decide +kernel
theorem dX9_batch_29 : decode cX9_batch 29 = .ok (.iconst 1, 1) := by decide +kernel
theorem dX9_batch_30 : decode cX9_batch 30 = .ok (.goto 31, 3) := by decide +kernel
theorem dX9_batch_33 : decode cX9_batch 33 = .ok (.iload_n 3, 1) := by decide +kernel
theorem dX9_batch_34 : decode cX9_batch 34 = .ok (.iconst 1, 1) := by decide +kernel
theorem dX9_batch_35 : decode cX9_batch 35 = .ok (.bipush 50, 2) := by decide +kernel
theorem dX9_batch_37 : decode cX9_batch 37 = .ok (.invokestatic 113, 3) := by decide +kernel
theorem dX9_batch_40 : decode cX9_batch 40 = .ok (.ifCond .ne 7, 3) := by decide +kernel
theorem dX9_batch_43 : decode cX9_batch 43 = .ok (.iconst 2, 1) := by decide +kernel
theorem dX9_batch_44 : decode cX9_batch 44 = .ok (.goto 17, 3) := by decide +kernel
theorem dX9_batch_47 : decode cX9_batch 47 = .ok (.aload_n 0, 1) := by decide +kernel
theorem dX9_batch_48 : decode cX9_batch 48 = .ok (.getfield 120, 3) := by decide +kernel
theorem dX9_batch_51 : decode cX9_batch 51 = .ok (.bipush 20, 2) := by decide +kernel
theorem dX9_batch_53 : decode cX9_batch 53 = .ok (.if_icmp .ne 7, 3) := by decide +kernel
theorem dX9_batch_56 : decode cX9_batch 56 = .ok (.iconst 3, 1) := by decide +kernel
theorem dX9_batch_57 : decode cX9_batch 57 = .ok (.goto 4, 3) := by decide +kernel
theorem dX9_batch_60 : decode cX9_batch 60 = .ok (.iconst 0, 1) := by decide +kernel
theorem dX9_batch_61 : decode cX9_batch 61 = .ok (.invokevirtual 126, 3) := by decide +kernel
theorem dX9_batch_64 : decode cX9_batch 64 = .ok (.ifCond .ne 5, 3) := by decide +kernel
theorem dX9_batch_67 : decode cX9_batch 67 = .ok (.iconst 0, 1) := by decide +kernel
theorem dX9_batch_68 : decode cX9_batch 68 = .ok (.ireturn, 1) := by decide +kernel
theorem dX9_batch_69 : decode cX9_batch 69 = .ok (.aload_n 0, 1) := by decide +kernel
theorem dX9_batch_70 : decode cX9_batch 70 = .ok (.getfield 67, 3) := by decide +kernel
theorem dX9_batch_73 : decode cX9_batch 73 = .ok (.aload_n 0, 1) := by decide +kernel
theorem dX9_batch_74 : decode cX9_batch 74 = .ok (.getfield 120, 3) := by decide +kernel
theorem dX9_batch_77 : decode cX9_batch 77 = .ok (.iload_n 1, 1) := by decide +kernel
theorem dX9_batch_78 : decode cX9_batch 78 = .ok (.iastore, 1) := by decide +kernel
theorem dX9_batch_79 : decode cX9_batch 79 = .ok (.aload_n 0, 1) := by decide +kernel
theorem dX9_batch_80 : decode cX9_batch 80 = .ok (.getfield 70, 3) := by decide +kernel
theorem dX9_batch_83 : decode cX9_batch 83 = .ok (.aload_n 0, 1) := by decide +kernel
theorem dX9_batch_84 : decode cX9_batch 84 = .ok (.getfield 120, 3) := by decide +kernel
theorem dX9_batch_87 : decode cX9_batch 87 = .ok (.iload_n 2, 1) := by decide +kernel
theorem dX9_batch_88 : decode cX9_batch 88 = .ok (.iastore, 1) := by decide +kernel
theorem dX9_batch_89 : decode cX9_batch 89 = .ok (.aload_n 0, 1) := by decide +kernel
theorem dX9_batch_90 : decode cX9_batch 90 = .ok (.getfield 73, 3) := by decide +kernel
theorem dX9_batch_93 : decode cX9_batch 93 = .ok (.aload_n 0, 1) := by decide +kernel
theorem dX9_batch_94 : decode cX9_batch 94 = .ok (.getfield 120, 3) := by decide +kernel
theorem dX9_batch_97 : decode cX9_batch 97 = .ok (.iload_n 3, 1) := by decide +kernel
theorem dX9_batch_98 : decode cX9_batch 98 = .ok (.iastore, 1) := by decide +kernel
theorem dX9_batch_99 : decode cX9_batch 99 = .ok (.aload_n 0, 1) := by decide +kernel
theorem dX9_batch_100 : decode cX9_batch 100 = .ok (.getfield 76, 3) := by decide +kernel
theorem dX9_batch_103 : decode cX9_batch 103 = .ok (.aload_n 0, 1) := by decide +kernel
theorem dX9_batch_104 : decode cX9_batch 104 = .ok (.getfield 120, 3) := by decide +kernel
theorem dX9_batch_107 : decode cX9_batch 107 = .ok (.iconst 0, 1) := by decide +kernel
theorem dX9_batch_108 : decode cX9_batch 108 = .ok (.iastore, 1) := by decide +kernel
theorem dX9_batch_109 : decode cX9_batch 109 = .ok (.aload_n 0, 1) := by decide +kernel
theorem dX9_batch_110 : decode cX9_batch 110 = .ok (.getfield 79, 3) := by decide +kernel
theorem dX9_batch_113 : decode cX9_batch 113 = .ok (.aload_n 0, 1) := by decide +kernel
theorem dX9_batch_114 : decode cX9_batch 114 = .ok (.getfield 120, 3) := by decide +kernel
theorem dX9_batch_117 : decode cX9_batch 117 = .ok (.aload_n 0, 1) := by decide +kernel
theorem dX9_batch_118 : decode cX9_batch 118 = .ok (.getfield 31, 3) := by decide +kernel
theorem dX9_batch_121 : decode cX9_batch 121 = .ok (.iload_n 1, 1) := by decide +kernel
theorem dX9_batch_122 : decode cX9_batch 122 = .ok (.iaload, 1) := by decide +kernel
theorem dX9_batch_123 : decode cX9_batch 123 = .ok (.iastore, 1) := by decide +kernel
theorem dX9_batch_124 : decode cX9_batch 124 = .ok (.aload_n 0, 1) := by decide +kernel
theorem dX9_batch_125 : decode cX9_batch 125 = .ok (.getfield 82, 3) := by decide +kernel
theorem dX9_batch_128 : decode cX9_batch 128 = .ok (.aload_n 0, 1) := by decide +kernel
theorem dX9_batch_129 : decode cX9_batch 129 = .ok (.getfield 120, 3) := by decide +kernel
theorem dX9_batch_132 : decode cX9_batch 132 = .ok (.aload_n 0, 1) := by decide +kernel
theorem dX9_batch_133 : decode cX9_batch 133 = .ok (.iload_n 1, 1) := by decide +kernel
theorem dX9_batch_134 : decode cX9_batch 134 = .ok (.iload_n 2, 1) := by decide +kernel
theorem dX9_batch_135 : decode cX9_batch 135 = .ok (.invokevirtual 144, 3) := by decide +kernel
theorem dX9_batch_138 : decode cX9_batch 138 = .ok (.iastore, 1) := by decide +kernel
theorem dX9_batch_139 : decode cX9_batch 139 = .ok (.aload_n 0, 1) := by decide +kernel
theorem dX9_batch_140 : decode cX9_batch 140 = .ok (.dup, 1) := by decide +kernel
theorem dX9_batch_141 : decode cX9_batch 141 = .ok (.getfield 120, 3) := by decide +kernel
theorem dX9_batch_144 : decode cX9_batch 144 = .ok (.iconst 1, 1) := by decide +kernel
theorem dX9_batch_145 : decode cX9_batch 145 = .ok (.iadd, 1) := by decide +kernel
theorem dX9_batch_146 : decode cX9_batch 146 = .ok (.putfield 120, 3) := by decide +kernel
theorem dX9_batch_149 : decode cX9_batch 149 = .ok (.aload_n 0, 1) := by decide +kernel
theorem dX9_batch_150 : decode cX9_batch 150 = .ok (.getfield 120, 3) := by decide +kernel
theorem dX9_batch_153 : decode cX9_batch 153 = .ok (.iconst 1, 1) := by decide +kernel
theorem dX9_batch_154 : decode cX9_batch 154 = .ok (.isub, 1) := by decide +kernel
theorem dX9_batch_155 : decode cX9_batch 155 = .ok (.ireturn, 1) := by decide +kernel
theorem dX9_work_0 : decode cX9_work 0 = .ok (.aload_n 0, 1) := by decide +kernel
theorem dX9_work_1 : decode cX9_work 1 = .ok (.iload_n 1, 1) := by decide +kernel
theorem dX9_work_2 : decode cX9_work 2 = .ok (.invokevirtual 228, 3) := by decide +kernel
theorem dX9_work_5 : decode cX9_work 5 = .ok (.istore_n 2, 1) := by decide +kernel
theorem dX9_work_6 : decode cX9_work 6 = .ok (.iload_n 2, 1) := by decide +kernel
theorem dX9_work_7 : decode cX9_work 7 = .ok (.ifCond .eq 46, 3) := by decide +kernel
theorem dX9_work_10 : decode cX9_work 10 = .ok (.aload_n 0, 1) := by decide +kernel
theorem dX9_work_11 : decode cX9_work 11 = .ok (.getfield 76, 3) := by decide +kernel
theorem dX9_work_14 : decode cX9_work 14 = .ok (.iload_n 1, 1) := by decide +kernel
theorem dX9_work_15 : decode cX9_work 15 = .ok (.iaload, 1) := by decide +kernel
theorem dX9_work_16 : decode cX9_work 16 = .ok (.iconst 1, 1) := by decide +kernel
theorem dX9_work_17 : decode cX9_work 17 = .ok (.if_icmp .eq 32, 3) := by decide +kernel
theorem dX9_work_20 : decode cX9_work 20 = .ok (.aload_n 0, 1) := by decide +kernel
theorem dX9_work_21 : decode cX9_work 21 = .ok (.getfield 76, 3) := by decide +kernel
theorem dX9_work_24 : decode cX9_work 24 = .ok (.iload_n 1, 1) := by decide +kernel
theorem dX9_work_25 : decode cX9_work 25 = .ok (.iaload, 1) := by decide +kernel
theorem dX9_work_26 : decode cX9_work 26 = .ok (.ifCond .ne 27, 3) := by decide +kernel
theorem dX9_work_29 : decode cX9_work 29 = .ok (.aload_n 0, 1) := by decide +kernel
theorem dX9_work_30 : decode cX9_work 30 = .ok (.aload_n 0, 1) := by decide +kernel
theorem dX9_work_31 : decode cX9_work 31 = .ok (.getfield 67, 3) := by decide +kernel
theorem dX9_work_34 : decode cX9_work 34 = .ok (.iload_n 1, 1) := by decide +kernel
theorem dX9_work_35 : decode cX9_work 35 = .ok (.iaload, 1) := by decide +kernel
theorem dX9_work_36 : decode cX9_work 36 = .ok (.aload_n 0, 1) := by decide +kernel
theorem dX9_work_37 : decode cX9_work 37 = .ok (.getfield 70, 3) := by decide +kernel
theorem dX9_work_40 : decode cX9_work 40 = .ok (.iload_n 1, 1) := by decide +kernel
theorem dX9_work_41 : decode cX9_work 41 = .ok (.iaload, 1) := by decide +kernel
theorem dX9_work_42 : decode cX9_work 42 = .ok (.invokevirtual 198, 3) := by decide +kernel
theorem dX9_work_45 : decode cX9_work 45 = .ok (.iconst (-1), 1) := by decide +kernel
theorem dX9_work_46 : decode cX9_work 46 = .ok (.if_icmp .eq 7, 3) := by decide +kernel
theorem dX9_work_49 : decode cX9_work 49 = .ok (.iconst 1, 1) := by decide +kernel
theorem dX9_work_50 : decode cX9_work 50 = .ok (.goto 4, 3) := by decide +kernel
theorem dX9_work_53 : decode cX9_work 53 = .ok (.iconst 0, 1) := by decide +kernel
theorem dX9_work_54 : decode cX9_work 54 = .ok (.istore_n 3, 1) := by decide +kernel
theorem dX9_work_55 : decode cX9_work 55 = .ok (.aload_n 0, 1) := by decide +kernel
theorem dX9_work_56 : decode cX9_work 56 = .ok (.iload_n 2, 1) := by decide +kernel
theorem dX9_work_57 : decode cX9_work 57 = .ok (.ifCond .ne 7, 3) := by decide +kernel
theorem dX9_work_60 : decode cX9_work 60 = .ok (.iconst 1, 1) := by decide +kernel
theorem dX9_work_61 : decode cX9_work 61 = .ok (.goto 12, 3) := by decide +kernel
theorem dX9_work_64 : decode cX9_work 64 = .ok (.iload_n 3, 1) := by decide +kernel
theorem dX9_work_65 : decode cX9_work 65 = .ok (.ifCond .eq 7, 3) := by decide +kernel
theorem dX9_work_68 : decode cX9_work 68 = .ok (.iconst 0, 1) := by decide +kernel
theorem dX9_work_69 : decode cX9_work 69 = .ok (.goto 4, 3) := by decide +kernel
theorem dX9_work_72 : decode cX9_work 72 = .ok (.iconst 2, 1) := by decide +kernel
theorem dX9_work_73 : decode cX9_work 73 = .ok (.invokevirtual 126, 3) := by decide +kernel
theorem dX9_work_76 : decode cX9_work 76 = .ok (.ifCond .ne 5, 3) := by decide +kernel
theorem dX9_work_79 : decode cX9_work 79 = .ok (.iconst 0, 1) := by decide +kernel
theorem dX9_work_80 : decode cX9_work 80 = .ok (.ireturn, 1) := by decide +kernel
theorem dX9_work_81 : decode cX9_work 81 = .ok (.aload_n 0, 1) := by decide +kernel
theorem dX9_work_82 : decode cX9_work 82 = .ok (.getfield 76, 3) := by decide +kernel
theorem dX9_work_85 : decode cX9_work 85 = .ok (.iload_n 1, 1) := by decide +kernel
theorem dX9_work_86 : decode cX9_work 86 = .ok (.dup2, 1) := by decide +kernel
theorem dX9_work_87 : decode cX9_work 87 = .ok (.iaload, 1) := by decide +kernel
theorem dX9_work_88 : decode cX9_work 88 = .ok (.iconst 1, 1) := by decide +kernel
theorem dX9_work_89 : decode cX9_work 89 = .ok (.iadd, 1) := by decide +kernel
theorem dX9_work_90 : decode cX9_work 90 = .ok (.iastore, 1) := by decide +kernel
theorem dX9_work_91 : decode cX9_work 91 = .ok (.aload_n 0, 1) := by decide +kernel
theorem dX9_work_92 : decode cX9_work 92 = .ok (.getfield 76, 3) := by decide +kernel
theorem dX9_work_95 : decode cX9_work 95 = .ok (.iload_n 1, 1) := by decide +kernel
theorem dX9_work_96 : decode cX9_work 96 = .ok (.iaload, 1) := by decide +kernel
theorem dX9_work_97 : decode cX9_work 97 = .ok (.ireturn, 1) := by decide +kernel
theorem dX9_batchOf_0 : decode cX9_batchOf 0 = .ok (.aload_n 0, 1) := by decide +kernel
theorem dX9_batchOf_1 : decode cX9_batchOf 1 = .ok (.iload_n 1, 1) := by decide +kernel
theorem dX9_batchOf_2 : decode cX9_batchOf 2 = .ok (.invokevirtual 228, 3) := by decide +kernel
theorem dX9_batchOf_5 : decode cX9_batchOf 5 = .ok (.istore_n 3, 1) := by decide +kernel
theorem dX9_batchOf_6 : decode cX9_batchOf 6 = .ok (.aload_n 0, 1) := by decide +kernel
theorem dX9_batchOf_7 : decode cX9_batchOf 7 = .ok (.iload_n 3, 1) := by decide +kernel
theorem dX9_batchOf_8 : decode cX9_batchOf 8 = .ok (.ifCond .ne 7, 3) := by decide +kernel
theorem dX9_batchOf_11 : decode cX9_batchOf 11 = .ok (.iconst 1, 1) := by decide +kernel
theorem dX9_batchOf_12 : decode cX9_batchOf 12 = .ok (.goto 17, 3) := by decide +kernel
theorem dX9_batchOf_15 : decode cX9_batchOf 15 = .ok (.iload_n 2, 1) := by decide +kernel
theorem dX9_batchOf_16 : decode cX9_batchOf 16 = .ok (.iconst 0, 1) := by decide +kernel
theorem dX9_batchOf_17 : decode cX9_batchOf 17 = .ok (.iconst 3, 1) := by decide +kernel
theorem dX9_batchOf_18 : decode cX9_batchOf 18 = .ok (.invokestatic 113, 3) := by decide +kernel
theorem dX9_batchOf_21 : decode cX9_batchOf 21 = .ok (.ifCond .eq 7, 3) := by decide +kernel
theorem dX9_batchOf_24 : decode cX9_batchOf 24 = .ok (.iconst 0, 1) := by decide +kernel
theorem dX9_batchOf_25 : decode cX9_batchOf 25 = .ok (.goto 4, 3) := by decide +kernel
theorem dX9_batchOf_28 : decode cX9_batchOf 28 = .ok (.iconst 2, 1) := by decide +kernel
theorem dX9_batchOf_29 : decode cX9_batchOf 29 = .ok (.invokevirtual 126, 3) := by decide +kernel
theorem dX9_batchOf_32 : decode cX9_batchOf 32 = .ok (.ifCond .ne 5, 3) := by decide +kernel
theorem dX9_batchOf_35 : decode cX9_batchOf 35 = .ok (.iconst 0, 1) := by decide +kernel
theorem dX9_batchOf_36 : decode cX9_batchOf 36 = .ok (.ireturn, 1) := by decide +kernel
theorem dX9_batchOf_37 : decode cX9_batchOf 37 = .ok (.iload_n 2, 1) := by decide +kernel
theorem dX9_batchOf_38 : decode cX9_batchOf 38 = .ok (.ifCond .ne 12, 3) := by decide +kernel
theorem dX9_batchOf_41 : decode cX9_batchOf 41 = .ok (.aload_n 0, 1) := by decide +kernel
theorem dX9_batchOf_42 : decode cX9_batchOf 42 = .ok (.getfield 76, 3) := by decide +kernel
theorem dX9_batchOf_45 : decode cX9_batchOf 45 = .ok (.iload_n 1, 1) := by decide +kernel
theorem dX9_batchOf_46 : decode cX9_batchOf 46 = .ok (.iaload, 1) := by decide +kernel
theorem dX9_batchOf_47 : decode cX9_batchOf 47 = .ok (.goto 37, 3) := by decide +kernel
theorem dX9_batchOf_50 : decode cX9_batchOf 50 = .ok (.iload_n 2, 1) := by decide +kernel
theorem dX9_batchOf_51 : decode cX9_batchOf 51 = .ok (.iconst 1, 1) := by decide +kernel
theorem dX9_batchOf_52 : decode cX9_batchOf 52 = .ok (.if_icmp .ne 12, 3) := by decide +kernel
theorem dX9_batchOf_55 : decode cX9_batchOf 55 = .ok (.aload_n 0, 1) := by decide +kernel
theorem dX9_batchOf_56 : decode cX9_batchOf 56 = .ok (.getfield 73, 3) := by decide +kernel
theorem dX9_batchOf_59 : decode cX9_batchOf 59 = .ok (.iload_n 1, 1) := by decide +kernel
theorem dX9_batchOf_60 : decode cX9_batchOf 60 = .ok (.iaload, 1) := by decide +kernel
theorem dX9_batchOf_61 : decode cX9_batchOf 61 = .ok (.goto 23, 3) := by decide +kernel
theorem dX9_batchOf_64 : decode cX9_batchOf 64 = .ok (.iload_n 2, 1) := by decide +kernel
theorem dX9_batchOf_65 : decode cX9_batchOf 65 = .ok (.iconst 2, 1) := by decide +kernel
theorem dX9_batchOf_66 : decode cX9_batchOf 66 = .ok (.if_icmp .ne 12, 3) := by decide +kernel
theorem dX9_batchOf_69 : decode cX9_batchOf 69 = .ok (.aload_n 0, 1) := by decide +kernel
theorem dX9_batchOf_70 : decode cX9_batchOf 70 = .ok (.getfield 79, 3) := by decide +kernel
theorem dX9_batchOf_73 : decode cX9_batchOf 73 = .ok (.iload_n 1, 1) := by decide +kernel
theorem dX9_batchOf_74 : decode cX9_batchOf 74 = .ok (.iaload, 1) := by decide +kernel
theorem dX9_batchOf_75 : decode cX9_batchOf 75 = .ok (.goto 9, 3) := by decide +kernel
theorem dX9_batchOf_78 : decode cX9_batchOf 78 = .ok (.aload_n 0, 1) := by decide +kernel
theorem dX9_batchOf_79 : decode cX9_batchOf 79 = .ok (.getfield 82, 3) := by decide +kernel
theorem dX9_batchOf_82 : decode cX9_batchOf 82 = .ok (.iload_n 1, 1) := by decide +kernel
theorem dX9_batchOf_83 : decode cX9_batchOf 83 = .ok (.iaload, 1) := by decide +kernel
theorem dX9_batchOf_84 : decode cX9_batchOf 84 = .ok (.ireturn, 1) := by decide +kernel
theorem dX9_kitsOf_0 : decode cX9_kitsOf 0 = .ok (.sipush 1000, 3) := by decide +kernel
theorem dX9_kitsOf_3 : decode cX9_kitsOf 3 = .ok (.istore_n 2, 1) := by decide +kernel
theorem dX9_kitsOf_4 : decode cX9_kitsOf 4 = .ok (.iconst 0, 1) := by decide +kernel
theorem dX9_kitsOf_5 : decode cX9_kitsOf 5 = .ok (.istore_n 3, 1) := by decide +kernel
theorem dX9_kitsOf_6 : decode cX9_kitsOf 6 = .ok (.iload_n 3, 1) := by decide +kernel
theorem dX9_kitsOf_7 : decode cX9_kitsOf 7 = .ok (.aload_n 0, 1) := by decide +kernel
theorem dX9_kitsOf_8 : decode cX9_kitsOf 8 = .ok (.getfield 110, 3) := by decide +kernel
theorem dX9_kitsOf_11 : decode cX9_kitsOf 11 = .ok (.if_icmp .ge 90, 3) := by decide +kernel
theorem dX9_kitsOf_14 : decode cX9_kitsOf 14 = .ok (.iconst 0, 1) := by decide +kernel
theorem dX9_kitsOf_15 : decode cX9_kitsOf 15 = .ok (.istore 4, 2) := by decide +kernel
theorem dX9_kitsOf_17 : decode cX9_kitsOf 17 = .ok (.iconst 0, 1) := by decide +kernel
theorem dX9_kitsOf_18 : decode cX9_kitsOf 18 = .ok (.istore 5, 2) := by decide +kernel
theorem dX9_kitsOf_20 : decode cX9_kitsOf 20 = .ok (.iload 5, 2) := by decide +kernel
theorem dX9_kitsOf_22 : decode cX9_kitsOf 22 = .ok (.aload_n 0, 1) := by decide +kernel
theorem dX9_kitsOf_23 : decode cX9_kitsOf 23 = .ok (.getfield 120, 3) := by decide +kernel
theorem dX9_kitsOf_26 : decode cX9_kitsOf 26 = .ok (.if_icmp .ge 47, 3) := by decide +kernel
theorem dX9_kitsOf_29 : decode cX9_kitsOf 29 = .ok (.iload 4, 2) := by decide +kernel
theorem dX9_kitsOf_31 : decode cX9_kitsOf 31 = .ok (.aload_n 0, 1) := by decide +kernel
theorem dX9_kitsOf_32 : decode cX9_kitsOf 32 = .ok (.getfield 67, 3) := by decide +kernel
theorem dX9_kitsOf_35 : decode cX9_kitsOf 35 = .ok (.iload 5, 2) := by decide +kernel
theorem dX9_kitsOf_37 : decode cX9_kitsOf 37 = .ok (.iaload, 1) := by decide +kernel
theorem dX9_kitsOf_38 : decode cX9_kitsOf 38 = .ok (.iload_n 3, 1) := by decide +kernel
theorem dX9_kitsOf_39 : decode cX9_kitsOf 39 = .ok (.if_icmp .ne 24, 3) := by decide +kernel
theorem dX9_kitsOf_42 : decode cX9_kitsOf 42 = .ok (.aload_n 0, 1) := by decide +kernel
theorem dX9_kitsOf_43 : decode cX9_kitsOf 43 = .ok (.getfield 76, 3) := by decide +kernel
theorem dX9_kitsOf_46 : decode cX9_kitsOf 46 = .ok (.iload 5, 2) := by decide +kernel
theorem dX9_kitsOf_48 : decode cX9_kitsOf 48 = .ok (.iaload, 1) := by decide +kernel
theorem dX9_kitsOf_49 : decode cX9_kitsOf 49 = .ok (.iconst 2, 1) := by decide +kernel
theorem dX9_kitsOf_50 : decode cX9_kitsOf 50 = .ok (.if_icmp .ne 13, 3) := by decide +kernel
theorem dX9_kitsOf_53 : decode cX9_kitsOf 53 = .ok (.aload_n 0, 1) := by decide +kernel
theorem dX9_kitsOf_54 : decode cX9_kitsOf 54 = .ok (.getfield 73, 3) := by decide +kernel
theorem dX9_kitsOf_57 : decode cX9_kitsOf 57 = .ok (.iload 5, 2) := by decide +kernel
theorem dX9_kitsOf_59 : decode cX9_kitsOf 59 = .ok (.iaload, 1) := by decide +kernel
theorem dX9_kitsOf_60 : decode cX9_kitsOf 60 = .ok (.goto 4, 3) := by decide +kernel
theorem dX9_kitsOf_63 : decode cX9_kitsOf 63 = .ok (.iconst 0, 1) := by decide +kernel
theorem dX9_kitsOf_64 : decode cX9_kitsOf 64 = .ok (.iadd, 1) := by decide +kernel
theorem dX9_kitsOf_65 : decode cX9_kitsOf 65 = .ok (.istore 4, 2) := by decide +kernel
theorem dX9_kitsOf_67 : decode cX9_kitsOf 67 = .ok (.iinc 5 1, 3) := by decide +kernel
theorem dX9_kitsOf_70 : decode cX9_kitsOf 70 = .ok (.goto (-50), 3) := by decide +kernel
theorem dX9_kitsOf_73 : decode cX9_kitsOf 73 = .ok (.iload_n 1, 1) := by decide +kernel
theorem dX9_kitsOf_74 : decode cX9_kitsOf 74 = .ok (.iload_n 3, 1) := by decide +kernel
theorem dX9_kitsOf_75 : decode cX9_kitsOf 75 = .ok (.ishr, 1) := by decide +kernel
theorem dX9_kitsOf_76 : decode cX9_kitsOf 76 = .ok (.iconst 1, 1) := by decide +kernel
theorem dX9_kitsOf_77 : decode cX9_kitsOf 77 = .ok (.iand, 1) := by decide +kernel
theorem dX9_kitsOf_78 : decode cX9_kitsOf 78 = .ok (.iconst 1, 1) := by decide +kernel
theorem dX9_kitsOf_79 : decode cX9_kitsOf 79 = .ok (.if_icmp .ne 14, 3) := by decide +kernel
theorem dX9_kitsOf_82 : decode cX9_kitsOf 82 = .ok (.iload 4, 2) := by decide +kernel
theorem dX9_kitsOf_84 : decode cX9_kitsOf 84 = .ok (.iload_n 2, 1) := by decide +kernel
theorem dX9_kitsOf_85 : decode cX9_kitsOf 85 = .ok (.if_icmp .ge 8, 3) := by decide +kernel
theorem dX9_kitsOf_88 : decode cX9_kitsOf 88 = .ok (.iload 4, 2) := by decide +kernel
theorem dX9_kitsOf_90 : decode cX9_kitsOf 90 = .ok (.goto 4, 3) := by decide +kernel
theorem dX9_kitsOf_93 : decode cX9_kitsOf 93 = .ok (.iload_n 2, 1) := by decide +kernel
theorem dX9_kitsOf_94 : decode cX9_kitsOf 94 = .ok (.istore_n 2, 1) := by decide +kernel
theorem dX9_kitsOf_95 : decode cX9_kitsOf 95 = .ok (.iinc 3 1, 3) := by decide +kernel
theorem dX9_kitsOf_98 : decode cX9_kitsOf 98 = .ok (.goto (-92), 3) := by decide +kernel
theorem dX9_kitsOf_101 : decode cX9_kitsOf 101 = .ok (.iload_n 2, 1) := by decide +kernel
theorem dX9_kitsOf_102 : decode cX9_kitsOf 102 = .ok (.ireturn, 1) := by decide +kernel
theorem dX9_isKit_0 : decode cX9_isKit 0 = .ok (.iload_n 1, 1) := by decide +kernel
theorem dX9_isKit_1 : decode cX9_isKit 1 = .ok (.ifCond .le 17, 3) := by decide +kernel
theorem dX9_isKit_4 : decode cX9_isKit 4 = .ok (.iload_n 1, 1) := by decide +kernel
theorem dX9_isKit_5 : decode cX9_isKit 5 = .ok (.iconst 1, 1) := by decide +kernel
theorem dX9_isKit_6 : decode cX9_isKit 6 = .ok (.aload_n 0, 1) := by decide +kernel
theorem dX9_isKit_7 : decode cX9_isKit 7 = .ok (.getfield 110, 3) := by decide +kernel
theorem dX9_isKit_10 : decode cX9_isKit 10 = .ok (.ishl, 1) := by decide +kernel
theorem dX9_isKit_11 : decode cX9_isKit 11 = .ok (.if_icmp .ge 7, 3) := by decide +kernel
theorem dX9_isKit_14 : decode cX9_isKit 14 = .ok (.iconst 1, 1) := by decide +kernel
theorem dX9_isKit_15 : decode cX9_isKit 15 = .ok (.goto 4, 3) := by decide +kernel
theorem dX9_isKit_18 : decode cX9_isKit 18 = .ok (.iconst 0, 1) := by decide +kernel
theorem dX9_isKit_19 : decode cX9_isKit 19 = .ok (.ireturn, 1) := by decide +kernel
theorem dX9_kits_0 : decode cX9_kits 0 = .ok (.aload_n 0, 1) := by decide +kernel
theorem dX9_kits_1 : decode cX9_kits 1 = .ok (.aload_n 0, 1) := by decide +kernel
theorem dX9_kits_2 : decode cX9_kits 2 = .ok (.iload_n 1, 1) := by decide +kernel
theorem dX9_kits_3 : decode cX9_kits 3 = .ok (.invokevirtual 231, 3) := by decide +kernel
theorem dX9_kits_6 : decode cX9_kits 6 = .ok (.ifCond .eq 7, 3) := by decide +kernel
theorem dX9_kits_9 : decode cX9_kits 9 = .ok (.iconst 0, 1) := by decide +kernel
theorem dX9_kits_10 : decode cX9_kits 10 = .ok (.goto 4, 3) := by decide +kernel
theorem dX9_kits_13 : decode cX9_kits 13 = .ok (.iconst 1, 1) := by decide +kernel
theorem dX9_kits_14 : decode cX9_kits 14 = .ok (.invokevirtual 126, 3) := by decide +kernel
theorem dX9_kits_17 : decode cX9_kits 17 = .ok (.ifCond .eq 11, 3) := by decide +kernel
theorem dX9_kits_20 : decode cX9_kits 20 = .ok (.aload_n 0, 1) := by decide +kernel
theorem dX9_kits_21 : decode cX9_kits 21 = .ok (.iload_n 1, 1) := by decide +kernel
theorem dX9_kits_22 : decode cX9_kits 22 = .ok (.invokevirtual 234, 3) := by decide +kernel
theorem dX9_kits_25 : decode cX9_kits 25 = .ok (.goto 4, 3) := by decide +kernel
theorem dX9_kits_28 : decode cX9_kits 28 = .ok (.iconst 0, 1) := by decide +kernel
theorem dX9_kits_29 : decode cX9_kits 29 = .ok (.ireturn, 1) := by decide +kernel
theorem dX9_take_0 : decode cX9_take 0 = .ok (.aload_n 0, 1) := by decide +kernel
theorem dX9_take_1 : decode cX9_take 1 = .ok (.iload_n 1, 1) := by decide +kernel
theorem dX9_take_2 : decode cX9_take 2 = .ok (.invokevirtual 231, 3) := by decide +kernel
theorem dX9_take_5 : decode cX9_take 5 = .ok (.ifCond .eq 17, 3) := by decide +kernel
theorem dX9_take_8 : decode cX9_take 8 = .ok (.iload_n 2, 1) := by decide +kernel
theorem dX9_take_9 : decode cX9_take 9 = .ok (.iconst 1, 1) := by decide +kernel
theorem dX9_take_10 : decode cX9_take 10 = .ok (.bipush 50, 2) := by decide +kernel
theorem dX9_take_12 : decode cX9_take 12 = .ok (.invokestatic 113, 3) := by decide +kernel
theorem dX9_take_15 : decode cX9_take 15 = .ok (.ifCond .eq 7, 3) := by decide +kernel
theorem dX9_take_18 : decode cX9_take 18 = .ok (.iconst 1, 1) := by decide +kernel
theorem dX9_take_19 : decode cX9_take 19 = .ok (.goto 4, 3) := by decide +kernel
theorem dX9_take_22 : decode cX9_take 22 = .ok (.iconst 0, 1) := by decide +kernel
theorem dX9_take_23 : decode cX9_take 23 = .ok (.istore_n 3, 1) := by decide +kernel
theorem dX9_take_24 : decode cX9_take 24 = .ok (.aload_n 0, 1) := by decide +kernel
theorem dX9_take_25 : decode cX9_take 25 = .ok (.iload_n 3, 1) := by decide +kernel
theorem dX9_take_26 : decode cX9_take 26 = .ok (.ifCond .ne 7, 3) := by decide +kernel
theorem dX9_take_29 : decode cX9_take 29 = .ok (.iconst 1, 1) := by decide +kernel
theorem dX9_take_30 : decode cX9_take 30 = .ok (.goto 17, 3) := by decide +kernel
theorem dX9_take_33 : decode cX9_take 33 = .ok (.aload_n 0, 1) := by decide +kernel
theorem dX9_take_34 : decode cX9_take 34 = .ok (.iload_n 1, 1) := by decide +kernel
theorem dX9_take_35 : decode cX9_take 35 = .ok (.invokevirtual 234, 3) := by decide +kernel
theorem dX9_take_38 : decode cX9_take 38 = .ok (.iload_n 2, 1) := by decide +kernel
theorem dX9_take_39 : decode cX9_take 39 = .ok (.if_icmp .ge 7, 3) := by decide +kernel
theorem dX9_take_42 : decode cX9_take 42 = .ok (.iconst 2, 1) := by decide +kernel
theorem dX9_take_43 : decode cX9_take 43 = .ok (.goto 4, 3) := by decide +kernel
theorem dX9_take_46 : decode cX9_take 46 = .ok (.iconst 0, 1) := by decide +kernel
theorem dX9_take_47 : decode cX9_take 47 = .ok (.invokevirtual 126, 3) := by decide +kernel
theorem dX9_take_50 : decode cX9_take 50 = .ok (.ifCond .ne 5, 3) := by decide +kernel
theorem dX9_take_53 : decode cX9_take 53 = .ok (.iconst 0, 1) := by decide +kernel
theorem dX9_take_54 : decode cX9_take 54 = .ok (.ireturn, 1) := by decide +kernel
theorem dX9_take_55 : decode cX9_take 55 = .ok (.iconst 0, 1) := by decide +kernel
theorem dX9_take_56 : decode cX9_take 56 = .ok (.istore 4, 2) := by decide +kernel
theorem dX9_take_58 : decode cX9_take 58 = .ok (.iconst 0, 1) := by decide +kernel
theorem dX9_take_59 : decode cX9_take 59 = .ok (.istore 5, 2) := by decide +kernel
theorem dX9_take_61 : decode cX9_take 61 = .ok (.iload 5, 2) := by decide +kernel
theorem dX9_take_63 : decode cX9_take 63 = .ok (.aload_n 0, 1) := by decide +kernel
theorem dX9_take_64 : decode cX9_take 64 = .ok (.getfield 110, 3) := by decide +kernel
theorem dX9_take_67 : decode cX9_take 67 = .ok (.if_icmp .ge 147, 3) := by decide +kernel
theorem dX9_take_70 : decode cX9_take 70 = .ok (.iload_n 1, 1) := by decide +kernel
theorem dX9_take_71 : decode cX9_take 71 = .ok (.iload 5, 2) := by decide +kernel
theorem dX9_take_73 : decode cX9_take 73 = .ok (.ishr, 1) := by decide +kernel
theorem dX9_take_74 : decode cX9_take 74 = .ok (.iconst 1, 1) := by decide +kernel
theorem dX9_take_75 : decode cX9_take 75 = .ok (.iand, 1) := by decide +kernel
theorem dX9_take_76 : decode cX9_take 76 = .ok (.iconst 1, 1) := by decide +kernel
theorem dX9_take_77 : decode cX9_take 77 = .ok (.if_icmp .ne 7, 3) := by decide +kernel
theorem dX9_take_80 : decode cX9_take 80 = .ok (.iload_n 2, 1) := by decide +kernel
theorem dX9_take_81 : decode cX9_take 81 = .ok (.goto 4, 3) := by decide +kernel
theorem dX9_take_84 : decode cX9_take 84 = .ok (.iconst 0, 1) := by decide +kernel
theorem dX9_take_85 : decode cX9_take 85 = .ok (.istore 6, 2) := by decide +kernel
theorem dX9_take_87 : decode cX9_take 87 = .ok (.iconst 0, 1) := by decide +kernel
theorem dX9_take_88 : decode cX9_take 88 = .ok (.istore 7, 2) := by decide +kernel
theorem dX9_take_90 : decode cX9_take 90 = .ok (.iload 7, 2) := by decide +kernel
theorem dX9_take_92 : decode cX9_take 92 = .ok (.aload_n 0, 1) := by decide +kernel
theorem dX9_take_93 : decode cX9_take 93 = .ok (.getfield 120, 3) := by decide +kernel
theorem dX9_take_96 : decode cX9_take 96 = .ok (.if_icmp .ge 112, 3) := by decide +kernel
theorem dX9_take_99 : decode cX9_take 99 = .ok (.iload 6, 2) := by decide +kernel
theorem dX9_take_101 : decode cX9_take 101 = .ok (.ifCond .le 107, 3) := by decide +kernel
theorem dX9_take_104 : decode cX9_take 104 = .ok (.aload_n 0, 1) := by decide +kernel
theorem dX9_take_105 : decode cX9_take 105 = .ok (.getfield 67, 3) := by decide +kernel
theorem dX9_take_108 : decode cX9_take 108 = .ok (.iload 7, 2) := by decide +kernel
theorem dX9_take_110 : decode cX9_take 110 = .ok (.iaload, 1) := by decide +kernel
theorem dX9_take_111 : decode cX9_take 111 = .ok (.iload 5, 2) := by decide +kernel
theorem dX9_take_113 : decode cX9_take 113 = .ok (.if_icmp .ne 89, 3) := by decide +kernel
theorem dX9_take_116 : decode cX9_take 116 = .ok (.aload_n 0, 1) := by decide +kernel
theorem dX9_take_117 : decode cX9_take 117 = .ok (.getfield 76, 3) := by decide +kernel
theorem dX9_take_120 : decode cX9_take 120 = .ok (.iload 7, 2) := by decide +kernel
theorem dX9_take_122 : decode cX9_take 122 = .ok (.iaload, 1) := by decide +kernel
theorem dX9_take_123 : decode cX9_take 123 = .ok (.iconst 2, 1) := by decide +kernel
theorem dX9_take_124 : decode cX9_take 124 = .ok (.if_icmp .ne 78, 3) := by decide +kernel
theorem dX9_take_127 : decode cX9_take 127 = .ok (.aload_n 0, 1) := by decide +kernel
theorem dX9_take_128 : decode cX9_take 128 = .ok (.getfield 73, 3) := by decide +kernel
theorem dX9_take_131 : decode cX9_take 131 = .ok (.iload 7, 2) := by decide +kernel
theorem dX9_take_133 : decode cX9_take 133 = .ok (.iaload, 1) := by decide +kernel
theorem dX9_take_134 : decode cX9_take 134 = .ok (.ifCond .le 68, 3) := by decide +kernel
theorem dX9_take_137 : decode cX9_take 137 = .ok (.aload_n 0, 1) := by decide +kernel
theorem dX9_take_138 : decode cX9_take 138 = .ok (.getfield 73, 3) := by decide +kernel
theorem dX9_take_141 : decode cX9_take 141 = .ok (.iload 7, 2) := by decide +kernel
theorem dX9_take_143 : decode cX9_take 143 = .ok (.iaload, 1) := by decide +kernel
theorem dX9_take_144 : decode cX9_take 144 = .ok (.iload 6, 2) := by decide +kernel
theorem dX9_take_146 : decode cX9_take 146 = .ok (.if_icmp .ge 13, 3) := by decide +kernel
theorem dX9_take_149 : decode cX9_take 149 = .ok (.aload_n 0, 1) := by decide +kernel
theorem dX9_take_150 : decode cX9_take 150 = .ok (.getfield 73, 3) := by decide +kernel
theorem dX9_take_153 : decode cX9_take 153 = .ok (.iload 7, 2) := by decide +kernel
theorem dX9_take_155 : decode cX9_take 155 = .ok (.iaload, 1) := by decide +kernel
theorem dX9_take_156 : decode cX9_take 156 = .ok (.goto 5, 3) := by decide +kernel
theorem dX9_take_159 : decode cX9_take 159 = .ok (.iload 6, 2) := by decide +kernel
theorem dX9_take_161 : decode cX9_take 161 = .ok (.istore 8, 2) := by decide +kernel
theorem dX9_take_163 : decode cX9_take 163 = .ok (.aload_n 0, 1) := by decide +kernel
theorem dX9_take_164 : decode cX9_take 164 = .ok (.getfield 73, 3) := by decide +kernel
theorem dX9_take_167 : decode cX9_take 167 = .ok (.iload 7, 2) := by decide +kernel
theorem dX9_take_169 : decode cX9_take 169 = .ok (.dup2, 1) := by decide +kernel
theorem dX9_take_170 : decode cX9_take 170 = .ok (.iaload, 1) := by decide +kernel
theorem dX9_take_171 : decode cX9_take 171 = .ok (.iload 8, 2) := by decide +kernel
theorem dX9_take_173 : decode cX9_take 173 = .ok (.isub, 1) := by decide +kernel
theorem dX9_take_174 : decode cX9_take 174 = .ok (.iastore, 1) := by decide +kernel
theorem dX9_take_175 : decode cX9_take 175 = .ok (.iload 6, 2) := by decide +kernel
theorem dX9_take_177 : decode cX9_take 177 = .ok (.iload 8, 2) := by decide +kernel
theorem dX9_take_179 : decode cX9_take 179 = .ok (.isub, 1) := by decide +kernel
theorem dX9_take_180 : decode cX9_take 180 = .ok (.istore 6, 2) := by decide +kernel
theorem dX9_take_182 : decode cX9_take 182 = .ok (.iload 4, 2) := by decide +kernel
theorem dX9_take_184 : decode cX9_take 184 = .ok (.aload_n 0, 1) := by decide +kernel
theorem dX9_take_185 : decode cX9_take 185 = .ok (.getfield 73, 3) := by decide +kernel
theorem dX9_take_188 : decode cX9_take 188 = .ok (.iload 7, 2) := by decide +kernel
theorem dX9_take_190 : decode cX9_take 190 = .ok (.iaload, 1) := by decide +kernel
theorem dX9_take_191 : decode cX9_take 191 = .ok (.ifCond .ne 7, 3) := by decide +kernel
theorem dX9_take_194 : decode cX9_take 194 = .ok (.iconst 1, 1) := by decide +kernel
theorem dX9_take_195 : decode cX9_take 195 = .ok (.goto 4, 3) := by decide +kernel
theorem dX9_take_198 : decode cX9_take 198 = .ok (.iconst 0, 1) := by decide +kernel
theorem dX9_take_199 : decode cX9_take 199 = .ok (.iadd, 1) := by decide +kernel
theorem dX9_take_200 : decode cX9_take 200 = .ok (.istore 4, 2) := by decide +kernel
theorem dX9_take_202 : decode cX9_take 202 = .ok (.iinc 7 1, 3) := by decide +kernel
theorem dX9_take_205 : decode cX9_take 205 = .ok (.goto (-115), 3) := by decide +kernel
theorem dX9_take_208 : decode cX9_take 208 = .ok (.iinc 5 1, 3) := by decide +kernel
theorem dX9_take_211 : decode cX9_take 211 = .ok (.goto (-150), 3) := by decide +kernel
theorem dX9_take_214 : decode cX9_take 214 = .ok (.iload 4, 2) := by decide +kernel
theorem dX9_take_216 : decode cX9_take 216 = .ok (.ireturn, 1) := by decide +kernel
end
section
theorem dL_face_0 : decode cL_face 0 = .ok (.aload_n 3, 1) := by decide +kernel
theorem dL_face_1 : decode cL_face 1 = .ok (.iconst 0, 1) := by decide +kernel
theorem dL_face_2 : decode cL_face 2 = .ok (.aload_n 0, 1) := by decide +kernel
theorem dL_face_3 : decode cL_face 3 = .ok (.iload_n 1, 1) := by decide +kernel
theorem dL_face_4 : decode cL_face 4 = .ok (.iload_n 2, 1) := by decide +kernel
theorem dL_face_5 : decode cL_face 5 = .ok (.invokevirtual 7, 3) := by decide +kernel
theorem dL_face_8 : decode cL_face 8 = .ok (.i2l, 1) := by decide +kernel
theorem dL_face_9 : decode cL_face 9 = .ok (.lastore, 1) := by decide +kernel
theorem dL_face_10 : decode cL_face 10 = .ok (.goto 11, 3) := by decide +kernel
theorem dL_face_13 : decode cL_face 13 = .ok (.astore 4, 2) := by decide +kernel
theorem dL_face_15 : decode cL_face 15 = .ok (.iconst 1, 1) := by decide +kernel
theorem dL_face_16 : decode cL_face 16 = .ok (.ireturn, 1) := by decide +kernel
theorem dL_face_17 : decode cL_face 17 = .ok (.astore 4, 2) := by decide +kernel
theorem dL_face_19 : decode cL_face 19 = .ok (.iconst 2, 1) := by decide +kernel
theorem dL_face_20 : decode cL_face 20 = .ok (.ireturn, 1) := by decide +kernel
theorem dL_face_21 : decode cL_face 21 = .ok (.iconst 0, 1) := by decide +kernel
theorem dL_face_22 : decode cL_face 22 = .ok (.ireturn, 1) := by decide +kernel
theorem dL_part_0 : decode cL_part 0 = .ok (.aload_n 3, 1) := by decide +kernel
theorem dL_part_1 : decode cL_part 1 = .ok (.iconst 0, 1) := by decide +kernel
theorem dL_part_2 : decode cL_part 2 = .ok (.aload_n 0, 1) := by decide +kernel
theorem dL_part_3 : decode cL_part 3 = .ok (.iload_n 1, 1) := by decide +kernel
theorem dL_part_4 : decode cL_part 4 = .ok (.iload_n 2, 1) := by decide +kernel
theorem dL_part_5 : decode cL_part 5 = .ok (.invokevirtual 17, 3) := by decide +kernel
theorem dL_part_8 : decode cL_part 8 = .ok (.i2l, 1) := by decide +kernel
theorem dL_part_9 : decode cL_part 9 = .ok (.lastore, 1) := by decide +kernel
theorem dL_part_10 : decode cL_part 10 = .ok (.goto 11, 3) := by decide +kernel
theorem dL_part_13 : decode cL_part 13 = .ok (.astore 4, 2) := by decide +kernel
theorem dL_part_15 : decode cL_part 15 = .ok (.iconst 1, 1) := by decide +kernel
theorem dL_part_16 : decode cL_part 16 = .ok (.ireturn, 1) := by decide +kernel
theorem dL_part_17 : decode cL_part 17 = .ok (.astore 4, 2) := by decide +kernel
theorem dL_part_19 : decode cL_part 19 = .ok (.iconst 2, 1) := by decide +kernel
theorem dL_part_20 : decode cL_part 20 = .ok (.ireturn, 1) := by decide +kernel
theorem dL_part_21 : decode cL_part 21 = .ok (.iconst 0, 1) := by decide +kernel
theorem dL_part_22 : decode cL_part 22 = .ok (.ireturn, 1) := by decide +kernel
theorem dL_redraw_0 : decode cL_redraw 0 = .ok (.aload 4, 2) := by decide +kernel
theorem dL_redraw_2 : decode cL_redraw 2 = .ok (.iconst 0, 1) := by decide +kernel
theorem dL_redraw_3 : decode cL_redraw 3 = .ok (.aload_n 0, 1) := by decide +kernel
theorem dL_redraw_4 : decode cL_redraw 4 = .ok (.iload_n 1, 1) := by decide +kernel
theorem dL_redraw_5 : decode cL_redraw 5 = .ok (.iload_n 2, 1) := by decide +kernel
theorem dL_redraw_6 : decode cL_redraw 6 = .ok (.iload_n 3, 1) := by decide +kernel
theorem dL_redraw_7 : decode cL_redraw 7 = .ok (.invokevirtual 20, 3) := by decide +kernel
theorem dL_redraw_10 : decode cL_redraw 10 = .ok (.i2l, 1) := by decide +kernel
theorem dL_redraw_11 : decode cL_redraw 11 = .ok (.lastore, 1) := by decide +kernel
theorem dL_redraw_12 : decode cL_redraw 12 = .ok (.goto 15, 3) := by decide +kernel
theorem dL_redraw_15 : decode cL_redraw 15 = .ok (.astore 5, 2) := by decide +kernel
theorem dL_redraw_17 : decode cL_redraw 17 = .ok (.iconst 1, 1) := by decide +kernel
theorem dL_redraw_18 : decode cL_redraw 18 = .ok (.ireturn, 1) := by decide +kernel
theorem dL_redraw_19 : decode cL_redraw 19 = .ok (.astore 5, 2) := by decide +kernel
theorem dL_redraw_21 : decode cL_redraw 21 = .ok (.iconst 2, 1) := by decide +kernel
theorem dL_redraw_22 : decode cL_redraw 22 = .ok (.ireturn, 1) := by decide +kernel
theorem dL_redraw_23 : decode cL_redraw 23 = .ok (.astore 5, 2) := by decide +kernel
theorem dL_redraw_25 : decode cL_redraw 25 = .ok (.iconst 3, 1) := by decide +kernel
theorem dL_redraw_26 : decode cL_redraw 26 = .ok (.ireturn, 1) := by decide +kernel
theorem dL_redraw_27 : decode cL_redraw 27 = .ok (.iconst 0, 1) := by decide +kernel
theorem dL_redraw_28 : decode cL_redraw 28 = .ok (.ireturn, 1) := by decide +kernel
theorem dL_hole_0 : decode cL_hole 0 = .ok (.aload 5, 2) := by decide +kernel
theorem dL_hole_2 : decode cL_hole 2 = .ok (.iconst 0, 1) := by decide +kernel
theorem dL_hole_3 : decode cL_hole 3 = .ok (.aload_n 0, 1) := by decide +kernel
theorem dL_hole_4 : decode cL_hole 4 = .ok (.iload_n 1, 1) := by decide +kernel
theorem dL_hole_5 : decode cL_hole 5 = .ok (.iload_n 2, 1) := by decide +kernel
theorem dL_hole_6 : decode cL_hole 6 = .ok (.iload_n 3, 1) := by decide +kernel
theorem dL_hole_7 : decode cL_hole 7 = .ok (.iload 4, 2) := by decide +kernel
theorem dL_hole_9 : decode cL_hole 9 = .ok (.invokevirtual 26, 3) := by decide +kernel
theorem dL_hole_12 : decode cL_hole 12 = .ok (.i2l, 1) := by decide +kernel
theorem dL_hole_13 : decode cL_hole 13 = .ok (.lastore, 1) := by decide +kernel
theorem dL_hole_14 : decode cL_hole 14 = .ok (.goto 15, 3) := by decide +kernel
theorem dL_hole_17 : decode cL_hole 17 = .ok (.astore 6, 2) := by decide +kernel
theorem dL_hole_19 : decode cL_hole 19 = .ok (.iconst 1, 1) := by decide +kernel
theorem dL_hole_20 : decode cL_hole 20 = .ok (.ireturn, 1) := by decide +kernel
theorem dL_hole_21 : decode cL_hole 21 = .ok (.astore 6, 2) := by decide +kernel
theorem dL_hole_23 : decode cL_hole 23 = .ok (.iconst 2, 1) := by decide +kernel
theorem dL_hole_24 : decode cL_hole 24 = .ok (.ireturn, 1) := by decide +kernel
theorem dL_hole_25 : decode cL_hole 25 = .ok (.astore 6, 2) := by decide +kernel
theorem dL_hole_27 : decode cL_hole 27 = .ok (.iconst 3, 1) := by decide +kernel
theorem dL_hole_28 : decode cL_hole 28 = .ok (.ireturn, 1) := by decide +kernel
theorem dL_hole_29 : decode cL_hole 29 = .ok (.iconst 0, 1) := by decide +kernel
theorem dL_hole_30 : decode cL_hole 30 = .ok (.ireturn, 1) := by decide +kernel
theorem dL_isNear_0 : decode cL_isNear 0 = .ok (.aload_n 3, 1) := by decide +kernel
theorem dL_isNear_1 : decode cL_isNear 1 = .ok (.iconst 0, 1) := by decide +kernel
theorem dL_isNear_2 : decode cL_isNear 2 = .ok (.aload_n 0, 1) := by decide +kernel
theorem dL_isNear_3 : decode cL_isNear 3 = .ok (.iload_n 1, 1) := by decide +kernel
theorem dL_isNear_4 : decode cL_isNear 4 = .ok (.iload_n 2, 1) := by decide +kernel
theorem dL_isNear_5 : decode cL_isNear 5 = .ok (.invokevirtual 30, 3) := by decide +kernel
theorem dL_isNear_8 : decode cL_isNear 8 = .ok (.ifCond .eq 7, 3) := by decide +kernel
theorem dL_isNear_11 : decode cL_isNear 11 = .ok (.lconst 1, 1) := by decide +kernel
theorem dL_isNear_12 : decode cL_isNear 12 = .ok (.goto 4, 3) := by decide +kernel
theorem dL_isNear_15 : decode cL_isNear 15 = .ok (.lconst 0, 1) := by decide +kernel
theorem dL_isNear_16 : decode cL_isNear 16 = .ok (.lastore, 1) := by decide +kernel
theorem dL_isNear_17 : decode cL_isNear 17 = .ok (.goto 7, 3) := by decide +kernel
theorem dL_isNear_20 : decode cL_isNear 20 = .ok (.astore 4, 2) := by decide +kernel
theorem dL_isNear_22 : decode cL_isNear 22 = .ok (.iconst 1, 1) := by decide +kernel
theorem dL_isNear_23 : decode cL_isNear 23 = .ok (.ireturn, 1) := by decide +kernel
theorem dL_isNear_24 : decode cL_isNear 24 = .ok (.iconst 0, 1) := by decide +kernel
theorem dL_isNear_25 : decode cL_isNear 25 = .ok (.ireturn, 1) := by decide +kernel
theorem dL_told_0 : decode cL_told 0 = .ok (.aload_n 3, 1) := by decide +kernel
theorem dL_told_1 : decode cL_told 1 = .ok (.iconst 0, 1) := by decide +kernel
theorem dL_told_2 : decode cL_told 2 = .ok (.aload_n 0, 1) := by decide +kernel
theorem dL_told_3 : decode cL_told 3 = .ok (.iload_n 1, 1) := by decide +kernel
theorem dL_told_4 : decode cL_told 4 = .ok (.iload_n 2, 1) := by decide +kernel
theorem dL_told_5 : decode cL_told 5 = .ok (.invokevirtual 34, 3) := by decide +kernel
theorem dL_told_8 : decode cL_told 8 = .ok (.i2l, 1) := by decide +kernel
theorem dL_told_9 : decode cL_told 9 = .ok (.lastore, 1) := by decide +kernel
theorem dL_told_10 : decode cL_told 10 = .ok (.goto 11, 3) := by decide +kernel
theorem dL_told_13 : decode cL_told 13 = .ok (.astore 4, 2) := by decide +kernel
theorem dL_told_15 : decode cL_told 15 = .ok (.iconst 1, 1) := by decide +kernel
theorem dL_told_16 : decode cL_told 16 = .ok (.ireturn, 1) := by decide +kernel
theorem dL_told_17 : decode cL_told 17 = .ok (.astore 4, 2) := by decide +kernel
theorem dL_told_19 : decode cL_told 19 = .ok (.iconst 2, 1) := by decide +kernel
theorem dL_told_20 : decode cL_told 20 = .ok (.ireturn, 1) := by decide +kernel
theorem dL_told_21 : decode cL_told 21 = .ok (.iconst 0, 1) := by decide +kernel
theorem dL_told_22 : decode cL_told 22 = .ok (.ireturn, 1) := by decide +kernel
theorem dL_tool_0 : decode cL_tool 0 = .ok (.aload 6, 2) := by decide +kernel
theorem dL_tool_2 : decode cL_tool 2 = .ok (.iconst 0, 1) := by decide +kernel
theorem dL_tool_3 : decode cL_tool 3 = .ok (.aload_n 0, 1) := by decide +kernel
theorem dL_tool_4 : decode cL_tool 4 = .ok (.iload_n 1, 1) := by decide +kernel
theorem dL_tool_5 : decode cL_tool 5 = .ok (.iload_n 2, 1) := by decide +kernel
theorem dL_tool_6 : decode cL_tool 6 = .ok (.iload_n 3, 1) := by decide +kernel
theorem dL_tool_7 : decode cL_tool 7 = .ok (.iload 4, 2) := by decide +kernel
theorem dL_tool_9 : decode cL_tool 9 = .ok (.iload 5, 2) := by decide +kernel
theorem dL_tool_11 : decode cL_tool 11 = .ok (.invokevirtual 37, 3) := by decide +kernel
theorem dL_tool_14 : decode cL_tool 14 = .ok (.i2l, 1) := by decide +kernel
theorem dL_tool_15 : decode cL_tool 15 = .ok (.lastore, 1) := by decide +kernel
theorem dL_tool_16 : decode cL_tool 16 = .ok (.goto 11, 3) := by decide +kernel
theorem dL_tool_19 : decode cL_tool 19 = .ok (.astore 7, 2) := by decide +kernel
theorem dL_tool_21 : decode cL_tool 21 = .ok (.iconst 1, 1) := by decide +kernel
theorem dL_tool_22 : decode cL_tool 22 = .ok (.ireturn, 1) := by decide +kernel
theorem dL_tool_23 : decode cL_tool 23 = .ok (.astore 7, 2) := by decide +kernel
theorem dL_tool_25 : decode cL_tool 25 = .ok (.iconst 2, 1) := by decide +kernel
theorem dL_tool_26 : decode cL_tool 26 = .ok (.ireturn, 1) := by decide +kernel
theorem dL_tool_27 : decode cL_tool 27 = .ok (.iconst 0, 1) := by decide +kernel
theorem dL_tool_28 : decode cL_tool 28 = .ok (.ireturn, 1) := by decide +kernel
theorem dL_trial_0 : decode cL_trial 0 = .ok (.aload 4, 2) := by decide +kernel
theorem dL_trial_2 : decode cL_trial 2 = .ok (.iconst 0, 1) := by decide +kernel
theorem dL_trial_3 : decode cL_trial 3 = .ok (.aload_n 0, 1) := by decide +kernel
theorem dL_trial_4 : decode cL_trial 4 = .ok (.iload_n 1, 1) := by decide +kernel
theorem dL_trial_5 : decode cL_trial 5 = .ok (.iload_n 2, 1) := by decide +kernel
theorem dL_trial_6 : decode cL_trial 6 = .ok (.iload_n 3, 1) := by decide +kernel
theorem dL_trial_7 : decode cL_trial 7 = .ok (.invokevirtual 41, 3) := by decide +kernel
theorem dL_trial_10 : decode cL_trial 10 = .ok (.i2l, 1) := by decide +kernel
theorem dL_trial_11 : decode cL_trial 11 = .ok (.lastore, 1) := by decide +kernel
theorem dL_trial_12 : decode cL_trial 12 = .ok (.goto 11, 3) := by decide +kernel
theorem dL_trial_15 : decode cL_trial 15 = .ok (.astore 5, 2) := by decide +kernel
theorem dL_trial_17 : decode cL_trial 17 = .ok (.iconst 1, 1) := by decide +kernel
theorem dL_trial_18 : decode cL_trial 18 = .ok (.ireturn, 1) := by decide +kernel
theorem dL_trial_19 : decode cL_trial 19 = .ok (.astore 5, 2) := by decide +kernel
theorem dL_trial_21 : decode cL_trial 21 = .ok (.iconst 2, 1) := by decide +kernel
theorem dL_trial_22 : decode cL_trial 22 = .ok (.ireturn, 1) := by decide +kernel
theorem dL_trial_23 : decode cL_trial 23 = .ok (.iconst 0, 1) := by decide +kernel
theorem dL_trial_24 : decode cL_trial 24 = .ok (.ireturn, 1) := by decide +kernel
theorem dL_blank_0 : decode cL_blank 0 = .ok (.aload_n 3, 1) := by decide +kernel
theorem dL_blank_1 : decode cL_blank 1 = .ok (.iconst 0, 1) := by decide +kernel
theorem dL_blank_2 : decode cL_blank 2 = .ok (.aload_n 0, 1) := by decide +kernel
theorem dL_blank_3 : decode cL_blank 3 = .ok (.iload_n 1, 1) := by decide +kernel
theorem dL_blank_4 : decode cL_blank 4 = .ok (.iload_n 2, 1) := by decide +kernel
theorem dL_blank_5 : decode cL_blank 5 = .ok (.invokevirtual 44, 3) := by decide +kernel
theorem dL_blank_8 : decode cL_blank 8 = .ok (.i2l, 1) := by decide +kernel
theorem dL_blank_9 : decode cL_blank 9 = .ok (.lastore, 1) := by decide +kernel
theorem dL_blank_10 : decode cL_blank 10 = .ok (.goto 7, 3) := by decide +kernel
theorem dL_blank_13 : decode cL_blank 13 = .ok (.astore 4, 2) := by decide +kernel
theorem dL_blank_15 : decode cL_blank 15 = .ok (.iconst 1, 1) := by decide +kernel
theorem dL_blank_16 : decode cL_blank 16 = .ok (.ireturn, 1) := by decide +kernel
theorem dL_blank_17 : decode cL_blank 17 = .ok (.iconst 0, 1) := by decide +kernel
theorem dL_blank_18 : decode cL_blank 18 = .ok (.ireturn, 1) := by decide +kernel
theorem dL_why_0 : decode cL_why 0 = .ok (.aload 5, 2) := by decide +kernel
theorem dL_why_2 : decode cL_why 2 = .ok (.iconst 0, 1) := by decide +kernel
theorem dL_why_3 : decode cL_why 3 = .ok (.aload_n 0, 1) := by decide +kernel
theorem dL_why_4 : decode cL_why 4 = .ok (.iload_n 1, 1) := by decide +kernel
theorem dL_why_5 : decode cL_why 5 = .ok (.iload_n 2, 1) := by decide +kernel
theorem dL_why_6 : decode cL_why 6 = .ok (.iload_n 3, 1) := by decide +kernel
theorem dL_why_7 : decode cL_why 7 = .ok (.iload 4, 2) := by decide +kernel
theorem dL_why_9 : decode cL_why 9 = .ok (.invokevirtual 47, 3) := by decide +kernel
theorem dL_why_12 : decode cL_why 12 = .ok (.i2l, 1) := by decide +kernel
theorem dL_why_13 : decode cL_why 13 = .ok (.lastore, 1) := by decide +kernel
theorem dL_why_14 : decode cL_why 14 = .ok (.goto 11, 3) := by decide +kernel
theorem dL_why_17 : decode cL_why 17 = .ok (.astore 6, 2) := by decide +kernel
theorem dL_why_19 : decode cL_why 19 = .ok (.iconst 1, 1) := by decide +kernel
theorem dL_why_20 : decode cL_why 20 = .ok (.ireturn, 1) := by decide +kernel
theorem dL_why_21 : decode cL_why 21 = .ok (.astore 6, 2) := by decide +kernel
theorem dL_why_23 : decode cL_why 23 = .ok (.iconst 2, 1) := by decide +kernel
theorem dL_why_24 : decode cL_why 24 = .ok (.ireturn, 1) := by decide +kernel
theorem dL_why_25 : decode cL_why 25 = .ok (.iconst 0, 1) := by decide +kernel
theorem dL_why_26 : decode cL_why 26 = .ok (.ireturn, 1) := by decide +kernel
theorem dL_point_0 : decode cL_point 0 = .ok (.aload 7, 2) := by decide +kernel
theorem dL_point_2 : decode cL_point 2 = .ok (.iconst 0, 1) := by decide +kernel
theorem dL_point_3 : decode cL_point 3 = .ok (.aload_n 0, 1) := by decide +kernel
theorem dL_point_4 : decode cL_point 4 = .ok (.iload_n 1, 1) := by decide +kernel
theorem dL_point_5 : decode cL_point 5 = .ok (.iload_n 2, 1) := by decide +kernel
theorem dL_point_6 : decode cL_point 6 = .ok (.iload_n 3, 1) := by decide +kernel
theorem dL_point_7 : decode cL_point 7 = .ok (.iload 4, 2) := by decide +kernel
theorem dL_point_9 : decode cL_point 9 = .ok (.iload 5, 2) := by decide +kernel
theorem dL_point_11 : decode cL_point 11 = .ok (.iload 6, 2) := by decide +kernel
theorem dL_point_13 : decode cL_point 13 = .ok (.invokevirtual 50, 3) := by decide +kernel
theorem dL_point_16 : decode cL_point 16 = .ok (.i2l, 1) := by decide +kernel
theorem dL_point_17 : decode cL_point 17 = .ok (.lastore, 1) := by decide +kernel
theorem dL_point_18 : decode cL_point 18 = .ok (.goto 11, 3) := by decide +kernel
theorem dL_point_21 : decode cL_point 21 = .ok (.astore 8, 2) := by decide +kernel
theorem dL_point_23 : decode cL_point 23 = .ok (.iconst 1, 1) := by decide +kernel
theorem dL_point_24 : decode cL_point 24 = .ok (.ireturn, 1) := by decide +kernel
theorem dL_point_25 : decode cL_point 25 = .ok (.astore 8, 2) := by decide +kernel
theorem dL_point_27 : decode cL_point 27 = .ok (.iconst 2, 1) := by decide +kernel
theorem dL_point_28 : decode cL_point 28 = .ok (.ireturn, 1) := by decide +kernel
theorem dL_point_29 : decode cL_point 29 = .ok (.iconst 0, 1) := by decide +kernel
theorem dL_point_30 : decode cL_point 30 = .ok (.ireturn, 1) := by decide +kernel
theorem dL_flips_0 : decode cL_flips 0 = .ok (.aload_n 3, 1) := by decide +kernel
theorem dL_flips_1 : decode cL_flips 1 = .ok (.iconst 0, 1) := by decide +kernel
theorem dL_flips_2 : decode cL_flips 2 = .ok (.aload_n 0, 1) := by decide +kernel
theorem dL_flips_3 : decode cL_flips 3 = .ok (.iload_n 1, 1) := by decide +kernel
theorem dL_flips_4 : decode cL_flips 4 = .ok (.iload_n 2, 1) := by decide +kernel
theorem dL_flips_5 : decode cL_flips 5 = .ok (.invokevirtual 54, 3) := by decide +kernel
theorem dL_flips_8 : decode cL_flips 8 = .ok (.i2l, 1) := by decide +kernel
theorem dL_flips_9 : decode cL_flips 9 = .ok (.lastore, 1) := by decide +kernel
theorem dL_flips_10 : decode cL_flips 10 = .ok (.goto 7, 3) := by decide +kernel
theorem dL_flips_13 : decode cL_flips 13 = .ok (.astore 4, 2) := by decide +kernel
theorem dL_flips_15 : decode cL_flips 15 = .ok (.iconst 1, 1) := by decide +kernel
theorem dL_flips_16 : decode cL_flips 16 = .ok (.ireturn, 1) := by decide +kernel
theorem dL_flips_17 : decode cL_flips 17 = .ok (.iconst 0, 1) := by decide +kernel
theorem dL_flips_18 : decode cL_flips 18 = .ok (.ireturn, 1) := by decide +kernel
theorem dL_flipsAnew_0 : decode cL_flipsAnew 0 = .ok (.aload_n 3, 1) := by decide +kernel
theorem dL_flipsAnew_1 : decode cL_flipsAnew 1 = .ok (.iconst 0, 1) := by decide +kernel
theorem dL_flipsAnew_2 : decode cL_flipsAnew 2 = .ok (.aload_n 0, 1) := by decide +kernel
theorem dL_flipsAnew_3 : decode cL_flipsAnew 3 = .ok (.iload_n 1, 1) := by decide +kernel
theorem dL_flipsAnew_4 : decode cL_flipsAnew 4 = .ok (.iload_n 2, 1) := by decide +kernel
theorem dL_flipsAnew_5 : decode cL_flipsAnew 5 = .ok (.invokevirtual 57, 3) := by decide +kernel
theorem dL_flipsAnew_8 : decode cL_flipsAnew 8 = .ok (.i2l, 1) := by decide +kernel
theorem dL_flipsAnew_9 : decode cL_flipsAnew 9 = .ok (.lastore, 1) := by decide +kernel
theorem dL_flipsAnew_10 : decode cL_flipsAnew 10 = .ok (.goto 7, 3) := by decide +kernel
theorem dL_flipsAnew_13 : decode cL_flipsAnew 13 = .ok (.astore 4, 2) := by decide +kernel
theorem dL_flipsAnew_15 : decode cL_flipsAnew 15 = .ok (.iconst 1, 1) := by decide +kernel
theorem dL_flipsAnew_16 : decode cL_flipsAnew 16 = .ok (.ireturn, 1) := by decide +kernel
theorem dL_flipsAnew_17 : decode cL_flipsAnew 17 = .ok (.iconst 0, 1) := by decide +kernel
theorem dL_flipsAnew_18 : decode cL_flipsAnew 18 = .ok (.ireturn, 1) := by decide +kernel
theorem dL_ordered_0 : decode cL_ordered 0 = .ok (.aload 4, 2) := by decide +kernel
theorem dL_ordered_2 : decode cL_ordered 2 = .ok (.iconst 0, 1) := by decide +kernel
theorem dL_ordered_3 : decode cL_ordered 3 = .ok (.aload_n 0, 1) := by decide +kernel
theorem dL_ordered_4 : decode cL_ordered 4 = .ok (.iload_n 1, 1) := by decide +kernel
theorem dL_ordered_5 : decode cL_ordered 5 = .ok (.iload_n 2, 1) := by decide +kernel
theorem dL_ordered_6 : decode cL_ordered 6 = .ok (.iload_n 3, 1) := by decide +kernel
theorem dL_ordered_7 : decode cL_ordered 7 = .ok (.invokevirtual 60, 3) := by decide +kernel
theorem dL_ordered_10 : decode cL_ordered 10 = .ok (.i2l, 1) := by decide +kernel
theorem dL_ordered_11 : decode cL_ordered 11 = .ok (.lastore, 1) := by decide +kernel
theorem dL_ordered_12 : decode cL_ordered 12 = .ok (.goto 7, 3) := by decide +kernel
theorem dL_ordered_15 : decode cL_ordered 15 = .ok (.astore 5, 2) := by decide +kernel
theorem dL_ordered_17 : decode cL_ordered 17 = .ok (.iconst 1, 1) := by decide +kernel
theorem dL_ordered_18 : decode cL_ordered 18 = .ok (.ireturn, 1) := by decide +kernel
theorem dL_ordered_19 : decode cL_ordered 19 = .ok (.iconst 0, 1) := by decide +kernel
theorem dL_ordered_20 : decode cL_ordered 20 = .ok (.ireturn, 1) := by decide +kernel
theorem dL_want_0 : decode cL_want 0 = .ok (.aload_n 3, 1) := by decide +kernel
theorem dL_want_1 : decode cL_want 1 = .ok (.iconst 0, 1) := by decide +kernel
theorem dL_want_2 : decode cL_want 2 = .ok (.aload_n 0, 1) := by decide +kernel
theorem dL_want_3 : decode cL_want 3 = .ok (.iload_n 1, 1) := by decide +kernel
theorem dL_want_4 : decode cL_want 4 = .ok (.iload_n 2, 1) := by decide +kernel
theorem dL_want_5 : decode cL_want 5 = .ok (.invokevirtual 63, 3) := by decide +kernel
theorem dL_want_8 : decode cL_want 8 = .ok (.i2l, 1) := by decide +kernel
theorem dL_want_9 : decode cL_want 9 = .ok (.lastore, 1) := by decide +kernel
theorem dL_want_10 : decode cL_want 10 = .ok (.goto 15, 3) := by decide +kernel
theorem dL_want_13 : decode cL_want 13 = .ok (.astore 4, 2) := by decide +kernel
theorem dL_want_15 : decode cL_want 15 = .ok (.iconst 1, 1) := by decide +kernel
theorem dL_want_16 : decode cL_want 16 = .ok (.ireturn, 1) := by decide +kernel
theorem dL_want_17 : decode cL_want 17 = .ok (.astore 4, 2) := by decide +kernel
theorem dL_want_19 : decode cL_want 19 = .ok (.iconst 2, 1) := by decide +kernel
theorem dL_want_20 : decode cL_want 20 = .ok (.ireturn, 1) := by decide +kernel
theorem dL_want_21 : decode cL_want 21 = .ok (.astore 4, 2) := by decide +kernel
theorem dL_want_23 : decode cL_want 23 = .ok (.iconst 3, 1) := by decide +kernel
theorem dL_want_24 : decode cL_want 24 = .ok (.ireturn, 1) := by decide +kernel
theorem dL_want_25 : decode cL_want 25 = .ok (.iconst 0, 1) := by decide +kernel
theorem dL_want_26 : decode cL_want 26 = .ok (.ireturn, 1) := by decide +kernel
theorem dL_nest_0 : decode cL_nest 0 = .ok (.aload 5, 2) := by decide +kernel
theorem dL_nest_2 : decode cL_nest 2 = .ok (.iconst 0, 1) := by decide +kernel
theorem dL_nest_3 : decode cL_nest 3 = .ok (.aload_n 0, 1) := by decide +kernel
theorem dL_nest_4 : decode cL_nest 4 = .ok (.iload_n 1, 1) := by decide +kernel
theorem dL_nest_5 : decode cL_nest 5 = .ok (.iload_n 2, 1) := by decide +kernel
theorem dL_nest_6 : decode cL_nest 6 = .ok (.iload_n 3, 1) := by decide +kernel
theorem dL_nest_7 : decode cL_nest 7 = .ok (.iload 4, 2) := by decide +kernel
theorem dL_nest_9 : decode cL_nest 9 = .ok (.invokevirtual 66, 3) := by decide +kernel
theorem dL_nest_12 : decode cL_nest 12 = .ok (.lastore, 1) := by decide +kernel
theorem dL_nest_13 : decode cL_nest 13 = .ok (.goto 11, 3) := by decide +kernel
theorem dL_nest_16 : decode cL_nest 16 = .ok (.astore 6, 2) := by decide +kernel
theorem dL_nest_18 : decode cL_nest 18 = .ok (.iconst 1, 1) := by decide +kernel
theorem dL_nest_19 : decode cL_nest 19 = .ok (.ireturn, 1) := by decide +kernel
theorem dL_nest_20 : decode cL_nest 20 = .ok (.astore 6, 2) := by decide +kernel
theorem dL_nest_22 : decode cL_nest 22 = .ok (.iconst 2, 1) := by decide +kernel
theorem dL_nest_23 : decode cL_nest 23 = .ok (.ireturn, 1) := by decide +kernel
theorem dL_nest_24 : decode cL_nest 24 = .ok (.iconst 0, 1) := by decide +kernel
theorem dL_nest_25 : decode cL_nest 25 = .ok (.ireturn, 1) := by decide +kernel
theorem dL_batch_0 : decode cL_batch 0 = .ok (.aload 4, 2) := by decide +kernel
theorem dL_batch_2 : decode cL_batch 2 = .ok (.iconst 0, 1) := by decide +kernel
theorem dL_batch_3 : decode cL_batch 3 = .ok (.aload_n 0, 1) := by decide +kernel
theorem dL_batch_4 : decode cL_batch 4 = .ok (.iload_n 1, 1) := by decide +kernel
theorem dL_batch_5 : decode cL_batch 5 = .ok (.iload_n 2, 1) := by decide +kernel
theorem dL_batch_6 : decode cL_batch 6 = .ok (.iload_n 3, 1) := by decide +kernel
theorem dL_batch_7 : decode cL_batch 7 = .ok (.invokevirtual 70, 3) := by decide +kernel
theorem dL_batch_10 : decode cL_batch 10 = .ok (.i2l, 1) := by decide +kernel
theorem dL_batch_11 : decode cL_batch 11 = .ok (.lastore, 1) := by decide +kernel
theorem dL_batch_12 : decode cL_batch 12 = .ok (.goto 15, 3) := by decide +kernel
theorem dL_batch_15 : decode cL_batch 15 = .ok (.astore 5, 2) := by decide +kernel
theorem dL_batch_17 : decode cL_batch 17 = .ok (.iconst 1, 1) := by decide +kernel
theorem dL_batch_18 : decode cL_batch 18 = .ok (.ireturn, 1) := by decide +kernel
theorem dL_batch_19 : decode cL_batch 19 = .ok (.astore 5, 2) := by decide +kernel
theorem dL_batch_21 : decode cL_batch 21 = .ok (.iconst 2, 1) := by decide +kernel
theorem dL_batch_22 : decode cL_batch 22 = .ok (.ireturn, 1) := by decide +kernel
theorem dL_batch_23 : decode cL_batch 23 = .ok (.astore 5, 2) := by decide +kernel
theorem dL_batch_25 : decode cL_batch 25 = .ok (.iconst 3, 1) := by decide +kernel
theorem dL_batch_26 : decode cL_batch 26 = .ok (.ireturn, 1) := by decide +kernel
theorem dL_batch_27 : decode cL_batch 27 = .ok (.iconst 0, 1) := by decide +kernel
theorem dL_batch_28 : decode cL_batch 28 = .ok (.ireturn, 1) := by decide +kernel
theorem dL_work_0 : decode cL_work 0 = .ok (.aload_n 2, 1) := by decide +kernel
theorem dL_work_1 : decode cL_work 1 = .ok (.iconst 0, 1) := by decide +kernel
theorem dL_work_2 : decode cL_work 2 = .ok (.aload_n 0, 1) := by decide +kernel
theorem dL_work_3 : decode cL_work 3 = .ok (.iload_n 1, 1) := by decide +kernel
theorem dL_work_4 : decode cL_work 4 = .ok (.invokevirtual 73, 3) := by decide +kernel
theorem dL_work_7 : decode cL_work 7 = .ok (.i2l, 1) := by decide +kernel
theorem dL_work_8 : decode cL_work 8 = .ok (.lastore, 1) := by decide +kernel
theorem dL_work_9 : decode cL_work 9 = .ok (.goto 9, 3) := by decide +kernel
theorem dL_work_12 : decode cL_work 12 = .ok (.astore_n 3, 1) := by decide +kernel
theorem dL_work_13 : decode cL_work 13 = .ok (.iconst 1, 1) := by decide +kernel
theorem dL_work_14 : decode cL_work 14 = .ok (.ireturn, 1) := by decide +kernel
theorem dL_work_15 : decode cL_work 15 = .ok (.astore_n 3, 1) := by decide +kernel
theorem dL_work_16 : decode cL_work 16 = .ok (.iconst 2, 1) := by decide +kernel
theorem dL_work_17 : decode cL_work 17 = .ok (.ireturn, 1) := by decide +kernel
theorem dL_work_18 : decode cL_work 18 = .ok (.iconst 0, 1) := by decide +kernel
theorem dL_work_19 : decode cL_work 19 = .ok (.ireturn, 1) := by decide +kernel
theorem dL_batchOf_0 : decode cL_batchOf 0 = .ok (.aload_n 3, 1) := by decide +kernel
theorem dL_batchOf_1 : decode cL_batchOf 1 = .ok (.iconst 0, 1) := by decide +kernel
theorem dL_batchOf_2 : decode cL_batchOf 2 = .ok (.aload_n 0, 1) := by decide +kernel
theorem dL_batchOf_3 : decode cL_batchOf 3 = .ok (.iload_n 1, 1) := by decide +kernel
theorem dL_batchOf_4 : decode cL_batchOf 4 = .ok (.iload_n 2, 1) := by decide +kernel
theorem dL_batchOf_5 : decode cL_batchOf 5 = .ok (.invokevirtual 77, 3) := by decide +kernel
theorem dL_batchOf_8 : decode cL_batchOf 8 = .ok (.i2l, 1) := by decide +kernel
theorem dL_batchOf_9 : decode cL_batchOf 9 = .ok (.lastore, 1) := by decide +kernel
theorem dL_batchOf_10 : decode cL_batchOf 10 = .ok (.goto 11, 3) := by decide +kernel
theorem dL_batchOf_13 : decode cL_batchOf 13 = .ok (.astore 4, 2) := by decide +kernel
theorem dL_batchOf_15 : decode cL_batchOf 15 = .ok (.iconst 1, 1) := by decide +kernel
theorem dL_batchOf_16 : decode cL_batchOf 16 = .ok (.ireturn, 1) := by decide +kernel
theorem dL_batchOf_17 : decode cL_batchOf 17 = .ok (.astore 4, 2) := by decide +kernel
theorem dL_batchOf_19 : decode cL_batchOf 19 = .ok (.iconst 2, 1) := by decide +kernel
theorem dL_batchOf_20 : decode cL_batchOf 20 = .ok (.ireturn, 1) := by decide +kernel
theorem dL_batchOf_21 : decode cL_batchOf 21 = .ok (.iconst 0, 1) := by decide +kernel
theorem dL_batchOf_22 : decode cL_batchOf 22 = .ok (.ireturn, 1) := by decide +kernel
theorem dL_kits_0 : decode cL_kits 0 = .ok (.aload_n 2, 1) := by decide +kernel
theorem dL_kits_1 : decode cL_kits 1 = .ok (.iconst 0, 1) := by decide +kernel
theorem dL_kits_2 : decode cL_kits 2 = .ok (.aload_n 0, 1) := by decide +kernel
theorem dL_kits_3 : decode cL_kits 3 = .ok (.iload_n 1, 1) := by decide +kernel
theorem dL_kits_4 : decode cL_kits 4 = .ok (.invokevirtual 80, 3) := by decide +kernel
theorem dL_kits_7 : decode cL_kits 7 = .ok (.i2l, 1) := by decide +kernel
theorem dL_kits_8 : decode cL_kits 8 = .ok (.lastore, 1) := by decide +kernel
theorem dL_kits_9 : decode cL_kits 9 = .ok (.goto 6, 3) := by decide +kernel
theorem dL_kits_12 : decode cL_kits 12 = .ok (.astore_n 3, 1) := by decide +kernel
theorem dL_kits_13 : decode cL_kits 13 = .ok (.iconst 1, 1) := by decide +kernel
theorem dL_kits_14 : decode cL_kits 14 = .ok (.ireturn, 1) := by decide +kernel
theorem dL_kits_15 : decode cL_kits 15 = .ok (.iconst 0, 1) := by decide +kernel
theorem dL_kits_16 : decode cL_kits 16 = .ok (.ireturn, 1) := by decide +kernel
theorem dL_take_0 : decode cL_take 0 = .ok (.aload_n 3, 1) := by decide +kernel
theorem dL_take_1 : decode cL_take 1 = .ok (.iconst 0, 1) := by decide +kernel
theorem dL_take_2 : decode cL_take 2 = .ok (.aload_n 0, 1) := by decide +kernel
theorem dL_take_3 : decode cL_take 3 = .ok (.iload_n 1, 1) := by decide +kernel
theorem dL_take_4 : decode cL_take 4 = .ok (.iload_n 2, 1) := by decide +kernel
theorem dL_take_5 : decode cL_take 5 = .ok (.invokevirtual 83, 3) := by decide +kernel
theorem dL_take_8 : decode cL_take 8 = .ok (.i2l, 1) := by decide +kernel
theorem dL_take_9 : decode cL_take 9 = .ok (.lastore, 1) := by decide +kernel
theorem dL_take_10 : decode cL_take 10 = .ok (.goto 11, 3) := by decide +kernel
theorem dL_take_13 : decode cL_take 13 = .ok (.astore 4, 2) := by decide +kernel
theorem dL_take_15 : decode cL_take 15 = .ok (.iconst 1, 1) := by decide +kernel
theorem dL_take_16 : decode cL_take 16 = .ok (.ireturn, 1) := by decide +kernel
theorem dL_take_17 : decode cL_take 17 = .ok (.astore 4, 2) := by decide +kernel
theorem dL_take_19 : decode cL_take 19 = .ok (.iconst 2, 1) := by decide +kernel
theorem dL_take_20 : decode cL_take 20 = .ok (.ireturn, 1) := by decide +kernel
theorem dL_take_21 : decode cL_take 21 = .ok (.iconst 0, 1) := by decide +kernel
theorem dL_take_22 : decode cL_take 22 = .ok (.ireturn, 1) := by decide +kernel
theorem dL_law_0 : decode cL_law 0 = .ok (.new 8, 3) := by decide +kernel
theorem dL_law_3 : decode cL_law 3 = .ok (.dup, 1) := by decide +kernel
theorem dL_law_4 : decode cL_law 4 = .ok (.invokespecial 86, 3) := by decide +kernel
theorem dL_law_7 : decode cL_law 7 = .ok (.astore_n 1, 1) := by decide +kernel
theorem dL_law_8 : decode cL_law 8 = .ok (.new 87, 3) := by decide +kernel
theorem dL_law_11 : decode cL_law 11 = .ok (.dup, 1) := by decide +kernel
theorem dL_law_12 : decode cL_law 12 = .ok (.invokespecial 89, 3) := by decide +kernel
theorem dL_law_15 : decode cL_law 15 = .ok (.astore_n 2, 1) := by decide +kernel
theorem dL_law_16 : decode cL_law 16 = .ok (.iconst 1, 1) := by decide +kernel
theorem dL_law_17 : decode cL_law 17 = .ok (.newarray .long, 2) := by decide +kernel
theorem dL_law_19 : decode cL_law 19 = .ok (.astore_n 3, 1) := by decide +kernel
theorem dL_law_20 : decode cL_law 20 = .ok (.iconst 0, 1) := by decide +kernel
theorem dL_law_21 : decode cL_law 21 = .ok (.istore 4, 2) := by decide +kernel
theorem dL_law_23 : decode cL_law 23 = .ok (.iload 4, 2) := by decide +kernel
theorem dL_law_25 : decode cL_law 25 = .ok (.aload_n 0, 1) := by decide +kernel
theorem dL_law_26 : decode cL_law 26 = .ok (.arraylength, 1) := by decide +kernel
theorem dL_law_27 : decode cL_law 27 = .ok (.bipush 7, 2) := by decide +kernel
theorem dL_law_29 : decode cL_law 29 = .ok (.isub, 1) := by decide +kernel
theorem dL_law_30 : decode cL_law 30 = .ok (.if_icmp .gt 1798, 3) := by decide +kernel
theorem dL_law_33 : decode cL_law 33 = .ok (.aload_n 0, 1) := by decide +kernel
theorem dL_law_34 : decode cL_law 34 = .ok (.iload 4, 2) := by decide +kernel
theorem dL_law_36 : decode cL_law 36 = .ok (.iaload, 1) := by decide +kernel
theorem dL_law_37 : decode cL_law 37 = .ok (.bipush 31, 2) := by decide +kernel
theorem dL_law_39 : decode cL_law 39 = .ok (.iand, 1) := by decide +kernel
theorem dL_law_40 : decode cL_law 40 = .ok (.tableswitch 1782 0 22 #[108, 176, 189, 257, 337, 429, 504, 572, 676, 756, 824, 916, 1066, 1134, 1202, 1282, 1350, 1363, 1454, 1534, 1590, 1658, 1714], 108) := by decide +kernel
theorem dL_law_148 : decode cL_law 148 = .ok (.aload_n 1, 1) := by decide +kernel
theorem dL_law_149 : decode cL_law 149 = .ok (.aload_n 0, 1) := by decide +kernel
theorem dL_law_150 : decode cL_law 150 = .ok (.iload 4, 2) := by decide +kernel
theorem dL_law_152 : decode cL_law 152 = .ok (.iconst 1, 1) := by decide +kernel
theorem dL_law_153 : decode cL_law 153 = .ok (.iadd, 1) := by decide +kernel
theorem dL_law_154 : decode cL_law 154 = .ok (.iaload, 1) := by decide +kernel
theorem dL_law_155 : decode cL_law 155 = .ok (.aload_n 0, 1) := by decide +kernel
theorem dL_law_156 : decode cL_law 156 = .ok (.iload 4, 2) := by decide +kernel
theorem dL_law_158 : decode cL_law 158 = .ok (.iconst 2, 1) := by decide +kernel
theorem dL_law_159 : decode cL_law 159 = .ok (.iadd, 1) := by decide +kernel
theorem dL_law_160 : decode cL_law 160 = .ok (.iaload, 1) := by decide +kernel
theorem dL_law_161 : decode cL_law 161 = .ok (.aload_n 3, 1) := by decide +kernel
theorem dL_law_162 : decode cL_law 162 = .ok (.invokestatic 90, 3) := by decide +kernel
theorem dL_law_165 : decode cL_law 165 = .ok (.istore 5, 2) := by decide +kernel
theorem dL_law_167 : decode cL_law 167 = .ok (.aload_n 2, 1) := by decide +kernel
theorem dL_law_168 : decode cL_law 168 = .ok (.aload_n 0, 1) := by decide +kernel
theorem dL_law_169 : decode cL_law 169 = .ok (.iload 4, 2) := by decide +kernel
theorem dL_law_171 : decode cL_law 171 = .ok (.iconst 1, 1) := by decide +kernel
theorem dL_law_172 : decode cL_law 172 = .ok (.iadd, 1) := by decide +kernel
theorem dL_law_173 : decode cL_law 173 = .ok (.iaload, 1) := by decide +kernel
theorem dL_law_174 : decode cL_law 174 = .ok (.aload_n 0, 1) := by decide +kernel
theorem dL_law_175 : decode cL_law 175 = .ok (.iload 4, 2) := by decide +kernel
theorem dL_law_177 : decode cL_law 177 = .ok (.iconst 2, 1) := by decide +kernel
theorem dL_law_178 : decode cL_law 178 = .ok (.iadd, 1) := by decide +kernel
theorem dL_law_179 : decode cL_law 179 = .ok (.iaload, 1) := by decide +kernel
theorem dL_law_180 : decode cL_law 180 = .ok (.invokevirtual 95, 3) := by decide +kernel
theorem dL_law_183 : decode cL_law 183 = .ok (.istore 6, 2) := by decide +kernel
theorem dL_law_185 : decode cL_law 185 = .ok (.aload_n 2, 1) := by decide +kernel
theorem dL_law_186 : decode cL_law 186 = .ok (.invokevirtual 96, 3) := by decide +kernel
theorem dL_law_189 : decode cL_law 189 = .ok (.iload 5, 2) := by decide +kernel
theorem dL_law_191 : decode cL_law 191 = .ok (.if_icmp .eq 5, 3) := by decide +kernel
theorem dL_law_194 : decode cL_law 194 = .ok (.iconst 0, 1) := by decide +kernel
theorem dL_law_195 : decode cL_law 195 = .ok (.ireturn, 1) := by decide +kernel
theorem dL_law_196 : decode cL_law 196 = .ok (.iload 5, 2) := by decide +kernel
theorem dL_law_198 : decode cL_law 198 = .ok (.ifCond .ne 15, 3) := by decide +kernel
theorem dL_law_201 : decode cL_law 201 = .ok (.aload_n 3, 1) := by decide +kernel
theorem dL_law_202 : decode cL_law 202 = .ok (.iconst 0, 1) := by decide +kernel
theorem dL_law_203 : decode cL_law 203 = .ok (.laload, 1) := by decide +kernel
theorem dL_law_204 : decode cL_law 204 = .ok (.iload 6, 2) := by decide +kernel
theorem dL_law_206 : decode cL_law 206 = .ok (.i2l, 1) := by decide +kernel
theorem dL_law_207 : decode cL_law 207 = .ok (.lcmp, 1) := by decide +kernel
theorem dL_law_208 : decode cL_law 208 = .ok (.ifCond .eq 5, 3) := by decide +kernel
theorem dL_law_211 : decode cL_law 211 = .ok (.iconst 0, 1) := by decide +kernel
theorem dL_law_212 : decode cL_law 212 = .ok (.ireturn, 1) := by decide +kernel
theorem dL_law_213 : decode cL_law 213 = .ok (.goto 1609, 3) := by decide +kernel
theorem dL_law_216 : decode cL_law 216 = .ok (.aload_n 1, 1) := by decide +kernel
theorem dL_law_217 : decode cL_law 217 = .ok (.invokevirtual 100, 3) := by decide +kernel
theorem dL_law_220 : decode cL_law 220 = .ok (.aload_n 2, 1) := by decide +kernel
theorem dL_law_221 : decode cL_law 221 = .ok (.invokevirtual 103, 3) := by decide +kernel
theorem dL_law_224 : decode cL_law 224 = .ok (.if_icmp .eq 1598, 3) := by decide +kernel
theorem dL_law_227 : decode cL_law 227 = .ok (.iconst 0, 1) := by decide +kernel
theorem dL_law_228 : decode cL_law 228 = .ok (.ireturn, 1) := by decide +kernel
theorem dL_law_229 : decode cL_law 229 = .ok (.aload_n 1, 1) := by decide +kernel
theorem dL_law_230 : decode cL_law 230 = .ok (.aload_n 0, 1) := by decide +kernel
theorem dL_law_231 : decode cL_law 231 = .ok (.iload 4, 2) := by decide +kernel
theorem dL_law_233 : decode cL_law 233 = .ok (.iconst 1, 1) := by decide +kernel
theorem dL_law_234 : decode cL_law 234 = .ok (.iadd, 1) := by decide +kernel
theorem dL_law_235 : decode cL_law 235 = .ok (.iaload, 1) := by decide +kernel
theorem dL_law_236 : decode cL_law 236 = .ok (.aload_n 0, 1) := by decide +kernel
theorem dL_law_237 : decode cL_law 237 = .ok (.iload 4, 2) := by decide +kernel
theorem dL_law_239 : decode cL_law 239 = .ok (.iconst 2, 1) := by decide +kernel
theorem dL_law_240 : decode cL_law 240 = .ok (.iadd, 1) := by decide +kernel
theorem dL_law_241 : decode cL_law 241 = .ok (.iaload, 1) := by decide +kernel
theorem dL_law_242 : decode cL_law 242 = .ok (.aload_n 3, 1) := by decide +kernel
theorem dL_law_243 : decode cL_law 243 = .ok (.invokestatic 104, 3) := by decide +kernel
theorem dL_law_246 : decode cL_law 246 = .ok (.istore 5, 2) := by decide +kernel
theorem dL_law_248 : decode cL_law 248 = .ok (.aload_n 2, 1) := by decide +kernel
theorem dL_law_249 : decode cL_law 249 = .ok (.aload_n 0, 1) := by decide +kernel
theorem dL_law_250 : decode cL_law 250 = .ok (.iload 4, 2) := by decide +kernel
theorem dL_law_252 : decode cL_law 252 = .ok (.iconst 1, 1) := by decide +kernel
theorem dL_law_253 : decode cL_law 253 = .ok (.iadd, 1) := by decide +kernel
theorem dL_law_254 : decode cL_law 254 = .ok (.iaload, 1) := by decide +kernel
theorem dL_law_255 : decode cL_law 255 = .ok (.aload_n 0, 1) := by decide +kernel
theorem dL_law_256 : decode cL_law 256 = .ok (.iload 4, 2) := by decide +kernel
theorem dL_law_258 : decode cL_law 258 = .ok (.iconst 2, 1) := by decide +kernel
theorem dL_law_259 : decode cL_law 259 = .ok (.iadd, 1) := by decide +kernel
theorem dL_law_260 : decode cL_law 260 = .ok (.iaload, 1) := by decide +kernel
theorem dL_law_261 : decode cL_law 261 = .ok (.invokevirtual 106, 3) := by decide +kernel
theorem dL_law_264 : decode cL_law 264 = .ok (.istore 6, 2) := by decide +kernel
theorem dL_law_266 : decode cL_law 266 = .ok (.aload_n 2, 1) := by decide +kernel
theorem dL_law_267 : decode cL_law 267 = .ok (.invokevirtual 96, 3) := by decide +kernel
theorem dL_law_270 : decode cL_law 270 = .ok (.iload 5, 2) := by decide +kernel
theorem dL_law_272 : decode cL_law 272 = .ok (.if_icmp .eq 5, 3) := by decide +kernel
theorem dL_law_275 : decode cL_law 275 = .ok (.iconst 0, 1) := by decide +kernel
theorem dL_law_276 : decode cL_law 276 = .ok (.ireturn, 1) := by decide +kernel
theorem dL_law_277 : decode cL_law 277 = .ok (.iload 5, 2) := by decide +kernel
theorem dL_law_279 : decode cL_law 279 = .ok (.ifCond .ne 15, 3) := by decide +kernel
theorem dL_law_282 : decode cL_law 282 = .ok (.aload_n 3, 1) := by decide +kernel
theorem dL_law_283 : decode cL_law 283 = .ok (.iconst 0, 1) := by decide +kernel
theorem dL_law_284 : decode cL_law 284 = .ok (.laload, 1) := by decide +kernel
theorem dL_law_285 : decode cL_law 285 = .ok (.iload 6, 2) := by decide +kernel
theorem dL_law_287 : decode cL_law 287 = .ok (.i2l, 1) := by decide +kernel
theorem dL_law_288 : decode cL_law 288 = .ok (.lcmp, 1) := by decide +kernel
theorem dL_law_289 : decode cL_law 289 = .ok (.ifCond .eq 5, 3) := by decide +kernel
theorem dL_law_292 : decode cL_law 292 = .ok (.iconst 0, 1) := by decide +kernel
theorem dL_law_293 : decode cL_law 293 = .ok (.ireturn, 1) := by decide +kernel
theorem dL_law_294 : decode cL_law 294 = .ok (.goto 1528, 3) := by decide +kernel
theorem dL_law_297 : decode cL_law 297 = .ok (.aload_n 1, 1) := by decide +kernel
theorem dL_law_298 : decode cL_law 298 = .ok (.aload_n 0, 1) := by decide +kernel
theorem dL_law_299 : decode cL_law 299 = .ok (.iload 4, 2) := by decide +kernel
theorem dL_law_301 : decode cL_law 301 = .ok (.iconst 1, 1) := by decide +kernel
theorem dL_law_302 : decode cL_law 302 = .ok (.iadd, 1) := by decide +kernel
theorem dL_law_303 : decode cL_law 303 = .ok (.iaload, 1) := by decide +kernel
theorem dL_law_304 : decode cL_law 304 = .ok (.aload_n 0, 1) := by decide +kernel
theorem dL_law_305 : decode cL_law 305 = .ok (.iload 4, 2) := by decide +kernel
theorem dL_law_307 : decode cL_law 307 = .ok (.iconst 2, 1) := by decide +kernel
theorem dL_law_308 : decode cL_law 308 = .ok (.iadd, 1) := by decide +kernel
theorem dL_law_309 : decode cL_law 309 = .ok (.iaload, 1) := by decide +kernel
theorem dL_law_310 : decode cL_law 310 = .ok (.aload_n 0, 1) := by decide +kernel
theorem dL_law_311 : decode cL_law 311 = .ok (.iload 4, 2) := by decide +kernel
theorem dL_law_313 : decode cL_law 313 = .ok (.iconst 3, 1) := by decide +kernel
theorem dL_law_314 : decode cL_law 314 = .ok (.iadd, 1) := by decide +kernel
theorem dL_law_315 : decode cL_law 315 = .ok (.iaload, 1) := by decide +kernel
theorem dL_law_316 : decode cL_law 316 = .ok (.aload_n 3, 1) := by decide +kernel
theorem dL_law_317 : decode cL_law 317 = .ok (.invokestatic 107, 3) := by decide +kernel
theorem dL_law_320 : decode cL_law 320 = .ok (.istore 5, 2) := by decide +kernel
theorem dL_law_322 : decode cL_law 322 = .ok (.aload_n 2, 1) := by decide +kernel
theorem dL_law_323 : decode cL_law 323 = .ok (.aload_n 0, 1) := by decide +kernel
theorem dL_law_324 : decode cL_law 324 = .ok (.iload 4, 2) := by decide +kernel
theorem dL_law_326 : decode cL_law 326 = .ok (.iconst 1, 1) := by decide +kernel
theorem dL_law_327 : decode cL_law 327 = .ok (.iadd, 1) := by decide +kernel
theorem dL_law_328 : decode cL_law 328 = .ok (.iaload, 1) := by decide +kernel
theorem dL_law_329 : decode cL_law 329 = .ok (.aload_n 0, 1) := by decide +kernel
theorem dL_law_330 : decode cL_law 330 = .ok (.iload 4, 2) := by decide +kernel
theorem dL_law_332 : decode cL_law 332 = .ok (.iconst 2, 1) := by decide +kernel
theorem dL_law_333 : decode cL_law 333 = .ok (.iadd, 1) := by decide +kernel
theorem dL_law_334 : decode cL_law 334 = .ok (.iaload, 1) := by decide +kernel
theorem dL_law_335 : decode cL_law 335 = .ok (.aload_n 0, 1) := by decide +kernel
theorem dL_law_336 : decode cL_law 336 = .ok (.iload 4, 2) := by decide +kernel
theorem dL_law_338 : decode cL_law 338 = .ok (.iconst 3, 1) := by decide +kernel
theorem dL_law_339 : decode cL_law 339 = .ok (.iadd, 1) := by decide +kernel
theorem dL_law_340 : decode cL_law 340 = .ok (.iaload, 1) := by decide +kernel
theorem dL_law_341 : decode cL_law 341 = .ok (.invokevirtual 110, 3) := by decide +kernel
theorem dL_law_344 : decode cL_law 344 = .ok (.istore 6, 2) := by decide +kernel
theorem dL_law_346 : decode cL_law 346 = .ok (.aload_n 2, 1) := by decide +kernel
theorem dL_law_347 : decode cL_law 347 = .ok (.invokevirtual 96, 3) := by decide +kernel
theorem dL_law_350 : decode cL_law 350 = .ok (.iload 5, 2) := by decide +kernel
theorem dL_law_352 : decode cL_law 352 = .ok (.if_icmp .eq 5, 3) := by decide +kernel
theorem dL_law_355 : decode cL_law 355 = .ok (.iconst 0, 1) := by decide +kernel
theorem dL_law_356 : decode cL_law 356 = .ok (.ireturn, 1) := by decide +kernel
theorem dL_law_357 : decode cL_law 357 = .ok (.iload 5, 2) := by decide +kernel
theorem dL_law_359 : decode cL_law 359 = .ok (.ifCond .ne 15, 3) := by decide +kernel
theorem dL_law_362 : decode cL_law 362 = .ok (.aload_n 3, 1) := by decide +kernel
theorem dL_law_363 : decode cL_law 363 = .ok (.iconst 0, 1) := by decide +kernel
theorem dL_law_364 : decode cL_law 364 = .ok (.laload, 1) := by decide +kernel
theorem dL_law_365 : decode cL_law 365 = .ok (.iload 6, 2) := by decide +kernel
theorem dL_law_367 : decode cL_law 367 = .ok (.i2l, 1) := by decide +kernel
theorem dL_law_368 : decode cL_law 368 = .ok (.lcmp, 1) := by decide +kernel
theorem dL_law_369 : decode cL_law 369 = .ok (.ifCond .eq 5, 3) := by decide +kernel
theorem dL_law_372 : decode cL_law 372 = .ok (.iconst 0, 1) := by decide +kernel
theorem dL_law_373 : decode cL_law 373 = .ok (.ireturn, 1) := by decide +kernel
theorem dL_law_374 : decode cL_law 374 = .ok (.goto 1448, 3) := by decide +kernel
theorem dL_law_377 : decode cL_law 377 = .ok (.aload_n 1, 1) := by decide +kernel
theorem dL_law_378 : decode cL_law 378 = .ok (.aload_n 0, 1) := by decide +kernel
theorem dL_law_379 : decode cL_law 379 = .ok (.iload 4, 2) := by decide +kernel
theorem dL_law_381 : decode cL_law 381 = .ok (.iconst 1, 1) := by decide +kernel
theorem dL_law_382 : decode cL_law 382 = .ok (.iadd, 1) := by decide +kernel
theorem dL_law_383 : decode cL_law 383 = .ok (.iaload, 1) := by decide +kernel
theorem dL_law_384 : decode cL_law 384 = .ok (.aload_n 0, 1) := by decide +kernel
theorem dL_law_385 : decode cL_law 385 = .ok (.iload 4, 2) := by decide +kernel
theorem dL_law_387 : decode cL_law 387 = .ok (.iconst 2, 1) := by decide +kernel
theorem dL_law_388 : decode cL_law 388 = .ok (.iadd, 1) := by decide +kernel
theorem dL_law_389 : decode cL_law 389 = .ok (.iaload, 1) := by decide +kernel
theorem dL_law_390 : decode cL_law 390 = .ok (.aload_n 0, 1) := by decide +kernel
theorem dL_law_391 : decode cL_law 391 = .ok (.iload 4, 2) := by decide +kernel
theorem dL_law_393 : decode cL_law 393 = .ok (.iconst 3, 1) := by decide +kernel
theorem dL_law_394 : decode cL_law 394 = .ok (.iadd, 1) := by decide +kernel
theorem dL_law_395 : decode cL_law 395 = .ok (.iaload, 1) := by decide +kernel
theorem dL_law_396 : decode cL_law 396 = .ok (.aload_n 0, 1) := by decide +kernel
theorem dL_law_397 : decode cL_law 397 = .ok (.iload 4, 2) := by decide +kernel
theorem dL_law_399 : decode cL_law 399 = .ok (.iconst 4, 1) := by decide +kernel
theorem dL_law_400 : decode cL_law 400 = .ok (.iadd, 1) := by decide +kernel
theorem dL_law_401 : decode cL_law 401 = .ok (.iaload, 1) := by decide +kernel
theorem dL_law_402 : decode cL_law 402 = .ok (.aload_n 3, 1) := by decide +kernel
theorem dL_law_403 : decode cL_law 403 = .ok (.invokestatic 111, 3) := by decide +kernel
theorem dL_law_406 : decode cL_law 406 = .ok (.istore 5, 2) := by decide +kernel
theorem dL_law_408 : decode cL_law 408 = .ok (.aload_n 2, 1) := by decide +kernel
theorem dL_law_409 : decode cL_law 409 = .ok (.aload_n 0, 1) := by decide +kernel
theorem dL_law_410 : decode cL_law 410 = .ok (.iload 4, 2) := by decide +kernel
theorem dL_law_412 : decode cL_law 412 = .ok (.iconst 1, 1) := by decide +kernel
theorem dL_law_413 : decode cL_law 413 = .ok (.iadd, 1) := by decide +kernel
theorem dL_law_414 : decode cL_law 414 = .ok (.iaload, 1) := by decide +kernel
theorem dL_law_415 : decode cL_law 415 = .ok (.aload_n 0, 1) := by decide +kernel
theorem dL_law_416 : decode cL_law 416 = .ok (.iload 4, 2) := by decide +kernel
theorem dL_law_418 : decode cL_law 418 = .ok (.iconst 2, 1) := by decide +kernel
theorem dL_law_419 : decode cL_law 419 = .ok (.iadd, 1) := by decide +kernel
theorem dL_law_420 : decode cL_law 420 = .ok (.iaload, 1) := by decide +kernel
theorem dL_law_421 : decode cL_law 421 = .ok (.aload_n 0, 1) := by decide +kernel
theorem dL_law_422 : decode cL_law 422 = .ok (.iload 4, 2) := by decide +kernel
theorem dL_law_424 : decode cL_law 424 = .ok (.iconst 3, 1) := by decide +kernel
theorem dL_law_425 : decode cL_law 425 = .ok (.iadd, 1) := by decide +kernel
theorem dL_law_426 : decode cL_law 426 = .ok (.iaload, 1) := by decide +kernel
theorem dL_law_427 : decode cL_law 427 = .ok (.aload_n 0, 1) := by decide +kernel
theorem dL_law_428 : decode cL_law 428 = .ok (.iload 4, 2) := by decide +kernel
theorem dL_law_430 : decode cL_law 430 = .ok (.iconst 4, 1) := by decide +kernel
theorem dL_law_431 : decode cL_law 431 = .ok (.iadd, 1) := by decide +kernel
theorem dL_law_432 : decode cL_law 432 = .ok (.iaload, 1) := by decide +kernel
theorem dL_law_433 : decode cL_law 433 = .ok (.invokevirtual 114, 3) := by decide +kernel
theorem dL_law_436 : decode cL_law 436 = .ok (.istore 6, 2) := by decide +kernel
theorem dL_law_438 : decode cL_law 438 = .ok (.aload_n 2, 1) := by decide +kernel
theorem dL_law_439 : decode cL_law 439 = .ok (.invokevirtual 96, 3) := by decide +kernel
theorem dL_law_442 : decode cL_law 442 = .ok (.iload 5, 2) := by decide +kernel
theorem dL_law_444 : decode cL_law 444 = .ok (.if_icmp .eq 5, 3) := by decide +kernel
theorem dL_law_447 : decode cL_law 447 = .ok (.iconst 0, 1) := by decide +kernel
theorem dL_law_448 : decode cL_law 448 = .ok (.ireturn, 1) := by decide +kernel
theorem dL_law_449 : decode cL_law 449 = .ok (.iload 5, 2) := by decide +kernel
theorem dL_law_451 : decode cL_law 451 = .ok (.ifCond .ne 15, 3) := by decide +kernel
theorem dL_law_454 : decode cL_law 454 = .ok (.aload_n 3, 1) := by decide +kernel
theorem dL_law_455 : decode cL_law 455 = .ok (.iconst 0, 1) := by decide +kernel
theorem dL_law_456 : decode cL_law 456 = .ok (.laload, 1) := by decide +kernel
theorem dL_law_457 : decode cL_law 457 = .ok (.iload 6, 2) := by decide +kernel
theorem dL_law_459 : decode cL_law 459 = .ok (.i2l, 1) := by decide +kernel
theorem dL_law_460 : decode cL_law 460 = .ok (.lcmp, 1) := by decide +kernel
theorem dL_law_461 : decode cL_law 461 = .ok (.ifCond .eq 5, 3) := by decide +kernel
theorem dL_law_464 : decode cL_law 464 = .ok (.iconst 0, 1) := by decide +kernel
theorem dL_law_465 : decode cL_law 465 = .ok (.ireturn, 1) := by decide +kernel
theorem dL_law_466 : decode cL_law 466 = .ok (.goto 1356, 3) := by decide +kernel
theorem dL_law_469 : decode cL_law 469 = .ok (.aload_n 1, 1) := by decide +kernel
theorem dL_law_470 : decode cL_law 470 = .ok (.aload_n 0, 1) := by decide +kernel
theorem dL_law_471 : decode cL_law 471 = .ok (.iload 4, 2) := by decide +kernel
theorem dL_law_473 : decode cL_law 473 = .ok (.iconst 1, 1) := by decide +kernel
theorem dL_law_474 : decode cL_law 474 = .ok (.iadd, 1) := by decide +kernel
theorem dL_law_475 : decode cL_law 475 = .ok (.iaload, 1) := by decide +kernel
theorem dL_law_476 : decode cL_law 476 = .ok (.aload_n 0, 1) := by decide +kernel
theorem dL_law_477 : decode cL_law 477 = .ok (.iload 4, 2) := by decide +kernel
theorem dL_law_479 : decode cL_law 479 = .ok (.iconst 2, 1) := by decide +kernel
theorem dL_law_480 : decode cL_law 480 = .ok (.iadd, 1) := by decide +kernel
theorem dL_law_481 : decode cL_law 481 = .ok (.iaload, 1) := by decide +kernel
theorem dL_law_482 : decode cL_law 482 = .ok (.aload_n 3, 1) := by decide +kernel
theorem dL_law_483 : decode cL_law 483 = .ok (.invokestatic 115, 3) := by decide +kernel
theorem dL_law_486 : decode cL_law 486 = .ok (.istore 5, 2) := by decide +kernel
theorem dL_law_488 : decode cL_law 488 = .ok (.aload_n 2, 1) := by decide +kernel
theorem dL_law_489 : decode cL_law 489 = .ok (.aload_n 0, 1) := by decide +kernel
theorem dL_law_490 : decode cL_law 490 = .ok (.iload 4, 2) := by decide +kernel
theorem dL_law_492 : decode cL_law 492 = .ok (.iconst 1, 1) := by decide +kernel
theorem dL_law_493 : decode cL_law 493 = .ok (.iadd, 1) := by decide +kernel
theorem dL_law_494 : decode cL_law 494 = .ok (.iaload, 1) := by decide +kernel
theorem dL_law_495 : decode cL_law 495 = .ok (.aload_n 0, 1) := by decide +kernel
theorem dL_law_496 : decode cL_law 496 = .ok (.iload 4, 2) := by decide +kernel
theorem dL_law_498 : decode cL_law 498 = .ok (.iconst 2, 1) := by decide +kernel
theorem dL_law_499 : decode cL_law 499 = .ok (.iadd, 1) := by decide +kernel
theorem dL_law_500 : decode cL_law 500 = .ok (.iaload, 1) := by decide +kernel
theorem dL_law_501 : decode cL_law 501 = .ok (.invokevirtual 117, 3) := by decide +kernel
theorem dL_law_504 : decode cL_law 504 = .ok (.istore 6, 2) := by decide +kernel
theorem dL_law_506 : decode cL_law 506 = .ok (.aload_n 2, 1) := by decide +kernel
theorem dL_law_507 : decode cL_law 507 = .ok (.invokevirtual 96, 3) := by decide +kernel
theorem dL_law_510 : decode cL_law 510 = .ok (.iload 5, 2) := by decide +kernel
theorem dL_law_512 : decode cL_law 512 = .ok (.if_icmp .eq 5, 3) := by decide +kernel
theorem dL_law_515 : decode cL_law 515 = .ok (.iconst 0, 1) := by decide +kernel
theorem dL_law_516 : decode cL_law 516 = .ok (.ireturn, 1) := by decide +kernel
theorem dL_law_517 : decode cL_law 517 = .ok (.iload 5, 2) := by decide +kernel
theorem dL_law_519 : decode cL_law 519 = .ok (.ifCond .ne 22, 3) := by decide +kernel
theorem dL_law_522 : decode cL_law 522 = .ok (.aload_n 3, 1) := by decide +kernel
theorem dL_law_523 : decode cL_law 523 = .ok (.iconst 0, 1) := by decide +kernel
theorem dL_law_524 : decode cL_law 524 = .ok (.laload, 1) := by decide +kernel
theorem dL_law_525 : decode cL_law 525 = .ok (.iload 6, 2) := by decide +kernel
theorem dL_law_527 : decode cL_law 527 = .ok (.ifCond .eq 7, 3) := by decide +kernel
theorem dL_law_530 : decode cL_law 530 = .ok (.lconst 1, 1) := by decide +kernel
theorem dL_law_531 : decode cL_law 531 = .ok (.goto 4, 3) := by decide +kernel
theorem dL_law_534 : decode cL_law 534 = .ok (.lconst 0, 1) := by decide +kernel
theorem dL_law_535 : decode cL_law 535 = .ok (.lcmp, 1) := by decide +kernel
theorem dL_law_536 : decode cL_law 536 = .ok (.ifCond .eq 5, 3) := by decide +kernel
theorem dL_law_539 : decode cL_law 539 = .ok (.iconst 0, 1) := by decide +kernel
theorem dL_law_540 : decode cL_law 540 = .ok (.ireturn, 1) := by decide +kernel
theorem dL_law_541 : decode cL_law 541 = .ok (.goto 1281, 3) := by decide +kernel
theorem dL_law_544 : decode cL_law 544 = .ok (.aload_n 1, 1) := by decide +kernel
theorem dL_law_545 : decode cL_law 545 = .ok (.aload_n 0, 1) := by decide +kernel
theorem dL_law_546 : decode cL_law 546 = .ok (.iload 4, 2) := by decide +kernel
theorem dL_law_548 : decode cL_law 548 = .ok (.iconst 1, 1) := by decide +kernel
theorem dL_law_549 : decode cL_law 549 = .ok (.iadd, 1) := by decide +kernel
theorem dL_law_550 : decode cL_law 550 = .ok (.iaload, 1) := by decide +kernel
theorem dL_law_551 : decode cL_law 551 = .ok (.aload_n 0, 1) := by decide +kernel
theorem dL_law_552 : decode cL_law 552 = .ok (.iload 4, 2) := by decide +kernel
theorem dL_law_554 : decode cL_law 554 = .ok (.iconst 2, 1) := by decide +kernel
theorem dL_law_555 : decode cL_law 555 = .ok (.iadd, 1) := by decide +kernel
theorem dL_law_556 : decode cL_law 556 = .ok (.iaload, 1) := by decide +kernel
theorem dL_law_557 : decode cL_law 557 = .ok (.aload_n 3, 1) := by decide +kernel
theorem dL_law_558 : decode cL_law 558 = .ok (.invokestatic 118, 3) := by decide +kernel
theorem dL_law_561 : decode cL_law 561 = .ok (.istore 5, 2) := by decide +kernel
theorem dL_law_563 : decode cL_law 563 = .ok (.aload_n 2, 1) := by decide +kernel
theorem dL_law_564 : decode cL_law 564 = .ok (.aload_n 0, 1) := by decide +kernel
theorem dL_law_565 : decode cL_law 565 = .ok (.iload 4, 2) := by decide +kernel
theorem dL_law_567 : decode cL_law 567 = .ok (.iconst 1, 1) := by decide +kernel
theorem dL_law_568 : decode cL_law 568 = .ok (.iadd, 1) := by decide +kernel
theorem dL_law_569 : decode cL_law 569 = .ok (.iaload, 1) := by decide +kernel
theorem dL_law_570 : decode cL_law 570 = .ok (.aload_n 0, 1) := by decide +kernel
theorem dL_law_571 : decode cL_law 571 = .ok (.iload 4, 2) := by decide +kernel
theorem dL_law_573 : decode cL_law 573 = .ok (.iconst 2, 1) := by decide +kernel
theorem dL_law_574 : decode cL_law 574 = .ok (.iadd, 1) := by decide +kernel
theorem dL_law_575 : decode cL_law 575 = .ok (.iaload, 1) := by decide +kernel
theorem dL_law_576 : decode cL_law 576 = .ok (.invokevirtual 120, 3) := by decide +kernel
theorem dL_law_579 : decode cL_law 579 = .ok (.istore 6, 2) := by decide +kernel
theorem dL_law_581 : decode cL_law 581 = .ok (.aload_n 2, 1) := by decide +kernel
theorem dL_law_582 : decode cL_law 582 = .ok (.invokevirtual 96, 3) := by decide +kernel
theorem dL_law_585 : decode cL_law 585 = .ok (.iload 5, 2) := by decide +kernel
theorem dL_law_587 : decode cL_law 587 = .ok (.if_icmp .eq 5, 3) := by decide +kernel
theorem dL_law_590 : decode cL_law 590 = .ok (.iconst 0, 1) := by decide +kernel
theorem dL_law_591 : decode cL_law 591 = .ok (.ireturn, 1) := by decide +kernel
theorem dL_law_592 : decode cL_law 592 = .ok (.iload 5, 2) := by decide +kernel
theorem dL_law_594 : decode cL_law 594 = .ok (.ifCond .ne 15, 3) := by decide +kernel
theorem dL_law_597 : decode cL_law 597 = .ok (.aload_n 3, 1) := by decide +kernel
theorem dL_law_598 : decode cL_law 598 = .ok (.iconst 0, 1) := by decide +kernel
theorem dL_law_599 : decode cL_law 599 = .ok (.laload, 1) := by decide +kernel
theorem dL_law_600 : decode cL_law 600 = .ok (.iload 6, 2) := by decide +kernel
theorem dL_law_602 : decode cL_law 602 = .ok (.i2l, 1) := by decide +kernel
theorem dL_law_603 : decode cL_law 603 = .ok (.lcmp, 1) := by decide +kernel
theorem dL_law_604 : decode cL_law 604 = .ok (.ifCond .eq 5, 3) := by decide +kernel
theorem dL_law_607 : decode cL_law 607 = .ok (.iconst 0, 1) := by decide +kernel
theorem dL_law_608 : decode cL_law 608 = .ok (.ireturn, 1) := by decide +kernel
theorem dL_law_609 : decode cL_law 609 = .ok (.goto 1213, 3) := by decide +kernel
theorem dL_law_612 : decode cL_law 612 = .ok (.aload_n 1, 1) := by decide +kernel
theorem dL_law_613 : decode cL_law 613 = .ok (.aload_n 0, 1) := by decide +kernel
theorem dL_law_614 : decode cL_law 614 = .ok (.iload 4, 2) := by decide +kernel
theorem dL_law_616 : decode cL_law 616 = .ok (.iconst 1, 1) := by decide +kernel
theorem dL_law_617 : decode cL_law 617 = .ok (.iadd, 1) := by decide +kernel
theorem dL_law_618 : decode cL_law 618 = .ok (.iaload, 1) := by decide +kernel
theorem dL_law_619 : decode cL_law 619 = .ok (.aload_n 0, 1) := by decide +kernel
theorem dL_law_620 : decode cL_law 620 = .ok (.iload 4, 2) := by decide +kernel
theorem dL_law_622 : decode cL_law 622 = .ok (.iconst 2, 1) := by decide +kernel
theorem dL_law_623 : decode cL_law 623 = .ok (.iadd, 1) := by decide +kernel
theorem dL_law_624 : decode cL_law 624 = .ok (.iaload, 1) := by decide +kernel
theorem dL_law_625 : decode cL_law 625 = .ok (.aload_n 0, 1) := by decide +kernel
theorem dL_law_626 : decode cL_law 626 = .ok (.iload 4, 2) := by decide +kernel
theorem dL_law_628 : decode cL_law 628 = .ok (.iconst 3, 1) := by decide +kernel
theorem dL_law_629 : decode cL_law 629 = .ok (.iadd, 1) := by decide +kernel
theorem dL_law_630 : decode cL_law 630 = .ok (.iaload, 1) := by decide +kernel
theorem dL_law_631 : decode cL_law 631 = .ok (.aload_n 0, 1) := by decide +kernel
theorem dL_law_632 : decode cL_law 632 = .ok (.iload 4, 2) := by decide +kernel
theorem dL_law_634 : decode cL_law 634 = .ok (.iconst 4, 1) := by decide +kernel
theorem dL_law_635 : decode cL_law 635 = .ok (.iadd, 1) := by decide +kernel
theorem dL_law_636 : decode cL_law 636 = .ok (.iaload, 1) := by decide +kernel
theorem dL_law_637 : decode cL_law 637 = .ok (.aload_n 0, 1) := by decide +kernel
theorem dL_law_638 : decode cL_law 638 = .ok (.iload 4, 2) := by decide +kernel
theorem dL_law_640 : decode cL_law 640 = .ok (.iconst 5, 1) := by decide +kernel
theorem dL_law_641 : decode cL_law 641 = .ok (.iadd, 1) := by decide +kernel
theorem dL_law_642 : decode cL_law 642 = .ok (.iaload, 1) := by decide +kernel
theorem dL_law_643 : decode cL_law 643 = .ok (.aload_n 3, 1) := by decide +kernel
theorem dL_law_644 : decode cL_law 644 = .ok (.invokestatic 121, 3) := by decide +kernel
theorem dL_law_647 : decode cL_law 647 = .ok (.istore 5, 2) := by decide +kernel
theorem dL_law_649 : decode cL_law 649 = .ok (.aload_n 2, 1) := by decide +kernel
theorem dL_law_650 : decode cL_law 650 = .ok (.aload_n 0, 1) := by decide +kernel
theorem dL_law_651 : decode cL_law 651 = .ok (.iload 4, 2) := by decide +kernel
theorem dL_law_653 : decode cL_law 653 = .ok (.iconst 1, 1) := by decide +kernel
theorem dL_law_654 : decode cL_law 654 = .ok (.iadd, 1) := by decide +kernel
theorem dL_law_655 : decode cL_law 655 = .ok (.iaload, 1) := by decide +kernel
theorem dL_law_656 : decode cL_law 656 = .ok (.aload_n 0, 1) := by decide +kernel
theorem dL_law_657 : decode cL_law 657 = .ok (.iload 4, 2) := by decide +kernel
theorem dL_law_659 : decode cL_law 659 = .ok (.iconst 2, 1) := by decide +kernel
theorem dL_law_660 : decode cL_law 660 = .ok (.iadd, 1) := by decide +kernel
theorem dL_law_661 : decode cL_law 661 = .ok (.iaload, 1) := by decide +kernel
theorem dL_law_662 : decode cL_law 662 = .ok (.aload_n 0, 1) := by decide +kernel
theorem dL_law_663 : decode cL_law 663 = .ok (.iload 4, 2) := by decide +kernel
theorem dL_law_665 : decode cL_law 665 = .ok (.iconst 3, 1) := by decide +kernel
theorem dL_law_666 : decode cL_law 666 = .ok (.iadd, 1) := by decide +kernel
theorem dL_law_667 : decode cL_law 667 = .ok (.iaload, 1) := by decide +kernel
theorem dL_law_668 : decode cL_law 668 = .ok (.aload_n 0, 1) := by decide +kernel
theorem dL_law_669 : decode cL_law 669 = .ok (.iload 4, 2) := by decide +kernel
theorem dL_law_671 : decode cL_law 671 = .ok (.iconst 4, 1) := by decide +kernel
theorem dL_law_672 : decode cL_law 672 = .ok (.iadd, 1) := by decide +kernel
theorem dL_law_673 : decode cL_law 673 = .ok (.iaload, 1) := by decide +kernel
theorem dL_law_674 : decode cL_law 674 = .ok (.aload_n 0, 1) := by decide +kernel
theorem dL_law_675 : decode cL_law 675 = .ok (.iload 4, 2) := by decide +kernel
theorem dL_law_677 : decode cL_law 677 = .ok (.iconst 5, 1) := by decide +kernel
theorem dL_law_678 : decode cL_law 678 = .ok (.iadd, 1) := by decide +kernel
theorem dL_law_679 : decode cL_law 679 = .ok (.iaload, 1) := by decide +kernel
theorem dL_law_680 : decode cL_law 680 = .ok (.invokevirtual 124, 3) := by decide +kernel
theorem dL_law_683 : decode cL_law 683 = .ok (.istore 6, 2) := by decide +kernel
theorem dL_law_685 : decode cL_law 685 = .ok (.aload_n 2, 1) := by decide +kernel
theorem dL_law_686 : decode cL_law 686 = .ok (.invokevirtual 96, 3) := by decide +kernel
theorem dL_law_689 : decode cL_law 689 = .ok (.iload 5, 2) := by decide +kernel
theorem dL_law_691 : decode cL_law 691 = .ok (.if_icmp .eq 5, 3) := by decide +kernel
theorem dL_law_694 : decode cL_law 694 = .ok (.iconst 0, 1) := by decide +kernel
theorem dL_law_695 : decode cL_law 695 = .ok (.ireturn, 1) := by decide +kernel
theorem dL_law_696 : decode cL_law 696 = .ok (.iload 5, 2) := by decide +kernel
theorem dL_law_698 : decode cL_law 698 = .ok (.ifCond .ne 15, 3) := by decide +kernel
theorem dL_law_701 : decode cL_law 701 = .ok (.aload_n 3, 1) := by decide +kernel
theorem dL_law_702 : decode cL_law 702 = .ok (.iconst 0, 1) := by decide +kernel
theorem dL_law_703 : decode cL_law 703 = .ok (.laload, 1) := by decide +kernel
theorem dL_law_704 : decode cL_law 704 = .ok (.iload 6, 2) := by decide +kernel
theorem dL_law_706 : decode cL_law 706 = .ok (.i2l, 1) := by decide +kernel
theorem dL_law_707 : decode cL_law 707 = .ok (.lcmp, 1) := by decide +kernel
theorem dL_law_708 : decode cL_law 708 = .ok (.ifCond .eq 5, 3) := by decide +kernel
theorem dL_law_711 : decode cL_law 711 = .ok (.iconst 0, 1) := by decide +kernel
theorem dL_law_712 : decode cL_law 712 = .ok (.ireturn, 1) := by decide +kernel
theorem dL_law_713 : decode cL_law 713 = .ok (.goto 1109, 3) := by decide +kernel
theorem dL_law_716 : decode cL_law 716 = .ok (.aload_n 1, 1) := by decide +kernel
theorem dL_law_717 : decode cL_law 717 = .ok (.aload_n 0, 1) := by decide +kernel
theorem dL_law_718 : decode cL_law 718 = .ok (.iload 4, 2) := by decide +kernel
theorem dL_law_720 : decode cL_law 720 = .ok (.iconst 1, 1) := by decide +kernel
theorem dL_law_721 : decode cL_law 721 = .ok (.iadd, 1) := by decide +kernel
theorem dL_law_722 : decode cL_law 722 = .ok (.iaload, 1) := by decide +kernel
theorem dL_law_723 : decode cL_law 723 = .ok (.aload_n 0, 1) := by decide +kernel
theorem dL_law_724 : decode cL_law 724 = .ok (.iload 4, 2) := by decide +kernel
theorem dL_law_726 : decode cL_law 726 = .ok (.iconst 2, 1) := by decide +kernel
theorem dL_law_727 : decode cL_law 727 = .ok (.iadd, 1) := by decide +kernel
theorem dL_law_728 : decode cL_law 728 = .ok (.iaload, 1) := by decide +kernel
theorem dL_law_729 : decode cL_law 729 = .ok (.aload_n 0, 1) := by decide +kernel
theorem dL_law_730 : decode cL_law 730 = .ok (.iload 4, 2) := by decide +kernel
theorem dL_law_732 : decode cL_law 732 = .ok (.iconst 3, 1) := by decide +kernel
theorem dL_law_733 : decode cL_law 733 = .ok (.iadd, 1) := by decide +kernel
theorem dL_law_734 : decode cL_law 734 = .ok (.iaload, 1) := by decide +kernel
theorem dL_law_735 : decode cL_law 735 = .ok (.aload_n 3, 1) := by decide +kernel
theorem dL_law_736 : decode cL_law 736 = .ok (.invokestatic 125, 3) := by decide +kernel
theorem dL_law_739 : decode cL_law 739 = .ok (.istore 5, 2) := by decide +kernel
theorem dL_law_741 : decode cL_law 741 = .ok (.aload_n 2, 1) := by decide +kernel
theorem dL_law_742 : decode cL_law 742 = .ok (.aload_n 0, 1) := by decide +kernel
theorem dL_law_743 : decode cL_law 743 = .ok (.iload 4, 2) := by decide +kernel
theorem dL_law_745 : decode cL_law 745 = .ok (.iconst 1, 1) := by decide +kernel
theorem dL_law_746 : decode cL_law 746 = .ok (.iadd, 1) := by decide +kernel
theorem dL_law_747 : decode cL_law 747 = .ok (.iaload, 1) := by decide +kernel
theorem dL_law_748 : decode cL_law 748 = .ok (.aload_n 0, 1) := by decide +kernel
theorem dL_law_749 : decode cL_law 749 = .ok (.iload 4, 2) := by decide +kernel
theorem dL_law_751 : decode cL_law 751 = .ok (.iconst 2, 1) := by decide +kernel
theorem dL_law_752 : decode cL_law 752 = .ok (.iadd, 1) := by decide +kernel
theorem dL_law_753 : decode cL_law 753 = .ok (.iaload, 1) := by decide +kernel
theorem dL_law_754 : decode cL_law 754 = .ok (.aload_n 0, 1) := by decide +kernel
theorem dL_law_755 : decode cL_law 755 = .ok (.iload 4, 2) := by decide +kernel
theorem dL_law_757 : decode cL_law 757 = .ok (.iconst 3, 1) := by decide +kernel
theorem dL_law_758 : decode cL_law 758 = .ok (.iadd, 1) := by decide +kernel
theorem dL_law_759 : decode cL_law 759 = .ok (.iaload, 1) := by decide +kernel
theorem dL_law_760 : decode cL_law 760 = .ok (.invokevirtual 127, 3) := by decide +kernel
theorem dL_law_763 : decode cL_law 763 = .ok (.istore 6, 2) := by decide +kernel
theorem dL_law_765 : decode cL_law 765 = .ok (.aload_n 2, 1) := by decide +kernel
theorem dL_law_766 : decode cL_law 766 = .ok (.invokevirtual 96, 3) := by decide +kernel
theorem dL_law_769 : decode cL_law 769 = .ok (.iload 5, 2) := by decide +kernel
theorem dL_law_771 : decode cL_law 771 = .ok (.if_icmp .eq 5, 3) := by decide +kernel
theorem dL_law_774 : decode cL_law 774 = .ok (.iconst 0, 1) := by decide +kernel
theorem dL_law_775 : decode cL_law 775 = .ok (.ireturn, 1) := by decide +kernel
theorem dL_law_776 : decode cL_law 776 = .ok (.iload 5, 2) := by decide +kernel
theorem dL_law_778 : decode cL_law 778 = .ok (.ifCond .ne 15, 3) := by decide +kernel
theorem dL_law_781 : decode cL_law 781 = .ok (.aload_n 3, 1) := by decide +kernel
theorem dL_law_782 : decode cL_law 782 = .ok (.iconst 0, 1) := by decide +kernel
theorem dL_law_783 : decode cL_law 783 = .ok (.laload, 1) := by decide +kernel
theorem dL_law_784 : decode cL_law 784 = .ok (.iload 6, 2) := by decide +kernel
theorem dL_law_786 : decode cL_law 786 = .ok (.i2l, 1) := by decide +kernel
theorem dL_law_787 : decode cL_law 787 = .ok (.lcmp, 1) := by decide +kernel
theorem dL_law_788 : decode cL_law 788 = .ok (.ifCond .eq 5, 3) := by decide +kernel
theorem dL_law_791 : decode cL_law 791 = .ok (.iconst 0, 1) := by decide +kernel
theorem dL_law_792 : decode cL_law 792 = .ok (.ireturn, 1) := by decide +kernel
theorem dL_law_793 : decode cL_law 793 = .ok (.goto 1029, 3) := by decide +kernel
theorem dL_law_796 : decode cL_law 796 = .ok (.aload_n 1, 1) := by decide +kernel
theorem dL_law_797 : decode cL_law 797 = .ok (.aload_n 0, 1) := by decide +kernel
theorem dL_law_798 : decode cL_law 798 = .ok (.iload 4, 2) := by decide +kernel
theorem dL_law_800 : decode cL_law 800 = .ok (.iconst 1, 1) := by decide +kernel
theorem dL_law_801 : decode cL_law 801 = .ok (.iadd, 1) := by decide +kernel
theorem dL_law_802 : decode cL_law 802 = .ok (.iaload, 1) := by decide +kernel
theorem dL_law_803 : decode cL_law 803 = .ok (.aload_n 0, 1) := by decide +kernel
theorem dL_law_804 : decode cL_law 804 = .ok (.iload 4, 2) := by decide +kernel
theorem dL_law_806 : decode cL_law 806 = .ok (.iconst 2, 1) := by decide +kernel
theorem dL_law_807 : decode cL_law 807 = .ok (.iadd, 1) := by decide +kernel
theorem dL_law_808 : decode cL_law 808 = .ok (.iaload, 1) := by decide +kernel
theorem dL_law_809 : decode cL_law 809 = .ok (.aload_n 3, 1) := by decide +kernel
theorem dL_law_810 : decode cL_law 810 = .ok (.invokestatic 128, 3) := by decide +kernel
theorem dL_law_813 : decode cL_law 813 = .ok (.istore 5, 2) := by decide +kernel
theorem dL_law_815 : decode cL_law 815 = .ok (.aload_n 2, 1) := by decide +kernel
theorem dL_law_816 : decode cL_law 816 = .ok (.aload_n 0, 1) := by decide +kernel
theorem dL_law_817 : decode cL_law 817 = .ok (.iload 4, 2) := by decide +kernel
theorem dL_law_819 : decode cL_law 819 = .ok (.iconst 1, 1) := by decide +kernel
theorem dL_law_820 : decode cL_law 820 = .ok (.iadd, 1) := by decide +kernel
theorem dL_law_821 : decode cL_law 821 = .ok (.iaload, 1) := by decide +kernel
theorem dL_law_822 : decode cL_law 822 = .ok (.aload_n 0, 1) := by decide +kernel
theorem dL_law_823 : decode cL_law 823 = .ok (.iload 4, 2) := by decide +kernel
theorem dL_law_825 : decode cL_law 825 = .ok (.iconst 2, 1) := by decide +kernel
theorem dL_law_826 : decode cL_law 826 = .ok (.iadd, 1) := by decide +kernel
theorem dL_law_827 : decode cL_law 827 = .ok (.iaload, 1) := by decide +kernel
theorem dL_law_828 : decode cL_law 828 = .ok (.invokevirtual 130, 3) := by decide +kernel
theorem dL_law_831 : decode cL_law 831 = .ok (.istore 6, 2) := by decide +kernel
theorem dL_law_833 : decode cL_law 833 = .ok (.aload_n 2, 1) := by decide +kernel
theorem dL_law_834 : decode cL_law 834 = .ok (.invokevirtual 96, 3) := by decide +kernel
theorem dL_law_837 : decode cL_law 837 = .ok (.iload 5, 2) := by decide +kernel
theorem dL_law_839 : decode cL_law 839 = .ok (.if_icmp .eq 5, 3) := by decide +kernel
theorem dL_law_842 : decode cL_law 842 = .ok (.iconst 0, 1) := by decide +kernel
theorem dL_law_843 : decode cL_law 843 = .ok (.ireturn, 1) := by decide +kernel
theorem dL_law_844 : decode cL_law 844 = .ok (.iload 5, 2) := by decide +kernel
theorem dL_law_846 : decode cL_law 846 = .ok (.ifCond .ne 15, 3) := by decide +kernel
theorem dL_law_849 : decode cL_law 849 = .ok (.aload_n 3, 1) := by decide +kernel
theorem dL_law_850 : decode cL_law 850 = .ok (.iconst 0, 1) := by decide +kernel
theorem dL_law_851 : decode cL_law 851 = .ok (.laload, 1) := by decide +kernel
theorem dL_law_852 : decode cL_law 852 = .ok (.iload 6, 2) := by decide +kernel
theorem dL_law_854 : decode cL_law 854 = .ok (.i2l, 1) := by decide +kernel
theorem dL_law_855 : decode cL_law 855 = .ok (.lcmp, 1) := by decide +kernel
theorem dL_law_856 : decode cL_law 856 = .ok (.ifCond .eq 5, 3) := by decide +kernel
theorem dL_law_859 : decode cL_law 859 = .ok (.iconst 0, 1) := by decide +kernel
theorem dL_law_860 : decode cL_law 860 = .ok (.ireturn, 1) := by decide +kernel
theorem dL_law_861 : decode cL_law 861 = .ok (.goto 961, 3) := by decide +kernel
theorem dL_law_864 : decode cL_law 864 = .ok (.aload_n 1, 1) := by decide +kernel
theorem dL_law_865 : decode cL_law 865 = .ok (.aload_n 0, 1) := by decide +kernel
theorem dL_law_866 : decode cL_law 866 = .ok (.iload 4, 2) := by decide +kernel
theorem dL_law_868 : decode cL_law 868 = .ok (.iconst 1, 1) := by decide +kernel
theorem dL_law_869 : decode cL_law 869 = .ok (.iadd, 1) := by decide +kernel
theorem dL_law_870 : decode cL_law 870 = .ok (.iaload, 1) := by decide +kernel
theorem dL_law_871 : decode cL_law 871 = .ok (.aload_n 0, 1) := by decide +kernel
theorem dL_law_872 : decode cL_law 872 = .ok (.iload 4, 2) := by decide +kernel
theorem dL_law_874 : decode cL_law 874 = .ok (.iconst 2, 1) := by decide +kernel
theorem dL_law_875 : decode cL_law 875 = .ok (.iadd, 1) := by decide +kernel
theorem dL_law_876 : decode cL_law 876 = .ok (.iaload, 1) := by decide +kernel
theorem dL_law_877 : decode cL_law 877 = .ok (.aload_n 0, 1) := by decide +kernel
theorem dL_law_878 : decode cL_law 878 = .ok (.iload 4, 2) := by decide +kernel
theorem dL_law_880 : decode cL_law 880 = .ok (.iconst 3, 1) := by decide +kernel
theorem dL_law_881 : decode cL_law 881 = .ok (.iadd, 1) := by decide +kernel
theorem dL_law_882 : decode cL_law 882 = .ok (.iaload, 1) := by decide +kernel
theorem dL_law_883 : decode cL_law 883 = .ok (.aload_n 0, 1) := by decide +kernel
theorem dL_law_884 : decode cL_law 884 = .ok (.iload 4, 2) := by decide +kernel
theorem dL_law_886 : decode cL_law 886 = .ok (.iconst 4, 1) := by decide +kernel
theorem dL_law_887 : decode cL_law 887 = .ok (.iadd, 1) := by decide +kernel
theorem dL_law_888 : decode cL_law 888 = .ok (.iaload, 1) := by decide +kernel
theorem dL_law_889 : decode cL_law 889 = .ok (.aload_n 3, 1) := by decide +kernel
theorem dL_law_890 : decode cL_law 890 = .ok (.invokestatic 131, 3) := by decide +kernel
theorem dL_law_893 : decode cL_law 893 = .ok (.istore 5, 2) := by decide +kernel
theorem dL_law_895 : decode cL_law 895 = .ok (.aload_n 2, 1) := by decide +kernel
theorem dL_law_896 : decode cL_law 896 = .ok (.aload_n 0, 1) := by decide +kernel
theorem dL_law_897 : decode cL_law 897 = .ok (.iload 4, 2) := by decide +kernel
theorem dL_law_899 : decode cL_law 899 = .ok (.iconst 1, 1) := by decide +kernel
theorem dL_law_900 : decode cL_law 900 = .ok (.iadd, 1) := by decide +kernel
theorem dL_law_901 : decode cL_law 901 = .ok (.iaload, 1) := by decide +kernel
theorem dL_law_902 : decode cL_law 902 = .ok (.aload_n 0, 1) := by decide +kernel
theorem dL_law_903 : decode cL_law 903 = .ok (.iload 4, 2) := by decide +kernel
theorem dL_law_905 : decode cL_law 905 = .ok (.iconst 2, 1) := by decide +kernel
theorem dL_law_906 : decode cL_law 906 = .ok (.iadd, 1) := by decide +kernel
theorem dL_law_907 : decode cL_law 907 = .ok (.iaload, 1) := by decide +kernel
theorem dL_law_908 : decode cL_law 908 = .ok (.aload_n 0, 1) := by decide +kernel
theorem dL_law_909 : decode cL_law 909 = .ok (.iload 4, 2) := by decide +kernel
theorem dL_law_911 : decode cL_law 911 = .ok (.iconst 3, 1) := by decide +kernel
theorem dL_law_912 : decode cL_law 912 = .ok (.iadd, 1) := by decide +kernel
theorem dL_law_913 : decode cL_law 913 = .ok (.iaload, 1) := by decide +kernel
theorem dL_law_914 : decode cL_law 914 = .ok (.aload_n 0, 1) := by decide +kernel
theorem dL_law_915 : decode cL_law 915 = .ok (.iload 4, 2) := by decide +kernel
theorem dL_law_917 : decode cL_law 917 = .ok (.iconst 4, 1) := by decide +kernel
theorem dL_law_918 : decode cL_law 918 = .ok (.iadd, 1) := by decide +kernel
theorem dL_law_919 : decode cL_law 919 = .ok (.iaload, 1) := by decide +kernel
theorem dL_law_920 : decode cL_law 920 = .ok (.invokevirtual 133, 3) := by decide +kernel
theorem dL_law_923 : decode cL_law 923 = .ok (.istore 6, 2) := by decide +kernel
theorem dL_law_925 : decode cL_law 925 = .ok (.aload_n 2, 1) := by decide +kernel
theorem dL_law_926 : decode cL_law 926 = .ok (.invokevirtual 96, 3) := by decide +kernel
theorem dL_law_929 : decode cL_law 929 = .ok (.iload 5, 2) := by decide +kernel
theorem dL_law_931 : decode cL_law 931 = .ok (.if_icmp .eq 5, 3) := by decide +kernel
theorem dL_law_934 : decode cL_law 934 = .ok (.iconst 0, 1) := by decide +kernel
theorem dL_law_935 : decode cL_law 935 = .ok (.ireturn, 1) := by decide +kernel
theorem dL_law_936 : decode cL_law 936 = .ok (.iload 5, 2) := by decide +kernel
theorem dL_law_938 : decode cL_law 938 = .ok (.ifCond .ne 15, 3) := by decide +kernel
theorem dL_law_941 : decode cL_law 941 = .ok (.aload_n 3, 1) := by decide +kernel
theorem dL_law_942 : decode cL_law 942 = .ok (.iconst 0, 1) := by decide +kernel
theorem dL_law_943 : decode cL_law 943 = .ok (.laload, 1) := by decide +kernel
theorem dL_law_944 : decode cL_law 944 = .ok (.iload 6, 2) := by decide +kernel
theorem dL_law_946 : decode cL_law 946 = .ok (.i2l, 1) := by decide +kernel
theorem dL_law_947 : decode cL_law 947 = .ok (.lcmp, 1) := by decide +kernel
theorem dL_law_948 : decode cL_law 948 = .ok (.ifCond .eq 5, 3) := by decide +kernel
theorem dL_law_951 : decode cL_law 951 = .ok (.iconst 0, 1) := by decide +kernel
theorem dL_law_952 : decode cL_law 952 = .ok (.ireturn, 1) := by decide +kernel
theorem dL_law_953 : decode cL_law 953 = .ok (.goto 869, 3) := by decide +kernel
theorem dL_law_956 : decode cL_law 956 = .ok (.aload_n 1, 1) := by decide +kernel
theorem dL_law_957 : decode cL_law 957 = .ok (.aload_n 0, 1) := by decide +kernel
theorem dL_law_958 : decode cL_law 958 = .ok (.iload 4, 2) := by decide +kernel
theorem dL_law_960 : decode cL_law 960 = .ok (.iconst 1, 1) := by decide +kernel
theorem dL_law_961 : decode cL_law 961 = .ok (.iadd, 1) := by decide +kernel
theorem dL_law_962 : decode cL_law 962 = .ok (.iaload, 1) := by decide +kernel
theorem dL_law_963 : decode cL_law 963 = .ok (.aload_n 0, 1) := by decide +kernel
theorem dL_law_964 : decode cL_law 964 = .ok (.iload 4, 2) := by decide +kernel
theorem dL_law_966 : decode cL_law 966 = .ok (.iconst 2, 1) := by decide +kernel
theorem dL_law_967 : decode cL_law 967 = .ok (.iadd, 1) := by decide +kernel
theorem dL_law_968 : decode cL_law 968 = .ok (.iaload, 1) := by decide +kernel
theorem dL_law_969 : decode cL_law 969 = .ok (.aload_n 0, 1) := by decide +kernel
theorem dL_law_970 : decode cL_law 970 = .ok (.iload 4, 2) := by decide +kernel
theorem dL_law_972 : decode cL_law 972 = .ok (.iconst 3, 1) := by decide +kernel
theorem dL_law_973 : decode cL_law 973 = .ok (.iadd, 1) := by decide +kernel
theorem dL_law_974 : decode cL_law 974 = .ok (.iaload, 1) := by decide +kernel
theorem dL_law_975 : decode cL_law 975 = .ok (.aload_n 0, 1) := by decide +kernel
theorem dL_law_976 : decode cL_law 976 = .ok (.iload 4, 2) := by decide +kernel
theorem dL_law_978 : decode cL_law 978 = .ok (.iconst 4, 1) := by decide +kernel
theorem dL_law_979 : decode cL_law 979 = .ok (.iadd, 1) := by decide +kernel
theorem dL_law_980 : decode cL_law 980 = .ok (.iaload, 1) := by decide +kernel
theorem dL_law_981 : decode cL_law 981 = .ok (.ifCond .eq 7, 3) := by decide +kernel
theorem dL_law_984 : decode cL_law 984 = .ok (.iconst 1, 1) := by decide +kernel
theorem dL_law_985 : decode cL_law 985 = .ok (.goto 4, 3) := by decide +kernel
theorem dL_law_988 : decode cL_law 988 = .ok (.iconst 0, 1) := by decide +kernel
theorem dL_law_989 : decode cL_law 989 = .ok (.aload_n 0, 1) := by decide +kernel
theorem dL_law_990 : decode cL_law 990 = .ok (.iload 4, 2) := by decide +kernel
theorem dL_law_992 : decode cL_law 992 = .ok (.iconst 5, 1) := by decide +kernel
theorem dL_law_993 : decode cL_law 993 = .ok (.iadd, 1) := by decide +kernel
theorem dL_law_994 : decode cL_law 994 = .ok (.iaload, 1) := by decide +kernel
theorem dL_law_995 : decode cL_law 995 = .ok (.aload_n 0, 1) := by decide +kernel
theorem dL_law_996 : decode cL_law 996 = .ok (.iload 4, 2) := by decide +kernel
theorem dL_law_998 : decode cL_law 998 = .ok (.bipush 6, 2) := by decide +kernel
theorem dL_law_1000 : decode cL_law 1000 = .ok (.iadd, 1) := by decide +kernel
theorem dL_law_1001 : decode cL_law 1001 = .ok (.iaload, 1) := by decide +kernel
theorem dL_law_1002 : decode cL_law 1002 = .ok (.ifCond .eq 7, 3) := by decide +kernel
theorem dL_law_1005 : decode cL_law 1005 = .ok (.iconst 1, 1) := by decide +kernel
theorem dL_law_1006 : decode cL_law 1006 = .ok (.goto 4, 3) := by decide +kernel
theorem dL_law_1009 : decode cL_law 1009 = .ok (.iconst 0, 1) := by decide +kernel
theorem dL_law_1010 : decode cL_law 1010 = .ok (.aload_n 3, 1) := by decide +kernel
theorem dL_law_1011 : decode cL_law 1011 = .ok (.invokestatic 134, 3) := by decide +kernel
theorem dL_law_1014 : decode cL_law 1014 = .ok (.istore 5, 2) := by decide +kernel
theorem dL_law_1016 : decode cL_law 1016 = .ok (.aload_n 2, 1) := by decide +kernel
theorem dL_law_1017 : decode cL_law 1017 = .ok (.aload_n 0, 1) := by decide +kernel
theorem dL_law_1018 : decode cL_law 1018 = .ok (.iload 4, 2) := by decide +kernel
theorem dL_law_1020 : decode cL_law 1020 = .ok (.iconst 1, 1) := by decide +kernel
theorem dL_law_1021 : decode cL_law 1021 = .ok (.iadd, 1) := by decide +kernel
theorem dL_law_1022 : decode cL_law 1022 = .ok (.iaload, 1) := by decide +kernel
theorem dL_law_1023 : decode cL_law 1023 = .ok (.aload_n 0, 1) := by decide +kernel
theorem dL_law_1024 : decode cL_law 1024 = .ok (.iload 4, 2) := by decide +kernel
theorem dL_law_1026 : decode cL_law 1026 = .ok (.iconst 2, 1) := by decide +kernel
theorem dL_law_1027 : decode cL_law 1027 = .ok (.iadd, 1) := by decide +kernel
theorem dL_law_1028 : decode cL_law 1028 = .ok (.iaload, 1) := by decide +kernel
theorem dL_law_1029 : decode cL_law 1029 = .ok (.aload_n 0, 1) := by decide +kernel
theorem dL_law_1030 : decode cL_law 1030 = .ok (.iload 4, 2) := by decide +kernel
theorem dL_law_1032 : decode cL_law 1032 = .ok (.iconst 3, 1) := by decide +kernel
theorem dL_law_1033 : decode cL_law 1033 = .ok (.iadd, 1) := by decide +kernel
theorem dL_law_1034 : decode cL_law 1034 = .ok (.iaload, 1) := by decide +kernel
theorem dL_law_1035 : decode cL_law 1035 = .ok (.aload_n 0, 1) := by decide +kernel
theorem dL_law_1036 : decode cL_law 1036 = .ok (.iload 4, 2) := by decide +kernel
theorem dL_law_1038 : decode cL_law 1038 = .ok (.iconst 4, 1) := by decide +kernel
theorem dL_law_1039 : decode cL_law 1039 = .ok (.iadd, 1) := by decide +kernel
theorem dL_law_1040 : decode cL_law 1040 = .ok (.iaload, 1) := by decide +kernel
theorem dL_law_1041 : decode cL_law 1041 = .ok (.ifCond .eq 7, 3) := by decide +kernel
theorem dL_law_1044 : decode cL_law 1044 = .ok (.iconst 1, 1) := by decide +kernel
theorem dL_law_1045 : decode cL_law 1045 = .ok (.goto 4, 3) := by decide +kernel
theorem dL_law_1048 : decode cL_law 1048 = .ok (.iconst 0, 1) := by decide +kernel
theorem dL_law_1049 : decode cL_law 1049 = .ok (.aload_n 0, 1) := by decide +kernel
theorem dL_law_1050 : decode cL_law 1050 = .ok (.iload 4, 2) := by decide +kernel
theorem dL_law_1052 : decode cL_law 1052 = .ok (.iconst 5, 1) := by decide +kernel
theorem dL_law_1053 : decode cL_law 1053 = .ok (.iadd, 1) := by decide +kernel
theorem dL_law_1054 : decode cL_law 1054 = .ok (.iaload, 1) := by decide +kernel
theorem dL_law_1055 : decode cL_law 1055 = .ok (.aload_n 0, 1) := by decide +kernel
theorem dL_law_1056 : decode cL_law 1056 = .ok (.iload 4, 2) := by decide +kernel
theorem dL_law_1058 : decode cL_law 1058 = .ok (.bipush 6, 2) := by decide +kernel
theorem dL_law_1060 : decode cL_law 1060 = .ok (.iadd, 1) := by decide +kernel
theorem dL_law_1061 : decode cL_law 1061 = .ok (.iaload, 1) := by decide +kernel
theorem dL_law_1062 : decode cL_law 1062 = .ok (.ifCond .eq 7, 3) := by decide +kernel
theorem dL_law_1065 : decode cL_law 1065 = .ok (.iconst 1, 1) := by decide +kernel
theorem dL_law_1066 : decode cL_law 1066 = .ok (.goto 4, 3) := by decide +kernel
theorem dL_law_1069 : decode cL_law 1069 = .ok (.iconst 0, 1) := by decide +kernel
theorem dL_law_1070 : decode cL_law 1070 = .ok (.invokevirtual 137, 3) := by decide +kernel
theorem dL_law_1073 : decode cL_law 1073 = .ok (.istore 6, 2) := by decide +kernel
theorem dL_law_1075 : decode cL_law 1075 = .ok (.aload_n 2, 1) := by decide +kernel
theorem dL_law_1076 : decode cL_law 1076 = .ok (.invokevirtual 96, 3) := by decide +kernel
theorem dL_law_1079 : decode cL_law 1079 = .ok (.iload 5, 2) := by decide +kernel
theorem dL_law_1081 : decode cL_law 1081 = .ok (.if_icmp .eq 5, 3) := by decide +kernel
theorem dL_law_1084 : decode cL_law 1084 = .ok (.iconst 0, 1) := by decide +kernel
theorem dL_law_1085 : decode cL_law 1085 = .ok (.ireturn, 1) := by decide +kernel
theorem dL_law_1086 : decode cL_law 1086 = .ok (.iload 5, 2) := by decide +kernel
theorem dL_law_1088 : decode cL_law 1088 = .ok (.ifCond .ne 15, 3) := by decide +kernel
theorem dL_law_1091 : decode cL_law 1091 = .ok (.aload_n 3, 1) := by decide +kernel
theorem dL_law_1092 : decode cL_law 1092 = .ok (.iconst 0, 1) := by decide +kernel
theorem dL_law_1093 : decode cL_law 1093 = .ok (.laload, 1) := by decide +kernel
theorem dL_law_1094 : decode cL_law 1094 = .ok (.iload 6, 2) := by decide +kernel
theorem dL_law_1096 : decode cL_law 1096 = .ok (.i2l, 1) := by decide +kernel
theorem dL_law_1097 : decode cL_law 1097 = .ok (.lcmp, 1) := by decide +kernel
theorem dL_law_1098 : decode cL_law 1098 = .ok (.ifCond .eq 5, 3) := by decide +kernel
theorem dL_law_1101 : decode cL_law 1101 = .ok (.iconst 0, 1) := by decide +kernel
theorem dL_law_1102 : decode cL_law 1102 = .ok (.ireturn, 1) := by decide +kernel
theorem dL_law_1103 : decode cL_law 1103 = .ok (.goto 719, 3) := by decide +kernel
theorem dL_law_1106 : decode cL_law 1106 = .ok (.aload_n 1, 1) := by decide +kernel
theorem dL_law_1107 : decode cL_law 1107 = .ok (.aload_n 0, 1) := by decide +kernel
theorem dL_law_1108 : decode cL_law 1108 = .ok (.iload 4, 2) := by decide +kernel
theorem dL_law_1110 : decode cL_law 1110 = .ok (.iconst 1, 1) := by decide +kernel
theorem dL_law_1111 : decode cL_law 1111 = .ok (.iadd, 1) := by decide +kernel
theorem dL_law_1112 : decode cL_law 1112 = .ok (.iaload, 1) := by decide +kernel
theorem dL_law_1113 : decode cL_law 1113 = .ok (.aload_n 0, 1) := by decide +kernel
theorem dL_law_1114 : decode cL_law 1114 = .ok (.iload 4, 2) := by decide +kernel
theorem dL_law_1116 : decode cL_law 1116 = .ok (.iconst 2, 1) := by decide +kernel
theorem dL_law_1117 : decode cL_law 1117 = .ok (.iadd, 1) := by decide +kernel
theorem dL_law_1118 : decode cL_law 1118 = .ok (.iaload, 1) := by decide +kernel
theorem dL_law_1119 : decode cL_law 1119 = .ok (.aload_n 3, 1) := by decide +kernel
theorem dL_law_1120 : decode cL_law 1120 = .ok (.invokestatic 138, 3) := by decide +kernel
theorem dL_law_1123 : decode cL_law 1123 = .ok (.istore 5, 2) := by decide +kernel
theorem dL_law_1125 : decode cL_law 1125 = .ok (.aload_n 2, 1) := by decide +kernel
theorem dL_law_1126 : decode cL_law 1126 = .ok (.aload_n 0, 1) := by decide +kernel
theorem dL_law_1127 : decode cL_law 1127 = .ok (.iload 4, 2) := by decide +kernel
theorem dL_law_1129 : decode cL_law 1129 = .ok (.iconst 1, 1) := by decide +kernel
theorem dL_law_1130 : decode cL_law 1130 = .ok (.iadd, 1) := by decide +kernel
theorem dL_law_1131 : decode cL_law 1131 = .ok (.iaload, 1) := by decide +kernel
theorem dL_law_1132 : decode cL_law 1132 = .ok (.aload_n 0, 1) := by decide +kernel
theorem dL_law_1133 : decode cL_law 1133 = .ok (.iload 4, 2) := by decide +kernel
theorem dL_law_1135 : decode cL_law 1135 = .ok (.iconst 2, 1) := by decide +kernel
theorem dL_law_1136 : decode cL_law 1136 = .ok (.iadd, 1) := by decide +kernel
theorem dL_law_1137 : decode cL_law 1137 = .ok (.iaload, 1) := by decide +kernel
theorem dL_law_1138 : decode cL_law 1138 = .ok (.invokevirtual 140, 3) := by decide +kernel
theorem dL_law_1141 : decode cL_law 1141 = .ok (.istore 6, 2) := by decide +kernel
theorem dL_law_1143 : decode cL_law 1143 = .ok (.aload_n 2, 1) := by decide +kernel
theorem dL_law_1144 : decode cL_law 1144 = .ok (.invokevirtual 96, 3) := by decide +kernel
theorem dL_law_1147 : decode cL_law 1147 = .ok (.iload 5, 2) := by decide +kernel
theorem dL_law_1149 : decode cL_law 1149 = .ok (.if_icmp .eq 5, 3) := by decide +kernel
theorem dL_law_1152 : decode cL_law 1152 = .ok (.iconst 0, 1) := by decide +kernel
theorem dL_law_1153 : decode cL_law 1153 = .ok (.ireturn, 1) := by decide +kernel
theorem dL_law_1154 : decode cL_law 1154 = .ok (.iload 5, 2) := by decide +kernel
theorem dL_law_1156 : decode cL_law 1156 = .ok (.ifCond .ne 15, 3) := by decide +kernel
theorem dL_law_1159 : decode cL_law 1159 = .ok (.aload_n 3, 1) := by decide +kernel
theorem dL_law_1160 : decode cL_law 1160 = .ok (.iconst 0, 1) := by decide +kernel
theorem dL_law_1161 : decode cL_law 1161 = .ok (.laload, 1) := by decide +kernel
theorem dL_law_1162 : decode cL_law 1162 = .ok (.iload 6, 2) := by decide +kernel
theorem dL_law_1164 : decode cL_law 1164 = .ok (.i2l, 1) := by decide +kernel
theorem dL_law_1165 : decode cL_law 1165 = .ok (.lcmp, 1) := by decide +kernel
theorem dL_law_1166 : decode cL_law 1166 = .ok (.ifCond .eq 5, 3) := by decide +kernel
theorem dL_law_1169 : decode cL_law 1169 = .ok (.iconst 0, 1) := by decide +kernel
theorem dL_law_1170 : decode cL_law 1170 = .ok (.ireturn, 1) := by decide +kernel
theorem dL_law_1171 : decode cL_law 1171 = .ok (.goto 651, 3) := by decide +kernel
theorem dL_law_1174 : decode cL_law 1174 = .ok (.aload_n 1, 1) := by decide +kernel
theorem dL_law_1175 : decode cL_law 1175 = .ok (.aload_n 0, 1) := by decide +kernel
theorem dL_law_1176 : decode cL_law 1176 = .ok (.iload 4, 2) := by decide +kernel
theorem dL_law_1178 : decode cL_law 1178 = .ok (.iconst 1, 1) := by decide +kernel
theorem dL_law_1179 : decode cL_law 1179 = .ok (.iadd, 1) := by decide +kernel
theorem dL_law_1180 : decode cL_law 1180 = .ok (.iaload, 1) := by decide +kernel
theorem dL_law_1181 : decode cL_law 1181 = .ok (.aload_n 0, 1) := by decide +kernel
theorem dL_law_1182 : decode cL_law 1182 = .ok (.iload 4, 2) := by decide +kernel
theorem dL_law_1184 : decode cL_law 1184 = .ok (.iconst 2, 1) := by decide +kernel
theorem dL_law_1185 : decode cL_law 1185 = .ok (.iadd, 1) := by decide +kernel
theorem dL_law_1186 : decode cL_law 1186 = .ok (.iaload, 1) := by decide +kernel
theorem dL_law_1187 : decode cL_law 1187 = .ok (.aload_n 3, 1) := by decide +kernel
theorem dL_law_1188 : decode cL_law 1188 = .ok (.invokestatic 141, 3) := by decide +kernel
theorem dL_law_1191 : decode cL_law 1191 = .ok (.istore 5, 2) := by decide +kernel
theorem dL_law_1193 : decode cL_law 1193 = .ok (.aload_n 2, 1) := by decide +kernel
theorem dL_law_1194 : decode cL_law 1194 = .ok (.aload_n 0, 1) := by decide +kernel
theorem dL_law_1195 : decode cL_law 1195 = .ok (.iload 4, 2) := by decide +kernel
theorem dL_law_1197 : decode cL_law 1197 = .ok (.iconst 1, 1) := by decide +kernel
theorem dL_law_1198 : decode cL_law 1198 = .ok (.iadd, 1) := by decide +kernel
theorem dL_law_1199 : decode cL_law 1199 = .ok (.iaload, 1) := by decide +kernel
theorem dL_law_1200 : decode cL_law 1200 = .ok (.aload_n 0, 1) := by decide +kernel
theorem dL_law_1201 : decode cL_law 1201 = .ok (.iload 4, 2) := by decide +kernel
theorem dL_law_1203 : decode cL_law 1203 = .ok (.iconst 2, 1) := by decide +kernel
theorem dL_law_1204 : decode cL_law 1204 = .ok (.iadd, 1) := by decide +kernel
theorem dL_law_1205 : decode cL_law 1205 = .ok (.iaload, 1) := by decide +kernel
theorem dL_law_1206 : decode cL_law 1206 = .ok (.invokevirtual 143, 3) := by decide +kernel
theorem dL_law_1209 : decode cL_law 1209 = .ok (.istore 6, 2) := by decide +kernel
theorem dL_law_1211 : decode cL_law 1211 = .ok (.aload_n 2, 1) := by decide +kernel
theorem dL_law_1212 : decode cL_law 1212 = .ok (.invokevirtual 96, 3) := by decide +kernel
theorem dL_law_1215 : decode cL_law 1215 = .ok (.iload 5, 2) := by decide +kernel
theorem dL_law_1217 : decode cL_law 1217 = .ok (.if_icmp .eq 5, 3) := by decide +kernel
theorem dL_law_1220 : decode cL_law 1220 = .ok (.iconst 0, 1) := by decide +kernel
theorem dL_law_1221 : decode cL_law 1221 = .ok (.ireturn, 1) := by decide +kernel
theorem dL_law_1222 : decode cL_law 1222 = .ok (.iload 5, 2) := by decide +kernel
theorem dL_law_1224 : decode cL_law 1224 = .ok (.ifCond .ne 15, 3) := by decide +kernel
theorem dL_law_1227 : decode cL_law 1227 = .ok (.aload_n 3, 1) := by decide +kernel
theorem dL_law_1228 : decode cL_law 1228 = .ok (.iconst 0, 1) := by decide +kernel
theorem dL_law_1229 : decode cL_law 1229 = .ok (.laload, 1) := by decide +kernel
theorem dL_law_1230 : decode cL_law 1230 = .ok (.iload 6, 2) := by decide +kernel
theorem dL_law_1232 : decode cL_law 1232 = .ok (.i2l, 1) := by decide +kernel
theorem dL_law_1233 : decode cL_law 1233 = .ok (.lcmp, 1) := by decide +kernel
theorem dL_law_1234 : decode cL_law 1234 = .ok (.ifCond .eq 5, 3) := by decide +kernel
theorem dL_law_1237 : decode cL_law 1237 = .ok (.iconst 0, 1) := by decide +kernel
theorem dL_law_1238 : decode cL_law 1238 = .ok (.ireturn, 1) := by decide +kernel
theorem dL_law_1239 : decode cL_law 1239 = .ok (.goto 583, 3) := by decide +kernel
theorem dL_law_1242 : decode cL_law 1242 = .ok (.aload_n 1, 1) := by decide +kernel
theorem dL_law_1243 : decode cL_law 1243 = .ok (.aload_n 0, 1) := by decide +kernel
theorem dL_law_1244 : decode cL_law 1244 = .ok (.iload 4, 2) := by decide +kernel
theorem dL_law_1246 : decode cL_law 1246 = .ok (.iconst 1, 1) := by decide +kernel
theorem dL_law_1247 : decode cL_law 1247 = .ok (.iadd, 1) := by decide +kernel
theorem dL_law_1248 : decode cL_law 1248 = .ok (.iaload, 1) := by decide +kernel
theorem dL_law_1249 : decode cL_law 1249 = .ok (.aload_n 0, 1) := by decide +kernel
theorem dL_law_1250 : decode cL_law 1250 = .ok (.iload 4, 2) := by decide +kernel
theorem dL_law_1252 : decode cL_law 1252 = .ok (.iconst 2, 1) := by decide +kernel
theorem dL_law_1253 : decode cL_law 1253 = .ok (.iadd, 1) := by decide +kernel
theorem dL_law_1254 : decode cL_law 1254 = .ok (.iaload, 1) := by decide +kernel
theorem dL_law_1255 : decode cL_law 1255 = .ok (.aload_n 0, 1) := by decide +kernel
theorem dL_law_1256 : decode cL_law 1256 = .ok (.iload 4, 2) := by decide +kernel
theorem dL_law_1258 : decode cL_law 1258 = .ok (.iconst 3, 1) := by decide +kernel
theorem dL_law_1259 : decode cL_law 1259 = .ok (.iadd, 1) := by decide +kernel
theorem dL_law_1260 : decode cL_law 1260 = .ok (.iaload, 1) := by decide +kernel
theorem dL_law_1261 : decode cL_law 1261 = .ok (.aload_n 3, 1) := by decide +kernel
theorem dL_law_1262 : decode cL_law 1262 = .ok (.invokestatic 144, 3) := by decide +kernel
theorem dL_law_1265 : decode cL_law 1265 = .ok (.istore 5, 2) := by decide +kernel
theorem dL_law_1267 : decode cL_law 1267 = .ok (.aload_n 2, 1) := by decide +kernel
theorem dL_law_1268 : decode cL_law 1268 = .ok (.aload_n 0, 1) := by decide +kernel
theorem dL_law_1269 : decode cL_law 1269 = .ok (.iload 4, 2) := by decide +kernel
theorem dL_law_1271 : decode cL_law 1271 = .ok (.iconst 1, 1) := by decide +kernel
theorem dL_law_1272 : decode cL_law 1272 = .ok (.iadd, 1) := by decide +kernel
theorem dL_law_1273 : decode cL_law 1273 = .ok (.iaload, 1) := by decide +kernel
theorem dL_law_1274 : decode cL_law 1274 = .ok (.aload_n 0, 1) := by decide +kernel
theorem dL_law_1275 : decode cL_law 1275 = .ok (.iload 4, 2) := by decide +kernel
theorem dL_law_1277 : decode cL_law 1277 = .ok (.iconst 2, 1) := by decide +kernel
theorem dL_law_1278 : decode cL_law 1278 = .ok (.iadd, 1) := by decide +kernel
theorem dL_law_1279 : decode cL_law 1279 = .ok (.iaload, 1) := by decide +kernel
theorem dL_law_1280 : decode cL_law 1280 = .ok (.aload_n 0, 1) := by decide +kernel
theorem dL_law_1281 : decode cL_law 1281 = .ok (.iload 4, 2) := by decide +kernel
theorem dL_law_1283 : decode cL_law 1283 = .ok (.iconst 3, 1) := by decide +kernel
theorem dL_law_1284 : decode cL_law 1284 = .ok (.iadd, 1) := by decide +kernel
theorem dL_law_1285 : decode cL_law 1285 = .ok (.iaload, 1) := by decide +kernel
theorem dL_law_1286 : decode cL_law 1286 = .ok (.invokevirtual 146, 3) := by decide +kernel
theorem dL_law_1289 : decode cL_law 1289 = .ok (.istore 6, 2) := by decide +kernel
theorem dL_law_1291 : decode cL_law 1291 = .ok (.aload_n 2, 1) := by decide +kernel
theorem dL_law_1292 : decode cL_law 1292 = .ok (.invokevirtual 96, 3) := by decide +kernel
theorem dL_law_1295 : decode cL_law 1295 = .ok (.iload 5, 2) := by decide +kernel
theorem dL_law_1297 : decode cL_law 1297 = .ok (.if_icmp .eq 5, 3) := by decide +kernel
theorem dL_law_1300 : decode cL_law 1300 = .ok (.iconst 0, 1) := by decide +kernel
theorem dL_law_1301 : decode cL_law 1301 = .ok (.ireturn, 1) := by decide +kernel
theorem dL_law_1302 : decode cL_law 1302 = .ok (.iload 5, 2) := by decide +kernel
theorem dL_law_1304 : decode cL_law 1304 = .ok (.ifCond .ne 15, 3) := by decide +kernel
theorem dL_law_1307 : decode cL_law 1307 = .ok (.aload_n 3, 1) := by decide +kernel
theorem dL_law_1308 : decode cL_law 1308 = .ok (.iconst 0, 1) := by decide +kernel
theorem dL_law_1309 : decode cL_law 1309 = .ok (.laload, 1) := by decide +kernel
theorem dL_law_1310 : decode cL_law 1310 = .ok (.iload 6, 2) := by decide +kernel
theorem dL_law_1312 : decode cL_law 1312 = .ok (.i2l, 1) := by decide +kernel
theorem dL_law_1313 : decode cL_law 1313 = .ok (.lcmp, 1) := by decide +kernel
theorem dL_law_1314 : decode cL_law 1314 = .ok (.ifCond .eq 5, 3) := by decide +kernel
theorem dL_law_1317 : decode cL_law 1317 = .ok (.iconst 0, 1) := by decide +kernel
theorem dL_law_1318 : decode cL_law 1318 = .ok (.ireturn, 1) := by decide +kernel
theorem dL_law_1319 : decode cL_law 1319 = .ok (.goto 503, 3) := by decide +kernel
theorem dL_law_1322 : decode cL_law 1322 = .ok (.aload_n 1, 1) := by decide +kernel
theorem dL_law_1323 : decode cL_law 1323 = .ok (.aload_n 0, 1) := by decide +kernel
theorem dL_law_1324 : decode cL_law 1324 = .ok (.iload 4, 2) := by decide +kernel
theorem dL_law_1326 : decode cL_law 1326 = .ok (.iconst 1, 1) := by decide +kernel
theorem dL_law_1327 : decode cL_law 1327 = .ok (.iadd, 1) := by decide +kernel
theorem dL_law_1328 : decode cL_law 1328 = .ok (.iaload, 1) := by decide +kernel
theorem dL_law_1329 : decode cL_law 1329 = .ok (.aload_n 0, 1) := by decide +kernel
theorem dL_law_1330 : decode cL_law 1330 = .ok (.iload 4, 2) := by decide +kernel
theorem dL_law_1332 : decode cL_law 1332 = .ok (.iconst 2, 1) := by decide +kernel
theorem dL_law_1333 : decode cL_law 1333 = .ok (.iadd, 1) := by decide +kernel
theorem dL_law_1334 : decode cL_law 1334 = .ok (.iaload, 1) := by decide +kernel
theorem dL_law_1335 : decode cL_law 1335 = .ok (.aload_n 3, 1) := by decide +kernel
theorem dL_law_1336 : decode cL_law 1336 = .ok (.invokestatic 147, 3) := by decide +kernel
theorem dL_law_1339 : decode cL_law 1339 = .ok (.istore 5, 2) := by decide +kernel
theorem dL_law_1341 : decode cL_law 1341 = .ok (.aload_n 2, 1) := by decide +kernel
theorem dL_law_1342 : decode cL_law 1342 = .ok (.aload_n 0, 1) := by decide +kernel
theorem dL_law_1343 : decode cL_law 1343 = .ok (.iload 4, 2) := by decide +kernel
theorem dL_law_1345 : decode cL_law 1345 = .ok (.iconst 1, 1) := by decide +kernel
theorem dL_law_1346 : decode cL_law 1346 = .ok (.iadd, 1) := by decide +kernel
theorem dL_law_1347 : decode cL_law 1347 = .ok (.iaload, 1) := by decide +kernel
theorem dL_law_1348 : decode cL_law 1348 = .ok (.aload_n 0, 1) := by decide +kernel
theorem dL_law_1349 : decode cL_law 1349 = .ok (.iload 4, 2) := by decide +kernel
theorem dL_law_1351 : decode cL_law 1351 = .ok (.iconst 2, 1) := by decide +kernel
theorem dL_law_1352 : decode cL_law 1352 = .ok (.iadd, 1) := by decide +kernel
theorem dL_law_1353 : decode cL_law 1353 = .ok (.iaload, 1) := by decide +kernel
theorem dL_law_1354 : decode cL_law 1354 = .ok (.invokevirtual 149, 3) := by decide +kernel
theorem dL_law_1357 : decode cL_law 1357 = .ok (.istore 6, 2) := by decide +kernel
theorem dL_law_1359 : decode cL_law 1359 = .ok (.aload_n 2, 1) := by decide +kernel
theorem dL_law_1360 : decode cL_law 1360 = .ok (.invokevirtual 96, 3) := by decide +kernel
theorem dL_law_1363 : decode cL_law 1363 = .ok (.iload 5, 2) := by decide +kernel
theorem dL_law_1365 : decode cL_law 1365 = .ok (.if_icmp .eq 5, 3) := by decide +kernel
theorem dL_law_1368 : decode cL_law 1368 = .ok (.iconst 0, 1) := by decide +kernel
theorem dL_law_1369 : decode cL_law 1369 = .ok (.ireturn, 1) := by decide +kernel
theorem dL_law_1370 : decode cL_law 1370 = .ok (.iload 5, 2) := by decide +kernel
theorem dL_law_1372 : decode cL_law 1372 = .ok (.ifCond .ne 15, 3) := by decide +kernel
theorem dL_law_1375 : decode cL_law 1375 = .ok (.aload_n 3, 1) := by decide +kernel
theorem dL_law_1376 : decode cL_law 1376 = .ok (.iconst 0, 1) := by decide +kernel
theorem dL_law_1377 : decode cL_law 1377 = .ok (.laload, 1) := by decide +kernel
theorem dL_law_1378 : decode cL_law 1378 = .ok (.iload 6, 2) := by decide +kernel
theorem dL_law_1380 : decode cL_law 1380 = .ok (.i2l, 1) := by decide +kernel
theorem dL_law_1381 : decode cL_law 1381 = .ok (.lcmp, 1) := by decide +kernel
theorem dL_law_1382 : decode cL_law 1382 = .ok (.ifCond .eq 5, 3) := by decide +kernel
theorem dL_law_1385 : decode cL_law 1385 = .ok (.iconst 0, 1) := by decide +kernel
theorem dL_law_1386 : decode cL_law 1386 = .ok (.ireturn, 1) := by decide +kernel
theorem dL_law_1387 : decode cL_law 1387 = .ok (.goto 435, 3) := by decide +kernel
theorem dL_law_1390 : decode cL_law 1390 = .ok (.aload_n 1, 1) := by decide +kernel
theorem dL_law_1391 : decode cL_law 1391 = .ok (.invokevirtual 150, 3) := by decide +kernel
theorem dL_law_1394 : decode cL_law 1394 = .ok (.aload_n 2, 1) := by decide +kernel
theorem dL_law_1395 : decode cL_law 1395 = .ok (.invokevirtual 153, 3) := by decide +kernel
theorem dL_law_1398 : decode cL_law 1398 = .ok (.if_icmp .eq 424, 3) := by decide +kernel
theorem dL_law_1401 : decode cL_law 1401 = .ok (.iconst 0, 1) := by decide +kernel
theorem dL_law_1402 : decode cL_law 1402 = .ok (.ireturn, 1) := by decide +kernel
theorem dL_law_1403 : decode cL_law 1403 = .ok (.aload_n 1, 1) := by decide +kernel
theorem dL_law_1404 : decode cL_law 1404 = .ok (.aload_n 0, 1) := by decide +kernel
theorem dL_law_1405 : decode cL_law 1405 = .ok (.iload 4, 2) := by decide +kernel
theorem dL_law_1407 : decode cL_law 1407 = .ok (.iconst 1, 1) := by decide +kernel
theorem dL_law_1408 : decode cL_law 1408 = .ok (.iadd, 1) := by decide +kernel
theorem dL_law_1409 : decode cL_law 1409 = .ok (.iaload, 1) := by decide +kernel
theorem dL_law_1410 : decode cL_law 1410 = .ok (.aload_n 0, 1) := by decide +kernel
theorem dL_law_1411 : decode cL_law 1411 = .ok (.iload 4, 2) := by decide +kernel
theorem dL_law_1413 : decode cL_law 1413 = .ok (.iconst 2, 1) := by decide +kernel
theorem dL_law_1414 : decode cL_law 1414 = .ok (.iadd, 1) := by decide +kernel
theorem dL_law_1415 : decode cL_law 1415 = .ok (.iaload, 1) := by decide +kernel
theorem dL_law_1416 : decode cL_law 1416 = .ok (.aload_n 0, 1) := by decide +kernel
theorem dL_law_1417 : decode cL_law 1417 = .ok (.iload 4, 2) := by decide +kernel
theorem dL_law_1419 : decode cL_law 1419 = .ok (.iconst 3, 1) := by decide +kernel
theorem dL_law_1420 : decode cL_law 1420 = .ok (.iadd, 1) := by decide +kernel
theorem dL_law_1421 : decode cL_law 1421 = .ok (.iaload, 1) := by decide +kernel
theorem dL_law_1422 : decode cL_law 1422 = .ok (.aload_n 0, 1) := by decide +kernel
theorem dL_law_1423 : decode cL_law 1423 = .ok (.iload 4, 2) := by decide +kernel
theorem dL_law_1425 : decode cL_law 1425 = .ok (.iconst 4, 1) := by decide +kernel
theorem dL_law_1426 : decode cL_law 1426 = .ok (.iadd, 1) := by decide +kernel
theorem dL_law_1427 : decode cL_law 1427 = .ok (.iaload, 1) := by decide +kernel
theorem dL_law_1428 : decode cL_law 1428 = .ok (.aload_n 3, 1) := by decide +kernel
theorem dL_law_1429 : decode cL_law 1429 = .ok (.invokestatic 154, 3) := by decide +kernel
theorem dL_law_1432 : decode cL_law 1432 = .ok (.istore 5, 2) := by decide +kernel
theorem dL_law_1434 : decode cL_law 1434 = .ok (.aload_n 2, 1) := by decide +kernel
theorem dL_law_1435 : decode cL_law 1435 = .ok (.aload_n 0, 1) := by decide +kernel
theorem dL_law_1436 : decode cL_law 1436 = .ok (.iload 4, 2) := by decide +kernel
theorem dL_law_1438 : decode cL_law 1438 = .ok (.iconst 1, 1) := by decide +kernel
theorem dL_law_1439 : decode cL_law 1439 = .ok (.iadd, 1) := by decide +kernel
theorem dL_law_1440 : decode cL_law 1440 = .ok (.iaload, 1) := by decide +kernel
theorem dL_law_1441 : decode cL_law 1441 = .ok (.aload_n 0, 1) := by decide +kernel
theorem dL_law_1442 : decode cL_law 1442 = .ok (.iload 4, 2) := by decide +kernel
theorem dL_law_1444 : decode cL_law 1444 = .ok (.iconst 2, 1) := by decide +kernel
theorem dL_law_1445 : decode cL_law 1445 = .ok (.iadd, 1) := by decide +kernel
theorem dL_law_1446 : decode cL_law 1446 = .ok (.iaload, 1) := by decide +kernel
theorem dL_law_1447 : decode cL_law 1447 = .ok (.aload_n 0, 1) := by decide +kernel
theorem dL_law_1448 : decode cL_law 1448 = .ok (.iload 4, 2) := by decide +kernel
theorem dL_law_1450 : decode cL_law 1450 = .ok (.iconst 3, 1) := by decide +kernel
theorem dL_law_1451 : decode cL_law 1451 = .ok (.iadd, 1) := by decide +kernel
theorem dL_law_1452 : decode cL_law 1452 = .ok (.iaload, 1) := by decide +kernel
theorem dL_law_1453 : decode cL_law 1453 = .ok (.aload_n 0, 1) := by decide +kernel
theorem dL_law_1454 : decode cL_law 1454 = .ok (.iload 4, 2) := by decide +kernel
theorem dL_law_1456 : decode cL_law 1456 = .ok (.iconst 4, 1) := by decide +kernel
theorem dL_law_1457 : decode cL_law 1457 = .ok (.iadd, 1) := by decide +kernel
theorem dL_law_1458 : decode cL_law 1458 = .ok (.iaload, 1) := by decide +kernel
theorem dL_law_1459 : decode cL_law 1459 = .ok (.invokevirtual 156, 3) := by decide +kernel
theorem dL_law_1462 : decode cL_law 1462 = .ok (.lstore 6, 2) := by decide +kernel
theorem dL_law_1464 : decode cL_law 1464 = .ok (.aload_n 2, 1) := by decide +kernel
theorem dL_law_1465 : decode cL_law 1465 = .ok (.invokevirtual 96, 3) := by decide +kernel
theorem dL_law_1468 : decode cL_law 1468 = .ok (.iload 5, 2) := by decide +kernel
theorem dL_law_1470 : decode cL_law 1470 = .ok (.if_icmp .eq 5, 3) := by decide +kernel
theorem dL_law_1473 : decode cL_law 1473 = .ok (.iconst 0, 1) := by decide +kernel
theorem dL_law_1474 : decode cL_law 1474 = .ok (.ireturn, 1) := by decide +kernel
theorem dL_law_1475 : decode cL_law 1475 = .ok (.iload 5, 2) := by decide +kernel
theorem dL_law_1477 : decode cL_law 1477 = .ok (.ifCond .ne 14, 3) := by decide +kernel
theorem dL_law_1480 : decode cL_law 1480 = .ok (.aload_n 3, 1) := by decide +kernel
theorem dL_law_1481 : decode cL_law 1481 = .ok (.iconst 0, 1) := by decide +kernel
theorem dL_law_1482 : decode cL_law 1482 = .ok (.laload, 1) := by decide +kernel
theorem dL_law_1483 : decode cL_law 1483 = .ok (.lload 6, 2) := by decide +kernel
theorem dL_law_1485 : decode cL_law 1485 = .ok (.lcmp, 1) := by decide +kernel
theorem dL_law_1486 : decode cL_law 1486 = .ok (.ifCond .eq 5, 3) := by decide +kernel
theorem dL_law_1489 : decode cL_law 1489 = .ok (.iconst 0, 1) := by decide +kernel
theorem dL_law_1490 : decode cL_law 1490 = .ok (.ireturn, 1) := by decide +kernel
theorem dL_law_1491 : decode cL_law 1491 = .ok (.goto 331, 3) := by decide +kernel
theorem dL_law_1494 : decode cL_law 1494 = .ok (.aload_n 1, 1) := by decide +kernel
theorem dL_law_1495 : decode cL_law 1495 = .ok (.aload_n 0, 1) := by decide +kernel
theorem dL_law_1496 : decode cL_law 1496 = .ok (.iload 4, 2) := by decide +kernel
theorem dL_law_1498 : decode cL_law 1498 = .ok (.iconst 1, 1) := by decide +kernel
theorem dL_law_1499 : decode cL_law 1499 = .ok (.iadd, 1) := by decide +kernel
theorem dL_law_1500 : decode cL_law 1500 = .ok (.iaload, 1) := by decide +kernel
theorem dL_law_1501 : decode cL_law 1501 = .ok (.aload_n 0, 1) := by decide +kernel
theorem dL_law_1502 : decode cL_law 1502 = .ok (.iload 4, 2) := by decide +kernel
theorem dL_law_1504 : decode cL_law 1504 = .ok (.iconst 2, 1) := by decide +kernel
theorem dL_law_1505 : decode cL_law 1505 = .ok (.iadd, 1) := by decide +kernel
theorem dL_law_1506 : decode cL_law 1506 = .ok (.iaload, 1) := by decide +kernel
theorem dL_law_1507 : decode cL_law 1507 = .ok (.aload_n 0, 1) := by decide +kernel
theorem dL_law_1508 : decode cL_law 1508 = .ok (.iload 4, 2) := by decide +kernel
theorem dL_law_1510 : decode cL_law 1510 = .ok (.iconst 3, 1) := by decide +kernel
theorem dL_law_1511 : decode cL_law 1511 = .ok (.iadd, 1) := by decide +kernel
theorem dL_law_1512 : decode cL_law 1512 = .ok (.iaload, 1) := by decide +kernel
theorem dL_law_1513 : decode cL_law 1513 = .ok (.aload_n 3, 1) := by decide +kernel
theorem dL_law_1514 : decode cL_law 1514 = .ok (.invokestatic 157, 3) := by decide +kernel
theorem dL_law_1517 : decode cL_law 1517 = .ok (.istore 5, 2) := by decide +kernel
theorem dL_law_1519 : decode cL_law 1519 = .ok (.aload_n 2, 1) := by decide +kernel
theorem dL_law_1520 : decode cL_law 1520 = .ok (.aload_n 0, 1) := by decide +kernel
theorem dL_law_1521 : decode cL_law 1521 = .ok (.iload 4, 2) := by decide +kernel
theorem dL_law_1523 : decode cL_law 1523 = .ok (.iconst 1, 1) := by decide +kernel
theorem dL_law_1524 : decode cL_law 1524 = .ok (.iadd, 1) := by decide +kernel
theorem dL_law_1525 : decode cL_law 1525 = .ok (.iaload, 1) := by decide +kernel
theorem dL_law_1526 : decode cL_law 1526 = .ok (.aload_n 0, 1) := by decide +kernel
theorem dL_law_1527 : decode cL_law 1527 = .ok (.iload 4, 2) := by decide +kernel
theorem dL_law_1529 : decode cL_law 1529 = .ok (.iconst 2, 1) := by decide +kernel
theorem dL_law_1530 : decode cL_law 1530 = .ok (.iadd, 1) := by decide +kernel
theorem dL_law_1531 : decode cL_law 1531 = .ok (.iaload, 1) := by decide +kernel
theorem dL_law_1532 : decode cL_law 1532 = .ok (.aload_n 0, 1) := by decide +kernel
theorem dL_law_1533 : decode cL_law 1533 = .ok (.iload 4, 2) := by decide +kernel
theorem dL_law_1535 : decode cL_law 1535 = .ok (.iconst 3, 1) := by decide +kernel
theorem dL_law_1536 : decode cL_law 1536 = .ok (.iadd, 1) := by decide +kernel
theorem dL_law_1537 : decode cL_law 1537 = .ok (.iaload, 1) := by decide +kernel
theorem dL_law_1538 : decode cL_law 1538 = .ok (.invokevirtual 159, 3) := by decide +kernel
theorem dL_law_1541 : decode cL_law 1541 = .ok (.istore 6, 2) := by decide +kernel
theorem dL_law_1543 : decode cL_law 1543 = .ok (.aload_n 2, 1) := by decide +kernel
theorem dL_law_1544 : decode cL_law 1544 = .ok (.invokevirtual 96, 3) := by decide +kernel
theorem dL_law_1547 : decode cL_law 1547 = .ok (.iload 5, 2) := by decide +kernel
theorem dL_law_1549 : decode cL_law 1549 = .ok (.if_icmp .eq 5, 3) := by decide +kernel
theorem dL_law_1552 : decode cL_law 1552 = .ok (.iconst 0, 1) := by decide +kernel
theorem dL_law_1553 : decode cL_law 1553 = .ok (.ireturn, 1) := by decide +kernel
theorem dL_law_1554 : decode cL_law 1554 = .ok (.iload 5, 2) := by decide +kernel
theorem dL_law_1556 : decode cL_law 1556 = .ok (.ifCond .ne 15, 3) := by decide +kernel
theorem dL_law_1559 : decode cL_law 1559 = .ok (.aload_n 3, 1) := by decide +kernel
theorem dL_law_1560 : decode cL_law 1560 = .ok (.iconst 0, 1) := by decide +kernel
theorem dL_law_1561 : decode cL_law 1561 = .ok (.laload, 1) := by decide +kernel
theorem dL_law_1562 : decode cL_law 1562 = .ok (.iload 6, 2) := by decide +kernel
theorem dL_law_1564 : decode cL_law 1564 = .ok (.i2l, 1) := by decide +kernel
theorem dL_law_1565 : decode cL_law 1565 = .ok (.lcmp, 1) := by decide +kernel
theorem dL_law_1566 : decode cL_law 1566 = .ok (.ifCond .eq 5, 3) := by decide +kernel
theorem dL_law_1569 : decode cL_law 1569 = .ok (.iconst 0, 1) := by decide +kernel
theorem dL_law_1570 : decode cL_law 1570 = .ok (.ireturn, 1) := by decide +kernel
theorem dL_law_1571 : decode cL_law 1571 = .ok (.goto 251, 3) := by decide +kernel
theorem dL_law_1574 : decode cL_law 1574 = .ok (.aload_n 1, 1) := by decide +kernel
theorem dL_law_1575 : decode cL_law 1575 = .ok (.aload_n 0, 1) := by decide +kernel
theorem dL_law_1576 : decode cL_law 1576 = .ok (.iload 4, 2) := by decide +kernel
theorem dL_law_1578 : decode cL_law 1578 = .ok (.iconst 1, 1) := by decide +kernel
theorem dL_law_1579 : decode cL_law 1579 = .ok (.iadd, 1) := by decide +kernel
theorem dL_law_1580 : decode cL_law 1580 = .ok (.iaload, 1) := by decide +kernel
theorem dL_law_1581 : decode cL_law 1581 = .ok (.aload_n 3, 1) := by decide +kernel
theorem dL_law_1582 : decode cL_law 1582 = .ok (.invokestatic 160, 3) := by decide +kernel
theorem dL_law_1585 : decode cL_law 1585 = .ok (.istore 5, 2) := by decide +kernel
theorem dL_law_1587 : decode cL_law 1587 = .ok (.aload_n 2, 1) := by decide +kernel
theorem dL_law_1588 : decode cL_law 1588 = .ok (.aload_n 0, 1) := by decide +kernel
theorem dL_law_1589 : decode cL_law 1589 = .ok (.iload 4, 2) := by decide +kernel
theorem dL_law_1591 : decode cL_law 1591 = .ok (.iconst 1, 1) := by decide +kernel
theorem dL_law_1592 : decode cL_law 1592 = .ok (.iadd, 1) := by decide +kernel
theorem dL_law_1593 : decode cL_law 1593 = .ok (.iaload, 1) := by decide +kernel
theorem dL_law_1594 : decode cL_law 1594 = .ok (.invokevirtual 163, 3) := by decide +kernel
theorem dL_law_1597 : decode cL_law 1597 = .ok (.istore 6, 2) := by decide +kernel
theorem dL_law_1599 : decode cL_law 1599 = .ok (.aload_n 2, 1) := by decide +kernel
theorem dL_law_1600 : decode cL_law 1600 = .ok (.invokevirtual 96, 3) := by decide +kernel
theorem dL_law_1603 : decode cL_law 1603 = .ok (.iload 5, 2) := by decide +kernel
theorem dL_law_1605 : decode cL_law 1605 = .ok (.if_icmp .eq 5, 3) := by decide +kernel
theorem dL_law_1608 : decode cL_law 1608 = .ok (.iconst 0, 1) := by decide +kernel
theorem dL_law_1609 : decode cL_law 1609 = .ok (.ireturn, 1) := by decide +kernel
theorem dL_law_1610 : decode cL_law 1610 = .ok (.iload 5, 2) := by decide +kernel
theorem dL_law_1612 : decode cL_law 1612 = .ok (.ifCond .ne 15, 3) := by decide +kernel
theorem dL_law_1615 : decode cL_law 1615 = .ok (.aload_n 3, 1) := by decide +kernel
theorem dL_law_1616 : decode cL_law 1616 = .ok (.iconst 0, 1) := by decide +kernel
theorem dL_law_1617 : decode cL_law 1617 = .ok (.laload, 1) := by decide +kernel
theorem dL_law_1618 : decode cL_law 1618 = .ok (.iload 6, 2) := by decide +kernel
theorem dL_law_1620 : decode cL_law 1620 = .ok (.i2l, 1) := by decide +kernel
theorem dL_law_1621 : decode cL_law 1621 = .ok (.lcmp, 1) := by decide +kernel
theorem dL_law_1622 : decode cL_law 1622 = .ok (.ifCond .eq 5, 3) := by decide +kernel
theorem dL_law_1625 : decode cL_law 1625 = .ok (.iconst 0, 1) := by decide +kernel
theorem dL_law_1626 : decode cL_law 1626 = .ok (.ireturn, 1) := by decide +kernel
theorem dL_law_1627 : decode cL_law 1627 = .ok (.goto 195, 3) := by decide +kernel
theorem dL_law_1630 : decode cL_law 1630 = .ok (.aload_n 1, 1) := by decide +kernel
theorem dL_law_1631 : decode cL_law 1631 = .ok (.aload_n 0, 1) := by decide +kernel
theorem dL_law_1632 : decode cL_law 1632 = .ok (.iload 4, 2) := by decide +kernel
theorem dL_law_1634 : decode cL_law 1634 = .ok (.iconst 1, 1) := by decide +kernel
theorem dL_law_1635 : decode cL_law 1635 = .ok (.iadd, 1) := by decide +kernel
theorem dL_law_1636 : decode cL_law 1636 = .ok (.iaload, 1) := by decide +kernel
theorem dL_law_1637 : decode cL_law 1637 = .ok (.aload_n 0, 1) := by decide +kernel
theorem dL_law_1638 : decode cL_law 1638 = .ok (.iload 4, 2) := by decide +kernel
theorem dL_law_1640 : decode cL_law 1640 = .ok (.iconst 2, 1) := by decide +kernel
theorem dL_law_1641 : decode cL_law 1641 = .ok (.iadd, 1) := by decide +kernel
theorem dL_law_1642 : decode cL_law 1642 = .ok (.iaload, 1) := by decide +kernel
theorem dL_law_1643 : decode cL_law 1643 = .ok (.aload_n 3, 1) := by decide +kernel
theorem dL_law_1644 : decode cL_law 1644 = .ok (.invokestatic 164, 3) := by decide +kernel
theorem dL_law_1647 : decode cL_law 1647 = .ok (.istore 5, 2) := by decide +kernel
theorem dL_law_1649 : decode cL_law 1649 = .ok (.aload_n 2, 1) := by decide +kernel
theorem dL_law_1650 : decode cL_law 1650 = .ok (.aload_n 0, 1) := by decide +kernel
theorem dL_law_1651 : decode cL_law 1651 = .ok (.iload 4, 2) := by decide +kernel
theorem dL_law_1653 : decode cL_law 1653 = .ok (.iconst 1, 1) := by decide +kernel
theorem dL_law_1654 : decode cL_law 1654 = .ok (.iadd, 1) := by decide +kernel
theorem dL_law_1655 : decode cL_law 1655 = .ok (.iaload, 1) := by decide +kernel
theorem dL_law_1656 : decode cL_law 1656 = .ok (.aload_n 0, 1) := by decide +kernel
theorem dL_law_1657 : decode cL_law 1657 = .ok (.iload 4, 2) := by decide +kernel
theorem dL_law_1659 : decode cL_law 1659 = .ok (.iconst 2, 1) := by decide +kernel
theorem dL_law_1660 : decode cL_law 1660 = .ok (.iadd, 1) := by decide +kernel
theorem dL_law_1661 : decode cL_law 1661 = .ok (.iaload, 1) := by decide +kernel
theorem dL_law_1662 : decode cL_law 1662 = .ok (.invokevirtual 166, 3) := by decide +kernel
theorem dL_law_1665 : decode cL_law 1665 = .ok (.istore 6, 2) := by decide +kernel
theorem dL_law_1667 : decode cL_law 1667 = .ok (.aload_n 2, 1) := by decide +kernel
theorem dL_law_1668 : decode cL_law 1668 = .ok (.invokevirtual 96, 3) := by decide +kernel
theorem dL_law_1671 : decode cL_law 1671 = .ok (.iload 5, 2) := by decide +kernel
theorem dL_law_1673 : decode cL_law 1673 = .ok (.if_icmp .eq 5, 3) := by decide +kernel
theorem dL_law_1676 : decode cL_law 1676 = .ok (.iconst 0, 1) := by decide +kernel
theorem dL_law_1677 : decode cL_law 1677 = .ok (.ireturn, 1) := by decide +kernel
theorem dL_law_1678 : decode cL_law 1678 = .ok (.iload 5, 2) := by decide +kernel
theorem dL_law_1680 : decode cL_law 1680 = .ok (.ifCond .ne 15, 3) := by decide +kernel
theorem dL_law_1683 : decode cL_law 1683 = .ok (.aload_n 3, 1) := by decide +kernel
theorem dL_law_1684 : decode cL_law 1684 = .ok (.iconst 0, 1) := by decide +kernel
theorem dL_law_1685 : decode cL_law 1685 = .ok (.laload, 1) := by decide +kernel
theorem dL_law_1686 : decode cL_law 1686 = .ok (.iload 6, 2) := by decide +kernel
theorem dL_law_1688 : decode cL_law 1688 = .ok (.i2l, 1) := by decide +kernel
theorem dL_law_1689 : decode cL_law 1689 = .ok (.lcmp, 1) := by decide +kernel
theorem dL_law_1690 : decode cL_law 1690 = .ok (.ifCond .eq 5, 3) := by decide +kernel
theorem dL_law_1693 : decode cL_law 1693 = .ok (.iconst 0, 1) := by decide +kernel
theorem dL_law_1694 : decode cL_law 1694 = .ok (.ireturn, 1) := by decide +kernel
theorem dL_law_1695 : decode cL_law 1695 = .ok (.goto 127, 3) := by decide +kernel
theorem dL_law_1698 : decode cL_law 1698 = .ok (.aload_n 1, 1) := by decide +kernel
theorem dL_law_1699 : decode cL_law 1699 = .ok (.aload_n 0, 1) := by decide +kernel
theorem dL_law_1700 : decode cL_law 1700 = .ok (.iload 4, 2) := by decide +kernel
theorem dL_law_1702 : decode cL_law 1702 = .ok (.iconst 1, 1) := by decide +kernel
theorem dL_law_1703 : decode cL_law 1703 = .ok (.iadd, 1) := by decide +kernel
theorem dL_law_1704 : decode cL_law 1704 = .ok (.iaload, 1) := by decide +kernel
theorem dL_law_1705 : decode cL_law 1705 = .ok (.aload_n 3, 1) := by decide +kernel
theorem dL_law_1706 : decode cL_law 1706 = .ok (.invokestatic 167, 3) := by decide +kernel
theorem dL_law_1709 : decode cL_law 1709 = .ok (.istore 5, 2) := by decide +kernel
theorem dL_law_1711 : decode cL_law 1711 = .ok (.aload_n 2, 1) := by decide +kernel
theorem dL_law_1712 : decode cL_law 1712 = .ok (.aload_n 0, 1) := by decide +kernel
theorem dL_law_1713 : decode cL_law 1713 = .ok (.iload 4, 2) := by decide +kernel
theorem dL_law_1715 : decode cL_law 1715 = .ok (.iconst 1, 1) := by decide +kernel
theorem dL_law_1716 : decode cL_law 1716 = .ok (.iadd, 1) := by decide +kernel
theorem dL_law_1717 : decode cL_law 1717 = .ok (.iaload, 1) := by decide +kernel
theorem dL_law_1718 : decode cL_law 1718 = .ok (.invokevirtual 169, 3) := by decide +kernel
theorem dL_law_1721 : decode cL_law 1721 = .ok (.istore 6, 2) := by decide +kernel
theorem dL_law_1723 : decode cL_law 1723 = .ok (.aload_n 2, 1) := by decide +kernel
theorem dL_law_1724 : decode cL_law 1724 = .ok (.invokevirtual 96, 3) := by decide +kernel
theorem dL_law_1727 : decode cL_law 1727 = .ok (.iload 5, 2) := by decide +kernel
theorem dL_law_1729 : decode cL_law 1729 = .ok (.if_icmp .eq 5, 3) := by decide +kernel
theorem dL_law_1732 : decode cL_law 1732 = .ok (.iconst 0, 1) := by decide +kernel
theorem dL_law_1733 : decode cL_law 1733 = .ok (.ireturn, 1) := by decide +kernel
theorem dL_law_1734 : decode cL_law 1734 = .ok (.iload 5, 2) := by decide +kernel
theorem dL_law_1736 : decode cL_law 1736 = .ok (.ifCond .ne 15, 3) := by decide +kernel
theorem dL_law_1739 : decode cL_law 1739 = .ok (.aload_n 3, 1) := by decide +kernel
theorem dL_law_1740 : decode cL_law 1740 = .ok (.iconst 0, 1) := by decide +kernel
theorem dL_law_1741 : decode cL_law 1741 = .ok (.laload, 1) := by decide +kernel
theorem dL_law_1742 : decode cL_law 1742 = .ok (.iload 6, 2) := by decide +kernel
theorem dL_law_1744 : decode cL_law 1744 = .ok (.i2l, 1) := by decide +kernel
theorem dL_law_1745 : decode cL_law 1745 = .ok (.lcmp, 1) := by decide +kernel
theorem dL_law_1746 : decode cL_law 1746 = .ok (.ifCond .eq 5, 3) := by decide +kernel
theorem dL_law_1749 : decode cL_law 1749 = .ok (.iconst 0, 1) := by decide +kernel
theorem dL_law_1750 : decode cL_law 1750 = .ok (.ireturn, 1) := by decide +kernel
theorem dL_law_1751 : decode cL_law 1751 = .ok (.goto 71, 3) := by decide +kernel
theorem dL_law_1754 : decode cL_law 1754 = .ok (.aload_n 1, 1) := by decide +kernel
theorem dL_law_1755 : decode cL_law 1755 = .ok (.aload_n 0, 1) := by decide +kernel
theorem dL_law_1756 : decode cL_law 1756 = .ok (.iload 4, 2) := by decide +kernel
theorem dL_law_1758 : decode cL_law 1758 = .ok (.iconst 1, 1) := by decide +kernel
theorem dL_law_1759 : decode cL_law 1759 = .ok (.iadd, 1) := by decide +kernel
theorem dL_law_1760 : decode cL_law 1760 = .ok (.iaload, 1) := by decide +kernel
theorem dL_law_1761 : decode cL_law 1761 = .ok (.aload_n 0, 1) := by decide +kernel
theorem dL_law_1762 : decode cL_law 1762 = .ok (.iload 4, 2) := by decide +kernel
theorem dL_law_1764 : decode cL_law 1764 = .ok (.iconst 2, 1) := by decide +kernel
theorem dL_law_1765 : decode cL_law 1765 = .ok (.iadd, 1) := by decide +kernel
theorem dL_law_1766 : decode cL_law 1766 = .ok (.iaload, 1) := by decide +kernel
theorem dL_law_1767 : decode cL_law 1767 = .ok (.aload_n 3, 1) := by decide +kernel
theorem dL_law_1768 : decode cL_law 1768 = .ok (.invokestatic 170, 3) := by decide +kernel
theorem dL_law_1771 : decode cL_law 1771 = .ok (.istore 5, 2) := by decide +kernel
theorem dL_law_1773 : decode cL_law 1773 = .ok (.aload_n 2, 1) := by decide +kernel
theorem dL_law_1774 : decode cL_law 1774 = .ok (.aload_n 0, 1) := by decide +kernel
theorem dL_law_1775 : decode cL_law 1775 = .ok (.iload 4, 2) := by decide +kernel
theorem dL_law_1777 : decode cL_law 1777 = .ok (.iconst 1, 1) := by decide +kernel
theorem dL_law_1778 : decode cL_law 1778 = .ok (.iadd, 1) := by decide +kernel
theorem dL_law_1779 : decode cL_law 1779 = .ok (.iaload, 1) := by decide +kernel
theorem dL_law_1780 : decode cL_law 1780 = .ok (.aload_n 0, 1) := by decide +kernel
theorem dL_law_1781 : decode cL_law 1781 = .ok (.iload 4, 2) := by decide +kernel
theorem dL_law_1783 : decode cL_law 1783 = .ok (.iconst 2, 1) := by decide +kernel
theorem dL_law_1784 : decode cL_law 1784 = .ok (.iadd, 1) := by decide +kernel
theorem dL_law_1785 : decode cL_law 1785 = .ok (.iaload, 1) := by decide +kernel
theorem dL_law_1786 : decode cL_law 1786 = .ok (.invokevirtual 172, 3) := by decide +kernel
theorem dL_law_1789 : decode cL_law 1789 = .ok (.istore 6, 2) := by decide +kernel
theorem dL_law_1791 : decode cL_law 1791 = .ok (.aload_n 2, 1) := by decide +kernel
theorem dL_law_1792 : decode cL_law 1792 = .ok (.invokevirtual 96, 3) := by decide +kernel
theorem dL_law_1795 : decode cL_law 1795 = .ok (.iload 5, 2) := by decide +kernel
theorem dL_law_1797 : decode cL_law 1797 = .ok (.if_icmp .eq 5, 3) := by decide +kernel
theorem dL_law_1800 : decode cL_law 1800 = .ok (.iconst 0, 1) := by decide +kernel
theorem dL_law_1801 : decode cL_law 1801 = .ok (.ireturn, 1) := by decide +kernel
theorem dL_law_1802 : decode cL_law 1802 = .ok (.iload 5, 2) := by decide +kernel
theorem dL_law_1804 : decode cL_law 1804 = .ok (.ifCond .ne 15, 3) := by decide +kernel
theorem dL_law_1807 : decode cL_law 1807 = .ok (.aload_n 3, 1) := by decide +kernel
theorem dL_law_1808 : decode cL_law 1808 = .ok (.iconst 0, 1) := by decide +kernel
theorem dL_law_1809 : decode cL_law 1809 = .ok (.laload, 1) := by decide +kernel
theorem dL_law_1810 : decode cL_law 1810 = .ok (.iload 6, 2) := by decide +kernel
theorem dL_law_1812 : decode cL_law 1812 = .ok (.i2l, 1) := by decide +kernel
theorem dL_law_1813 : decode cL_law 1813 = .ok (.lcmp, 1) := by decide +kernel
theorem dL_law_1814 : decode cL_law 1814 = .ok (.ifCond .eq 5, 3) := by decide +kernel
theorem dL_law_1817 : decode cL_law 1817 = .ok (.iconst 0, 1) := by decide +kernel
theorem dL_law_1818 : decode cL_law 1818 = .ok (.ireturn, 1) := by decide +kernel
theorem dL_law_1819 : decode cL_law 1819 = .ok (.goto 3, 3) := by decide +kernel
theorem dL_law_1822 : decode cL_law 1822 = .ok (.iinc 4 7, 3) := by decide +kernel
theorem dL_law_1825 : decode cL_law 1825 = .ok (.goto (-1802), 3) := by decide +kernel
theorem dL_law_1828 : decode cL_law 1828 = .ok (.iconst 1, 1) := by decide +kernel
theorem dL_law_1829 : decode cL_law 1829 = .ok (.ireturn, 1) := by decide +kernel
end
section
/-! every word by its name; out of a program (wip/whole/gen_words.py) -/
abbrev BG : List Cond := wsL_law
theorem in_r1 : ∀ w ∈ wsL_law0_r1, w ∈ BG := fun _ h => List.mem_append_left _ (List.mem_append_left _ (List.mem_append_left _ (List.mem_append_left _ (List.mem_append_left _ (List.mem_append_left _ (List.mem_append_left _ (List.mem_append_left _ (List.mem_append_left _ (List.mem_append_left _ (List.mem_append_left _ (List.mem_append_left _ (List.mem_append_left _ (List.mem_append_left _ (List.mem_append_left _ h))))))))))))))
theorem in_r2 : ∀ w ∈ wsL_law0_r2, w ∈ BG := fun _ h => List.mem_append_left _ (List.mem_append_left _ (List.mem_append_left _ (List.mem_append_left _ (List.mem_append_left _ (List.mem_append_left _ (List.mem_append_left _ (List.mem_append_left _ (List.mem_append_left _ (List.mem_append_left _ (List.mem_append_left _ (List.mem_append_left _ (List.mem_append_left _ (List.mem_append_left _ (List.mem_append_right _ (List.mem_append_left _ h)))))))))))))))
theorem in_r3 : ∀ w ∈ wsL_law0_r3, w ∈ BG := fun _ h => List.mem_append_left _ (List.mem_append_left _ (List.mem_append_left _ (List.mem_append_left _ (List.mem_append_left _ (List.mem_append_left _ (List.mem_append_left _ (List.mem_append_left _ (List.mem_append_left _ (List.mem_append_left _ (List.mem_append_left _ (List.mem_append_left _ (List.mem_append_left _ (List.mem_append_left _ (List.mem_append_right _ (List.mem_append_right _ (List.mem_append_left _ h))))))))))))))))
theorem in_r4 : ∀ w ∈ wsL_law0_r4, w ∈ BG := fun _ h => List.mem_append_left _ (List.mem_append_left _ (List.mem_append_left _ (List.mem_append_left _ (List.mem_append_left _ (List.mem_append_left _ (List.mem_append_left _ (List.mem_append_left _ (List.mem_append_left _ (List.mem_append_left _ (List.mem_append_left _ (List.mem_append_left _ (List.mem_append_left _ (List.mem_append_left _ (List.mem_append_right _ (List.mem_append_right _ (List.mem_append_right _ (List.mem_append_left _ h)))))))))))))))))
theorem in_r5 : ∀ w ∈ wsL_law0_r5, w ∈ BG := fun _ h => List.mem_append_left _ (List.mem_append_left _ (List.mem_append_left _ (List.mem_append_left _ (List.mem_append_left _ (List.mem_append_left _ (List.mem_append_left _ (List.mem_append_left _ (List.mem_append_left _ (List.mem_append_left _ (List.mem_append_left _ (List.mem_append_left _ (List.mem_append_left _ (List.mem_append_left _ (List.mem_append_right _ (List.mem_append_right _ (List.mem_append_right _ (List.mem_append_right _ (List.mem_append_left _ h))))))))))))))))))
theorem in_r6 : ∀ w ∈ wsL_law0_r6, w ∈ BG := fun _ h => List.mem_append_left _ (List.mem_append_left _ (List.mem_append_left _ (List.mem_append_left _ (List.mem_append_left _ (List.mem_append_left _ (List.mem_append_left _ (List.mem_append_left _ (List.mem_append_left _ (List.mem_append_left _ (List.mem_append_left _ (List.mem_append_left _ (List.mem_append_left _ (List.mem_append_left _ (List.mem_append_right _ (List.mem_append_right _ (List.mem_append_right _ (List.mem_append_right _ (List.mem_append_right _ (List.mem_append_left _ h)))))))))))))))))))
theorem in_r7 : ∀ w ∈ wsL_law0_r7, w ∈ BG := fun _ h => List.mem_append_left _ (List.mem_append_left _ (List.mem_append_left _ (List.mem_append_left _ (List.mem_append_left _ (List.mem_append_left _ (List.mem_append_left _ (List.mem_append_left _ (List.mem_append_left _ (List.mem_append_left _ (List.mem_append_left _ (List.mem_append_left _ (List.mem_append_left _ (List.mem_append_left _ (List.mem_append_right _ (List.mem_append_right _ (List.mem_append_right _ (List.mem_append_right _ (List.mem_append_right _ (List.mem_append_right _ (List.mem_append_left _ h))))))))))))))))))))
theorem in_r8 : ∀ w ∈ wsL_law0_r8, w ∈ BG := fun _ h => List.mem_append_left _ (List.mem_append_left _ (List.mem_append_left _ (List.mem_append_left _ (List.mem_append_left _ (List.mem_append_left _ (List.mem_append_left _ (List.mem_append_left _ (List.mem_append_left _ (List.mem_append_left _ (List.mem_append_left _ (List.mem_append_left _ (List.mem_append_left _ (List.mem_append_left _ (List.mem_append_right _ (List.mem_append_right _ (List.mem_append_right _ (List.mem_append_right _ (List.mem_append_right _ (List.mem_append_right _ (List.mem_append_right _ (List.mem_append_left _ h)))))))))))))))))))))
theorem in_r9 : ∀ w ∈ wsL_law0_r9, w ∈ BG := fun _ h => List.mem_append_left _ (List.mem_append_left _ (List.mem_append_left _ (List.mem_append_left _ (List.mem_append_left _ (List.mem_append_left _ (List.mem_append_left _ (List.mem_append_left _ (List.mem_append_left _ (List.mem_append_left _ (List.mem_append_left _ (List.mem_append_left _ (List.mem_append_left _ (List.mem_append_left _ (List.mem_append_right _ (List.mem_append_right _ (List.mem_append_right _ (List.mem_append_right _ (List.mem_append_right _ (List.mem_append_right _ (List.mem_append_right _ (List.mem_append_right _ (List.mem_append_left _ h))))))))))))))))))))))
theorem in_r10 : ∀ w ∈ wsL_law0_r10, w ∈ BG := fun _ h => List.mem_append_left _ (List.mem_append_left _ (List.mem_append_left _ (List.mem_append_left _ (List.mem_append_left _ (List.mem_append_left _ (List.mem_append_left _ (List.mem_append_left _ (List.mem_append_left _ (List.mem_append_left _ (List.mem_append_left _ (List.mem_append_left _ (List.mem_append_left _ (List.mem_append_left _ (List.mem_append_right _ (List.mem_append_right _ (List.mem_append_right _ (List.mem_append_right _ (List.mem_append_right _ (List.mem_append_right _ (List.mem_append_right _ (List.mem_append_right _ (List.mem_append_right _ (List.mem_append_left _ h)))))))))))))))))))))))
theorem in_r11 : ∀ w ∈ wsL_law0_r11, w ∈ BG := fun _ h => List.mem_append_left _ (List.mem_append_left _ (List.mem_append_left _ (List.mem_append_left _ (List.mem_append_left _ (List.mem_append_left _ (List.mem_append_left _ (List.mem_append_left _ (List.mem_append_left _ (List.mem_append_left _ (List.mem_append_left _ (List.mem_append_left _ (List.mem_append_left _ (List.mem_append_left _ (List.mem_append_right _ (List.mem_append_right _ (List.mem_append_right _ (List.mem_append_right _ (List.mem_append_right _ (List.mem_append_right _ (List.mem_append_right _ (List.mem_append_right _ (List.mem_append_right _ (List.mem_append_right _ (List.mem_append_left _ h))))))))))))))))))))))))
theorem in_r12 : ∀ w ∈ wsL_law0_r12, w ∈ BG := fun _ h => List.mem_append_left _ (List.mem_append_left _ (List.mem_append_left _ (List.mem_append_left _ (List.mem_append_left _ (List.mem_append_left _ (List.mem_append_left _ (List.mem_append_left _ (List.mem_append_left _ (List.mem_append_left _ (List.mem_append_left _ (List.mem_append_left _ (List.mem_append_left _ (List.mem_append_left _ (List.mem_append_right _ (List.mem_append_right _ (List.mem_append_right _ (List.mem_append_right _ (List.mem_append_right _ (List.mem_append_right _ (List.mem_append_right _ (List.mem_append_right _ (List.mem_append_right _ (List.mem_append_right _ (List.mem_append_right _ (List.mem_append_left _ h)))))))))))))))))))))))))
theorem in_r13 : ∀ w ∈ wsL_law0_r13, w ∈ BG := fun _ h => List.mem_append_left _ (List.mem_append_left _ (List.mem_append_left _ (List.mem_append_left _ (List.mem_append_left _ (List.mem_append_left _ (List.mem_append_left _ (List.mem_append_left _ (List.mem_append_left _ (List.mem_append_left _ (List.mem_append_left _ (List.mem_append_left _ (List.mem_append_left _ (List.mem_append_left _ (List.mem_append_right _ (List.mem_append_right _ (List.mem_append_right _ (List.mem_append_right _ (List.mem_append_right _ (List.mem_append_right _ (List.mem_append_right _ (List.mem_append_right _ (List.mem_append_right _ (List.mem_append_right _ (List.mem_append_right _ (List.mem_append_right _ (List.mem_append_left _ h))))))))))))))))))))))))))
theorem in_r14 : ∀ w ∈ wsL_law0_r14, w ∈ BG := fun _ h => List.mem_append_left _ (List.mem_append_left _ (List.mem_append_left _ (List.mem_append_left _ (List.mem_append_left _ (List.mem_append_left _ (List.mem_append_left _ (List.mem_append_left _ (List.mem_append_left _ (List.mem_append_left _ (List.mem_append_left _ (List.mem_append_left _ (List.mem_append_left _ (List.mem_append_left _ (List.mem_append_right _ (List.mem_append_right _ (List.mem_append_right _ (List.mem_append_right _ (List.mem_append_right _ (List.mem_append_right _ (List.mem_append_right _ (List.mem_append_right _ (List.mem_append_right _ (List.mem_append_right _ (List.mem_append_right _ (List.mem_append_right _ (List.mem_append_right _ (List.mem_append_left _ h)))))))))))))))))))))))))))
theorem in_r15 : ∀ w ∈ wsL_law0_r15, w ∈ BG := fun _ h => List.mem_append_left _ (List.mem_append_left _ (List.mem_append_left _ (List.mem_append_left _ (List.mem_append_left _ (List.mem_append_left _ (List.mem_append_left _ (List.mem_append_left _ (List.mem_append_left _ (List.mem_append_left _ (List.mem_append_left _ (List.mem_append_left _ (List.mem_append_left _ (List.mem_append_left _ (List.mem_append_right _ (List.mem_append_right _ (List.mem_append_right _ (List.mem_append_right _ (List.mem_append_right _ (List.mem_append_right _ (List.mem_append_right _ (List.mem_append_right _ (List.mem_append_right _ (List.mem_append_right _ (List.mem_append_right _ (List.mem_append_right _ (List.mem_append_right _ (List.mem_append_right _ (List.mem_append_left _ h))))))))))))))))))))))))))))
theorem in_r16 : ∀ w ∈ wsL_law0_r16, w ∈ BG := fun _ h => List.mem_append_left _ (List.mem_append_left _ (List.mem_append_left _ (List.mem_append_left _ (List.mem_append_left _ (List.mem_append_left _ (List.mem_append_left _ (List.mem_append_left _ (List.mem_append_left _ (List.mem_append_left _ (List.mem_append_left _ (List.mem_append_left _ (List.mem_append_left _ (List.mem_append_left _ (List.mem_append_right _ (List.mem_append_right _ (List.mem_append_right _ (List.mem_append_right _ (List.mem_append_right _ (List.mem_append_right _ (List.mem_append_right _ (List.mem_append_right _ (List.mem_append_right _ (List.mem_append_right _ (List.mem_append_right _ (List.mem_append_right _ (List.mem_append_right _ (List.mem_append_right _ (List.mem_append_right _ (List.mem_append_left _ h)))))))))))))))))))))))))))))
theorem in_r17 : ∀ w ∈ wsL_law0_r17, w ∈ BG := fun _ h => List.mem_append_left _ (List.mem_append_left _ (List.mem_append_left _ (List.mem_append_left _ (List.mem_append_left _ (List.mem_append_left _ (List.mem_append_left _ (List.mem_append_left _ (List.mem_append_left _ (List.mem_append_left _ (List.mem_append_left _ (List.mem_append_left _ (List.mem_append_left _ (List.mem_append_left _ (List.mem_append_right _ (List.mem_append_right _ (List.mem_append_right _ (List.mem_append_right _ (List.mem_append_right _ (List.mem_append_right _ (List.mem_append_right _ (List.mem_append_right _ (List.mem_append_right _ (List.mem_append_right _ (List.mem_append_right _ (List.mem_append_right _ (List.mem_append_right _ (List.mem_append_right _ (List.mem_append_right _ (List.mem_append_right _ (List.mem_append_left _ h))))))))))))))))))))))))))))))
theorem in_r18 : ∀ w ∈ wsL_law0_r18, w ∈ BG := fun _ h => List.mem_append_left _ (List.mem_append_left _ (List.mem_append_left _ (List.mem_append_left _ (List.mem_append_left _ (List.mem_append_left _ (List.mem_append_left _ (List.mem_append_left _ (List.mem_append_left _ (List.mem_append_left _ (List.mem_append_left _ (List.mem_append_left _ (List.mem_append_left _ (List.mem_append_left _ (List.mem_append_right _ (List.mem_append_right _ (List.mem_append_right _ (List.mem_append_right _ (List.mem_append_right _ (List.mem_append_right _ (List.mem_append_right _ (List.mem_append_right _ (List.mem_append_right _ (List.mem_append_right _ (List.mem_append_right _ (List.mem_append_right _ (List.mem_append_right _ (List.mem_append_right _ (List.mem_append_right _ (List.mem_append_right _ (List.mem_append_right _ (List.mem_append_left _ h)))))))))))))))))))))))))))))))
theorem in_r19 : ∀ w ∈ wsL_law0_r19, w ∈ BG := fun _ h => List.mem_append_left _ (List.mem_append_left _ (List.mem_append_left _ (List.mem_append_left _ (List.mem_append_left _ (List.mem_append_left _ (List.mem_append_left _ (List.mem_append_left _ (List.mem_append_left _ (List.mem_append_left _ (List.mem_append_left _ (List.mem_append_left _ (List.mem_append_left _ (List.mem_append_left _ (List.mem_append_right _ (List.mem_append_right _ (List.mem_append_right _ (List.mem_append_right _ (List.mem_append_right _ (List.mem_append_right _ (List.mem_append_right _ (List.mem_append_right _ (List.mem_append_right _ (List.mem_append_right _ (List.mem_append_right _ (List.mem_append_right _ (List.mem_append_right _ (List.mem_append_right _ (List.mem_append_right _ (List.mem_append_right _ (List.mem_append_right _ (List.mem_append_right _ (List.mem_append_left _ h))))))))))))))))))))))))))))))))
theorem in_r20 : ∀ w ∈ wsL_law0_r20, w ∈ BG := fun _ h => List.mem_append_left _ (List.mem_append_left _ (List.mem_append_left _ (List.mem_append_left _ (List.mem_append_left _ (List.mem_append_left _ (List.mem_append_left _ (List.mem_append_left _ (List.mem_append_left _ (List.mem_append_left _ (List.mem_append_left _ (List.mem_append_left _ (List.mem_append_left _ (List.mem_append_left _ (List.mem_append_right _ (List.mem_append_right _ (List.mem_append_right _ (List.mem_append_right _ (List.mem_append_right _ (List.mem_append_right _ (List.mem_append_right _ (List.mem_append_right _ (List.mem_append_right _ (List.mem_append_right _ (List.mem_append_right _ (List.mem_append_right _ (List.mem_append_right _ (List.mem_append_right _ (List.mem_append_right _ (List.mem_append_right _ (List.mem_append_right _ (List.mem_append_right _ (List.mem_append_right _ (List.mem_append_left _ h)))))))))))))))))))))))))))))))))
theorem in_r21 : ∀ w ∈ wsL_law0_r21, w ∈ BG := fun _ h => List.mem_append_left _ (List.mem_append_left _ (List.mem_append_left _ (List.mem_append_left _ (List.mem_append_left _ (List.mem_append_left _ (List.mem_append_left _ (List.mem_append_left _ (List.mem_append_left _ (List.mem_append_left _ (List.mem_append_left _ (List.mem_append_left _ (List.mem_append_left _ (List.mem_append_left _ (List.mem_append_right _ (List.mem_append_right _ (List.mem_append_right _ (List.mem_append_right _ (List.mem_append_right _ (List.mem_append_right _ (List.mem_append_right _ (List.mem_append_right _ (List.mem_append_right _ (List.mem_append_right _ (List.mem_append_right _ (List.mem_append_right _ (List.mem_append_right _ (List.mem_append_right _ (List.mem_append_right _ (List.mem_append_right _ (List.mem_append_right _ (List.mem_append_right _ (List.mem_append_right _ (List.mem_append_right _ (List.mem_append_left _ h))))))))))))))))))))))))))))))))))
theorem in_r22 : ∀ w ∈ wsL_law0_r22, w ∈ BG := fun _ h => List.mem_append_left _ (List.mem_append_left _ (List.mem_append_left _ (List.mem_append_left _ (List.mem_append_left _ (List.mem_append_left _ (List.mem_append_left _ (List.mem_append_left _ (List.mem_append_left _ (List.mem_append_left _ (List.mem_append_left _ (List.mem_append_left _ (List.mem_append_left _ (List.mem_append_left _ (List.mem_append_right _ (List.mem_append_right _ (List.mem_append_right _ (List.mem_append_right _ (List.mem_append_right _ (List.mem_append_right _ (List.mem_append_right _ (List.mem_append_right _ (List.mem_append_right _ (List.mem_append_right _ (List.mem_append_right _ (List.mem_append_right _ (List.mem_append_right _ (List.mem_append_right _ (List.mem_append_right _ (List.mem_append_right _ (List.mem_append_right _ (List.mem_append_right _ (List.mem_append_right _ (List.mem_append_right _ (List.mem_append_right _ (List.mem_append_left _ h)))))))))))))))))))))))))))))))))))
theorem in_r23 : ∀ w ∈ wsL_law0_r23, w ∈ BG := fun _ h => List.mem_append_left _ (List.mem_append_left _ (List.mem_append_left _ (List.mem_append_left _ (List.mem_append_left _ (List.mem_append_left _ (List.mem_append_left _ (List.mem_append_left _ (List.mem_append_left _ (List.mem_append_left _ (List.mem_append_left _ (List.mem_append_left _ (List.mem_append_left _ (List.mem_append_left _ (List.mem_append_right _ (List.mem_append_right _ (List.mem_append_right _ (List.mem_append_right _ (List.mem_append_right _ (List.mem_append_right _ (List.mem_append_right _ (List.mem_append_right _ (List.mem_append_right _ (List.mem_append_right _ (List.mem_append_right _ (List.mem_append_right _ (List.mem_append_right _ (List.mem_append_right _ (List.mem_append_right _ (List.mem_append_right _ (List.mem_append_right _ (List.mem_append_right _ (List.mem_append_right _ (List.mem_append_right _ (List.mem_append_right _ (List.mem_append_right _ (List.mem_append_left _ h))))))))))))))))))))))))))))))))))))
theorem in_r24 : ∀ w ∈ wsL_law0_r24, w ∈ BG := fun _ h => List.mem_append_left _ (List.mem_append_left _ (List.mem_append_left _ (List.mem_append_left _ (List.mem_append_left _ (List.mem_append_left _ (List.mem_append_left _ (List.mem_append_left _ (List.mem_append_left _ (List.mem_append_left _ (List.mem_append_left _ (List.mem_append_left _ (List.mem_append_left _ (List.mem_append_left _ (List.mem_append_right _ (List.mem_append_right _ (List.mem_append_right _ (List.mem_append_right _ (List.mem_append_right _ (List.mem_append_right _ (List.mem_append_right _ (List.mem_append_right _ (List.mem_append_right _ (List.mem_append_right _ (List.mem_append_right _ (List.mem_append_right _ (List.mem_append_right _ (List.mem_append_right _ (List.mem_append_right _ (List.mem_append_right _ (List.mem_append_right _ (List.mem_append_right _ (List.mem_append_right _ (List.mem_append_right _ (List.mem_append_right _ (List.mem_append_right _ (List.mem_append_right _ (List.mem_append_left _ h)))))))))))))))))))))))))))))))))))))
theorem in_r25 : ∀ w ∈ wsL_law0_r25, w ∈ BG := fun _ h => List.mem_append_left _ (List.mem_append_left _ (List.mem_append_left _ (List.mem_append_left _ (List.mem_append_left _ (List.mem_append_left _ (List.mem_append_left _ (List.mem_append_left _ (List.mem_append_left _ (List.mem_append_left _ (List.mem_append_left _ (List.mem_append_left _ (List.mem_append_left _ (List.mem_append_left _ (List.mem_append_right _ (List.mem_append_right _ (List.mem_append_right _ (List.mem_append_right _ (List.mem_append_right _ (List.mem_append_right _ (List.mem_append_right _ (List.mem_append_right _ (List.mem_append_right _ (List.mem_append_right _ (List.mem_append_right _ (List.mem_append_right _ (List.mem_append_right _ (List.mem_append_right _ (List.mem_append_right _ (List.mem_append_right _ (List.mem_append_right _ (List.mem_append_right _ (List.mem_append_right _ (List.mem_append_right _ (List.mem_append_right _ (List.mem_append_right _ (List.mem_append_right _ (List.mem_append_right _ (List.mem_append_left _ h))))))))))))))))))))))))))))))))))))))
theorem in_r26 : ∀ w ∈ wsL_law0_r26, w ∈ BG := fun _ h => List.mem_append_left _ (List.mem_append_left _ (List.mem_append_left _ (List.mem_append_left _ (List.mem_append_left _ (List.mem_append_left _ (List.mem_append_left _ (List.mem_append_left _ (List.mem_append_left _ (List.mem_append_left _ (List.mem_append_left _ (List.mem_append_left _ (List.mem_append_left _ (List.mem_append_left _ (List.mem_append_right _ (List.mem_append_right _ (List.mem_append_right _ (List.mem_append_right _ (List.mem_append_right _ (List.mem_append_right _ (List.mem_append_right _ (List.mem_append_right _ (List.mem_append_right _ (List.mem_append_right _ (List.mem_append_right _ (List.mem_append_right _ (List.mem_append_right _ (List.mem_append_right _ (List.mem_append_right _ (List.mem_append_right _ (List.mem_append_right _ (List.mem_append_right _ (List.mem_append_right _ (List.mem_append_right _ (List.mem_append_right _ (List.mem_append_right _ (List.mem_append_right _ (List.mem_append_right _ (List.mem_append_right _ (List.mem_append_left _ h)))))))))))))))))))))))))))))))))))))))
theorem in_r27 : ∀ w ∈ wsL_law0_r27, w ∈ BG := fun _ h => List.mem_append_left _ (List.mem_append_left _ (List.mem_append_left _ (List.mem_append_left _ (List.mem_append_left _ (List.mem_append_left _ (List.mem_append_left _ (List.mem_append_left _ (List.mem_append_left _ (List.mem_append_left _ (List.mem_append_left _ (List.mem_append_left _ (List.mem_append_left _ (List.mem_append_left _ (List.mem_append_right _ (List.mem_append_right _ (List.mem_append_right _ (List.mem_append_right _ (List.mem_append_right _ (List.mem_append_right _ (List.mem_append_right _ (List.mem_append_right _ (List.mem_append_right _ (List.mem_append_right _ (List.mem_append_right _ (List.mem_append_right _ (List.mem_append_right _ (List.mem_append_right _ (List.mem_append_right _ (List.mem_append_right _ (List.mem_append_right _ (List.mem_append_right _ (List.mem_append_right _ (List.mem_append_right _ (List.mem_append_right _ (List.mem_append_right _ (List.mem_append_right _ (List.mem_append_right _ (List.mem_append_right _ (List.mem_append_right _ (List.mem_append_left _ h))))))))))))))))))))))))))))))))))))))))
theorem in_r28 : ∀ w ∈ wsL_law0_r28, w ∈ BG := fun _ h => List.mem_append_left _ (List.mem_append_left _ (List.mem_append_left _ (List.mem_append_left _ (List.mem_append_left _ (List.mem_append_left _ (List.mem_append_left _ (List.mem_append_left _ (List.mem_append_left _ (List.mem_append_left _ (List.mem_append_left _ (List.mem_append_left _ (List.mem_append_left _ (List.mem_append_left _ (List.mem_append_right _ (List.mem_append_right _ (List.mem_append_right _ (List.mem_append_right _ (List.mem_append_right _ (List.mem_append_right _ (List.mem_append_right _ (List.mem_append_right _ (List.mem_append_right _ (List.mem_append_right _ (List.mem_append_right _ (List.mem_append_right _ (List.mem_append_right _ (List.mem_append_right _ (List.mem_append_right _ (List.mem_append_right _ (List.mem_append_right _ (List.mem_append_right _ (List.mem_append_right _ (List.mem_append_right _ (List.mem_append_right _ (List.mem_append_right _ (List.mem_append_right _ (List.mem_append_right _ (List.mem_append_right _ (List.mem_append_right _ (List.mem_append_right _ (List.mem_append_left _ h)))))))))))))))))))))))))))))))))))))))))
theorem in_r29 : ∀ w ∈ wsL_law0_r29, w ∈ BG := fun _ h => List.mem_append_left _ (List.mem_append_left _ (List.mem_append_left _ (List.mem_append_left _ (List.mem_append_left _ (List.mem_append_left _ (List.mem_append_left _ (List.mem_append_left _ (List.mem_append_left _ (List.mem_append_left _ (List.mem_append_left _ (List.mem_append_left _ (List.mem_append_left _ (List.mem_append_left _ (List.mem_append_right _ (List.mem_append_right _ (List.mem_append_right _ (List.mem_append_right _ (List.mem_append_right _ (List.mem_append_right _ (List.mem_append_right _ (List.mem_append_right _ (List.mem_append_right _ (List.mem_append_right _ (List.mem_append_right _ (List.mem_append_right _ (List.mem_append_right _ (List.mem_append_right _ (List.mem_append_right _ (List.mem_append_right _ (List.mem_append_right _ (List.mem_append_right _ (List.mem_append_right _ (List.mem_append_right _ (List.mem_append_right _ (List.mem_append_right _ (List.mem_append_right _ (List.mem_append_right _ (List.mem_append_right _ (List.mem_append_right _ (List.mem_append_right _ (List.mem_append_right _ (List.mem_append_left _ h))))))))))))))))))))))))))))))))))))))))))
theorem in_r30 : ∀ w ∈ wsL_law0_r30, w ∈ BG := fun _ h => List.mem_append_left _ (List.mem_append_left _ (List.mem_append_left _ (List.mem_append_left _ (List.mem_append_left _ (List.mem_append_left _ (List.mem_append_left _ (List.mem_append_left _ (List.mem_append_left _ (List.mem_append_left _ (List.mem_append_left _ (List.mem_append_left _ (List.mem_append_left _ (List.mem_append_left _ (List.mem_append_right _ (List.mem_append_right _ (List.mem_append_right _ (List.mem_append_right _ (List.mem_append_right _ (List.mem_append_right _ (List.mem_append_right _ (List.mem_append_right _ (List.mem_append_right _ (List.mem_append_right _ (List.mem_append_right _ (List.mem_append_right _ (List.mem_append_right _ (List.mem_append_right _ (List.mem_append_right _ (List.mem_append_right _ (List.mem_append_right _ (List.mem_append_right _ (List.mem_append_right _ (List.mem_append_right _ (List.mem_append_right _ (List.mem_append_right _ (List.mem_append_right _ (List.mem_append_right _ (List.mem_append_right _ (List.mem_append_right _ (List.mem_append_right _ (List.mem_append_right _ (List.mem_append_right _ (List.mem_append_left _ h)))))))))))))))))))))))))))))))))))))))))))
theorem in_r31 : ∀ w ∈ wsL_law0_r31, w ∈ BG := fun _ h => List.mem_append_left _ (List.mem_append_left _ (List.mem_append_left _ (List.mem_append_left _ (List.mem_append_left _ (List.mem_append_left _ (List.mem_append_left _ (List.mem_append_left _ (List.mem_append_left _ (List.mem_append_left _ (List.mem_append_left _ (List.mem_append_left _ (List.mem_append_left _ (List.mem_append_left _ (List.mem_append_right _ (List.mem_append_right _ (List.mem_append_right _ (List.mem_append_right _ (List.mem_append_right _ (List.mem_append_right _ (List.mem_append_right _ (List.mem_append_right _ (List.mem_append_right _ (List.mem_append_right _ (List.mem_append_right _ (List.mem_append_right _ (List.mem_append_right _ (List.mem_append_right _ (List.mem_append_right _ (List.mem_append_right _ (List.mem_append_right _ (List.mem_append_right _ (List.mem_append_right _ (List.mem_append_right _ (List.mem_append_right _ (List.mem_append_right _ (List.mem_append_right _ (List.mem_append_right _ (List.mem_append_right _ (List.mem_append_right _ (List.mem_append_right _ (List.mem_append_right _ (List.mem_append_right _ (List.mem_append_right _ (List.mem_append_left _ h))))))))))))))))))))))))))))))))))))))))))))
theorem in_r32 : ∀ w ∈ wsL_law0_r32, w ∈ BG := fun _ h => List.mem_append_left _ (List.mem_append_left _ (List.mem_append_left _ (List.mem_append_left _ (List.mem_append_left _ (List.mem_append_left _ (List.mem_append_left _ (List.mem_append_left _ (List.mem_append_left _ (List.mem_append_left _ (List.mem_append_left _ (List.mem_append_left _ (List.mem_append_left _ (List.mem_append_left _ (List.mem_append_right _ (List.mem_append_right _ (List.mem_append_right _ (List.mem_append_right _ (List.mem_append_right _ (List.mem_append_right _ (List.mem_append_right _ (List.mem_append_right _ (List.mem_append_right _ (List.mem_append_right _ (List.mem_append_right _ (List.mem_append_right _ (List.mem_append_right _ (List.mem_append_right _ (List.mem_append_right _ (List.mem_append_right _ (List.mem_append_right _ (List.mem_append_right _ (List.mem_append_right _ (List.mem_append_right _ (List.mem_append_right _ (List.mem_append_right _ (List.mem_append_right _ (List.mem_append_right _ (List.mem_append_right _ (List.mem_append_right _ (List.mem_append_right _ (List.mem_append_right _ (List.mem_append_right _ (List.mem_append_right _ (List.mem_append_right _ (List.mem_append_left _ h)))))))))))))))))))))))))))))))))))))))))))))
theorem in_r33 : ∀ w ∈ wsL_law0_r33, w ∈ BG := fun _ h => List.mem_append_left _ (List.mem_append_left _ (List.mem_append_left _ (List.mem_append_left _ (List.mem_append_left _ (List.mem_append_left _ (List.mem_append_left _ (List.mem_append_left _ (List.mem_append_left _ (List.mem_append_left _ (List.mem_append_left _ (List.mem_append_left _ (List.mem_append_left _ (List.mem_append_left _ (List.mem_append_right _ (List.mem_append_right _ (List.mem_append_right _ (List.mem_append_right _ (List.mem_append_right _ (List.mem_append_right _ (List.mem_append_right _ (List.mem_append_right _ (List.mem_append_right _ (List.mem_append_right _ (List.mem_append_right _ (List.mem_append_right _ (List.mem_append_right _ (List.mem_append_right _ (List.mem_append_right _ (List.mem_append_right _ (List.mem_append_right _ (List.mem_append_right _ (List.mem_append_right _ (List.mem_append_right _ (List.mem_append_right _ (List.mem_append_right _ (List.mem_append_right _ (List.mem_append_right _ (List.mem_append_right _ (List.mem_append_right _ (List.mem_append_right _ (List.mem_append_right _ (List.mem_append_right _ (List.mem_append_right _ (List.mem_append_right _ (List.mem_append_right _ (h))))))))))))))))))))))))))))))))))))))))))))))
theorem bw_1_0 : Cond.classLink RL 8 RX8 ∈ BG := in_r1 _ (List.mem_of_getElem? (i := 0) rfl)
theorem bw_1_1 : Cond.instantiable RX8 12 ∈ BG := in_r1 _ (List.mem_of_getElem? (i := 1) rfl)
theorem bw_1_2 : Cond.initialized RX8 ∈ BG := in_r1 _ (List.mem_of_getElem? (i := 2) rfl)
theorem bw_1_3 : Cond.classLink RL 87 RX9 ∈ BG := in_r1 _ (List.mem_of_getElem? (i := 3) rfl)
theorem bw_1_4 : Cond.instantiable RX9 45 ∈ BG := in_r1 _ (List.mem_of_getElem? (i := 4) rfl)
theorem bw_1_5 : Cond.initialized RX9 ∈ BG := in_r1 _ (List.mem_of_getElem? (i := 5) rfl)
theorem bw_1_6 : Cond.arrayClass .long ∈ BG := in_r1 _ (List.mem_of_getElem? (i := 6) rfl)
theorem bw_1_7 : Cond.methodLink RL 86 yX8_init ∈ BG := in_r1 _ (List.mem_of_getElem? (i := 7) rfl)
theorem bw_1_8 : Cond.instanceMethod yX8_init ∈ BG := in_r1 _ (List.mem_of_getElem? (i := 8) rfl)
theorem bw_1_9 : Cond.code yX8_init cX8_init 2 none ∈ BG := in_r1 _ (List.mem_of_getElem? (i := 9) rfl)
theorem bw_1_10 : Cond.methodLink RX8 3 objectInit ∈ BG := in_r1 _ (List.mem_of_getElem? (i := 10) rfl)
theorem bw_1_11 : Cond.instanceMethod objectInit ∈ BG := in_r1 _ (List.mem_of_getElem? (i := 11) rfl)
theorem bw_1_12 : Cond.code objectInit ⟨#[0xb1]⟩ 1 none ∈ BG := in_r1 _ (List.mem_of_getElem? (i := 12) rfl)
theorem bw_1_13 : Cond.classLink RX8 9 RX2 ∈ BG := in_r1 _ (List.mem_of_getElem? (i := 13) rfl)
theorem bw_1_14 : Cond.instantiable RX2 3 ∈ BG := in_r1 _ (List.mem_of_getElem? (i := 14) rfl)
theorem bw_1_15 : Cond.initialized RX2 ∈ BG := in_r1 _ (List.mem_of_getElem? (i := 15) rfl)
theorem bw_1_16 : Cond.fieldLink RX8 12 "PressbrakeLane" "pad" "LPressbrakeLane$Drawing;" ∈ BG := in_r1 _ (List.mem_of_getElem? (i := 16) rfl)
theorem bw_1_17 : Cond.classLink RX8 16 RX4 ∈ BG := in_r1 _ (List.mem_of_getElem? (i := 17) rfl)
theorem bw_1_18 : Cond.fieldLink RX8 18 "PressbrakeLane" "parts" "[LPressbrakeLane$Part;" ∈ BG := in_r1 _ (List.mem_of_getElem? (i := 18) rfl)
theorem bw_1_19 : Cond.classLink RX8 22 RX6 ∈ BG := in_r1 _ (List.mem_of_getElem? (i := 19) rfl)
theorem bw_1_20 : Cond.fieldLink RX8 24 "PressbrakeLane" "tools" "[LPressbrakeLane$Tool;" ∈ BG := in_r1 _ (List.mem_of_getElem? (i := 20) rfl)
theorem bw_1_21 : Cond.arrayClass .int ∈ BG := in_r1 _ (List.mem_of_getElem? (i := 21) rfl)
theorem bw_1_22 : Cond.fieldLink RX8 28 "PressbrakeLane" "lot" "[I" ∈ BG := in_r1 _ (List.mem_of_getElem? (i := 22) rfl)
theorem bw_1_23 : Cond.classLink RX8 32 RX0 ∈ BG := in_r1 _ (List.mem_of_getElem? (i := 23) rfl)
theorem bw_2_0 : Cond.fieldLink RX8 34 "PressbrakeLane" "batches" "[LPressbrakeLane$Batch;" ∈ BG := in_r2 _ (List.mem_of_getElem? (i := 0) rfl)
theorem bw_2_1 : Cond.classLink RX8 38 RX1 ∈ BG := in_r2 _ (List.mem_of_getElem? (i := 1) rfl)
theorem bw_2_2 : Cond.instantiable RX1 2 ∈ BG := in_r2 _ (List.mem_of_getElem? (i := 2) rfl)
theorem bw_2_3 : Cond.initialized RX1 ∈ BG := in_r2 _ (List.mem_of_getElem? (i := 3) rfl)
theorem bw_2_4 : Cond.fieldLink RX8 41 "PressbrakeLane" "brake" "LPressbrakeLane$Brake;" ∈ BG := in_r2 _ (List.mem_of_getElem? (i := 4) rfl)
theorem bw_2_5 : Cond.classLink RX8 45 RX5 ∈ BG := in_r2 _ (List.mem_of_getElem? (i := 5) rfl)
theorem bw_2_6 : Cond.instantiable RX5 7 ∈ BG := in_r2 _ (List.mem_of_getElem? (i := 6) rfl)
theorem bw_2_7 : Cond.initialized RX5 ∈ BG := in_r2 _ (List.mem_of_getElem? (i := 7) rfl)
theorem bw_2_8 : Cond.fieldLink RX8 48 "PressbrakeLane" "planner" "LPressbrakeLane$Planner;" ∈ BG := in_r2 _ (List.mem_of_getElem? (i := 8) rfl)
theorem bw_2_9 : Cond.classLink RX8 52 RX3 ∈ BG := in_r2 _ (List.mem_of_getElem? (i := 9) rfl)
theorem bw_2_10 : Cond.instantiable RX3 15 ∈ BG := in_r2 _ (List.mem_of_getElem? (i := 10) rfl)
theorem bw_2_11 : Cond.initialized RX3 ∈ BG := in_r2 _ (List.mem_of_getElem? (i := 11) rfl)
theorem bw_2_12 : Cond.fieldLink RX8 55 "PressbrakeLane" "nester" "LPressbrakeLane$Nester;" ∈ BG := in_r2 _ (List.mem_of_getElem? (i := 12) rfl)
theorem bw_2_13 : Cond.instantiable RX4 8 ∈ BG := in_r2 _ (List.mem_of_getElem? (i := 13) rfl)
theorem bw_2_14 : Cond.initialized RX4 ∈ BG := in_r2 _ (List.mem_of_getElem? (i := 14) rfl)
theorem bw_2_15 : Cond.instantiable RX6 6 ∈ BG := in_r2 _ (List.mem_of_getElem? (i := 15) rfl)
theorem bw_2_16 : Cond.initialized RX6 ∈ BG := in_r2 _ (List.mem_of_getElem? (i := 16) rfl)
theorem bw_2_17 : Cond.instantiable RX0 6 ∈ BG := in_r2 _ (List.mem_of_getElem? (i := 17) rfl)
theorem bw_2_18 : Cond.initialized RX0 ∈ BG := in_r2 _ (List.mem_of_getElem? (i := 18) rfl)
theorem bw_2_19 : Cond.instanceMethod yX2_init ∈ BG := in_r2 _ (List.mem_of_getElem? (i := 19) rfl)
theorem bw_2_20 : Cond.code yX2_init cX2_init 1 none ∈ BG := in_r2 _ (List.mem_of_getElem? (i := 20) rfl)
theorem bw_2_21 : Cond.methodLink RX2 3 objectInit ∈ BG := in_r2 _ (List.mem_of_getElem? (i := 21) rfl)
theorem bw_2_22 : Cond.fieldLink RX2 9 "PressbrakeLane$Drawing" "lengths" "[I" ∈ BG := in_r2 _ (List.mem_of_getElem? (i := 22) rfl)
theorem bw_2_23 : Cond.fieldLink RX2 15 "PressbrakeLane$Drawing" "directions" "[I" ∈ BG := in_r2 _ (List.mem_of_getElem? (i := 23) rfl)
theorem bw_3_0 : Cond.instanceMethod yX1_init ∈ BG := in_r3 _ (List.mem_of_getElem? (i := 0) rfl)
theorem bw_3_1 : Cond.code yX1_init cX1_init 1 none ∈ BG := in_r3 _ (List.mem_of_getElem? (i := 1) rfl)
theorem bw_3_2 : Cond.methodLink RX1 3 objectInit ∈ BG := in_r3 _ (List.mem_of_getElem? (i := 2) rfl)
theorem bw_3_3 : Cond.classLink RX1 9 RX7 ∈ BG := in_r3 _ (List.mem_of_getElem? (i := 3) rfl)
theorem bw_3_4 : Cond.instantiable RX7 4 ∈ BG := in_r3 _ (List.mem_of_getElem? (i := 4) rfl)
theorem bw_3_5 : Cond.initialized RX7 ∈ BG := in_r3 _ (List.mem_of_getElem? (i := 5) rfl)
theorem bw_3_6 : Cond.fieldLink RX1 12 "PressbrakeLane$Brake" "right" "LPressbrakeLane$Wing;" ∈ BG := in_r3 _ (List.mem_of_getElem? (i := 6) rfl)
theorem bw_3_7 : Cond.fieldLink RX1 18 "PressbrakeLane$Brake" "left" "LPressbrakeLane$Wing;" ∈ BG := in_r3 _ (List.mem_of_getElem? (i := 7) rfl)
theorem bw_3_8 : Cond.instanceMethod yX7_init ∈ BG := in_r3 _ (List.mem_of_getElem? (i := 8) rfl)
theorem bw_3_9 : Cond.code yX7_init cX7_init 1 none ∈ BG := in_r3 _ (List.mem_of_getElem? (i := 9) rfl)
theorem bw_3_10 : Cond.methodLink RX7 3 objectInit ∈ BG := in_r3 _ (List.mem_of_getElem? (i := 10) rfl)
theorem bw_3_11 : Cond.fieldLink RX7 9 "PressbrakeLane$Wing" "us" "[I" ∈ BG := in_r3 _ (List.mem_of_getElem? (i := 11) rfl)
theorem bw_3_12 : Cond.fieldLink RX7 15 "PressbrakeLane$Wing" "vs" "[I" ∈ BG := in_r3 _ (List.mem_of_getElem? (i := 12) rfl)
theorem bw_3_13 : Cond.instanceMethod yX5_init ∈ BG := in_r3 _ (List.mem_of_getElem? (i := 13) rfl)
theorem bw_3_14 : Cond.code yX5_init cX5_init 1 none ∈ BG := in_r3 _ (List.mem_of_getElem? (i := 14) rfl)
theorem bw_3_15 : Cond.methodLink RX5 3 objectInit ∈ BG := in_r3 _ (List.mem_of_getElem? (i := 15) rfl)
theorem bw_3_16 : Cond.fieldLink RX5 9 "PressbrakeLane$Planner" "possible" "[I" ∈ BG := in_r3 _ (List.mem_of_getElem? (i := 16) rfl)
theorem bw_3_17 : Cond.fieldLink RX5 15 "PressbrakeLane$Planner" "fewest" "[I" ∈ BG := in_r3 _ (List.mem_of_getElem? (i := 17) rfl)
theorem bw_3_18 : Cond.fieldLink RX5 18 "PressbrakeLane$Planner" "directions" "[I" ∈ BG := in_r3 _ (List.mem_of_getElem? (i := 18) rfl)
theorem bw_3_19 : Cond.fieldLink RX5 21 "PressbrakeLane$Planner" "places" "[I" ∈ BG := in_r3 _ (List.mem_of_getElem? (i := 19) rfl)
theorem bw_3_20 : Cond.instanceMethod yX3_init ∈ BG := in_r3 _ (List.mem_of_getElem? (i := 20) rfl)
theorem bw_3_21 : Cond.code yX3_init cX3_init 1 none ∈ BG := in_r3 _ (List.mem_of_getElem? (i := 21) rfl)
theorem bw_3_22 : Cond.methodLink RX3 3 objectInit ∈ BG := in_r3 _ (List.mem_of_getElem? (i := 22) rfl)
theorem bw_3_23 : Cond.fieldLink RX3 9 "PressbrakeLane$Nester" "longSides" "[I" ∈ BG := in_r3 _ (List.mem_of_getElem? (i := 23) rfl)
theorem bw_4_0 : Cond.fieldLink RX3 15 "PressbrakeLane$Nester" "shortSides" "[I" ∈ BG := in_r4 _ (List.mem_of_getElem? (i := 0) rfl)
theorem bw_4_1 : Cond.fieldLink RX3 18 "PressbrakeLane$Nester" "amounts" "[I" ∈ BG := in_r4 _ (List.mem_of_getElem? (i := 1) rfl)
theorem bw_4_2 : Cond.fieldLink RX3 21 "PressbrakeLane$Nester" "rowSheets" "[I" ∈ BG := in_r4 _ (List.mem_of_getElem? (i := 2) rfl)
theorem bw_4_3 : Cond.fieldLink RX3 24 "PressbrakeLane$Nester" "rowHeights" "[I" ∈ BG := in_r4 _ (List.mem_of_getElem? (i := 3) rfl)
theorem bw_4_4 : Cond.fieldLink RX3 27 "PressbrakeLane$Nester" "rowLefts" "[I" ∈ BG := in_r4 _ (List.mem_of_getElem? (i := 4) rfl)
theorem bw_4_5 : Cond.fieldLink RX3 30 "PressbrakeLane$Nester" "rowEnds" "[I" ∈ BG := in_r4 _ (List.mem_of_getElem? (i := 5) rfl)
theorem bw_4_6 : Cond.fieldLink RX3 33 "PressbrakeLane$Nester" "sheetLefts" "[I" ∈ BG := in_r4 _ (List.mem_of_getElem? (i := 6) rfl)
theorem bw_4_7 : Cond.instanceMethod yX4_init ∈ BG := in_r4 _ (List.mem_of_getElem? (i := 7) rfl)
theorem bw_4_8 : Cond.code yX4_init cX4_init 1 none ∈ BG := in_r4 _ (List.mem_of_getElem? (i := 8) rfl)
theorem bw_4_9 : Cond.methodLink RX4 3 objectInit ∈ BG := in_r4 _ (List.mem_of_getElem? (i := 9) rfl)
theorem bw_4_10 : Cond.classLink RX4 9 RX2 ∈ BG := in_r4 _ (List.mem_of_getElem? (i := 10) rfl)
theorem bw_4_11 : Cond.fieldLink RX4 12 "PressbrakeLane$Part" "drawing" "LPressbrakeLane$Drawing;" ∈ BG := in_r4 _ (List.mem_of_getElem? (i := 11) rfl)
theorem bw_4_12 : Cond.fieldLink RX4 18 "PressbrakeLane$Part" "holeFaces" "[I" ∈ BG := in_r4 _ (List.mem_of_getElem? (i := 12) rfl)
theorem bw_4_13 : Cond.fieldLink RX4 22 "PressbrakeLane$Part" "holeAts" "[I" ∈ BG := in_r4 _ (List.mem_of_getElem? (i := 13) rfl)
theorem bw_4_14 : Cond.fieldLink RX4 25 "PressbrakeLane$Part" "holeDiameters" "[I" ∈ BG := in_r4 _ (List.mem_of_getElem? (i := 14) rfl)
theorem bw_4_15 : Cond.methodLink RX8 60 yX6_init ∈ BG := in_r4 _ (List.mem_of_getElem? (i := 15) rfl)
theorem bw_4_16 : Cond.instanceMethod yX6_init ∈ BG := in_r4 _ (List.mem_of_getElem? (i := 16) rfl)
theorem bw_4_17 : Cond.code yX6_init cX6_init 2 none ∈ BG := in_r4 _ (List.mem_of_getElem? (i := 17) rfl)
theorem bw_4_18 : Cond.methodLink RX6 3 objectInit ∈ BG := in_r4 _ (List.mem_of_getElem? (i := 18) rfl)
theorem bw_4_19 : Cond.fieldLink RX6 9 "PressbrakeLane$Tool" "deductions" "[I" ∈ BG := in_r4 _ (List.mem_of_getElem? (i := 19) rfl)
theorem bw_4_20 : Cond.instanceMethod yX0_init ∈ BG := in_r4 _ (List.mem_of_getElem? (i := 20) rfl)
theorem bw_4_21 : Cond.code yX0_init cX0_init 1 none ∈ BG := in_r4 _ (List.mem_of_getElem? (i := 21) rfl)
theorem bw_4_22 : Cond.methodLink RX0 1 objectInit ∈ BG := in_r4 _ (List.mem_of_getElem? (i := 22) rfl)
theorem bw_4_23 : Cond.methodLink RL 89 yX9_init ∈ BG := in_r4 _ (List.mem_of_getElem? (i := 23) rfl)
theorem bw_5_0 : Cond.instanceMethod yX9_init ∈ BG := in_r5 _ (List.mem_of_getElem? (i := 0) rfl)
theorem bw_5_1 : Cond.code yX9_init cX9_init 1 none ∈ BG := in_r5 _ (List.mem_of_getElem? (i := 1) rfl)
theorem bw_5_2 : Cond.methodLink RX9 1 objectInit ∈ BG := in_r5 _ (List.mem_of_getElem? (i := 2) rfl)
theorem bw_5_3 : Cond.fieldLink RX9 7 "PressbrakeLaneModel" "padLength" "[I" ∈ BG := in_r5 _ (List.mem_of_getElem? (i := 3) rfl)
theorem bw_5_4 : Cond.fieldLink RX9 13 "PressbrakeLaneModel" "padBend" "[I" ∈ BG := in_r5 _ (List.mem_of_getElem? (i := 4) rfl)
theorem bw_5_5 : Cond.fieldLink RX9 16 "PressbrakeLaneModel" "faces" "[I" ∈ BG := in_r5 _ (List.mem_of_getElem? (i := 5) rfl)
theorem bw_5_6 : Cond.fieldLink RX9 19 "PressbrakeLaneModel" "length" "[I" ∈ BG := in_r5 _ (List.mem_of_getElem? (i := 6) rfl)
theorem bw_5_7 : Cond.fieldLink RX9 22 "PressbrakeLaneModel" "bend" "[I" ∈ BG := in_r5 _ (List.mem_of_getElem? (i := 7) rfl)
theorem bw_5_8 : Cond.fieldLink RX9 25 "PressbrakeLaneModel" "width" "[I" ∈ BG := in_r5 _ (List.mem_of_getElem? (i := 8) rfl)
theorem bw_5_9 : Cond.fieldLink RX9 28 "PressbrakeLaneModel" "thickness" "[I" ∈ BG := in_r5 _ (List.mem_of_getElem? (i := 9) rfl)
theorem bw_5_10 : Cond.fieldLink RX9 31 "PressbrakeLaneModel" "revision" "[I" ∈ BG := in_r5 _ (List.mem_of_getElem? (i := 10) rfl)
theorem bw_5_11 : Cond.fieldLink RX9 34 "PressbrakeLaneModel" "holes" "[I" ∈ BG := in_r5 _ (List.mem_of_getElem? (i := 11) rfl)
theorem bw_5_12 : Cond.fieldLink RX9 37 "PressbrakeLaneModel" "holeFace" "[I" ∈ BG := in_r5 _ (List.mem_of_getElem? (i := 12) rfl)
theorem bw_5_13 : Cond.fieldLink RX9 40 "PressbrakeLaneModel" "holeAt" "[I" ∈ BG := in_r5 _ (List.mem_of_getElem? (i := 13) rfl)
theorem bw_5_14 : Cond.fieldLink RX9 43 "PressbrakeLaneModel" "diameter" "[I" ∈ BG := in_r5 _ (List.mem_of_getElem? (i := 14) rfl)
theorem bw_5_15 : Cond.fieldLink RX9 46 "PressbrakeLaneModel" "opening" "[I" ∈ BG := in_r5 _ (List.mem_of_getElem? (i := 15) rfl)
theorem bw_5_16 : Cond.fieldLink RX9 49 "PressbrakeLaneModel" "punch" "[I" ∈ BG := in_r5 _ (List.mem_of_getElem? (i := 16) rfl)
theorem bw_5_17 : Cond.fieldLink RX9 52 "PressbrakeLaneModel" "die" "[I" ∈ BG := in_r5 _ (List.mem_of_getElem? (i := 17) rfl)
theorem bw_5_18 : Cond.fieldLink RX9 55 "PressbrakeLaneModel" "table" "[I" ∈ BG := in_r5 _ (List.mem_of_getElem? (i := 18) rfl)
theorem bw_5_19 : Cond.fieldLink RX9 58 "PressbrakeLaneModel" "gauge" "[I" ∈ BG := in_r5 _ (List.mem_of_getElem? (i := 19) rfl)
theorem bw_5_20 : Cond.fieldLink RX9 61 "PressbrakeLaneModel" "deduction" "[I" ∈ BG := in_r5 _ (List.mem_of_getElem? (i := 20) rfl)
theorem bw_5_21 : Cond.fieldLink RX9 64 "PressbrakeLaneModel" "lot" "[I" ∈ BG := in_r5 _ (List.mem_of_getElem? (i := 21) rfl)
theorem bw_5_22 : Cond.fieldLink RX9 67 "PressbrakeLaneModel" "partOf" "[I" ∈ BG := in_r5 _ (List.mem_of_getElem? (i := 22) rfl)
theorem bw_5_23 : Cond.fieldLink RX9 70 "PressbrakeLaneModel" "toolOf" "[I" ∈ BG := in_r5 _ (List.mem_of_getElem? (i := 23) rfl)
theorem bw_6_0 : Cond.fieldLink RX9 73 "PressbrakeLaneModel" "pieces" "[I" ∈ BG := in_r6 _ (List.mem_of_getElem? (i := 0) rfl)
theorem bw_6_1 : Cond.fieldLink RX9 76 "PressbrakeLaneModel" "state" "[I" ∈ BG := in_r6 _ (List.mem_of_getElem? (i := 1) rfl)
theorem bw_6_2 : Cond.fieldLink RX9 79 "PressbrakeLaneModel" "revisionOf" "[I" ∈ BG := in_r6 _ (List.mem_of_getElem? (i := 2) rfl)
theorem bw_6_3 : Cond.fieldLink RX9 82 "PressbrakeLaneModel" "blankOf" "[I" ∈ BG := in_r6 _ (List.mem_of_getElem? (i := 3) rfl)
theorem bw_6_4 : Cond.fieldLink RX9 85 "PressbrakeLaneModel" "fewest" "[I" ∈ BG := in_r6 _ (List.mem_of_getElem? (i := 4) rfl)
theorem bw_6_5 : Cond.fieldLink RX9 88 "PressbrakeLaneModel" "laid" "[I" ∈ BG := in_r6 _ (List.mem_of_getElem? (i := 5) rfl)
theorem bw_6_6 : Cond.fieldLink RX9 91 "PressbrakeLaneModel" "sheetLeft" "[I" ∈ BG := in_r6 _ (List.mem_of_getElem? (i := 6) rfl)
theorem bw_6_7 : Cond.fieldLink RX9 94 "PressbrakeLaneModel" "rowSheet" "[I" ∈ BG := in_r6 _ (List.mem_of_getElem? (i := 7) rfl)
theorem bw_6_8 : Cond.fieldLink RX9 97 "PressbrakeLaneModel" "rowHigh" "[I" ∈ BG := in_r6 _ (List.mem_of_getElem? (i := 8) rfl)
theorem bw_6_9 : Cond.fieldLink RX9 100 "PressbrakeLaneModel" "rowLeft" "[I" ∈ BG := in_r6 _ (List.mem_of_getElem? (i := 9) rfl)
theorem bw_6_10 : Cond.fieldLink RX9 103 "PressbrakeLaneModel" "rowLast" "[I" ∈ BG := in_r6 _ (List.mem_of_getElem? (i := 10) rfl)
theorem bw_6_11 : Cond.methodLink RL 90 yL_face ∈ BG := in_r6 _ (List.mem_of_getElem? (i := 11) rfl)
theorem bw_6_12 : Cond.static yL_face ∈ BG := in_r6 _ (List.mem_of_getElem? (i := 12) rfl)
theorem bw_6_13 : Cond.initialized RL ∈ BG := in_r6 _ (List.mem_of_getElem? (i := 13) rfl)
theorem bw_6_14 : Cond.codeWith yL_face cL_face 5 (some .int) [(0, 10, 13, 13), (0, 10, 17, 15)] ∈ BG := in_r6 _ (List.mem_of_getElem? (i := 14) rfl)
theorem bw_6_15 : Cond.classLink RL 13 "java/lang/IllegalArgumentException" ∈ BG := in_r6 _ (List.mem_of_getElem? (i := 15) rfl)
theorem bw_6_16 : Cond.classLink RL 15 "java/lang/IllegalStateException" ∈ BG := in_r6 _ (List.mem_of_getElem? (i := 16) rfl)
theorem bw_6_17 : Cond.methodLink RL 7 yX8_face ∈ BG := in_r6 _ (List.mem_of_getElem? (i := 17) rfl)
theorem bw_6_18 : Cond.instanceMethod yX8_face ∈ BG := in_r6 _ (List.mem_of_getElem? (i := 18) rfl)
theorem bw_6_19 : Cond.selects RX8 yX8_face yX8_face ∈ BG := in_r6 _ (List.mem_of_getElem? (i := 19) rfl)
theorem bw_6_20 : Cond.code yX8_face cX8_face 3 (some .int) ∈ BG := in_r6 _ (List.mem_of_getElem? (i := 20) rfl)
theorem bw_6_21 : Cond.classLink RX8 66 "java/lang/IllegalArgumentException" ∈ BG := in_r6 _ (List.mem_of_getElem? (i := 21) rfl)
theorem bw_6_22 : Cond.initialized "java/lang/IllegalArgumentException" ∈ BG := in_r6 _ (List.mem_of_getElem? (i := 22) rfl)
theorem bw_6_23 : Cond.classLink RX8 77 "java/lang/IllegalStateException" ∈ BG := in_r6 _ (List.mem_of_getElem? (i := 23) rfl)
theorem bw_7_0 : Cond.initialized "java/lang/IllegalStateException" ∈ BG := in_r7 _ (List.mem_of_getElem? (i := 0) rfl)
theorem bw_7_1 : Cond.fieldLink RX8 73 "PressbrakeLane$Drawing" "faces" "I" ∈ BG := in_r7 _ (List.mem_of_getElem? (i := 1) rfl)
theorem bw_7_2 : Cond.fieldLink RX8 82 "PressbrakeLane$Drawing" "lengths" "[I" ∈ BG := in_r7 _ (List.mem_of_getElem? (i := 2) rfl)
theorem bw_7_3 : Cond.fieldLink RX8 85 "PressbrakeLane$Drawing" "directions" "[I" ∈ BG := in_r7 _ (List.mem_of_getElem? (i := 3) rfl)
theorem bw_7_4 : Cond.methodLink RX8 62 yX8_isOut ∈ BG := in_r7 _ (List.mem_of_getElem? (i := 4) rfl)
theorem bw_7_5 : Cond.static yX8_isOut ∈ BG := in_r7 _ (List.mem_of_getElem? (i := 5) rfl)
theorem bw_7_6 : Cond.code yX8_isOut cX8_isOut 3 (some .boolean) ∈ BG := in_r7 _ (List.mem_of_getElem? (i := 6) rfl)
theorem bw_7_7 : Cond.methodLink RL 95 yX9_face ∈ BG := in_r7 _ (List.mem_of_getElem? (i := 7) rfl)
theorem bw_7_8 : Cond.instanceMethod yX9_face ∈ BG := in_r7 _ (List.mem_of_getElem? (i := 8) rfl)
theorem bw_7_9 : Cond.selects RX9 yX9_face yX9_face ∈ BG := in_r7 _ (List.mem_of_getElem? (i := 9) rfl)
theorem bw_7_10 : Cond.code yX9_face cX9_face 4 (some .int) ∈ BG := in_r7 _ (List.mem_of_getElem? (i := 10) rfl)
theorem bw_7_11 : Cond.fieldLink RX9 123 "PressbrakeLaneModel" "padded" "I" ∈ BG := in_r7 _ (List.mem_of_getElem? (i := 11) rfl)
theorem bw_7_12 : Cond.methodLink RX9 113 yX9_in ∈ BG := in_r7 _ (List.mem_of_getElem? (i := 12) rfl)
theorem bw_7_13 : Cond.static yX9_in ∈ BG := in_r7 _ (List.mem_of_getElem? (i := 13) rfl)
theorem bw_7_14 : Cond.code yX9_in cX9_in 3 (some .boolean) ∈ BG := in_r7 _ (List.mem_of_getElem? (i := 14) rfl)
theorem bw_7_15 : Cond.methodLink RX9 126 yX9_goesWell ∈ BG := in_r7 _ (List.mem_of_getElem? (i := 15) rfl)
theorem bw_7_16 : Cond.instanceMethod yX9_goesWell ∈ BG := in_r7 _ (List.mem_of_getElem? (i := 16) rfl)
theorem bw_7_17 : Cond.selects RX9 yX9_goesWell yX9_goesWell ∈ BG := in_r7 _ (List.mem_of_getElem? (i := 17) rfl)
theorem bw_7_18 : Cond.code yX9_goesWell cX9_goesWell 2 (some .boolean) ∈ BG := in_r7 _ (List.mem_of_getElem? (i := 18) rfl)
theorem bw_7_19 : Cond.fieldLink RX9 106 "PressbrakeLaneModel" "thrown" "I" ∈ BG := in_r7 _ (List.mem_of_getElem? (i := 19) rfl)
theorem bw_7_20 : Cond.methodLink RL 96 yX9_thrown ∈ BG := in_r7 _ (List.mem_of_getElem? (i := 20) rfl)
theorem bw_7_21 : Cond.instanceMethod yX9_thrown ∈ BG := in_r7 _ (List.mem_of_getElem? (i := 21) rfl)
theorem bw_7_22 : Cond.selects RX9 yX9_thrown yX9_thrown ∈ BG := in_r7 _ (List.mem_of_getElem? (i := 22) rfl)
theorem bw_7_23 : Cond.code yX9_thrown cX9_thrown 1 (some .int) ∈ BG := in_r7 _ (List.mem_of_getElem? (i := 23) rfl)
theorem bw_8_0 : Cond.methodLink RL 100 yX8_wipe ∈ BG := in_r8 _ (List.mem_of_getElem? (i := 0) rfl)
theorem bw_8_1 : Cond.instanceMethod yX8_wipe ∈ BG := in_r8 _ (List.mem_of_getElem? (i := 1) rfl)
theorem bw_8_2 : Cond.selects RX8 yX8_wipe yX8_wipe ∈ BG := in_r8 _ (List.mem_of_getElem? (i := 2) rfl)
theorem bw_8_3 : Cond.code yX8_wipe cX8_wipe 2 (some .int) ∈ BG := in_r8 _ (List.mem_of_getElem? (i := 3) rfl)
theorem bw_8_4 : Cond.methodLink RL 103 yX9_wipe ∈ BG := in_r8 _ (List.mem_of_getElem? (i := 4) rfl)
theorem bw_8_5 : Cond.instanceMethod yX9_wipe ∈ BG := in_r8 _ (List.mem_of_getElem? (i := 5) rfl)
theorem bw_8_6 : Cond.selects RX9 yX9_wipe yX9_wipe ∈ BG := in_r8 _ (List.mem_of_getElem? (i := 6) rfl)
theorem bw_8_7 : Cond.code yX9_wipe cX9_wipe 2 (some .int) ∈ BG := in_r8 _ (List.mem_of_getElem? (i := 7) rfl)
theorem bw_8_8 : Cond.methodLink RL 104 yL_part ∈ BG := in_r8 _ (List.mem_of_getElem? (i := 8) rfl)
theorem bw_8_9 : Cond.static yL_part ∈ BG := in_r8 _ (List.mem_of_getElem? (i := 9) rfl)
theorem bw_8_10 : Cond.codeWith yL_part cL_part 5 (some .int) [(0, 10, 13, 13), (0, 10, 17, 15)] ∈ BG := in_r8 _ (List.mem_of_getElem? (i := 10) rfl)
theorem bw_8_11 : Cond.methodLink RL 17 yX8_part ∈ BG := in_r8 _ (List.mem_of_getElem? (i := 11) rfl)
theorem bw_8_12 : Cond.instanceMethod yX8_part ∈ BG := in_r8 _ (List.mem_of_getElem? (i := 12) rfl)
theorem bw_8_13 : Cond.selects RX8 yX8_part yX8_part ∈ BG := in_r8 _ (List.mem_of_getElem? (i := 13) rfl)
theorem bw_8_14 : Cond.code yX8_part cX8_part 3 (some .int) ∈ BG := in_r8 _ (List.mem_of_getElem? (i := 14) rfl)
theorem bw_8_15 : Cond.fieldLink RX8 95 "PressbrakeLane" "partCount" "I" ∈ BG := in_r8 _ (List.mem_of_getElem? (i := 15) rfl)
theorem bw_8_16 : Cond.methodLink RX8 88 yX8_checkSheet ∈ BG := in_r8 _ (List.mem_of_getElem? (i := 16) rfl)
theorem bw_8_17 : Cond.static yX8_checkSheet ∈ BG := in_r8 _ (List.mem_of_getElem? (i := 17) rfl)
theorem bw_8_18 : Cond.code yX8_checkSheet cX8_checkSheet 2 none ∈ BG := in_r8 _ (List.mem_of_getElem? (i := 18) rfl)
theorem bw_8_19 : Cond.methodLink RX8 92 yX8_checkPad ∈ BG := in_r8 _ (List.mem_of_getElem? (i := 19) rfl)
theorem bw_8_20 : Cond.instanceMethod yX8_checkPad ∈ BG := in_r8 _ (List.mem_of_getElem? (i := 20) rfl)
theorem bw_8_21 : Cond.selects RX8 yX8_checkPad yX8_checkPad ∈ BG := in_r8 _ (List.mem_of_getElem? (i := 21) rfl)
theorem bw_8_22 : Cond.code yX8_checkPad cX8_checkPad 1 none ∈ BG := in_r8 _ (List.mem_of_getElem? (i := 22) rfl)
theorem bw_8_23 : Cond.methodLink RX8 100 yX4_draw ∈ BG := in_r8 _ (List.mem_of_getElem? (i := 23) rfl)
theorem bw_9_0 : Cond.instanceMethod yX4_draw ∈ BG := in_r9 _ (List.mem_of_getElem? (i := 0) rfl)
theorem bw_9_1 : Cond.selects RX4 yX4_draw yX4_draw ∈ BG := in_r9 _ (List.mem_of_getElem? (i := 1) rfl)
theorem bw_9_2 : Cond.code yX4_draw cX4_draw 4 none ∈ BG := in_r9 _ (List.mem_of_getElem? (i := 2) rfl)
theorem bw_9_3 : Cond.fieldLink RX4 32 "PressbrakeLane$Part" "width" "I" ∈ BG := in_r9 _ (List.mem_of_getElem? (i := 3) rfl)
theorem bw_9_4 : Cond.fieldLink RX4 36 "PressbrakeLane$Part" "thickness" "I" ∈ BG := in_r9 _ (List.mem_of_getElem? (i := 4) rfl)
theorem bw_9_5 : Cond.fieldLink RX4 39 "PressbrakeLane$Part" "holes" "I" ∈ BG := in_r9 _ (List.mem_of_getElem? (i := 5) rfl)
theorem bw_9_6 : Cond.methodLink RX4 28 yX2_copy ∈ BG := in_r9 _ (List.mem_of_getElem? (i := 6) rfl)
theorem bw_9_7 : Cond.instanceMethod yX2_copy ∈ BG := in_r9 _ (List.mem_of_getElem? (i := 7) rfl)
theorem bw_9_8 : Cond.selects RX2 yX2_copy yX2_copy ∈ BG := in_r9 _ (List.mem_of_getElem? (i := 8) rfl)
theorem bw_9_9 : Cond.code yX2_copy cX2_copy 3 none ∈ BG := in_r9 _ (List.mem_of_getElem? (i := 9) rfl)
theorem bw_9_10 : Cond.fieldLink RX2 18 "PressbrakeLane$Drawing" "faces" "I" ∈ BG := in_r9 _ (List.mem_of_getElem? (i := 10) rfl)
theorem bw_9_11 : Cond.methodLink RL 106 yX9_part ∈ BG := in_r9 _ (List.mem_of_getElem? (i := 11) rfl)
theorem bw_9_12 : Cond.instanceMethod yX9_part ∈ BG := in_r9 _ (List.mem_of_getElem? (i := 12) rfl)
theorem bw_9_13 : Cond.selects RX9 yX9_part yX9_part ∈ BG := in_r9 _ (List.mem_of_getElem? (i := 13) rfl)
theorem bw_9_14 : Cond.code yX9_part cX9_part 4 (some .int) ∈ BG := in_r9 _ (List.mem_of_getElem? (i := 14) rfl)
theorem bw_9_15 : Cond.fieldLink RX9 110 "PressbrakeLaneModel" "parts" "I" ∈ BG := in_r9 _ (List.mem_of_getElem? (i := 15) rfl)
theorem bw_9_16 : Cond.methodLink RX9 130 yX9_isSheet ∈ BG := in_r9 _ (List.mem_of_getElem? (i := 16) rfl)
theorem bw_9_17 : Cond.static yX9_isSheet ∈ BG := in_r9 _ (List.mem_of_getElem? (i := 17) rfl)
theorem bw_9_18 : Cond.code yX9_isSheet cX9_isSheet 2 (some .boolean) ∈ BG := in_r9 _ (List.mem_of_getElem? (i := 18) rfl)
theorem bw_9_19 : Cond.methodLink RX9 134 yX9_draw ∈ BG := in_r9 _ (List.mem_of_getElem? (i := 19) rfl)
theorem bw_9_20 : Cond.instanceMethod yX9_draw ∈ BG := in_r9 _ (List.mem_of_getElem? (i := 20) rfl)
theorem bw_9_21 : Cond.selects RX9 yX9_draw yX9_draw ∈ BG := in_r9 _ (List.mem_of_getElem? (i := 21) rfl)
theorem bw_9_22 : Cond.code yX9_draw cX9_draw 5 none ∈ BG := in_r9 _ (List.mem_of_getElem? (i := 22) rfl)
theorem bw_9_23 : Cond.methodLink RL 107 yL_redraw ∈ BG := in_r9 _ (List.mem_of_getElem? (i := 23) rfl)
theorem bw_10_0 : Cond.static yL_redraw ∈ BG := in_r10 _ (List.mem_of_getElem? (i := 0) rfl)
theorem bw_10_1 : Cond.codeWith yL_redraw cL_redraw 6 (some .int) [(0, 12, 15, 24), (0, 12, 19, 13), (0, 12, 23, 15)] ∈ BG := in_r10 _ (List.mem_of_getElem? (i := 1) rfl)
theorem bw_10_2 : Cond.classLink RL 24 "java/lang/IndexOutOfBoundsException" ∈ BG := in_r10 _ (List.mem_of_getElem? (i := 2) rfl)
theorem bw_10_3 : Cond.methodLink RL 20 yX8_redraw ∈ BG := in_r10 _ (List.mem_of_getElem? (i := 3) rfl)
theorem bw_10_4 : Cond.instanceMethod yX8_redraw ∈ BG := in_r10 _ (List.mem_of_getElem? (i := 4) rfl)
theorem bw_10_5 : Cond.selects RX8 yX8_redraw yX8_redraw ∈ BG := in_r10 _ (List.mem_of_getElem? (i := 5) rfl)
theorem bw_10_6 : Cond.code yX8_redraw cX8_redraw 8 (some .int) ∈ BG := in_r10 _ (List.mem_of_getElem? (i := 6) rfl)
theorem bw_10_7 : Cond.fieldLink RX8 108 "PressbrakeLane$Part" "holes" "I" ∈ BG := in_r10 _ (List.mem_of_getElem? (i := 7) rfl)
theorem bw_10_8 : Cond.fieldLink RX8 111 "PressbrakeLane$Part" "width" "I" ∈ BG := in_r10 _ (List.mem_of_getElem? (i := 8) rfl)
theorem bw_10_9 : Cond.fieldLink RX8 114 "PressbrakeLane$Part" "thickness" "I" ∈ BG := in_r10 _ (List.mem_of_getElem? (i := 9) rfl)
theorem bw_10_10 : Cond.fieldLink RX8 117 "PressbrakeLane$Part" "drawing" "LPressbrakeLane$Drawing;" ∈ BG := in_r10 _ (List.mem_of_getElem? (i := 10) rfl)
theorem bw_10_11 : Cond.fieldLink RX8 124 "PressbrakeLane$Part" "revision" "I" ∈ BG := in_r10 _ (List.mem_of_getElem? (i := 11) rfl)
theorem bw_10_12 : Cond.methodLink RX8 104 yX8_partAt ∈ BG := in_r10 _ (List.mem_of_getElem? (i := 12) rfl)
theorem bw_10_13 : Cond.instanceMethod yX8_partAt ∈ BG := in_r10 _ (List.mem_of_getElem? (i := 13) rfl)
theorem bw_10_14 : Cond.selects RX8 yX8_partAt yX8_partAt ∈ BG := in_r10 _ (List.mem_of_getElem? (i := 14) rfl)
theorem bw_10_15 : Cond.code yX8_partAt cX8_partAt 2 (some (.object "PressbrakeLane$Part")) ∈ BG := in_r10 _ (List.mem_of_getElem? (i := 15) rfl)
theorem bw_10_16 : Cond.classLink RX8 131 "java/lang/IndexOutOfBoundsException" ∈ BG := in_r10 _ (List.mem_of_getElem? (i := 16) rfl)
theorem bw_10_17 : Cond.initialized "java/lang/IndexOutOfBoundsException" ∈ BG := in_r10 _ (List.mem_of_getElem? (i := 17) rfl)
theorem bw_10_18 : Cond.methodLink RX8 120 yX2_isAs ∈ BG := in_r10 _ (List.mem_of_getElem? (i := 18) rfl)
theorem bw_10_19 : Cond.instanceMethod yX2_isAs ∈ BG := in_r10 _ (List.mem_of_getElem? (i := 19) rfl)
theorem bw_10_20 : Cond.selects RX2 yX2_isAs yX2_isAs ∈ BG := in_r10 _ (List.mem_of_getElem? (i := 20) rfl)
theorem bw_10_21 : Cond.code yX2_isAs cX2_isAs 4 (some .boolean) ∈ BG := in_r10 _ (List.mem_of_getElem? (i := 21) rfl)
theorem bw_10_22 : Cond.methodLink RX8 127 yX8_changeBatches ∈ BG := in_r10 _ (List.mem_of_getElem? (i := 22) rfl)
theorem bw_10_23 : Cond.instanceMethod yX8_changeBatches ∈ BG := in_r10 _ (List.mem_of_getElem? (i := 23) rfl)
theorem bw_11_0 : Cond.selects RX8 yX8_changeBatches yX8_changeBatches ∈ BG := in_r11 _ (List.mem_of_getElem? (i := 0) rfl)
theorem bw_11_1 : Cond.code yX8_changeBatches cX8_changeBatches 8 (some .int) ∈ BG := in_r11 _ (List.mem_of_getElem? (i := 1) rfl)
theorem bw_11_2 : Cond.fieldLink RX8 286 "PressbrakeLane" "batchCount" "I" ∈ BG := in_r11 _ (List.mem_of_getElem? (i := 2) rfl)
theorem bw_11_3 : Cond.fieldLink RX8 291 "PressbrakeLane$Batch" "part" "I" ∈ BG := in_r11 _ (List.mem_of_getElem? (i := 3) rfl)
theorem bw_11_4 : Cond.fieldLink RX8 297 "PressbrakeLane$Batch" "state" "I" ∈ BG := in_r11 _ (List.mem_of_getElem? (i := 4) rfl)
theorem bw_11_5 : Cond.fieldLink RX8 304 "PressbrakeLane$Batch" "cutLength" "I" ∈ BG := in_r11 _ (List.mem_of_getElem? (i := 5) rfl)
theorem bw_11_6 : Cond.fieldLink RX8 294 "PressbrakeLane$Batch" "tool" "I" ∈ BG := in_r11 _ (List.mem_of_getElem? (i := 6) rfl)
theorem bw_11_7 : Cond.fieldLink RX8 303 "PressbrakeLane$Batch" "revision" "I" ∈ BG := in_r11 _ (List.mem_of_getElem? (i := 7) rfl)
theorem bw_11_8 : Cond.fieldLink RX8 300 "PressbrakeLane$Batch" "pieces" "I" ∈ BG := in_r11 _ (List.mem_of_getElem? (i := 8) rfl)
theorem bw_11_9 : Cond.methodLink RX8 195 yX4_blankBy ∈ BG := in_r11 _ (List.mem_of_getElem? (i := 9) rfl)
theorem bw_11_10 : Cond.instanceMethod yX4_blankBy ∈ BG := in_r11 _ (List.mem_of_getElem? (i := 10) rfl)
theorem bw_11_11 : Cond.selects RX4 yX4_blankBy yX4_blankBy ∈ BG := in_r11 _ (List.mem_of_getElem? (i := 11) rfl)
theorem bw_11_12 : Cond.code yX4_blankBy cX4_blankBy 2 (some .int) ∈ BG := in_r11 _ (List.mem_of_getElem? (i := 12) rfl)
theorem bw_11_13 : Cond.fieldLink RX4 49 "PressbrakeLane$Tool" "deductions" "[I" ∈ BG := in_r11 _ (List.mem_of_getElem? (i := 13) rfl)
theorem bw_11_14 : Cond.methodLink RX4 42 yX2_flatLength ∈ BG := in_r11 _ (List.mem_of_getElem? (i := 14) rfl)
theorem bw_11_15 : Cond.instanceMethod yX2_flatLength ∈ BG := in_r11 _ (List.mem_of_getElem? (i := 15) rfl)
theorem bw_11_16 : Cond.selects RX2 yX2_flatLength yX2_flatLength ∈ BG := in_r11 _ (List.mem_of_getElem? (i := 16) rfl)
theorem bw_11_17 : Cond.code yX2_flatLength cX2_flatLength 3 (some .int) ∈ BG := in_r11 _ (List.mem_of_getElem? (i := 17) rfl)
theorem bw_11_18 : Cond.methodLink RX4 46 yX2_bends ∈ BG := in_r11 _ (List.mem_of_getElem? (i := 18) rfl)
theorem bw_11_19 : Cond.instanceMethod yX2_bends ∈ BG := in_r11 _ (List.mem_of_getElem? (i := 19) rfl)
theorem bw_11_20 : Cond.selects RX2 yX2_bends yX2_bends ∈ BG := in_r11 _ (List.mem_of_getElem? (i := 20) rfl)
theorem bw_11_21 : Cond.code yX2_bends cX2_bends 1 (some .int) ∈ BG := in_r11 _ (List.mem_of_getElem? (i := 21) rfl)
theorem bw_11_22 : Cond.methodLink RL 110 yX9_redraw ∈ BG := in_r11 _ (List.mem_of_getElem? (i := 22) rfl)
theorem bw_11_23 : Cond.instanceMethod yX9_redraw ∈ BG := in_r11 _ (List.mem_of_getElem? (i := 23) rfl)
theorem bw_12_0 : Cond.selects RX9 yX9_redraw yX9_redraw ∈ BG := in_r12 _ (List.mem_of_getElem? (i := 0) rfl)
theorem bw_12_1 : Cond.code yX9_redraw cX9_redraw 10 (some .int) ∈ BG := in_r12 _ (List.mem_of_getElem? (i := 1) rfl)
theorem bw_12_2 : Cond.fieldLink RX9 120 "PressbrakeLaneModel" "batches" "I" ∈ BG := in_r12 _ (List.mem_of_getElem? (i := 2) rfl)
theorem bw_12_3 : Cond.methodLink RX9 138 yX9_isPart ∈ BG := in_r12 _ (List.mem_of_getElem? (i := 3) rfl)
theorem bw_12_4 : Cond.instanceMethod yX9_isPart ∈ BG := in_r12 _ (List.mem_of_getElem? (i := 4) rfl)
theorem bw_12_5 : Cond.selects RX9 yX9_isPart yX9_isPart ∈ BG := in_r12 _ (List.mem_of_getElem? (i := 5) rfl)
theorem bw_12_6 : Cond.code yX9_isPart cX9_isPart 2 (some .boolean) ∈ BG := in_r12 _ (List.mem_of_getElem? (i := 6) rfl)
theorem bw_12_7 : Cond.methodLink RX9 141 yX9_isSame ∈ BG := in_r12 _ (List.mem_of_getElem? (i := 7) rfl)
theorem bw_12_8 : Cond.instanceMethod yX9_isSame ∈ BG := in_r12 _ (List.mem_of_getElem? (i := 8) rfl)
theorem bw_12_9 : Cond.selects RX9 yX9_isSame yX9_isSame ∈ BG := in_r12 _ (List.mem_of_getElem? (i := 9) rfl)
theorem bw_12_10 : Cond.code yX9_isSame cX9_isSame 6 (some .boolean) ∈ BG := in_r12 _ (List.mem_of_getElem? (i := 10) rfl)
theorem bw_12_11 : Cond.methodLink RX9 144 yX9_blankBy ∈ BG := in_r12 _ (List.mem_of_getElem? (i := 11) rfl)
theorem bw_12_12 : Cond.instanceMethod yX9_blankBy ∈ BG := in_r12 _ (List.mem_of_getElem? (i := 12) rfl)
theorem bw_12_13 : Cond.selects RX9 yX9_blankBy yX9_blankBy ∈ BG := in_r12 _ (List.mem_of_getElem? (i := 13) rfl)
theorem bw_12_14 : Cond.code yX9_blankBy cX9_blankBy 5 (some .int) ∈ BG := in_r12 _ (List.mem_of_getElem? (i := 14) rfl)
theorem bw_12_15 : Cond.methodLink RL 111 yL_hole ∈ BG := in_r12 _ (List.mem_of_getElem? (i := 15) rfl)
theorem bw_12_16 : Cond.static yL_hole ∈ BG := in_r12 _ (List.mem_of_getElem? (i := 16) rfl)
theorem bw_12_17 : Cond.codeWith yL_hole cL_hole 7 (some .int) [(0, 14, 17, 24), (0, 14, 21, 13), (0, 14, 25, 15)] ∈ BG := in_r12 _ (List.mem_of_getElem? (i := 17) rfl)
theorem bw_12_18 : Cond.methodLink RL 26 yX8_hole ∈ BG := in_r12 _ (List.mem_of_getElem? (i := 18) rfl)
theorem bw_12_19 : Cond.instanceMethod yX8_hole ∈ BG := in_r12 _ (List.mem_of_getElem? (i := 19) rfl)
theorem bw_12_20 : Cond.selects RX8 yX8_hole yX8_hole ∈ BG := in_r12 _ (List.mem_of_getElem? (i := 20) rfl)
theorem bw_12_21 : Cond.code yX8_hole cX8_hole 6 (some .int) ∈ BG := in_r12 _ (List.mem_of_getElem? (i := 21) rfl)
theorem bw_12_22 : Cond.fieldLink RX8 144 "PressbrakeLane$Part" "holeFaces" "[I" ∈ BG := in_r12 _ (List.mem_of_getElem? (i := 22) rfl)
theorem bw_12_23 : Cond.fieldLink RX8 147 "PressbrakeLane$Part" "holeAts" "[I" ∈ BG := in_r12 _ (List.mem_of_getElem? (i := 23) rfl)
theorem bw_13_0 : Cond.fieldLink RX8 150 "PressbrakeLane$Part" "holeDiameters" "[I" ∈ BG := in_r13 _ (List.mem_of_getElem? (i := 0) rfl)
theorem bw_13_1 : Cond.methodLink RX8 138 yX8_hasBatch ∈ BG := in_r13 _ (List.mem_of_getElem? (i := 1) rfl)
theorem bw_13_2 : Cond.instanceMethod yX8_hasBatch ∈ BG := in_r13 _ (List.mem_of_getElem? (i := 2) rfl)
theorem bw_13_3 : Cond.selects RX8 yX8_hasBatch yX8_hasBatch ∈ BG := in_r13 _ (List.mem_of_getElem? (i := 3) rfl)
theorem bw_13_4 : Cond.code yX8_hasBatch cX8_hasBatch 3 (some .boolean) ∈ BG := in_r13 _ (List.mem_of_getElem? (i := 4) rfl)
theorem bw_13_5 : Cond.methodLink RL 114 yX9_hole ∈ BG := in_r13 _ (List.mem_of_getElem? (i := 5) rfl)
theorem bw_13_6 : Cond.instanceMethod yX9_hole ∈ BG := in_r13 _ (List.mem_of_getElem? (i := 6) rfl)
theorem bw_13_7 : Cond.selects RX9 yX9_hole yX9_hole ∈ BG := in_r13 _ (List.mem_of_getElem? (i := 7) rfl)
theorem bw_13_8 : Cond.code yX9_hole cX9_hole 9 (some .int) ∈ BG := in_r13 _ (List.mem_of_getElem? (i := 8) rfl)
theorem bw_13_9 : Cond.methodLink RL 115 yL_isNear ∈ BG := in_r13 _ (List.mem_of_getElem? (i := 9) rfl)
theorem bw_13_10 : Cond.static yL_isNear ∈ BG := in_r13 _ (List.mem_of_getElem? (i := 10) rfl)
theorem bw_13_11 : Cond.codeWith yL_isNear cL_isNear 5 (some .int) [(0, 17, 20, 24)] ∈ BG := in_r13 _ (List.mem_of_getElem? (i := 11) rfl)
theorem bw_13_12 : Cond.methodLink RL 30 yX8_isNear ∈ BG := in_r13 _ (List.mem_of_getElem? (i := 12) rfl)
theorem bw_13_13 : Cond.instanceMethod yX8_isNear ∈ BG := in_r13 _ (List.mem_of_getElem? (i := 13) rfl)
theorem bw_13_14 : Cond.selects RX8 yX8_isNear yX8_isNear ∈ BG := in_r13 _ (List.mem_of_getElem? (i := 14) rfl)
theorem bw_13_15 : Cond.code yX8_isNear cX8_isNear 4 (some .boolean) ∈ BG := in_r13 _ (List.mem_of_getElem? (i := 15) rfl)
theorem bw_13_16 : Cond.methodLink RX8 155 yX4_isHoleNear ∈ BG := in_r13 _ (List.mem_of_getElem? (i := 16) rfl)
theorem bw_13_17 : Cond.instanceMethod yX4_isHoleNear ∈ BG := in_r13 _ (List.mem_of_getElem? (i := 17) rfl)
theorem bw_13_18 : Cond.selects RX4 yX4_isHoleNear yX4_isHoleNear ∈ BG := in_r13 _ (List.mem_of_getElem? (i := 18) rfl)
theorem bw_13_19 : Cond.code yX4_isHoleNear cX4_isHoleNear 6 (some .boolean) ∈ BG := in_r13 _ (List.mem_of_getElem? (i := 19) rfl)
theorem bw_13_20 : Cond.fieldLink RX4 54 "PressbrakeLane$Drawing" "faces" "I" ∈ BG := in_r13 _ (List.mem_of_getElem? (i := 20) rfl)
theorem bw_13_21 : Cond.fieldLink RX4 57 "PressbrakeLane$Drawing" "lengths" "[I" ∈ BG := in_r13 _ (List.mem_of_getElem? (i := 21) rfl)
theorem bw_13_22 : Cond.methodLink RL 117 yX9_isNear ∈ BG := in_r13 _ (List.mem_of_getElem? (i := 22) rfl)
theorem bw_13_23 : Cond.instanceMethod yX9_isNear ∈ BG := in_r13 _ (List.mem_of_getElem? (i := 23) rfl)
theorem bw_14_0 : Cond.selects RX9 yX9_isNear yX9_isNear ∈ BG := in_r14 _ (List.mem_of_getElem? (i := 0) rfl)
theorem bw_14_1 : Cond.code yX9_isNear cX9_isNear 3 (some .boolean) ∈ BG := in_r14 _ (List.mem_of_getElem? (i := 1) rfl)
theorem bw_14_2 : Cond.methodLink RX9 148 yX9_isClose ∈ BG := in_r14 _ (List.mem_of_getElem? (i := 2) rfl)
theorem bw_14_3 : Cond.instanceMethod yX9_isClose ∈ BG := in_r14 _ (List.mem_of_getElem? (i := 3) rfl)
theorem bw_14_4 : Cond.selects RX9 yX9_isClose yX9_isClose ∈ BG := in_r14 _ (List.mem_of_getElem? (i := 4) rfl)
theorem bw_14_5 : Cond.code yX9_isClose cX9_isClose 6 (some .boolean) ∈ BG := in_r14 _ (List.mem_of_getElem? (i := 5) rfl)
theorem bw_14_6 : Cond.methodLink RL 118 yL_told ∈ BG := in_r14 _ (List.mem_of_getElem? (i := 6) rfl)
theorem bw_14_7 : Cond.static yL_told ∈ BG := in_r14 _ (List.mem_of_getElem? (i := 7) rfl)
theorem bw_14_8 : Cond.codeWith yL_told cL_told 5 (some .int) [(0, 10, 13, 24), (0, 10, 17, 13)] ∈ BG := in_r14 _ (List.mem_of_getElem? (i := 8) rfl)
theorem bw_14_9 : Cond.methodLink RL 34 yX8_told ∈ BG := in_r14 _ (List.mem_of_getElem? (i := 9) rfl)
theorem bw_14_10 : Cond.instanceMethod yX8_told ∈ BG := in_r14 _ (List.mem_of_getElem? (i := 10) rfl)
theorem bw_14_11 : Cond.selects RX8 yX8_told yX8_told ∈ BG := in_r14 _ (List.mem_of_getElem? (i := 11) rfl)
theorem bw_14_12 : Cond.code yX8_told cX8_told 4 (some .int) ∈ BG := in_r14 _ (List.mem_of_getElem? (i := 12) rfl)
theorem bw_14_13 : Cond.methodLink RX8 158 yX4_nearHoles ∈ BG := in_r14 _ (List.mem_of_getElem? (i := 13) rfl)
theorem bw_14_14 : Cond.instanceMethod yX4_nearHoles ∈ BG := in_r14 _ (List.mem_of_getElem? (i := 14) rfl)
theorem bw_14_15 : Cond.selects RX4 yX4_nearHoles yX4_nearHoles ∈ BG := in_r14 _ (List.mem_of_getElem? (i := 15) rfl)
theorem bw_14_16 : Cond.code yX4_nearHoles cX4_nearHoles 3 (some .int) ∈ BG := in_r14 _ (List.mem_of_getElem? (i := 16) rfl)
theorem bw_14_17 : Cond.methodLink RX4 60 yX4_isHoleNear ∈ BG := in_r14 _ (List.mem_of_getElem? (i := 17) rfl)
theorem bw_14_18 : Cond.methodLink RL 120 yX9_told ∈ BG := in_r14 _ (List.mem_of_getElem? (i := 18) rfl)
theorem bw_14_19 : Cond.instanceMethod yX9_told ∈ BG := in_r14 _ (List.mem_of_getElem? (i := 19) rfl)
theorem bw_14_20 : Cond.selects RX9 yX9_told yX9_told ∈ BG := in_r14 _ (List.mem_of_getElem? (i := 20) rfl)
theorem bw_14_21 : Cond.code yX9_told cX9_told 6 (some .int) ∈ BG := in_r14 _ (List.mem_of_getElem? (i := 21) rfl)
theorem bw_14_22 : Cond.methodLink RL 121 yL_tool ∈ BG := in_r14 _ (List.mem_of_getElem? (i := 22) rfl)
theorem bw_14_23 : Cond.static yL_tool ∈ BG := in_r14 _ (List.mem_of_getElem? (i := 23) rfl)
theorem bw_15_0 : Cond.codeWith yL_tool cL_tool 8 (some .int) [(0, 16, 19, 13), (0, 16, 23, 15)] ∈ BG := in_r15 _ (List.mem_of_getElem? (i := 0) rfl)
theorem bw_15_1 : Cond.methodLink RL 37 yX8_tool ∈ BG := in_r15 _ (List.mem_of_getElem? (i := 1) rfl)
theorem bw_15_2 : Cond.instanceMethod yX8_tool ∈ BG := in_r15 _ (List.mem_of_getElem? (i := 2) rfl)
theorem bw_15_3 : Cond.selects RX8 yX8_tool yX8_tool ∈ BG := in_r15 _ (List.mem_of_getElem? (i := 3) rfl)
theorem bw_15_4 : Cond.code yX8_tool cX8_tool 7 (some .int) ∈ BG := in_r15 _ (List.mem_of_getElem? (i := 4) rfl)
theorem bw_15_5 : Cond.fieldLink RX8 166 "PressbrakeLane" "toolCount" "I" ∈ BG := in_r15 _ (List.mem_of_getElem? (i := 5) rfl)
theorem bw_15_6 : Cond.fieldLink RX8 171 "PressbrakeLane$Tool" "opening" "I" ∈ BG := in_r15 _ (List.mem_of_getElem? (i := 6) rfl)
theorem bw_15_7 : Cond.fieldLink RX8 174 "PressbrakeLane$Tool" "punch" "I" ∈ BG := in_r15 _ (List.mem_of_getElem? (i := 7) rfl)
theorem bw_15_8 : Cond.fieldLink RX8 177 "PressbrakeLane$Tool" "die" "I" ∈ BG := in_r15 _ (List.mem_of_getElem? (i := 8) rfl)
theorem bw_15_9 : Cond.fieldLink RX8 180 "PressbrakeLane$Tool" "table" "I" ∈ BG := in_r15 _ (List.mem_of_getElem? (i := 9) rfl)
theorem bw_15_10 : Cond.fieldLink RX8 183 "PressbrakeLane$Tool" "gauge" "I" ∈ BG := in_r15 _ (List.mem_of_getElem? (i := 10) rfl)
theorem bw_15_11 : Cond.methodLink RL 124 yX9_tool ∈ BG := in_r15 _ (List.mem_of_getElem? (i := 11) rfl)
theorem bw_15_12 : Cond.instanceMethod yX9_tool ∈ BG := in_r15 _ (List.mem_of_getElem? (i := 12) rfl)
theorem bw_15_13 : Cond.selects RX9 yX9_tool yX9_tool ∈ BG := in_r15 _ (List.mem_of_getElem? (i := 13) rfl)
theorem bw_15_14 : Cond.code yX9_tool cX9_tool 8 (some .int) ∈ BG := in_r15 _ (List.mem_of_getElem? (i := 14) rfl)
theorem bw_15_15 : Cond.fieldLink RX9 117 "PressbrakeLaneModel" "tools" "I" ∈ BG := in_r15 _ (List.mem_of_getElem? (i := 15) rfl)
theorem bw_15_16 : Cond.methodLink RL 125 yL_trial ∈ BG := in_r15 _ (List.mem_of_getElem? (i := 16) rfl)
theorem bw_15_17 : Cond.static yL_trial ∈ BG := in_r15 _ (List.mem_of_getElem? (i := 17) rfl)
theorem bw_15_18 : Cond.codeWith yL_trial cL_trial 6 (some .int) [(0, 12, 15, 24), (0, 12, 19, 13)] ∈ BG := in_r15 _ (List.mem_of_getElem? (i := 18) rfl)
theorem bw_15_19 : Cond.methodLink RL 41 yX8_trial ∈ BG := in_r15 _ (List.mem_of_getElem? (i := 19) rfl)
theorem bw_15_20 : Cond.instanceMethod yX8_trial ∈ BG := in_r15 _ (List.mem_of_getElem? (i := 20) rfl)
theorem bw_15_21 : Cond.selects RX8 yX8_trial yX8_trial ∈ BG := in_r15 _ (List.mem_of_getElem? (i := 21) rfl)
theorem bw_15_22 : Cond.code yX8_trial cX8_trial 6 (some .int) ∈ BG := in_r15 _ (List.mem_of_getElem? (i := 22) rfl)
theorem bw_15_23 : Cond.fieldLink RX8 192 "PressbrakeLane$Tool" "deductions" "[I" ∈ BG := in_r15 _ (List.mem_of_getElem? (i := 23) rfl)
theorem bw_16_0 : Cond.methodLink RX8 186 yX8_toolAt ∈ BG := in_r16 _ (List.mem_of_getElem? (i := 0) rfl)
theorem bw_16_1 : Cond.instanceMethod yX8_toolAt ∈ BG := in_r16 _ (List.mem_of_getElem? (i := 1) rfl)
theorem bw_16_2 : Cond.selects RX8 yX8_toolAt yX8_toolAt ∈ BG := in_r16 _ (List.mem_of_getElem? (i := 2) rfl)
theorem bw_16_3 : Cond.code yX8_toolAt cX8_toolAt 2 (some (.object "PressbrakeLane$Tool")) ∈ BG := in_r16 _ (List.mem_of_getElem? (i := 3) rfl)
theorem bw_16_4 : Cond.methodLink RL 127 yX9_trial ∈ BG := in_r16 _ (List.mem_of_getElem? (i := 4) rfl)
theorem bw_16_5 : Cond.instanceMethod yX9_trial ∈ BG := in_r16 _ (List.mem_of_getElem? (i := 5) rfl)
theorem bw_16_6 : Cond.selects RX9 yX9_trial yX9_trial ∈ BG := in_r16 _ (List.mem_of_getElem? (i := 6) rfl)
theorem bw_16_7 : Cond.code yX9_trial cX9_trial 6 (some .int) ∈ BG := in_r16 _ (List.mem_of_getElem? (i := 7) rfl)
theorem bw_16_8 : Cond.methodLink RX9 151 yX9_isTool ∈ BG := in_r16 _ (List.mem_of_getElem? (i := 8) rfl)
theorem bw_16_9 : Cond.instanceMethod yX9_isTool ∈ BG := in_r16 _ (List.mem_of_getElem? (i := 9) rfl)
theorem bw_16_10 : Cond.selects RX9 yX9_isTool yX9_isTool ∈ BG := in_r16 _ (List.mem_of_getElem? (i := 10) rfl)
theorem bw_16_11 : Cond.code yX9_isTool cX9_isTool 2 (some .boolean) ∈ BG := in_r16 _ (List.mem_of_getElem? (i := 11) rfl)
theorem bw_16_12 : Cond.methodLink RL 128 yL_blank ∈ BG := in_r16 _ (List.mem_of_getElem? (i := 12) rfl)
theorem bw_16_13 : Cond.static yL_blank ∈ BG := in_r16 _ (List.mem_of_getElem? (i := 13) rfl)
theorem bw_16_14 : Cond.codeWith yL_blank cL_blank 5 (some .int) [(0, 10, 13, 24)] ∈ BG := in_r16 _ (List.mem_of_getElem? (i := 14) rfl)
theorem bw_16_15 : Cond.methodLink RL 44 yX8_blank ∈ BG := in_r16 _ (List.mem_of_getElem? (i := 15) rfl)
theorem bw_16_16 : Cond.instanceMethod yX8_blank ∈ BG := in_r16 _ (List.mem_of_getElem? (i := 16) rfl)
theorem bw_16_17 : Cond.selects RX8 yX8_blank yX8_blank ∈ BG := in_r16 _ (List.mem_of_getElem? (i := 17) rfl)
theorem bw_16_18 : Cond.code yX8_blank cX8_blank 4 (some .int) ∈ BG := in_r16 _ (List.mem_of_getElem? (i := 18) rfl)
theorem bw_16_19 : Cond.methodLink RL 130 yX9_blank ∈ BG := in_r16 _ (List.mem_of_getElem? (i := 19) rfl)
theorem bw_16_20 : Cond.instanceMethod yX9_blank ∈ BG := in_r16 _ (List.mem_of_getElem? (i := 20) rfl)
theorem bw_16_21 : Cond.selects RX9 yX9_blank yX9_blank ∈ BG := in_r16 _ (List.mem_of_getElem? (i := 21) rfl)
theorem bw_16_22 : Cond.code yX9_blank cX9_blank 3 (some .int) ∈ BG := in_r16 _ (List.mem_of_getElem? (i := 22) rfl)
theorem bw_16_23 : Cond.methodLink RL 131 yL_why ∈ BG := in_r16 _ (List.mem_of_getElem? (i := 23) rfl)
theorem bw_17_0 : Cond.static yL_why ∈ BG := in_r17 _ (List.mem_of_getElem? (i := 0) rfl)
theorem bw_17_1 : Cond.codeWith yL_why cL_why 7 (some .int) [(0, 14, 17, 24), (0, 14, 21, 13)] ∈ BG := in_r17 _ (List.mem_of_getElem? (i := 1) rfl)
theorem bw_17_2 : Cond.methodLink RL 47 yX8_why ∈ BG := in_r17 _ (List.mem_of_getElem? (i := 2) rfl)
theorem bw_17_3 : Cond.instanceMethod yX8_why ∈ BG := in_r17 _ (List.mem_of_getElem? (i := 3) rfl)
theorem bw_17_4 : Cond.selects RX8 yX8_why yX8_why ∈ BG := in_r17 _ (List.mem_of_getElem? (i := 4) rfl)
theorem bw_17_5 : Cond.code yX8_why cX8_why 7 (some .int) ∈ BG := in_r17 _ (List.mem_of_getElem? (i := 5) rfl)
theorem bw_17_6 : Cond.methodLink RX8 199 yX8_checkBend ∈ BG := in_r17 _ (List.mem_of_getElem? (i := 6) rfl)
theorem bw_17_7 : Cond.static yX8_checkBend ∈ BG := in_r17 _ (List.mem_of_getElem? (i := 7) rfl)
theorem bw_17_8 : Cond.code yX8_checkBend cX8_checkBend 2 none ∈ BG := in_r17 _ (List.mem_of_getElem? (i := 8) rfl)
theorem bw_17_9 : Cond.methodLink RX8 346 yX2_bends ∈ BG := in_r17 _ (List.mem_of_getElem? (i := 9) rfl)
theorem bw_17_10 : Cond.methodLink RX8 203 yX8_checkDone ∈ BG := in_r17 _ (List.mem_of_getElem? (i := 10) rfl)
theorem bw_17_11 : Cond.static yX8_checkDone ∈ BG := in_r17 _ (List.mem_of_getElem? (i := 11) rfl)
theorem bw_17_12 : Cond.code yX8_checkDone cX8_checkDone 3 none ∈ BG := in_r17 _ (List.mem_of_getElem? (i := 12) rfl)
theorem bw_17_13 : Cond.methodLink RX8 329 yX8_hasBit ∈ BG := in_r17 _ (List.mem_of_getElem? (i := 13) rfl)
theorem bw_17_14 : Cond.static yX8_hasBit ∈ BG := in_r17 _ (List.mem_of_getElem? (i := 14) rfl)
theorem bw_17_15 : Cond.code yX8_hasBit cX8_hasBit 2 (some .boolean) ∈ BG := in_r17 _ (List.mem_of_getElem? (i := 15) rfl)
theorem bw_17_16 : Cond.methodLink RX8 206 yX1_reason ∈ BG := in_r17 _ (List.mem_of_getElem? (i := 16) rfl)
theorem bw_17_17 : Cond.instanceMethod yX1_reason ∈ BG := in_r17 _ (List.mem_of_getElem? (i := 17) rfl)
theorem bw_17_18 : Cond.selects RX1 yX1_reason yX1_reason ∈ BG := in_r17 _ (List.mem_of_getElem? (i := 18) rfl)
theorem bw_17_19 : Cond.code yX1_reason cX1_reason 5 (some .int) ∈ BG := in_r17 _ (List.mem_of_getElem? (i := 19) rfl)
theorem bw_17_20 : Cond.fieldLink RX1 21 "PressbrakeLane$Part" "drawing" "LPressbrakeLane$Drawing;" ∈ BG := in_r17 _ (List.mem_of_getElem? (i := 20) rfl)
theorem bw_17_21 : Cond.fieldLink RX1 31 "PressbrakeLane$Wing" "run" "I" ∈ BG := in_r17 _ (List.mem_of_getElem? (i := 21) rfl)
theorem bw_17_22 : Cond.methodLink RX1 35 Lib.Math.min.name ∈ BG := in_r17 _ (List.mem_of_getElem? (i := 22) rfl)
theorem bw_17_23 : Cond.static Lib.Math.min.name ∈ BG := in_r17 _ (List.mem_of_getElem? (i := 23) rfl)
theorem bw_18_0 : Cond.initialized "java/lang/Math" ∈ BG := in_r18 _ (List.mem_of_getElem? (i := 0) rfl)
theorem bw_18_1 : Cond.code Lib.Math.min.name Lib.Math.min.code 2 (some .int) ∈ BG := in_r18 _ (List.mem_of_getElem? (i := 1) rfl)
theorem bw_18_2 : Cond.fieldLink RX1 41 "PressbrakeLane$Tool" "opening" "I" ∈ BG := in_r18 _ (List.mem_of_getElem? (i := 2) rfl)
theorem bw_18_3 : Cond.fieldLink RX1 46 "PressbrakeLane$Part" "thickness" "I" ∈ BG := in_r18 _ (List.mem_of_getElem? (i := 3) rfl)
theorem bw_18_4 : Cond.fieldLink RX1 49 "PressbrakeLane$Tool" "gauge" "I" ∈ BG := in_r18 _ (List.mem_of_getElem? (i := 4) rfl)
theorem bw_18_5 : Cond.fieldLink RX1 52 "PressbrakeLane$Tool" "punch" "I" ∈ BG := in_r18 _ (List.mem_of_getElem? (i := 5) rfl)
theorem bw_18_6 : Cond.fieldLink RX1 59 "PressbrakeLane$Tool" "die" "I" ∈ BG := in_r18 _ (List.mem_of_getElem? (i := 6) rfl)
theorem bw_18_7 : Cond.fieldLink RX1 62 "PressbrakeLane$Tool" "table" "I" ∈ BG := in_r18 _ (List.mem_of_getElem? (i := 7) rfl)
theorem bw_18_8 : Cond.methodLink RX1 27 yX7_unroll ∈ BG := in_r18 _ (List.mem_of_getElem? (i := 8) rfl)
theorem bw_18_9 : Cond.instanceMethod yX7_unroll ∈ BG := in_r18 _ (List.mem_of_getElem? (i := 9) rfl)
theorem bw_18_10 : Cond.selects RX7 yX7_unroll yX7_unroll ∈ BG := in_r18 _ (List.mem_of_getElem? (i := 10) rfl)
theorem bw_18_11 : Cond.code yX7_unroll cX7_unroll 15 none ∈ BG := in_r18 _ (List.mem_of_getElem? (i := 11) rfl)
theorem bw_18_12 : Cond.fieldLink RX7 24 "PressbrakeLane$Wing" "points" "I" ∈ BG := in_r18 _ (List.mem_of_getElem? (i := 12) rfl)
theorem bw_18_13 : Cond.fieldLink RX7 28 "PressbrakeLane$Wing" "run" "I" ∈ BG := in_r18 _ (List.mem_of_getElem? (i := 13) rfl)
theorem bw_18_14 : Cond.fieldLink RX7 39 "PressbrakeLane$Drawing" "lengths" "[I" ∈ BG := in_r18 _ (List.mem_of_getElem? (i := 14) rfl)
theorem bw_18_15 : Cond.methodLink RX7 18 yX2_wingFaces ∈ BG := in_r18 _ (List.mem_of_getElem? (i := 15) rfl)
theorem bw_18_16 : Cond.instanceMethod yX2_wingFaces ∈ BG := in_r18 _ (List.mem_of_getElem? (i := 16) rfl)
theorem bw_18_17 : Cond.selects RX2 yX2_wingFaces yX2_wingFaces ∈ BG := in_r18 _ (List.mem_of_getElem? (i := 17) rfl)
theorem bw_18_18 : Cond.code yX2_wingFaces cX2_wingFaces 3 (some .int) ∈ BG := in_r18 _ (List.mem_of_getElem? (i := 18) rfl)
theorem bw_18_19 : Cond.methodLink RX7 35 yX2_directionOf ∈ BG := in_r18 _ (List.mem_of_getElem? (i := 19) rfl)
theorem bw_18_20 : Cond.instanceMethod yX2_directionOf ∈ BG := in_r18 _ (List.mem_of_getElem? (i := 20) rfl)
theorem bw_18_21 : Cond.selects RX2 yX2_directionOf yX2_directionOf ∈ BG := in_r18 _ (List.mem_of_getElem? (i := 21) rfl)
theorem bw_18_22 : Cond.code yX2_directionOf cX2_directionOf 2 (some .int) ∈ BG := in_r18 _ (List.mem_of_getElem? (i := 22) rfl)
theorem bw_18_23 : Cond.methodLink RX1 55 yX7_hitsPunch ∈ BG := in_r18 _ (List.mem_of_getElem? (i := 23) rfl)
theorem bw_19_0 : Cond.instanceMethod yX7_hitsPunch ∈ BG := in_r19 _ (List.mem_of_getElem? (i := 0) rfl)
theorem bw_19_1 : Cond.selects RX7 yX7_hitsPunch yX7_hitsPunch ∈ BG := in_r19 _ (List.mem_of_getElem? (i := 1) rfl)
theorem bw_19_2 : Cond.code yX7_hitsPunch cX7_hitsPunch 3 (some .boolean) ∈ BG := in_r19 _ (List.mem_of_getElem? (i := 2) rfl)
theorem bw_19_3 : Cond.methodLink RX1 65 yX7_hitsTable ∈ BG := in_r19 _ (List.mem_of_getElem? (i := 3) rfl)
theorem bw_19_4 : Cond.instanceMethod yX7_hitsTable ∈ BG := in_r19 _ (List.mem_of_getElem? (i := 4) rfl)
theorem bw_19_5 : Cond.selects RX7 yX7_hitsTable yX7_hitsTable ∈ BG := in_r19 _ (List.mem_of_getElem? (i := 5) rfl)
theorem bw_19_6 : Cond.code yX7_hitsTable cX7_hitsTable 4 (some .boolean) ∈ BG := in_r19 _ (List.mem_of_getElem? (i := 6) rfl)
theorem bw_19_7 : Cond.methodLink RL 133 yX9_why ∈ BG := in_r19 _ (List.mem_of_getElem? (i := 7) rfl)
theorem bw_19_8 : Cond.instanceMethod yX9_why ∈ BG := in_r19 _ (List.mem_of_getElem? (i := 8) rfl)
theorem bw_19_9 : Cond.selects RX9 yX9_why yX9_why ∈ BG := in_r19 _ (List.mem_of_getElem? (i := 9) rfl)
theorem bw_19_10 : Cond.code yX9_why cX9_why 6 (some .int) ∈ BG := in_r19 _ (List.mem_of_getElem? (i := 10) rfl)
theorem bw_19_11 : Cond.methodLink RX9 184 yX9_isDone ∈ BG := in_r19 _ (List.mem_of_getElem? (i := 11) rfl)
theorem bw_19_12 : Cond.instanceMethod yX9_isDone ∈ BG := in_r19 _ (List.mem_of_getElem? (i := 12) rfl)
theorem bw_19_13 : Cond.selects RX9 yX9_isDone yX9_isDone ∈ BG := in_r19 _ (List.mem_of_getElem? (i := 13) rfl)
theorem bw_19_14 : Cond.code yX9_isDone cX9_isDone 4 (some .boolean) ∈ BG := in_r19 _ (List.mem_of_getElem? (i := 14) rfl)
theorem bw_19_15 : Cond.methodLink RX9 187 yX9_reason ∈ BG := in_r19 _ (List.mem_of_getElem? (i := 15) rfl)
theorem bw_19_16 : Cond.instanceMethod yX9_reason ∈ BG := in_r19 _ (List.mem_of_getElem? (i := 16) rfl)
theorem bw_19_17 : Cond.selects RX9 yX9_reason yX9_reason ∈ BG := in_r19 _ (List.mem_of_getElem? (i := 17) rfl)
theorem bw_19_18 : Cond.code yX9_reason cX9_reason 11 (some .int) ∈ BG := in_r19 _ (List.mem_of_getElem? (i := 18) rfl)
theorem bw_19_19 : Cond.fieldLink RX9 157 "PressbrakeLaneModel" "v" "I" ∈ BG := in_r19 _ (List.mem_of_getElem? (i := 19) rfl)
theorem bw_19_20 : Cond.fieldLink RX9 154 "PressbrakeLaneModel" "u" "I" ∈ BG := in_r19 _ (List.mem_of_getElem? (i := 20) rfl)
theorem bw_19_21 : Cond.fieldLink RX9 166 "PressbrakeLaneModel" "run" "I" ∈ BG := in_r19 _ (List.mem_of_getElem? (i := 21) rfl)
theorem bw_19_22 : Cond.methodLink RX9 173 yX9_start ∈ BG := in_r19 _ (List.mem_of_getElem? (i := 22) rfl)
theorem bw_19_23 : Cond.instanceMethod yX9_start ∈ BG := in_r19 _ (List.mem_of_getElem? (i := 23) rfl)
theorem bw_20_0 : Cond.selects RX9 yX9_start yX9_start ∈ BG := in_r20 _ (List.mem_of_getElem? (i := 0) rfl)
theorem bw_20_1 : Cond.code yX9_start cX9_start 1 none ∈ BG := in_r20 _ (List.mem_of_getElem? (i := 1) rfl)
theorem bw_20_2 : Cond.fieldLink RX9 160 "PressbrakeLaneModel" "du" "I" ∈ BG := in_r20 _ (List.mem_of_getElem? (i := 2) rfl)
theorem bw_20_3 : Cond.fieldLink RX9 163 "PressbrakeLaneModel" "dv" "I" ∈ BG := in_r20 _ (List.mem_of_getElem? (i := 3) rfl)
theorem bw_20_4 : Cond.fieldLink RX9 169 "PressbrakeLaneModel" "isStraight" "Z" ∈ BG := in_r20 _ (List.mem_of_getElem? (i := 4) rfl)
theorem bw_20_5 : Cond.methodLink RX9 176 yX9_wing ∈ BG := in_r20 _ (List.mem_of_getElem? (i := 5) rfl)
theorem bw_20_6 : Cond.instanceMethod yX9_wing ∈ BG := in_r20 _ (List.mem_of_getElem? (i := 6) rfl)
theorem bw_20_7 : Cond.selects RX9 yX9_wing yX9_wing ∈ BG := in_r20 _ (List.mem_of_getElem? (i := 7) rfl)
theorem bw_20_8 : Cond.code yX9_wing cX9_wing 4 (some .int) ∈ BG := in_r20 _ (List.mem_of_getElem? (i := 8) rfl)
theorem bw_20_9 : Cond.methodLink RX9 180 yX9_go ∈ BG := in_r20 _ (List.mem_of_getElem? (i := 9) rfl)
theorem bw_20_10 : Cond.instanceMethod yX9_go ∈ BG := in_r20 _ (List.mem_of_getElem? (i := 10) rfl)
theorem bw_20_11 : Cond.selects RX9 yX9_go yX9_go ∈ BG := in_r20 _ (List.mem_of_getElem? (i := 11) rfl)
theorem bw_20_12 : Cond.code yX9_go cX9_go 10 none ∈ BG := in_r20 _ (List.mem_of_getElem? (i := 12) rfl)
theorem bw_20_13 : Cond.methodLink RL 134 yL_point ∈ BG := in_r20 _ (List.mem_of_getElem? (i := 13) rfl)
theorem bw_20_14 : Cond.static yL_point ∈ BG := in_r20 _ (List.mem_of_getElem? (i := 14) rfl)
theorem bw_20_15 : Cond.codeWith yL_point cL_point 9 (some .int) [(0, 18, 21, 24), (0, 18, 25, 13)] ∈ BG := in_r20 _ (List.mem_of_getElem? (i := 15) rfl)
theorem bw_20_16 : Cond.methodLink RL 50 yX8_point ∈ BG := in_r20 _ (List.mem_of_getElem? (i := 16) rfl)
theorem bw_20_17 : Cond.instanceMethod yX8_point ∈ BG := in_r20 _ (List.mem_of_getElem? (i := 17) rfl)
theorem bw_20_18 : Cond.selects RX8 yX8_point yX8_point ∈ BG := in_r20 _ (List.mem_of_getElem? (i := 18) rfl)
theorem bw_20_19 : Cond.code yX8_point cX8_point 9 (some .int) ∈ BG := in_r20 _ (List.mem_of_getElem? (i := 19) rfl)
theorem bw_20_20 : Cond.fieldLink RX8 216 "PressbrakeLane$Brake" "right" "LPressbrakeLane$Wing;" ∈ BG := in_r20 _ (List.mem_of_getElem? (i := 20) rfl)
theorem bw_20_21 : Cond.fieldLink RX8 226 "PressbrakeLane$Wing" "vs" "[I" ∈ BG := in_r20 _ (List.mem_of_getElem? (i := 21) rfl)
theorem bw_20_22 : Cond.fieldLink RX8 229 "PressbrakeLane$Wing" "us" "[I" ∈ BG := in_r20 _ (List.mem_of_getElem? (i := 22) rfl)
theorem bw_20_23 : Cond.methodLink RX8 210 yX2_wingFaces ∈ BG := in_r20 _ (List.mem_of_getElem? (i := 23) rfl)
theorem bw_21_0 : Cond.methodLink RX8 220 yX7_unroll ∈ BG := in_r21 _ (List.mem_of_getElem? (i := 0) rfl)
theorem bw_21_1 : Cond.methodLink RL 137 yX9_point ∈ BG := in_r21 _ (List.mem_of_getElem? (i := 1) rfl)
theorem bw_21_2 : Cond.instanceMethod yX9_point ∈ BG := in_r21 _ (List.mem_of_getElem? (i := 2) rfl)
theorem bw_21_3 : Cond.selects RX9 yX9_point yX9_point ∈ BG := in_r21 _ (List.mem_of_getElem? (i := 3) rfl)
theorem bw_21_4 : Cond.code yX9_point cX9_point 9 (some .int) ∈ BG := in_r21 _ (List.mem_of_getElem? (i := 4) rfl)
theorem bw_21_5 : Cond.methodLink RL 138 yL_flips ∈ BG := in_r21 _ (List.mem_of_getElem? (i := 5) rfl)
theorem bw_21_6 : Cond.static yL_flips ∈ BG := in_r21 _ (List.mem_of_getElem? (i := 6) rfl)
theorem bw_21_7 : Cond.codeWith yL_flips cL_flips 5 (some .int) [(0, 10, 13, 24)] ∈ BG := in_r21 _ (List.mem_of_getElem? (i := 7) rfl)
theorem bw_21_8 : Cond.methodLink RL 54 yX8_flips ∈ BG := in_r21 _ (List.mem_of_getElem? (i := 8) rfl)
theorem bw_21_9 : Cond.instanceMethod yX8_flips ∈ BG := in_r21 _ (List.mem_of_getElem? (i := 9) rfl)
theorem bw_21_10 : Cond.selects RX8 yX8_flips yX8_flips ∈ BG := in_r21 _ (List.mem_of_getElem? (i := 10) rfl)
theorem bw_21_11 : Cond.code yX8_flips cX8_flips 4 (some .int) ∈ BG := in_r21 _ (List.mem_of_getElem? (i := 11) rfl)
theorem bw_21_12 : Cond.fieldLink RX8 236 "PressbrakeLane$Planner" "turns" "I" ∈ BG := in_r21 _ (List.mem_of_getElem? (i := 12) rfl)
theorem bw_21_13 : Cond.methodLink RX8 232 yX5_plan ∈ BG := in_r21 _ (List.mem_of_getElem? (i := 13) rfl)
theorem bw_21_14 : Cond.instanceMethod yX5_plan ∈ BG := in_r21 _ (List.mem_of_getElem? (i := 14) rfl)
theorem bw_21_15 : Cond.selects RX5 yX5_plan yX5_plan ∈ BG := in_r21 _ (List.mem_of_getElem? (i := 15) rfl)
theorem bw_21_16 : Cond.code yX5_plan cX5_plan 8 none ∈ BG := in_r21 _ (List.mem_of_getElem? (i := 16) rfl)
theorem bw_21_17 : Cond.fieldLink RX5 28 "PressbrakeLane$Planner" "bends" "I" ∈ BG := in_r21 _ (List.mem_of_getElem? (i := 17) rfl)
theorem bw_21_18 : Cond.fieldLink RX5 44 "PressbrakeLane$Planner" "turns" "I" ∈ BG := in_r21 _ (List.mem_of_getElem? (i := 18) rfl)
theorem bw_21_19 : Cond.fieldLink RX5 47 "PressbrakeLane$Planner" "placeCount" "I" ∈ BG := in_r21 _ (List.mem_of_getElem? (i := 19) rfl)
theorem bw_21_20 : Cond.methodLink RX5 24 yX5_look ∈ BG := in_r21 _ (List.mem_of_getElem? (i := 20) rfl)
theorem bw_21_21 : Cond.instanceMethod yX5_look ∈ BG := in_r21 _ (List.mem_of_getElem? (i := 21) rfl)
theorem bw_21_22 : Cond.selects RX5 yX5_look yX5_look ∈ BG := in_r21 _ (List.mem_of_getElem? (i := 22) rfl)
theorem bw_21_23 : Cond.code yX5_look cX5_look 6 none ∈ BG := in_r21 _ (List.mem_of_getElem? (i := 23) rfl)
theorem bw_22_0 : Cond.fieldLink RX5 54 "PressbrakeLane$Part" "drawing" "LPressbrakeLane$Drawing;" ∈ BG := in_r22 _ (List.mem_of_getElem? (i := 0) rfl)
theorem bw_22_1 : Cond.methodLink RX5 60 yX2_bends ∈ BG := in_r22 _ (List.mem_of_getElem? (i := 1) rfl)
theorem bw_22_2 : Cond.methodLink RX5 65 yX2_directionOf ∈ BG := in_r22 _ (List.mem_of_getElem? (i := 2) rfl)
theorem bw_22_3 : Cond.methodLink RX5 72 yX1_reason ∈ BG := in_r22 _ (List.mem_of_getElem? (i := 3) rfl)
theorem bw_22_4 : Cond.methodLink RX5 32 yX5_bestNext ∈ BG := in_r22 _ (List.mem_of_getElem? (i := 4) rfl)
theorem bw_22_5 : Cond.instanceMethod yX5_bestNext ∈ BG := in_r22 _ (List.mem_of_getElem? (i := 5) rfl)
theorem bw_22_6 : Cond.selects RX5 yX5_bestNext yX5_bestNext ∈ BG := in_r22 _ (List.mem_of_getElem? (i := 6) rfl)
theorem bw_22_7 : Cond.code yX5_bestNext cX5_bestNext 7 (some .int) ∈ BG := in_r22 _ (List.mem_of_getElem? (i := 7) rfl)
theorem bw_22_8 : Cond.methodLink RX5 40 yX5_turnsBy ∈ BG := in_r22 _ (List.mem_of_getElem? (i := 8) rfl)
theorem bw_22_9 : Cond.instanceMethod yX5_turnsBy ∈ BG := in_r22 _ (List.mem_of_getElem? (i := 9) rfl)
theorem bw_22_10 : Cond.selects RX5 yX5_turnsBy yX5_turnsBy ∈ BG := in_r22 _ (List.mem_of_getElem? (i := 10) rfl)
theorem bw_22_11 : Cond.code yX5_turnsBy cX5_turnsBy 5 (some .int) ∈ BG := in_r22 _ (List.mem_of_getElem? (i := 11) rfl)
theorem bw_22_12 : Cond.methodLink RX5 78 yX5_turn ∈ BG := in_r22 _ (List.mem_of_getElem? (i := 12) rfl)
theorem bw_22_13 : Cond.instanceMethod yX5_turn ∈ BG := in_r22 _ (List.mem_of_getElem? (i := 13) rfl)
theorem bw_22_14 : Cond.selects RX5 yX5_turn yX5_turn ∈ BG := in_r22 _ (List.mem_of_getElem? (i := 14) rfl)
theorem bw_22_15 : Cond.code yX5_turn cX5_turn 3 (some .int) ∈ BG := in_r22 _ (List.mem_of_getElem? (i := 15) rfl)
theorem bw_22_16 : Cond.methodLink RX5 36 yX5_restOfNone ∈ BG := in_r22 _ (List.mem_of_getElem? (i := 16) rfl)
theorem bw_22_17 : Cond.instanceMethod yX5_restOfNone ∈ BG := in_r22 _ (List.mem_of_getElem? (i := 17) rfl)
theorem bw_22_18 : Cond.selects RX5 yX5_restOfNone yX5_restOfNone ∈ BG := in_r22 _ (List.mem_of_getElem? (i := 18) rfl)
theorem bw_22_19 : Cond.code yX5_restOfNone cX5_restOfNone 2 (some .int) ∈ BG := in_r22 _ (List.mem_of_getElem? (i := 19) rfl)
theorem bw_22_20 : Cond.methodLink RL 140 yX9_flips ∈ BG := in_r22 _ (List.mem_of_getElem? (i := 20) rfl)
theorem bw_22_21 : Cond.instanceMethod yX9_flips ∈ BG := in_r22 _ (List.mem_of_getElem? (i := 21) rfl)
theorem bw_22_22 : Cond.selects RX9 yX9_flips yX9_flips ∈ BG := in_r22 _ (List.mem_of_getElem? (i := 22) rfl)
theorem bw_22_23 : Cond.code yX9_flips cX9_flips 3 (some .int) ∈ BG := in_r22 _ (List.mem_of_getElem? (i := 23) rfl)
theorem bw_23_0 : Cond.methodLink RX9 198 yX9_turns ∈ BG := in_r23 _ (List.mem_of_getElem? (i := 0) rfl)
theorem bw_23_1 : Cond.instanceMethod yX9_turns ∈ BG := in_r23 _ (List.mem_of_getElem? (i := 1) rfl)
theorem bw_23_2 : Cond.selects RX9 yX9_turns yX9_turns ∈ BG := in_r23 _ (List.mem_of_getElem? (i := 2) rfl)
theorem bw_23_3 : Cond.code yX9_turns cX9_turns 3 (some .int) ∈ BG := in_r23 _ (List.mem_of_getElem? (i := 3) rfl)
theorem bw_23_4 : Cond.methodLink RX9 194 yX9_findOrders ∈ BG := in_r23 _ (List.mem_of_getElem? (i := 4) rfl)
theorem bw_23_5 : Cond.instanceMethod yX9_findOrders ∈ BG := in_r23 _ (List.mem_of_getElem? (i := 5) rfl)
theorem bw_23_6 : Cond.selects RX9 yX9_findOrders yX9_findOrders ∈ BG := in_r23 _ (List.mem_of_getElem? (i := 6) rfl)
theorem bw_23_7 : Cond.code yX9_findOrders cX9_findOrders 9 none ∈ BG := in_r23 _ (List.mem_of_getElem? (i := 7) rfl)
theorem bw_23_8 : Cond.methodLink RX9 191 yX9_turn ∈ BG := in_r23 _ (List.mem_of_getElem? (i := 8) rfl)
theorem bw_23_9 : Cond.instanceMethod yX9_turn ∈ BG := in_r23 _ (List.mem_of_getElem? (i := 9) rfl)
theorem bw_23_10 : Cond.selects RX9 yX9_turn yX9_turn ∈ BG := in_r23 _ (List.mem_of_getElem? (i := 10) rfl)
theorem bw_23_11 : Cond.code yX9_turn cX9_turn 4 (some .int) ∈ BG := in_r23 _ (List.mem_of_getElem? (i := 11) rfl)
theorem bw_23_12 : Cond.methodLink RL 141 yL_flipsAnew ∈ BG := in_r23 _ (List.mem_of_getElem? (i := 12) rfl)
theorem bw_23_13 : Cond.static yL_flipsAnew ∈ BG := in_r23 _ (List.mem_of_getElem? (i := 13) rfl)
theorem bw_23_14 : Cond.codeWith yL_flipsAnew cL_flipsAnew 5 (some .int) [(0, 10, 13, 24)] ∈ BG := in_r23 _ (List.mem_of_getElem? (i := 14) rfl)
theorem bw_23_15 : Cond.methodLink RL 57 yX8_flipsAnew ∈ BG := in_r23 _ (List.mem_of_getElem? (i := 15) rfl)
theorem bw_23_16 : Cond.instanceMethod yX8_flipsAnew ∈ BG := in_r23 _ (List.mem_of_getElem? (i := 16) rfl)
theorem bw_23_17 : Cond.selects RX8 yX8_flipsAnew yX8_flipsAnew ∈ BG := in_r23 _ (List.mem_of_getElem? (i := 17) rfl)
theorem bw_23_18 : Cond.code yX8_flipsAnew cX8_flipsAnew 4 (some .int) ∈ BG := in_r23 _ (List.mem_of_getElem? (i := 18) rfl)
theorem bw_23_19 : Cond.methodLink RX8 239 yX5_fewestOfAll ∈ BG := in_r23 _ (List.mem_of_getElem? (i := 19) rfl)
theorem bw_23_20 : Cond.instanceMethod yX5_fewestOfAll ∈ BG := in_r23 _ (List.mem_of_getElem? (i := 20) rfl)
theorem bw_23_21 : Cond.selects RX5 yX5_fewestOfAll yX5_fewestOfAll ∈ BG := in_r23 _ (List.mem_of_getElem? (i := 21) rfl)
theorem bw_23_22 : Cond.code yX5_fewestOfAll cX5_fewestOfAll 4 (some .int) ∈ BG := in_r23 _ (List.mem_of_getElem? (i := 22) rfl)
theorem bw_23_23 : Cond.methodLink RX5 50 yX5_fewestBeyond ∈ BG := in_r23 _ (List.mem_of_getElem? (i := 23) rfl)
theorem bw_24_0 : Cond.static yX5_fewestBeyond ∈ BG := in_r24 _ (List.mem_of_getElem? (i := 0) rfl)
theorem bw_24_1 : Cond.code yX5_fewestBeyond cX5_fewestBeyond 7 (some .int) ∈ BG := in_r24 _ (List.mem_of_getElem? (i := 1) rfl)
theorem bw_24_2 : Cond.methodLink RL 143 yX9_flipsAnew ∈ BG := in_r24 _ (List.mem_of_getElem? (i := 2) rfl)
theorem bw_24_3 : Cond.instanceMethod yX9_flipsAnew ∈ BG := in_r24 _ (List.mem_of_getElem? (i := 3) rfl)
theorem bw_24_4 : Cond.selects RX9 yX9_flipsAnew yX9_flipsAnew ∈ BG := in_r24 _ (List.mem_of_getElem? (i := 4) rfl)
theorem bw_24_5 : Cond.code yX9_flipsAnew cX9_flipsAnew 3 (some .int) ∈ BG := in_r24 _ (List.mem_of_getElem? (i := 5) rfl)
theorem bw_24_6 : Cond.methodLink RL 144 yL_ordered ∈ BG := in_r24 _ (List.mem_of_getElem? (i := 6) rfl)
theorem bw_24_7 : Cond.static yL_ordered ∈ BG := in_r24 _ (List.mem_of_getElem? (i := 7) rfl)
theorem bw_24_8 : Cond.codeWith yL_ordered cL_ordered 6 (some .int) [(0, 12, 15, 24)] ∈ BG := in_r24 _ (List.mem_of_getElem? (i := 8) rfl)
theorem bw_24_9 : Cond.methodLink RL 60 yX8_ordered ∈ BG := in_r24 _ (List.mem_of_getElem? (i := 9) rfl)
theorem bw_24_10 : Cond.instanceMethod yX8_ordered ∈ BG := in_r24 _ (List.mem_of_getElem? (i := 10) rfl)
theorem bw_24_11 : Cond.selects RX8 yX8_ordered yX8_ordered ∈ BG := in_r24 _ (List.mem_of_getElem? (i := 11) rfl)
theorem bw_24_12 : Cond.code yX8_ordered cX8_ordered 6 (some .int) ∈ BG := in_r24 _ (List.mem_of_getElem? (i := 12) rfl)
theorem bw_24_13 : Cond.fieldLink RX8 245 "PressbrakeLane$Planner" "placeCount" "I" ∈ BG := in_r24 _ (List.mem_of_getElem? (i := 13) rfl)
theorem bw_24_14 : Cond.fieldLink RX8 248 "PressbrakeLane$Planner" "places" "[I" ∈ BG := in_r24 _ (List.mem_of_getElem? (i := 14) rfl)
theorem bw_24_15 : Cond.methodLink RL 146 yX9_ordered ∈ BG := in_r24 _ (List.mem_of_getElem? (i := 15) rfl)
theorem bw_24_16 : Cond.instanceMethod yX9_ordered ∈ BG := in_r24 _ (List.mem_of_getElem? (i := 16) rfl)
theorem bw_24_17 : Cond.selects RX9 yX9_ordered yX9_ordered ∈ BG := in_r24 _ (List.mem_of_getElem? (i := 17) rfl)
theorem bw_24_18 : Cond.code yX9_ordered cX9_ordered 10 (some .int) ∈ BG := in_r24 _ (List.mem_of_getElem? (i := 18) rfl)
theorem bw_24_19 : Cond.methodLink RL 147 yL_want ∈ BG := in_r24 _ (List.mem_of_getElem? (i := 19) rfl)
theorem bw_24_20 : Cond.static yL_want ∈ BG := in_r24 _ (List.mem_of_getElem? (i := 20) rfl)
theorem bw_24_21 : Cond.codeWith yL_want cL_want 5 (some .int) [(0, 10, 13, 24), (0, 10, 17, 13), (0, 10, 21, 15)] ∈ BG := in_r24 _ (List.mem_of_getElem? (i := 21) rfl)
theorem bw_24_22 : Cond.methodLink RL 63 yX8_want ∈ BG := in_r24 _ (List.mem_of_getElem? (i := 22) rfl)
theorem bw_24_23 : Cond.instanceMethod yX8_want ∈ BG := in_r24 _ (List.mem_of_getElem? (i := 23) rfl)
theorem bw_25_0 : Cond.selects RX8 yX8_want yX8_want ∈ BG := in_r25 _ (List.mem_of_getElem? (i := 0) rfl)
theorem bw_25_1 : Cond.code yX8_want cX8_want 3 (some .int) ∈ BG := in_r25 _ (List.mem_of_getElem? (i := 1) rfl)
theorem bw_25_2 : Cond.fieldLink RX8 253 "PressbrakeLane" "lotCount" "I" ∈ BG := in_r25 _ (List.mem_of_getElem? (i := 2) rfl)
theorem bw_25_3 : Cond.methodLink RL 149 yX9_want ∈ BG := in_r25 _ (List.mem_of_getElem? (i := 3) rfl)
theorem bw_25_4 : Cond.instanceMethod yX9_want ∈ BG := in_r25 _ (List.mem_of_getElem? (i := 4) rfl)
theorem bw_25_5 : Cond.selects RX9 yX9_want yX9_want ∈ BG := in_r25 _ (List.mem_of_getElem? (i := 5) rfl)
theorem bw_25_6 : Cond.code yX9_want cX9_want 4 (some .int) ∈ BG := in_r25 _ (List.mem_of_getElem? (i := 6) rfl)
theorem bw_25_7 : Cond.methodLink RX9 201 yX9_wanted ∈ BG := in_r25 _ (List.mem_of_getElem? (i := 7) rfl)
theorem bw_25_8 : Cond.instanceMethod yX9_wanted ∈ BG := in_r25 _ (List.mem_of_getElem? (i := 8) rfl)
theorem bw_25_9 : Cond.selects RX9 yX9_wanted yX9_wanted ∈ BG := in_r25 _ (List.mem_of_getElem? (i := 9) rfl)
theorem bw_25_10 : Cond.code yX9_wanted cX9_wanted 3 (some .int) ∈ BG := in_r25 _ (List.mem_of_getElem? (i := 10) rfl)
theorem bw_25_11 : Cond.methodLink RL 150 yX8_clear ∈ BG := in_r25 _ (List.mem_of_getElem? (i := 11) rfl)
theorem bw_25_12 : Cond.instanceMethod yX8_clear ∈ BG := in_r25 _ (List.mem_of_getElem? (i := 12) rfl)
theorem bw_25_13 : Cond.selects RX8 yX8_clear yX8_clear ∈ BG := in_r25 _ (List.mem_of_getElem? (i := 13) rfl)
theorem bw_25_14 : Cond.code yX8_clear cX8_clear 3 (some .int) ∈ BG := in_r25 _ (List.mem_of_getElem? (i := 14) rfl)
theorem bw_25_15 : Cond.methodLink RL 153 yX9_clear ∈ BG := in_r25 _ (List.mem_of_getElem? (i := 15) rfl)
theorem bw_25_16 : Cond.instanceMethod yX9_clear ∈ BG := in_r25 _ (List.mem_of_getElem? (i := 16) rfl)
theorem bw_25_17 : Cond.selects RX9 yX9_clear yX9_clear ∈ BG := in_r25 _ (List.mem_of_getElem? (i := 17) rfl)
theorem bw_25_18 : Cond.code yX9_clear cX9_clear 3 (some .int) ∈ BG := in_r25 _ (List.mem_of_getElem? (i := 18) rfl)
theorem bw_25_19 : Cond.methodLink RL 154 yL_nest ∈ BG := in_r25 _ (List.mem_of_getElem? (i := 19) rfl)
theorem bw_25_20 : Cond.static yL_nest ∈ BG := in_r25 _ (List.mem_of_getElem? (i := 20) rfl)
theorem bw_25_21 : Cond.codeWith yL_nest cL_nest 7 (some .int) [(0, 13, 16, 24), (0, 13, 20, 13)] ∈ BG := in_r25 _ (List.mem_of_getElem? (i := 21) rfl)
theorem bw_25_22 : Cond.methodLink RL 66 yX8_nest ∈ BG := in_r25 _ (List.mem_of_getElem? (i := 22) rfl)
theorem bw_25_23 : Cond.instanceMethod yX8_nest ∈ BG := in_r25 _ (List.mem_of_getElem? (i := 23) rfl)
theorem bw_26_0 : Cond.selects RX8 yX8_nest yX8_nest ∈ BG := in_r26 _ (List.mem_of_getElem? (i := 0) rfl)
theorem bw_26_1 : Cond.code yX8_nest cX8_nest 7 (some .long) ∈ BG := in_r26 _ (List.mem_of_getElem? (i := 1) rfl)
theorem bw_26_2 : Cond.methodLink RX8 258 Lib.Math.min.name ∈ BG := in_r26 _ (List.mem_of_getElem? (i := 2) rfl)
theorem bw_26_3 : Cond.constantLong RX8 277 (-1) ∈ BG := in_r26 _ (List.mem_of_getElem? (i := 3) rfl)
theorem bw_26_4 : Cond.methodLink RX8 266 yX3_start ∈ BG := in_r26 _ (List.mem_of_getElem? (i := 4) rfl)
theorem bw_26_5 : Cond.instanceMethod yX3_start ∈ BG := in_r26 _ (List.mem_of_getElem? (i := 5) rfl)
theorem bw_26_6 : Cond.selects RX3 yX3_start yX3_start ∈ BG := in_r26 _ (List.mem_of_getElem? (i := 6) rfl)
theorem bw_26_7 : Cond.code yX3_start cX3_start 3 none ∈ BG := in_r26 _ (List.mem_of_getElem? (i := 7) rfl)
theorem bw_26_8 : Cond.fieldLink RX3 36 "PressbrakeLane$Nester" "sheetLength" "I" ∈ BG := in_r26 _ (List.mem_of_getElem? (i := 8) rfl)
theorem bw_26_9 : Cond.fieldLink RX3 40 "PressbrakeLane$Nester" "sheetWidth" "I" ∈ BG := in_r26 _ (List.mem_of_getElem? (i := 9) rfl)
theorem bw_26_10 : Cond.fieldLink RX3 43 "PressbrakeLane$Nester" "kinds" "I" ∈ BG := in_r26 _ (List.mem_of_getElem? (i := 10) rfl)
theorem bw_26_11 : Cond.fieldLink RX3 46 "PressbrakeLane$Nester" "rows" "I" ∈ BG := in_r26 _ (List.mem_of_getElem? (i := 11) rfl)
theorem bw_26_12 : Cond.fieldLink RX3 49 "PressbrakeLane$Nester" "sheets" "I" ∈ BG := in_r26 _ (List.mem_of_getElem? (i := 12) rfl)
theorem bw_26_13 : Cond.fieldLink RX3 52 "PressbrakeLane$Nester" "cuts" "J" ∈ BG := in_r26 _ (List.mem_of_getElem? (i := 13) rfl)
theorem bw_26_14 : Cond.fieldLink RX3 56 "PressbrakeLane$Nester" "covered" "J" ∈ BG := in_r26 _ (List.mem_of_getElem? (i := 14) rfl)
theorem bw_26_15 : Cond.methodLink RX8 269 yX3_addKind ∈ BG := in_r26 _ (List.mem_of_getElem? (i := 15) rfl)
theorem bw_26_16 : Cond.instanceMethod yX3_addKind ∈ BG := in_r26 _ (List.mem_of_getElem? (i := 16) rfl)
theorem bw_26_17 : Cond.selects RX3 yX3_addKind yX3_addKind ∈ BG := in_r26 _ (List.mem_of_getElem? (i := 17) rfl)
theorem bw_26_18 : Cond.code yX3_addKind cX3_addKind 7 none ∈ BG := in_r26 _ (List.mem_of_getElem? (i := 18) rfl)
theorem bw_26_19 : Cond.methodLink RX3 59 Lib.Math.max.name ∈ BG := in_r26 _ (List.mem_of_getElem? (i := 19) rfl)
theorem bw_26_20 : Cond.static Lib.Math.max.name ∈ BG := in_r26 _ (List.mem_of_getElem? (i := 20) rfl)
theorem bw_26_21 : Cond.code Lib.Math.max.name Lib.Math.max.code 2 (some .int) ∈ BG := in_r26 _ (List.mem_of_getElem? (i := 21) rfl)
theorem bw_26_22 : Cond.methodLink RX3 65 Lib.Math.min.name ∈ BG := in_r26 _ (List.mem_of_getElem? (i := 22) rfl)
theorem bw_26_23 : Cond.methodLink RX3 68 yX3_isBigger ∈ BG := in_r26 _ (List.mem_of_getElem? (i := 23) rfl)
theorem bw_27_0 : Cond.instanceMethod yX3_isBigger ∈ BG := in_r27 _ (List.mem_of_getElem? (i := 0) rfl)
theorem bw_27_1 : Cond.selects RX3 yX3_isBigger yX3_isBigger ∈ BG := in_r27 _ (List.mem_of_getElem? (i := 1) rfl)
theorem bw_27_2 : Cond.code yX3_isBigger cX3_isBigger 4 (some .boolean) ∈ BG := in_r27 _ (List.mem_of_getElem? (i := 2) rfl)
theorem bw_27_3 : Cond.methodLink RX8 273 yX3_doAllFit ∈ BG := in_r27 _ (List.mem_of_getElem? (i := 3) rfl)
theorem bw_27_4 : Cond.instanceMethod yX3_doAllFit ∈ BG := in_r27 _ (List.mem_of_getElem? (i := 4) rfl)
theorem bw_27_5 : Cond.selects RX3 yX3_doAllFit yX3_doAllFit ∈ BG := in_r27 _ (List.mem_of_getElem? (i := 5) rfl)
theorem bw_27_6 : Cond.code yX3_doAllFit cX3_doAllFit 2 (some .boolean) ∈ BG := in_r27 _ (List.mem_of_getElem? (i := 6) rfl)
theorem bw_27_7 : Cond.methodLink RX8 279 yX3_layAll ∈ BG := in_r27 _ (List.mem_of_getElem? (i := 7) rfl)
theorem bw_27_8 : Cond.instanceMethod yX3_layAll ∈ BG := in_r27 _ (List.mem_of_getElem? (i := 8) rfl)
theorem bw_27_9 : Cond.selects RX3 yX3_layAll yX3_layAll ∈ BG := in_r27 _ (List.mem_of_getElem? (i := 9) rfl)
theorem bw_27_10 : Cond.code yX3_layAll cX3_layAll 3 none ∈ BG := in_r27 _ (List.mem_of_getElem? (i := 10) rfl)
theorem bw_27_11 : Cond.methodLink RX3 72 yX3_lay ∈ BG := in_r27 _ (List.mem_of_getElem? (i := 11) rfl)
theorem bw_27_12 : Cond.instanceMethod yX3_lay ∈ BG := in_r27 _ (List.mem_of_getElem? (i := 12) rfl)
theorem bw_27_13 : Cond.selects RX3 yX3_lay yX3_lay ∈ BG := in_r27 _ (List.mem_of_getElem? (i := 13) rfl)
theorem bw_27_14 : Cond.code yX3_lay cX3_lay 4 none ∈ BG := in_r27 _ (List.mem_of_getElem? (i := 14) rfl)
theorem bw_27_15 : Cond.methodLink RX3 76 yX3_rowFor ∈ BG := in_r27 _ (List.mem_of_getElem? (i := 15) rfl)
theorem bw_27_16 : Cond.instanceMethod yX3_rowFor ∈ BG := in_r27 _ (List.mem_of_getElem? (i := 16) rfl)
theorem bw_27_17 : Cond.selects RX3 yX3_rowFor yX3_rowFor ∈ BG := in_r27 _ (List.mem_of_getElem? (i := 17) rfl)
theorem bw_27_18 : Cond.code yX3_rowFor cX3_rowFor 6 (some .int) ∈ BG := in_r27 _ (List.mem_of_getElem? (i := 18) rfl)
theorem bw_27_19 : Cond.methodLink RX3 79 yX3_newRow ∈ BG := in_r27 _ (List.mem_of_getElem? (i := 19) rfl)
theorem bw_27_20 : Cond.instanceMethod yX3_newRow ∈ BG := in_r27 _ (List.mem_of_getElem? (i := 20) rfl)
theorem bw_27_21 : Cond.selects RX3 yX3_newRow yX3_newRow ∈ BG := in_r27 _ (List.mem_of_getElem? (i := 21) rfl)
theorem bw_27_22 : Cond.code yX3_newRow cX3_newRow 3 (some .int) ∈ BG := in_r27 _ (List.mem_of_getElem? (i := 22) rfl)
theorem bw_27_23 : Cond.methodLink RX3 83 yX3_sheetFor ∈ BG := in_r27 _ (List.mem_of_getElem? (i := 23) rfl)
theorem bw_28_0 : Cond.instanceMethod yX3_sheetFor ∈ BG := in_r28 _ (List.mem_of_getElem? (i := 0) rfl)
theorem bw_28_1 : Cond.selects RX3 yX3_sheetFor yX3_sheetFor ∈ BG := in_r28 _ (List.mem_of_getElem? (i := 1) rfl)
theorem bw_28_2 : Cond.code yX3_sheetFor cX3_sheetFor 3 (some .int) ∈ BG := in_r28 _ (List.mem_of_getElem? (i := 2) rfl)
theorem bw_28_3 : Cond.methodLink RX8 282 yX3_tell ∈ BG := in_r28 _ (List.mem_of_getElem? (i := 3) rfl)
theorem bw_28_4 : Cond.instanceMethod yX3_tell ∈ BG := in_r28 _ (List.mem_of_getElem? (i := 4) rfl)
theorem bw_28_5 : Cond.selects RX3 yX3_tell yX3_tell ∈ BG := in_r28 _ (List.mem_of_getElem? (i := 5) rfl)
theorem bw_28_6 : Cond.code yX3_tell cX3_tell 2 (some .long) ∈ BG := in_r28 _ (List.mem_of_getElem? (i := 6) rfl)
theorem bw_28_7 : Cond.methodLink RL 156 yX9_nest ∈ BG := in_r28 _ (List.mem_of_getElem? (i := 7) rfl)
theorem bw_28_8 : Cond.instanceMethod yX9_nest ∈ BG := in_r28 _ (List.mem_of_getElem? (i := 8) rfl)
theorem bw_28_9 : Cond.selects RX9 yX9_nest yX9_nest ∈ BG := in_r28 _ (List.mem_of_getElem? (i := 9) rfl)
theorem bw_28_10 : Cond.code yX9_nest cX9_nest 15 (some .long) ∈ BG := in_r28 _ (List.mem_of_getElem? (i := 10) rfl)
theorem bw_28_11 : Cond.fieldLink RX9 214 "PressbrakeLaneModel" "sheets" "I" ∈ BG := in_r28 _ (List.mem_of_getElem? (i := 11) rfl)
theorem bw_28_12 : Cond.fieldLink RX9 211 "PressbrakeLaneModel" "rows" "I" ∈ BG := in_r28 _ (List.mem_of_getElem? (i := 12) rfl)
theorem bw_28_13 : Cond.constantLong RX9 221 (-1) ∈ BG := in_r28 _ (List.mem_of_getElem? (i := 13) rfl)
theorem bw_28_14 : Cond.constantLong RX9 226 (2) ∈ BG := in_r28 _ (List.mem_of_getElem? (i := 14) rfl)
theorem bw_28_15 : Cond.methodLink RX9 217 yX9_nextPiece ∈ BG := in_r28 _ (List.mem_of_getElem? (i := 15) rfl)
theorem bw_28_16 : Cond.instanceMethod yX9_nextPiece ∈ BG := in_r28 _ (List.mem_of_getElem? (i := 16) rfl)
theorem bw_28_17 : Cond.selects RX9 yX9_nextPiece yX9_nextPiece ∈ BG := in_r28 _ (List.mem_of_getElem? (i := 17) rfl)
theorem bw_28_18 : Cond.code yX9_nextPiece cX9_nextPiece 5 (some .int) ∈ BG := in_r28 _ (List.mem_of_getElem? (i := 18) rfl)
theorem bw_28_19 : Cond.methodLink RX9 205 yX9_longer ∈ BG := in_r28 _ (List.mem_of_getElem? (i := 19) rfl)
theorem bw_28_20 : Cond.instanceMethod yX9_longer ∈ BG := in_r28 _ (List.mem_of_getElem? (i := 20) rfl)
theorem bw_28_21 : Cond.selects RX9 yX9_longer yX9_longer ∈ BG := in_r28 _ (List.mem_of_getElem? (i := 21) rfl)
theorem bw_28_22 : Cond.code yX9_longer cX9_longer 3 (some .int) ∈ BG := in_r28 _ (List.mem_of_getElem? (i := 22) rfl)
theorem bw_28_23 : Cond.methodLink RX9 208 yX9_shorter ∈ BG := in_r28 _ (List.mem_of_getElem? (i := 23) rfl)
theorem bw_29_0 : Cond.instanceMethod yX9_shorter ∈ BG := in_r29 _ (List.mem_of_getElem? (i := 0) rfl)
theorem bw_29_1 : Cond.selects RX9 yX9_shorter yX9_shorter ∈ BG := in_r29 _ (List.mem_of_getElem? (i := 1) rfl)
theorem bw_29_2 : Cond.code yX9_shorter cX9_shorter 3 (some .int) ∈ BG := in_r29 _ (List.mem_of_getElem? (i := 2) rfl)
theorem bw_29_3 : Cond.methodLink RX9 223 yX9_rowFor ∈ BG := in_r29 _ (List.mem_of_getElem? (i := 3) rfl)
theorem bw_29_4 : Cond.instanceMethod yX9_rowFor ∈ BG := in_r29 _ (List.mem_of_getElem? (i := 4) rfl)
theorem bw_29_5 : Cond.selects RX9 yX9_rowFor yX9_rowFor ∈ BG := in_r29 _ (List.mem_of_getElem? (i := 5) rfl)
theorem bw_29_6 : Cond.code yX9_rowFor cX9_rowFor 8 (some .int) ∈ BG := in_r29 _ (List.mem_of_getElem? (i := 6) rfl)
theorem bw_29_7 : Cond.methodLink RL 157 yL_batch ∈ BG := in_r29 _ (List.mem_of_getElem? (i := 7) rfl)
theorem bw_29_8 : Cond.static yL_batch ∈ BG := in_r29 _ (List.mem_of_getElem? (i := 8) rfl)
theorem bw_29_9 : Cond.codeWith yL_batch cL_batch 6 (some .int) [(0, 12, 15, 24), (0, 12, 19, 13), (0, 12, 23, 15)] ∈ BG := in_r29 _ (List.mem_of_getElem? (i := 9) rfl)
theorem bw_29_10 : Cond.methodLink RL 70 yX8_batch ∈ BG := in_r29 _ (List.mem_of_getElem? (i := 10) rfl)
theorem bw_29_11 : Cond.instanceMethod yX8_batch ∈ BG := in_r29 _ (List.mem_of_getElem? (i := 11) rfl)
theorem bw_29_12 : Cond.selects RX8 yX8_batch yX8_batch ∈ BG := in_r29 _ (List.mem_of_getElem? (i := 12) rfl)
theorem bw_29_13 : Cond.code yX8_batch cX8_batch 7 (some .int) ∈ BG := in_r29 _ (List.mem_of_getElem? (i := 13) rfl)
theorem bw_29_14 : Cond.methodLink RL 159 yX9_batch ∈ BG := in_r29 _ (List.mem_of_getElem? (i := 14) rfl)
theorem bw_29_15 : Cond.instanceMethod yX9_batch ∈ BG := in_r29 _ (List.mem_of_getElem? (i := 15) rfl)
theorem bw_29_16 : Cond.selects RX9 yX9_batch yX9_batch ∈ BG := in_r29 _ (List.mem_of_getElem? (i := 16) rfl)
theorem bw_29_17 : Cond.code yX9_batch cX9_batch 5 (some .int) ∈ BG := in_r29 _ (List.mem_of_getElem? (i := 17) rfl)
theorem bw_29_18 : Cond.methodLink RL 160 yL_work ∈ BG := in_r29 _ (List.mem_of_getElem? (i := 18) rfl)
theorem bw_29_19 : Cond.static yL_work ∈ BG := in_r29 _ (List.mem_of_getElem? (i := 19) rfl)
theorem bw_29_20 : Cond.codeWith yL_work cL_work 4 (some .int) [(0, 9, 12, 24), (0, 9, 15, 15)] ∈ BG := in_r29 _ (List.mem_of_getElem? (i := 20) rfl)
theorem bw_29_21 : Cond.methodLink RL 73 yX8_work ∈ BG := in_r29 _ (List.mem_of_getElem? (i := 21) rfl)
theorem bw_29_22 : Cond.instanceMethod yX8_work ∈ BG := in_r29 _ (List.mem_of_getElem? (i := 22) rfl)
theorem bw_29_23 : Cond.selects RX8 yX8_work yX8_work ∈ BG := in_r29 _ (List.mem_of_getElem? (i := 23) rfl)
theorem bw_30_0 : Cond.code yX8_work cX8_work 3 (some .int) ∈ BG := in_r30 _ (List.mem_of_getElem? (i := 0) rfl)
theorem bw_30_1 : Cond.methodLink RX8 307 yX8_batchAt ∈ BG := in_r30 _ (List.mem_of_getElem? (i := 1) rfl)
theorem bw_30_2 : Cond.instanceMethod yX8_batchAt ∈ BG := in_r30 _ (List.mem_of_getElem? (i := 2) rfl)
theorem bw_30_3 : Cond.selects RX8 yX8_batchAt yX8_batchAt ∈ BG := in_r30 _ (List.mem_of_getElem? (i := 3) rfl)
theorem bw_30_4 : Cond.code yX8_batchAt cX8_batchAt 2 (some (.object "PressbrakeLane$Batch")) ∈ BG := in_r30 _ (List.mem_of_getElem? (i := 4) rfl)
theorem bw_30_5 : Cond.methodLink RX8 313 yX8_hasOrder ∈ BG := in_r30 _ (List.mem_of_getElem? (i := 5) rfl)
theorem bw_30_6 : Cond.instanceMethod yX8_hasOrder ∈ BG := in_r30 _ (List.mem_of_getElem? (i := 6) rfl)
theorem bw_30_7 : Cond.selects RX8 yX8_hasOrder yX8_hasOrder ∈ BG := in_r30 _ (List.mem_of_getElem? (i := 7) rfl)
theorem bw_30_8 : Cond.code yX8_hasOrder cX8_hasOrder 2 (some .boolean) ∈ BG := in_r30 _ (List.mem_of_getElem? (i := 8) rfl)
theorem bw_30_9 : Cond.methodLink RL 163 yX9_work ∈ BG := in_r30 _ (List.mem_of_getElem? (i := 9) rfl)
theorem bw_30_10 : Cond.instanceMethod yX9_work ∈ BG := in_r30 _ (List.mem_of_getElem? (i := 10) rfl)
theorem bw_30_11 : Cond.selects RX9 yX9_work yX9_work ∈ BG := in_r30 _ (List.mem_of_getElem? (i := 11) rfl)
theorem bw_30_12 : Cond.code yX9_work cX9_work 4 (some .int) ∈ BG := in_r30 _ (List.mem_of_getElem? (i := 12) rfl)
theorem bw_30_13 : Cond.methodLink RX9 228 yX9_isBatch ∈ BG := in_r30 _ (List.mem_of_getElem? (i := 13) rfl)
theorem bw_30_14 : Cond.instanceMethod yX9_isBatch ∈ BG := in_r30 _ (List.mem_of_getElem? (i := 14) rfl)
theorem bw_30_15 : Cond.selects RX9 yX9_isBatch yX9_isBatch ∈ BG := in_r30 _ (List.mem_of_getElem? (i := 15) rfl)
theorem bw_30_16 : Cond.code yX9_isBatch cX9_isBatch 2 (some .boolean) ∈ BG := in_r30 _ (List.mem_of_getElem? (i := 16) rfl)
theorem bw_30_17 : Cond.methodLink RL 164 yL_batchOf ∈ BG := in_r30 _ (List.mem_of_getElem? (i := 17) rfl)
theorem bw_30_18 : Cond.static yL_batchOf ∈ BG := in_r30 _ (List.mem_of_getElem? (i := 18) rfl)
theorem bw_30_19 : Cond.codeWith yL_batchOf cL_batchOf 5 (some .int) [(0, 10, 13, 24), (0, 10, 17, 13)] ∈ BG := in_r30 _ (List.mem_of_getElem? (i := 19) rfl)
theorem bw_30_20 : Cond.methodLink RL 77 yX8_batchOf ∈ BG := in_r30 _ (List.mem_of_getElem? (i := 20) rfl)
theorem bw_30_21 : Cond.instanceMethod yX8_batchOf ∈ BG := in_r30 _ (List.mem_of_getElem? (i := 21) rfl)
theorem bw_30_22 : Cond.selects RX8 yX8_batchOf yX8_batchOf ∈ BG := in_r30 _ (List.mem_of_getElem? (i := 22) rfl)
theorem bw_30_23 : Cond.code yX8_batchOf cX8_batchOf 4 (some .int) ∈ BG := in_r30 _ (List.mem_of_getElem? (i := 23) rfl)
theorem bw_31_0 : Cond.methodLink RL 166 yX9_batchOf ∈ BG := in_r31 _ (List.mem_of_getElem? (i := 0) rfl)
theorem bw_31_1 : Cond.instanceMethod yX9_batchOf ∈ BG := in_r31 _ (List.mem_of_getElem? (i := 1) rfl)
theorem bw_31_2 : Cond.selects RX9 yX9_batchOf yX9_batchOf ∈ BG := in_r31 _ (List.mem_of_getElem? (i := 2) rfl)
theorem bw_31_3 : Cond.code yX9_batchOf cX9_batchOf 4 (some .int) ∈ BG := in_r31 _ (List.mem_of_getElem? (i := 3) rfl)
theorem bw_31_4 : Cond.methodLink RL 167 yL_kits ∈ BG := in_r31 _ (List.mem_of_getElem? (i := 4) rfl)
theorem bw_31_5 : Cond.static yL_kits ∈ BG := in_r31 _ (List.mem_of_getElem? (i := 5) rfl)
theorem bw_31_6 : Cond.codeWith yL_kits cL_kits 4 (some .int) [(0, 9, 12, 13)] ∈ BG := in_r31 _ (List.mem_of_getElem? (i := 6) rfl)
theorem bw_31_7 : Cond.methodLink RL 80 yX8_kits ∈ BG := in_r31 _ (List.mem_of_getElem? (i := 7) rfl)
theorem bw_31_8 : Cond.instanceMethod yX8_kits ∈ BG := in_r31 _ (List.mem_of_getElem? (i := 8) rfl)
theorem bw_31_9 : Cond.selects RX8 yX8_kits yX8_kits ∈ BG := in_r31 _ (List.mem_of_getElem? (i := 9) rfl)
theorem bw_31_10 : Cond.code yX8_kits cX8_kits 2 (some .int) ∈ BG := in_r31 _ (List.mem_of_getElem? (i := 10) rfl)
theorem bw_31_11 : Cond.methodLink RX8 319 yX8_checkKit ∈ BG := in_r31 _ (List.mem_of_getElem? (i := 11) rfl)
theorem bw_31_12 : Cond.instanceMethod yX8_checkKit ∈ BG := in_r31 _ (List.mem_of_getElem? (i := 12) rfl)
theorem bw_31_13 : Cond.selects RX8 yX8_checkKit yX8_checkKit ∈ BG := in_r31 _ (List.mem_of_getElem? (i := 13) rfl)
theorem bw_31_14 : Cond.code yX8_checkKit cX8_checkKit 2 none ∈ BG := in_r31 _ (List.mem_of_getElem? (i := 14) rfl)
theorem bw_31_15 : Cond.methodLink RX8 323 yX8_kitsOf ∈ BG := in_r31 _ (List.mem_of_getElem? (i := 15) rfl)
theorem bw_31_16 : Cond.instanceMethod yX8_kitsOf ∈ BG := in_r31 _ (List.mem_of_getElem? (i := 16) rfl)
theorem bw_31_17 : Cond.selects RX8 yX8_kitsOf yX8_kitsOf ∈ BG := in_r31 _ (List.mem_of_getElem? (i := 17) rfl)
theorem bw_31_18 : Cond.code yX8_kitsOf cX8_kitsOf 4 (some .int) ∈ BG := in_r31 _ (List.mem_of_getElem? (i := 18) rfl)
theorem bw_31_19 : Cond.methodLink RX8 355 yX8_coatedPieces ∈ BG := in_r31 _ (List.mem_of_getElem? (i := 19) rfl)
theorem bw_31_20 : Cond.instanceMethod yX8_coatedPieces ∈ BG := in_r31 _ (List.mem_of_getElem? (i := 20) rfl)
theorem bw_31_21 : Cond.selects RX8 yX8_coatedPieces yX8_coatedPieces ∈ BG := in_r31 _ (List.mem_of_getElem? (i := 21) rfl)
theorem bw_31_22 : Cond.code yX8_coatedPieces cX8_coatedPieces 4 (some .int) ∈ BG := in_r31 _ (List.mem_of_getElem? (i := 22) rfl)
theorem bw_31_23 : Cond.methodLink RL 169 yX9_kits ∈ BG := in_r31 _ (List.mem_of_getElem? (i := 23) rfl)
theorem bw_32_0 : Cond.instanceMethod yX9_kits ∈ BG := in_r32 _ (List.mem_of_getElem? (i := 0) rfl)
theorem bw_32_1 : Cond.selects RX9 yX9_kits yX9_kits ∈ BG := in_r32 _ (List.mem_of_getElem? (i := 1) rfl)
theorem bw_32_2 : Cond.code yX9_kits cX9_kits 2 (some .int) ∈ BG := in_r32 _ (List.mem_of_getElem? (i := 2) rfl)
theorem bw_32_3 : Cond.methodLink RX9 231 yX9_isKit ∈ BG := in_r32 _ (List.mem_of_getElem? (i := 3) rfl)
theorem bw_32_4 : Cond.instanceMethod yX9_isKit ∈ BG := in_r32 _ (List.mem_of_getElem? (i := 4) rfl)
theorem bw_32_5 : Cond.selects RX9 yX9_isKit yX9_isKit ∈ BG := in_r32 _ (List.mem_of_getElem? (i := 5) rfl)
theorem bw_32_6 : Cond.code yX9_isKit cX9_isKit 2 (some .boolean) ∈ BG := in_r32 _ (List.mem_of_getElem? (i := 6) rfl)
theorem bw_32_7 : Cond.methodLink RX9 234 yX9_kitsOf ∈ BG := in_r32 _ (List.mem_of_getElem? (i := 7) rfl)
theorem bw_32_8 : Cond.instanceMethod yX9_kitsOf ∈ BG := in_r32 _ (List.mem_of_getElem? (i := 8) rfl)
theorem bw_32_9 : Cond.selects RX9 yX9_kitsOf yX9_kitsOf ∈ BG := in_r32 _ (List.mem_of_getElem? (i := 9) rfl)
theorem bw_32_10 : Cond.code yX9_kitsOf cX9_kitsOf 6 (some .int) ∈ BG := in_r32 _ (List.mem_of_getElem? (i := 10) rfl)
theorem bw_32_11 : Cond.methodLink RL 170 yL_take ∈ BG := in_r32 _ (List.mem_of_getElem? (i := 11) rfl)
theorem bw_32_12 : Cond.static yL_take ∈ BG := in_r32 _ (List.mem_of_getElem? (i := 12) rfl)
theorem bw_32_13 : Cond.codeWith yL_take cL_take 5 (some .int) [(0, 10, 13, 13), (0, 10, 17, 15)] ∈ BG := in_r32 _ (List.mem_of_getElem? (i := 13) rfl)
theorem bw_32_14 : Cond.methodLink RL 83 yX8_take ∈ BG := in_r32 _ (List.mem_of_getElem? (i := 14) rfl)
theorem bw_32_15 : Cond.instanceMethod yX8_take ∈ BG := in_r32 _ (List.mem_of_getElem? (i := 15) rfl)
theorem bw_32_16 : Cond.selects RX8 yX8_take yX8_take ∈ BG := in_r32 _ (List.mem_of_getElem? (i := 16) rfl)
theorem bw_32_17 : Cond.code yX8_take cX8_take 5 (some .int) ∈ BG := in_r32 _ (List.mem_of_getElem? (i := 17) rfl)
theorem bw_32_18 : Cond.methodLink RX8 333 yX8_takePieces ∈ BG := in_r32 _ (List.mem_of_getElem? (i := 18) rfl)
theorem bw_32_19 : Cond.instanceMethod yX8_takePieces ∈ BG := in_r32 _ (List.mem_of_getElem? (i := 19) rfl)
theorem bw_32_20 : Cond.selects RX8 yX8_takePieces yX8_takePieces ∈ BG := in_r32 _ (List.mem_of_getElem? (i := 20) rfl)
theorem bw_32_21 : Cond.code yX8_takePieces cX8_takePieces 8 (some .int) ∈ BG := in_r32 _ (List.mem_of_getElem? (i := 21) rfl)
theorem bw_32_22 : Cond.methodLink RL 172 yX9_take ∈ BG := in_r32 _ (List.mem_of_getElem? (i := 22) rfl)
theorem bw_32_23 : Cond.instanceMethod yX9_take ∈ BG := in_r32 _ (List.mem_of_getElem? (i := 23) rfl)
theorem bw_33_0 : Cond.selects RX9 yX9_take yX9_take ∈ BG := in_r33 _ (List.mem_of_getElem? (i := 0) rfl)
theorem bw_33_1 : Cond.code yX9_take cX9_take 9 (some .int) ∈ BG := in_r33 _ (List.mem_of_getElem? (i := 1) rfl)
theorem wg_f {L : List Cond} : ∀ w ∈ L.filter goodWord, goodWord w = true := fun _ h => (List.mem_filter.mp h).2
theorem BG_good : ∀ w ∈ BG, (w.onTables && w.keeps) = true ∨ ∃ ty, w = .arrayClass ty := fun w h => (List.mem_append.mp h).elim (fun h => (List.mem_append.mp h).elim (fun h => (List.mem_append.mp h).elim (fun h => (wg_0 w h).2) (fun h => good_of_word (wg_f w h))) (fun h => good_of_word (wg_f w h))) (fun h => good_of_word (wg_f w h))
theorem GI_code {y : MethodName} {b : ByteArray} {m : Nat} {r : Option FieldType} (h : Cond.code y b m r ∈ BG) : GoodIn BG (.code y b m r :: BG) := fun w hw => by
  have h1 : w ∈ BG := by
    rcases List.mem_cons.mp hw with rfl | h2
    · exact h
    · exact h2
  exact ⟨h1, BG_good w h1⟩
theorem bx_arg : ∀ w ∈ (vx_atS RX8 70 "java/lang/IllegalArgumentException" ["java/lang/RuntimeException", "java/lang/Exception"]).filter goodWord, w ∈ BG := fun _ h => List.mem_append_left _ (List.mem_append_left _ (List.mem_append_right _ h))
theorem bx_sta : ∀ w ∈ (vx_atS RX8 81 "java/lang/IllegalStateException" ["java/lang/RuntimeException", "java/lang/Exception"]).filter goodWord, w ∈ BG := fun _ h => List.mem_append_left _ (List.mem_append_right _ h)
theorem bx_ind : ∀ w ∈ (vx_atS RX8 135 "java/lang/IndexOutOfBoundsException" ["java/lang/RuntimeException", "java/lang/Exception"]).filter goodWord, w ∈ BG := fun _ h => List.mem_append_right _ h
def nests : List (String × Nat × MethodName × String) := [(RX8, 11, yX2_init, "PressbrakeLane"), (RX8, 40, yX1_init, "PressbrakeLane"), (RX1, 11, yX7_init, "PressbrakeLane"), (RX8, 47, yX5_init, "PressbrakeLane"), (RX8, 54, yX3_init, "PressbrakeLane"), (RX8, 59, yX4_init, "PressbrakeLane"), (RX4, 11, yX2_init, "PressbrakeLane"), (RX8, 61, yX0_init, "PressbrakeLane"), (RX7, 31, yX8_hasBit, "PressbrakeLane"), (RX5, 68, yX8_hasBit, "PressbrakeLane")]
def strs : List (Nat × String) := [(68, "length or direction is out of its range"), (79, "the pad has 6 faces"), (342, "width or thickness is out of its range"), (344, "the pad is empty"), (98, "there are 8 parts"), (336, "no such part"), (133, "no such face"), (136, "at or diameter is out of its range"), (142, "the part has 6 holes, or a batch"), (153, "no such hole"), (162, "what is out of its range"), (164, "an argument is out of its range"), (169, "there are 4 tools"), (338, "no such tool"), (190, "thickness or deduction is out of its range"), (349, "no such bend"), (351, "done has a bend that there is not, or the bend itself"), (214, "the wing has not so many faces"), (243, "no such place"), (251, "many is out of its range"), (256, "the lot would have more than 40 pieces"), (264, "length, width or what is out of its range"), (289, "there are 20 batches"), (340, "no such batch"), (311, "the batch is neither CUT nor BENT"), (317, "the part has no order by the tool of the batch"), (353, "the kit has no part, or one that there is not"), (327, "there are not so many kits")]
theorem ne_X8_11 : (RX8, 11, yX2_init, "PressbrakeLane") ∈ nests := List.mem_of_getElem? (i := 0) rfl
theorem ne_X8_40 : (RX8, 40, yX1_init, "PressbrakeLane") ∈ nests := List.mem_of_getElem? (i := 1) rfl
theorem ne_X1_11 : (RX1, 11, yX7_init, "PressbrakeLane") ∈ nests := List.mem_of_getElem? (i := 2) rfl
theorem ne_X8_47 : (RX8, 47, yX5_init, "PressbrakeLane") ∈ nests := List.mem_of_getElem? (i := 3) rfl
theorem ne_X8_54 : (RX8, 54, yX3_init, "PressbrakeLane") ∈ nests := List.mem_of_getElem? (i := 4) rfl
theorem ne_X8_59 : (RX8, 59, yX4_init, "PressbrakeLane") ∈ nests := List.mem_of_getElem? (i := 5) rfl
theorem ne_X4_11 : (RX4, 11, yX2_init, "PressbrakeLane") ∈ nests := List.mem_of_getElem? (i := 6) rfl
theorem ne_X8_61 : (RX8, 61, yX0_init, "PressbrakeLane") ∈ nests := List.mem_of_getElem? (i := 7) rfl
theorem ne_X7_31 : (RX7, 31, yX8_hasBit, "PressbrakeLane") ∈ nests := List.mem_of_getElem? (i := 8) rfl
theorem ne_X5_68 : (RX5, 68, yX8_hasBit, "PressbrakeLane") ∈ nests := List.mem_of_getElem? (i := 9) rfl
theorem st_68 : (68, "length or direction is out of its range") ∈ strs := List.mem_of_getElem? (i := 0) rfl
theorem st_79 : (79, "the pad has 6 faces") ∈ strs := List.mem_of_getElem? (i := 1) rfl
theorem st_342 : (342, "width or thickness is out of its range") ∈ strs := List.mem_of_getElem? (i := 2) rfl
theorem st_344 : (344, "the pad is empty") ∈ strs := List.mem_of_getElem? (i := 3) rfl
theorem st_98 : (98, "there are 8 parts") ∈ strs := List.mem_of_getElem? (i := 4) rfl
theorem st_336 : (336, "no such part") ∈ strs := List.mem_of_getElem? (i := 5) rfl
theorem st_133 : (133, "no such face") ∈ strs := List.mem_of_getElem? (i := 6) rfl
theorem st_136 : (136, "at or diameter is out of its range") ∈ strs := List.mem_of_getElem? (i := 7) rfl
theorem st_142 : (142, "the part has 6 holes, or a batch") ∈ strs := List.mem_of_getElem? (i := 8) rfl
theorem st_153 : (153, "no such hole") ∈ strs := List.mem_of_getElem? (i := 9) rfl
theorem st_162 : (162, "what is out of its range") ∈ strs := List.mem_of_getElem? (i := 10) rfl
theorem st_164 : (164, "an argument is out of its range") ∈ strs := List.mem_of_getElem? (i := 11) rfl
theorem st_169 : (169, "there are 4 tools") ∈ strs := List.mem_of_getElem? (i := 12) rfl
theorem st_338 : (338, "no such tool") ∈ strs := List.mem_of_getElem? (i := 13) rfl
theorem st_190 : (190, "thickness or deduction is out of its range") ∈ strs := List.mem_of_getElem? (i := 14) rfl
theorem st_349 : (349, "no such bend") ∈ strs := List.mem_of_getElem? (i := 15) rfl
theorem st_351 : (351, "done has a bend that there is not, or the bend itself") ∈ strs := List.mem_of_getElem? (i := 16) rfl
theorem st_214 : (214, "the wing has not so many faces") ∈ strs := List.mem_of_getElem? (i := 17) rfl
theorem st_243 : (243, "no such place") ∈ strs := List.mem_of_getElem? (i := 18) rfl
theorem st_251 : (251, "many is out of its range") ∈ strs := List.mem_of_getElem? (i := 19) rfl
theorem st_256 : (256, "the lot would have more than 40 pieces") ∈ strs := List.mem_of_getElem? (i := 20) rfl
theorem st_264 : (264, "length, width or what is out of its range") ∈ strs := List.mem_of_getElem? (i := 21) rfl
theorem st_289 : (289, "there are 20 batches") ∈ strs := List.mem_of_getElem? (i := 22) rfl
theorem st_340 : (340, "no such batch") ∈ strs := List.mem_of_getElem? (i := 23) rfl
theorem st_311 : (311, "the batch is neither CUT nor BENT") ∈ strs := List.mem_of_getElem? (i := 24) rfl
theorem st_317 : (317, "the part has no order by the tool of the batch") ∈ strs := List.mem_of_getElem? (i := 25) rfl
theorem st_353 : (353, "the kit has no part, or one that there is not") ∈ strs := List.mem_of_getElem? (i := 26) rfl
theorem st_327 : (327, "there are not so many kits") ∈ strs := List.mem_of_getElem? (i := 27) rfl
end
