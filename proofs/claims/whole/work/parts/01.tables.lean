-- ===== PART A: goes FIRST, ahead of the names: the tables' words, and 'selects' of the private methods out of them =====
/-- a private method of a class that the tables say can be made, by its rows of tables_1 -/
def lw_okq (q : MethodName × Nat) : Prop := (q.1.cls ≠ "java/lang/invoke/MethodHandle" ∧ q.1.cls ≠ "java/lang/invoke/VarHandle") ∧ Cond.instantiable q.1.cls q.2 ∈ tables_1 ∧ Cond.privateMethod q.1 ∈ tables_1 ∧ Cond.instanceMethod q.1 ∈ tables_1
theorem lw_p0 : lw_okq (⟨"SwollenHouse$Tape", "putSign", "(I)V"⟩, 7) := ⟨⟨by decide +kernel, by decide +kernel⟩, List.mem_of_getElem? (i := 113) (by decide +kernel), List.mem_of_getElem? (i := 393) (by decide +kernel), List.mem_of_getElem? (i := 394) (by decide +kernel)⟩
theorem lw_p1 : lw_okq (⟨"SwollenHouse$Tape", "readWord", "()V"⟩, 7) := ⟨⟨by decide +kernel, by decide +kernel⟩, List.mem_of_getElem? (i := 113) (by decide +kernel), List.mem_of_getElem? (i := 423) (by decide +kernel), List.mem_of_getElem? (i := 424) (by decide +kernel)⟩
theorem lw_p2 : lw_okq (⟨"SwollenHouse$Tape", "readNumber", "()V"⟩, 7) := ⟨⟨by decide +kernel, by decide +kernel⟩, List.mem_of_getElem? (i := 113) (by decide +kernel), List.mem_of_getElem? (i := 430) (by decide +kernel), List.mem_of_getElem? (i := 431) (by decide +kernel)⟩
theorem lw_p3 : lw_okq (⟨"SwollenHouse$HouseReader", "readLine", "(LSwollenHouse$Plan;)Z"⟩, 1) := ⟨⟨by decide +kernel, by decide +kernel⟩, List.mem_of_getElem? (i := 149) (by decide +kernel), List.mem_of_getElem? (i := 438) (by decide +kernel), List.mem_of_getElem? (i := 439) (by decide +kernel)⟩
theorem lw_p4 : lw_okq (⟨"SwollenHouse$HouseReader", "readRoom", "(LSwollenHouse$Plan;)Z"⟩, 1) := ⟨⟨by decide +kernel, by decide +kernel⟩, List.mem_of_getElem? (i := 149) (by decide +kernel), List.mem_of_getElem? (i := 447) (by decide +kernel), List.mem_of_getElem? (i := 448) (by decide +kernel)⟩
theorem lw_p5 : lw_okq (⟨"SwollenHouse$HouseReader", "isNewName", "(LSwollenHouse$Plan;)Z"⟩, 1) := ⟨⟨by decide +kernel, by decide +kernel⟩, List.mem_of_getElem? (i := 149) (by decide +kernel), List.mem_of_getElem? (i := 456) (by decide +kernel), List.mem_of_getElem? (i := 457) (by decide +kernel)⟩
theorem lw_p6 : lw_okq (⟨"SwollenHouse$HouseReader", "readDoor", "(LSwollenHouse$Plan;)Z"⟩, 1) := ⟨⟨by decide +kernel, by decide +kernel⟩, List.mem_of_getElem? (i := 149) (by decide +kernel), List.mem_of_getElem? (i := 488) (by decide +kernel), List.mem_of_getElem? (i := 489) (by decide +kernel)⟩
theorem lw_p7 : lw_okq (⟨"SwollenHouse$HouseReader", "roomTold", "(LSwollenHouse$Plan;)I"⟩, 1) := ⟨⟨by decide +kernel, by decide +kernel⟩, List.mem_of_getElem? (i := 149) (by decide +kernel), List.mem_of_getElem? (i := 492) (by decide +kernel), List.mem_of_getElem? (i := 493) (by decide +kernel)⟩
theorem lw_p8 : lw_okq (⟨"SwollenHouse$HouseReader", "woodTold", "()I"⟩, 1) := ⟨⟨by decide +kernel, by decide +kernel⟩, List.mem_of_getElem? (i := 149) (by decide +kernel), List.mem_of_getElem? (i := 504) (by decide +kernel), List.mem_of_getElem? (i := 505) (by decide +kernel)⟩
theorem lw_p9 : lw_okq (⟨"SwollenHouse$HouseReader", "readPerson", "(LSwollenHouse$Plan;)Z"⟩, 1) := ⟨⟨by decide +kernel, by decide +kernel⟩, List.mem_of_getElem? (i := 149) (by decide +kernel), List.mem_of_getElem? (i := 527) (by decide +kernel), List.mem_of_getElem? (i := 528) (by decide +kernel)⟩
theorem lw_p10 : lw_okq (⟨"SwollenHouse$HouseReader", "readDamp", "(LSwollenHouse$Plan;)Z"⟩, 1) := ⟨⟨by decide +kernel, by decide +kernel⟩, List.mem_of_getElem? (i := 149) (by decide +kernel), List.mem_of_getElem? (i := 537) (by decide +kernel), List.mem_of_getElem? (i := 538) (by decide +kernel)⟩
theorem lw_p11 : lw_okq (⟨"SwollenHouse$HouseReader", "readSwells", "(LSwollenHouse$Plan;)Z"⟩, 1) := ⟨⟨by decide +kernel, by decide +kernel⟩, List.mem_of_getElem? (i := 149) (by decide +kernel), List.mem_of_getElem? (i := 548) (by decide +kernel), List.mem_of_getElem? (i := 549) (by decide +kernel)⟩
theorem lw_p12 : lw_okq (⟨"SwollenHouse", "startAnew", "()V"⟩, 15) := ⟨⟨by decide +kernel, by decide +kernel⟩, List.mem_of_getElem? (i := 22) (by decide +kernel), List.mem_of_getElem? (i := 587) (by decide +kernel), List.mem_of_getElem? (i := 588) (by decide +kernel)⟩
theorem lw_p13 : lw_okq (⟨"SwollenHouse$DaysReader", "readLine", "(LSwollenHouse$Plan;)Z"⟩, 3) := ⟨⟨by decide +kernel, by decide +kernel⟩, List.mem_of_getElem? (i := 159) (by decide +kernel), List.mem_of_getElem? (i := 605) (by decide +kernel), List.mem_of_getElem? (i := 606) (by decide +kernel)⟩
theorem lw_p14 : lw_okq (⟨"SwollenHouse$DaysReader", "deedTold", "()I"⟩, 3) := ⟨⟨by decide +kernel, by decide +kernel⟩, List.mem_of_getElem? (i := 159) (by decide +kernel), List.mem_of_getElem? (i := 609) (by decide +kernel), List.mem_of_getElem? (i := 610) (by decide +kernel)⟩
theorem lw_p15 : lw_okq (⟨"SwollenHouse$DaysReader", "walkerTold", "(LSwollenHouse$Plan;)I"⟩, 3) := ⟨⟨by decide +kernel, by decide +kernel⟩, List.mem_of_getElem? (i := 159) (by decide +kernel), List.mem_of_getElem? (i := 621) (by decide +kernel), List.mem_of_getElem? (i := 622) (by decide +kernel)⟩
def lw_privs_1 : List (MethodName × Nat) := [(⟨"SwollenHouse$Tape", "putSign", "(I)V"⟩, 7), (⟨"SwollenHouse$Tape", "readWord", "()V"⟩, 7), (⟨"SwollenHouse$Tape", "readNumber", "()V"⟩, 7), (⟨"SwollenHouse$HouseReader", "readLine", "(LSwollenHouse$Plan;)Z"⟩, 1), (⟨"SwollenHouse$HouseReader", "readRoom", "(LSwollenHouse$Plan;)Z"⟩, 1), (⟨"SwollenHouse$HouseReader", "isNewName", "(LSwollenHouse$Plan;)Z"⟩, 1), (⟨"SwollenHouse$HouseReader", "readDoor", "(LSwollenHouse$Plan;)Z"⟩, 1), (⟨"SwollenHouse$HouseReader", "roomTold", "(LSwollenHouse$Plan;)I"⟩, 1), (⟨"SwollenHouse$HouseReader", "woodTold", "()I"⟩, 1), (⟨"SwollenHouse$HouseReader", "readPerson", "(LSwollenHouse$Plan;)Z"⟩, 1), (⟨"SwollenHouse$HouseReader", "readDamp", "(LSwollenHouse$Plan;)Z"⟩, 1), (⟨"SwollenHouse$HouseReader", "readSwells", "(LSwollenHouse$Plan;)Z"⟩, 1), (⟨"SwollenHouse", "startAnew", "()V"⟩, 15), (⟨"SwollenHouse$DaysReader", "readLine", "(LSwollenHouse$Plan;)Z"⟩, 3), (⟨"SwollenHouse$DaysReader", "deedTold", "()I"⟩, 3), (⟨"SwollenHouse$DaysReader", "walkerTold", "(LSwollenHouse$Plan;)I"⟩, 3)]
theorem lw_r1 : ∀ q ∈ lw_privs_1, lw_okq q := List.forall_mem_cons.mpr ⟨lw_p0, List.forall_mem_cons.mpr ⟨lw_p1, List.forall_mem_cons.mpr ⟨lw_p2, List.forall_mem_cons.mpr ⟨lw_p3, List.forall_mem_cons.mpr ⟨lw_p4, List.forall_mem_cons.mpr ⟨lw_p5, List.forall_mem_cons.mpr ⟨lw_p6, List.forall_mem_cons.mpr ⟨lw_p7, List.forall_mem_cons.mpr ⟨lw_p8, List.forall_mem_cons.mpr ⟨lw_p9, List.forall_mem_cons.mpr ⟨lw_p10, List.forall_mem_cons.mpr ⟨lw_p11, List.forall_mem_cons.mpr ⟨lw_p12, List.forall_mem_cons.mpr ⟨lw_p13, List.forall_mem_cons.mpr ⟨lw_p14, List.forall_mem_cons.mpr ⟨lw_p15, fun _ h => absurd h List.not_mem_nil⟩⟩⟩⟩⟩⟩⟩⟩⟩⟩⟩⟩⟩⟩⟩⟩
theorem lw_p16 : lw_okq (⟨"SwollenHouse$Outlook", "lookAt", "(I)V"⟩, 5) := ⟨⟨by decide +kernel, by decide +kernel⟩, List.mem_of_getElem? (i := 292) (by decide +kernel), List.mem_of_getElem? (i := 955) (by decide +kernel), List.mem_of_getElem? (i := 956) (by decide +kernel)⟩
theorem lw_p17 : lw_okq (⟨"SwollenHouse$Outlook", "sticksAt", "(II)Z"⟩, 5) := ⟨⟨by decide +kernel, by decide +kernel⟩, List.mem_of_getElem? (i := 292) (by decide +kernel), List.mem_of_getElem? (i := 961) (by decide +kernel), List.mem_of_getElem? (i := 962) (by decide +kernel)⟩
theorem lw_p18 : lw_okq (⟨"SwollenHouse$Planer", "lookAhead", "(II)V"⟩, 5) := ⟨⟨by decide +kernel, by decide +kernel⟩, List.mem_of_getElem? (i := 315) (by decide +kernel), List.mem_of_getElem? (i := 1013) (by decide +kernel), List.mem_of_getElem? (i := 1014) (by decide +kernel)⟩
theorem lw_p19 : lw_okq (⟨"SwollenHouse$Planer", "findRow", "(I)Z"⟩, 5) := ⟨⟨by decide +kernel, by decide +kernel⟩, List.mem_of_getElem? (i := 315) (by decide +kernel), List.mem_of_getElem? (i := 1019) (by decide +kernel), List.mem_of_getElem? (i := 1020) (by decide +kernel)⟩
theorem lw_p20 : lw_okq (⟨"SwollenHouse$Planer", "writeRow", "(II)V"⟩, 5) := ⟨⟨by decide +kernel, by decide +kernel⟩, List.mem_of_getElem? (i := 315) (by decide +kernel), List.mem_of_getElem? (i := 1023) (by decide +kernel), List.mem_of_getElem? (i := 1024) (by decide +kernel)⟩
theorem lw_p21 : lw_okq (⟨"SwollenHouse$Planer", "canBePlaned", "(I)Z"⟩, 5) := ⟨⟨by decide +kernel, by decide +kernel⟩, List.mem_of_getElem? (i := 315) (by decide +kernel), List.mem_of_getElem? (i := 1028) (by decide +kernel), List.mem_of_getElem? (i := 1029) (by decide +kernel)⟩
theorem lw_p22 : lw_okq (⟨"SwollenHouse$Planer", "timesInRow", "(II)I"⟩, 5) := ⟨⟨by decide +kernel, by decide +kernel⟩, List.mem_of_getElem? (i := 315) (by decide +kernel), List.mem_of_getElem? (i := 1032) (by decide +kernel), List.mem_of_getElem? (i := 1033) (by decide +kernel)⟩
theorem lw_p23 : lw_okq (⟨"SwollenHouse$Planer", "openByRow", "(I)I"⟩, 5) := ⟨⟨by decide +kernel, by decide +kernel⟩, List.mem_of_getElem? (i := 315) (by decide +kernel), List.mem_of_getElem? (i := 1036) (by decide +kernel), List.mem_of_getElem? (i := 1037) (by decide +kernel)⟩
theorem lw_p24 : lw_okq (⟨"SwollenHouse$Outlook", "agreesWith", "(LSwollenHouse$Rumours;I)Z"⟩, 5) := ⟨⟨by decide +kernel, by decide +kernel⟩, List.mem_of_getElem? (i := 292) (by decide +kernel), List.mem_of_getElem? (i := 1057) (by decide +kernel), List.mem_of_getElem? (i := 1058) (by decide +kernel)⟩
theorem lw_p25 : lw_okq (⟨"SwollenHouse$Outlook", "stickingNext", "(III)I"⟩, 5) := ⟨⟨by decide +kernel, by decide +kernel⟩, List.mem_of_getElem? (i := 292) (by decide +kernel), List.mem_of_getElem? (i := 1071) (by decide +kernel), List.mem_of_getElem? (i := 1072) (by decide +kernel)⟩
theorem lw_p26 : lw_okq (⟨"SwollenHouse", "makeDrawnDeed", "()Z"⟩, 15) := ⟨⟨by decide +kernel, by decide +kernel⟩, List.mem_of_getElem? (i := 22) (by decide +kernel), List.mem_of_getElem? (i := 1104) (by decide +kernel), List.mem_of_getElem? (i := 1105) (by decide +kernel)⟩
theorem lw_p27 : lw_okq (⟨"SwollenHouse", "drawBelow", "(I)I"⟩, 15) := ⟨⟨by decide +kernel, by decide +kernel⟩, List.mem_of_getElem? (i := 22) (by decide +kernel), List.mem_of_getElem? (i := 1108) (by decide +kernel), List.mem_of_getElem? (i := 1109) (by decide +kernel)⟩
theorem lw_p28 : lw_okq (⟨"java/lang/Throwable", "fillInStackTrace", "(I)Ljava/lang/Throwable;"⟩, 6) := ⟨⟨by decide +kernel, by decide +kernel⟩, List.mem_of_getElem? (i := 1166) (by decide +kernel), List.mem_of_getElem? (i := 1164) (by decide +kernel), List.mem_of_getElem? (i := 1165) (by decide +kernel)⟩
theorem lw_p29 : lw_okq (⟨"SwollenHouseModel", "lay", "(J)V"⟩, 32) := ⟨⟨by decide +kernel, by decide +kernel⟩, List.mem_of_getElem? (i := 1212) (by decide +kernel), List.mem_of_getElem? (i := 1210) (by decide +kernel), List.mem_of_getElem? (i := 1211) (by decide +kernel)⟩
theorem lw_p30 : lw_okq (⟨"SwollenHouseModel", "standsAsAlways", "(I)V"⟩, 32) := ⟨⟨by decide +kernel, by decide +kernel⟩, List.mem_of_getElem? (i := 1212) (by decide +kernel), List.mem_of_getElem? (i := 1243) (by decide +kernel), List.mem_of_getElem? (i := 1244) (by decide +kernel)⟩
theorem lw_p31 : lw_okq (⟨"SwollenHouseModel", "begins", "()V"⟩, 32) := ⟨⟨by decide +kernel, by decide +kernel⟩, List.mem_of_getElem? (i := 1212) (by decide +kernel), List.mem_of_getElem? (i := 1247) (by decide +kernel), List.mem_of_getElem? (i := 1248) (by decide +kernel)⟩
def lw_privs_2 : List (MethodName × Nat) := [(⟨"SwollenHouse$Outlook", "lookAt", "(I)V"⟩, 5), (⟨"SwollenHouse$Outlook", "sticksAt", "(II)Z"⟩, 5), (⟨"SwollenHouse$Planer", "lookAhead", "(II)V"⟩, 5), (⟨"SwollenHouse$Planer", "findRow", "(I)Z"⟩, 5), (⟨"SwollenHouse$Planer", "writeRow", "(II)V"⟩, 5), (⟨"SwollenHouse$Planer", "canBePlaned", "(I)Z"⟩, 5), (⟨"SwollenHouse$Planer", "timesInRow", "(II)I"⟩, 5), (⟨"SwollenHouse$Planer", "openByRow", "(I)I"⟩, 5), (⟨"SwollenHouse$Outlook", "agreesWith", "(LSwollenHouse$Rumours;I)Z"⟩, 5), (⟨"SwollenHouse$Outlook", "stickingNext", "(III)I"⟩, 5), (⟨"SwollenHouse", "makeDrawnDeed", "()Z"⟩, 15), (⟨"SwollenHouse", "drawBelow", "(I)I"⟩, 15), (⟨"java/lang/Throwable", "fillInStackTrace", "(I)Ljava/lang/Throwable;"⟩, 6), (⟨"SwollenHouseModel", "lay", "(J)V"⟩, 32), (⟨"SwollenHouseModel", "standsAsAlways", "(I)V"⟩, 32), (⟨"SwollenHouseModel", "begins", "()V"⟩, 32)]
theorem lw_r2 : ∀ q ∈ lw_privs_2, lw_okq q := List.forall_mem_cons.mpr ⟨lw_p16, List.forall_mem_cons.mpr ⟨lw_p17, List.forall_mem_cons.mpr ⟨lw_p18, List.forall_mem_cons.mpr ⟨lw_p19, List.forall_mem_cons.mpr ⟨lw_p20, List.forall_mem_cons.mpr ⟨lw_p21, List.forall_mem_cons.mpr ⟨lw_p22, List.forall_mem_cons.mpr ⟨lw_p23, List.forall_mem_cons.mpr ⟨lw_p24, List.forall_mem_cons.mpr ⟨lw_p25, List.forall_mem_cons.mpr ⟨lw_p26, List.forall_mem_cons.mpr ⟨lw_p27, List.forall_mem_cons.mpr ⟨lw_p28, List.forall_mem_cons.mpr ⟨lw_p29, List.forall_mem_cons.mpr ⟨lw_p30, List.forall_mem_cons.mpr ⟨lw_p31, fun _ h => absurd h List.not_mem_nil⟩⟩⟩⟩⟩⟩⟩⟩⟩⟩⟩⟩⟩⟩⟩⟩
theorem lw_p32 : lw_okq (⟨"SwollenHouseModel", "starts", "(I)V"⟩, 32) := ⟨⟨by decide +kernel, by decide +kernel⟩, List.mem_of_getElem? (i := 1212) (by decide +kernel), List.mem_of_getElem? (i := 1251) (by decide +kernel), List.mem_of_getElem? (i := 1252) (by decide +kernel)⟩
theorem lw_p33 : lw_okq (⟨"SwollenHouseModel", "doors", "()I"⟩, 32) := ⟨⟨by decide +kernel, by decide +kernel⟩, List.mem_of_getElem? (i := 1212) (by decide +kernel), List.mem_of_getElem? (i := 1255) (by decide +kernel), List.mem_of_getElem? (i := 1256) (by decide +kernel)⟩
theorem lw_p34 : lw_okq (⟨"SwollenHouseModel", "doorOf", "(II)I"⟩, 32) := ⟨⟨by decide +kernel, by decide +kernel⟩, List.mem_of_getElem? (i := 1212) (by decide +kernel), List.mem_of_getElem? (i := 1259) (by decide +kernel), List.mem_of_getElem? (i := 1260) (by decide +kernel)⟩
theorem lw_p35 : lw_okq (⟨"SwollenHouseModel", "persons", "()I"⟩, 32) := ⟨⟨by decide +kernel, by decide +kernel⟩, List.mem_of_getElem? (i := 1212) (by decide +kernel), List.mem_of_getElem? (i := 1263) (by decide +kernel), List.mem_of_getElem? (i := 1264) (by decide +kernel)⟩
theorem lw_p36 : lw_okq (⟨"SwollenHouseModel", "cutAll", "()V"⟩, 32) := ⟨⟨by decide +kernel, by decide +kernel⟩, List.mem_of_getElem? (i := 1212) (by decide +kernel), List.mem_of_getElem? (i := 1368) (by decide +kernel), List.mem_of_getElem? (i := 1369) (by decide +kernel)⟩
theorem lw_p37 : lw_okq (⟨"SwollenHouseModel", "readLine", "()V"⟩, 32) := ⟨⟨by decide +kernel, by decide +kernel⟩, List.mem_of_getElem? (i := 1212) (by decide +kernel), List.mem_of_getElem? (i := 1387) (by decide +kernel), List.mem_of_getElem? (i := 1388) (by decide +kernel)⟩
theorem lw_p38 : lw_okq (⟨"SwollenHouseModel", "isWord", "(I)Z"⟩, 32) := ⟨⟨by decide +kernel, by decide +kernel⟩, List.mem_of_getElem? (i := 1212) (by decide +kernel), List.mem_of_getElem? (i := 1391) (by decide +kernel), List.mem_of_getElem? (i := 1392) (by decide +kernel)⟩
theorem lw_p39 : lw_okq (⟨"SwollenHouseModel", "readName", "(III)V"⟩, 32) := ⟨⟨by decide +kernel, by decide +kernel⟩, List.mem_of_getElem? (i := 1212) (by decide +kernel), List.mem_of_getElem? (i := 1395) (by decide +kernel), List.mem_of_getElem? (i := 1396) (by decide +kernel)⟩
theorem lw_p40 : lw_okq (⟨"SwollenHouseModel", "wrong", "(I)V"⟩, 32) := ⟨⟨by decide +kernel, by decide +kernel⟩, List.mem_of_getElem? (i := 1212) (by decide +kernel), List.mem_of_getElem? (i := 1399) (by decide +kernel), List.mem_of_getElem? (i := 1400) (by decide +kernel)⟩
theorem lw_p41 : lw_okq (⟨"SwollenHouseModel", "isName", "()Z"⟩, 32) := ⟨⟨by decide +kernel, by decide +kernel⟩, List.mem_of_getElem? (i := 1212) (by decide +kernel), List.mem_of_getElem? (i := 1403) (by decide +kernel), List.mem_of_getElem? (i := 1404) (by decide +kernel)⟩
theorem lw_p42 : lw_okq (⟨"SwollenHouseModel", "wordHere", "(II)I"⟩, 32) := ⟨⟨by decide +kernel, by decide +kernel⟩, List.mem_of_getElem? (i := 1212) (by decide +kernel), List.mem_of_getElem? (i := 1407) (by decide +kernel), List.mem_of_getElem? (i := 1408) (by decide +kernel)⟩
theorem lw_p43 : lw_okq (⟨"SwollenHouseModel", "nameAt", "(Z)I"⟩, 32) := ⟨⟨by decide +kernel, by decide +kernel⟩, List.mem_of_getElem? (i := 1212) (by decide +kernel), List.mem_of_getElem? (i := 1411) (by decide +kernel), List.mem_of_getElem? (i := 1412) (by decide +kernel)⟩
theorem lw_p44 : lw_okq (⟨"SwollenHouseModel", "readDoor", "()V"⟩, 32) := ⟨⟨by decide +kernel, by decide +kernel⟩, List.mem_of_getElem? (i := 1212) (by decide +kernel), List.mem_of_getElem? (i := 1415) (by decide +kernel), List.mem_of_getElem? (i := 1416) (by decide +kernel)⟩
theorem lw_p45 : lw_okq (⟨"SwollenHouseModel", "takeTold", "(ZII)I"⟩, 32) := ⟨⟨by decide +kernel, by decide +kernel⟩, List.mem_of_getElem? (i := 1212) (by decide +kernel), List.mem_of_getElem? (i := 1419) (by decide +kernel), List.mem_of_getElem? (i := 1420) (by decide +kernel)⟩
theorem lw_p46 : lw_okq (⟨"SwollenHouseModel", "takeOne", "(II)I"⟩, 32) := ⟨⟨by decide +kernel, by decide +kernel⟩, List.mem_of_getElem? (i := 1212) (by decide +kernel), List.mem_of_getElem? (i := 1426) (by decide +kernel), List.mem_of_getElem? (i := 1427) (by decide +kernel)⟩
theorem lw_p47 : lw_okq (⟨"SwollenHouseModel", "takeAfter", "(III)I"⟩, 32) := ⟨⟨by decide +kernel, by decide +kernel⟩, List.mem_of_getElem? (i := 1212) (by decide +kernel), List.mem_of_getElem? (i := 1430) (by decide +kernel), List.mem_of_getElem? (i := 1431) (by decide +kernel)⟩
def lw_privs_3 : List (MethodName × Nat) := [(⟨"SwollenHouseModel", "starts", "(I)V"⟩, 32), (⟨"SwollenHouseModel", "doors", "()I"⟩, 32), (⟨"SwollenHouseModel", "doorOf", "(II)I"⟩, 32), (⟨"SwollenHouseModel", "persons", "()I"⟩, 32), (⟨"SwollenHouseModel", "cutAll", "()V"⟩, 32), (⟨"SwollenHouseModel", "readLine", "()V"⟩, 32), (⟨"SwollenHouseModel", "isWord", "(I)Z"⟩, 32), (⟨"SwollenHouseModel", "readName", "(III)V"⟩, 32), (⟨"SwollenHouseModel", "wrong", "(I)V"⟩, 32), (⟨"SwollenHouseModel", "isName", "()Z"⟩, 32), (⟨"SwollenHouseModel", "wordHere", "(II)I"⟩, 32), (⟨"SwollenHouseModel", "nameAt", "(Z)I"⟩, 32), (⟨"SwollenHouseModel", "readDoor", "()V"⟩, 32), (⟨"SwollenHouseModel", "takeTold", "(ZII)I"⟩, 32), (⟨"SwollenHouseModel", "takeOne", "(II)I"⟩, 32), (⟨"SwollenHouseModel", "takeAfter", "(III)I"⟩, 32)]
theorem lw_r3 : ∀ q ∈ lw_privs_3, lw_okq q := List.forall_mem_cons.mpr ⟨lw_p32, List.forall_mem_cons.mpr ⟨lw_p33, List.forall_mem_cons.mpr ⟨lw_p34, List.forall_mem_cons.mpr ⟨lw_p35, List.forall_mem_cons.mpr ⟨lw_p36, List.forall_mem_cons.mpr ⟨lw_p37, List.forall_mem_cons.mpr ⟨lw_p38, List.forall_mem_cons.mpr ⟨lw_p39, List.forall_mem_cons.mpr ⟨lw_p40, List.forall_mem_cons.mpr ⟨lw_p41, List.forall_mem_cons.mpr ⟨lw_p42, List.forall_mem_cons.mpr ⟨lw_p43, List.forall_mem_cons.mpr ⟨lw_p44, List.forall_mem_cons.mpr ⟨lw_p45, List.forall_mem_cons.mpr ⟨lw_p46, List.forall_mem_cons.mpr ⟨lw_p47, fun _ h => absurd h List.not_mem_nil⟩⟩⟩⟩⟩⟩⟩⟩⟩⟩⟩⟩⟩⟩⟩⟩
theorem lw_p48 : lw_okq (⟨"SwollenHouseModel", "takeWord", "(I)V"⟩, 32) := ⟨⟨by decide +kernel, by decide +kernel⟩, List.mem_of_getElem? (i := 1212) (by decide +kernel), List.mem_of_getElem? (i := 1434) (by decide +kernel), List.mem_of_getElem? (i := 1435) (by decide +kernel)⟩
theorem lw_p49 : lw_okq (⟨"SwollenHouseModel", "hasWord", "(I)Z"⟩, 32) := ⟨⟨by decide +kernel, by decide +kernel⟩, List.mem_of_getElem? (i := 1212) (by decide +kernel), List.mem_of_getElem? (i := 1438) (by decide +kernel), List.mem_of_getElem? (i := 1439) (by decide +kernel)⟩
theorem lw_p50 : lw_okq (⟨"SwollenHouseModel", "takeNumber", "(II)I"⟩, 32) := ⟨⟨by decide +kernel, by decide +kernel⟩, List.mem_of_getElem? (i := 1212) (by decide +kernel), List.mem_of_getElem? (i := 1442) (by decide +kernel), List.mem_of_getElem? (i := 1443) (by decide +kernel)⟩
theorem lw_p51 : lw_okq (⟨"SwollenHouseModel", "readOnce", "()V"⟩, 32) := ⟨⟨by decide +kernel, by decide +kernel⟩, List.mem_of_getElem? (i := 1212) (by decide +kernel), List.mem_of_getElem? (i := 1446) (by decide +kernel), List.mem_of_getElem? (i := 1447) (by decide +kernel)⟩
theorem lw_p52 : lw_okq (⟨"SwollenHouseModel", "readDamp", "()V"⟩, 32) := ⟨⟨by decide +kernel, by decide +kernel⟩, List.mem_of_getElem? (i := 1212) (by decide +kernel), List.mem_of_getElem? (i := 1450) (by decide +kernel), List.mem_of_getElem? (i := 1451) (by decide +kernel)⟩
theorem lw_p53 : lw_okq (⟨"SwollenHouseModel", "whole", "(I)V"⟩, 32) := ⟨⟨by decide +kernel, by decide +kernel⟩, List.mem_of_getElem? (i := 1212) (by decide +kernel), List.mem_of_getElem? (i := 1454) (by decide +kernel), List.mem_of_getElem? (i := 1455) (by decide +kernel)⟩
theorem lw_p54 : lw_okq (⟨"SwollenHouseModel", "test", "(I)V"⟩, 32) := ⟨⟨by decide +kernel, by decide +kernel⟩, List.mem_of_getElem? (i := 1212) (by decide +kernel), List.mem_of_getElem? (i := 1458) (by decide +kernel), List.mem_of_getElem? (i := 1459) (by decide +kernel)⟩
theorem lw_p55 : lw_okq (⟨"SwollenHouseModel", "sums", "(I)V"⟩, 32) := ⟨⟨by decide +kernel, by decide +kernel⟩, List.mem_of_getElem? (i := 1212) (by decide +kernel), List.mem_of_getElem? (i := 1462) (by decide +kernel), List.mem_of_getElem? (i := 1463) (by decide +kernel)⟩
theorem lw_p56 : lw_okq (⟨"SwollenHouseModel", "products", "(I)V"⟩, 32) := ⟨⟨by decide +kernel, by decide +kernel⟩, List.mem_of_getElem? (i := 1212) (by decide +kernel), List.mem_of_getElem? (i := 1466) (by decide +kernel), List.mem_of_getElem? (i := 1467) (by decide +kernel)⟩
theorem lw_p57 : lw_okq (⟨"SwollenHouseModel", "takePart", "(I)V"⟩, 32) := ⟨⟨by decide +kernel, by decide +kernel⟩, List.mem_of_getElem? (i := 1212) (by decide +kernel), List.mem_of_getElem? (i := 1470) (by decide +kernel), List.mem_of_getElem? (i := 1471) (by decide +kernel)⟩
theorem lw_p58 : lw_okq (⟨"SwollenHouseModel", "isSign", "(I)Z"⟩, 32) := ⟨⟨by decide +kernel, by decide +kernel⟩, List.mem_of_getElem? (i := 1212) (by decide +kernel), List.mem_of_getElem? (i := 1474) (by decide +kernel), List.mem_of_getElem? (i := 1475) (by decide +kernel)⟩
theorem lw_p59 : lw_okq (⟨"SwollenHouseModel", "emit", "(II)V"⟩, 32) := ⟨⟨by decide +kernel, by decide +kernel⟩, List.mem_of_getElem? (i := 1212) (by decide +kernel), List.mem_of_getElem? (i := 1478) (by decide +kernel), List.mem_of_getElem? (i := 1479) (by decide +kernel)⟩
theorem lw_p60 : lw_okq (⟨"SwollenHouseModel", "hasSign", "(I)Z"⟩, 32) := ⟨⟨by decide +kernel, by decide +kernel⟩, List.mem_of_getElem? (i := 1212) (by decide +kernel), List.mem_of_getElem? (i := 1482) (by decide +kernel), List.mem_of_getElem? (i := 1483) (by decide +kernel)⟩
theorem lw_p61 : lw_okq (⟨"SwollenHouseModel", "takeSign", "(I)V"⟩, 32) := ⟨⟨by decide +kernel, by decide +kernel⟩, List.mem_of_getElem? (i := 1212) (by decide +kernel), List.mem_of_getElem? (i := 1486) (by decide +kernel), List.mem_of_getElem? (i := 1487) (by decide +kernel)⟩
theorem lw_p62 : lw_okq (⟨"SwollenHouseModel", "isDoor", "(I)Z"⟩, 32) := ⟨⟨by decide +kernel, by decide +kernel⟩, List.mem_of_getElem? (i := 1212) (by decide +kernel), List.mem_of_getElem? (i := 1498) (by decide +kernel), List.mem_of_getElem? (i := 1499) (by decide +kernel)⟩
theorem lw_p63 : lw_okq (⟨"SwollenHouseModel", "isWedged", "(II)Z"⟩, 32) := ⟨⟨by decide +kernel, by decide +kernel⟩, List.mem_of_getElem? (i := 1212) (by decide +kernel), List.mem_of_getElem? (i := 1502) (by decide +kernel), List.mem_of_getElem? (i := 1503) (by decide +kernel)⟩
def lw_privs_4 : List (MethodName × Nat) := [(⟨"SwollenHouseModel", "takeWord", "(I)V"⟩, 32), (⟨"SwollenHouseModel", "hasWord", "(I)Z"⟩, 32), (⟨"SwollenHouseModel", "takeNumber", "(II)I"⟩, 32), (⟨"SwollenHouseModel", "readOnce", "()V"⟩, 32), (⟨"SwollenHouseModel", "readDamp", "()V"⟩, 32), (⟨"SwollenHouseModel", "whole", "(I)V"⟩, 32), (⟨"SwollenHouseModel", "test", "(I)V"⟩, 32), (⟨"SwollenHouseModel", "sums", "(I)V"⟩, 32), (⟨"SwollenHouseModel", "products", "(I)V"⟩, 32), (⟨"SwollenHouseModel", "takePart", "(I)V"⟩, 32), (⟨"SwollenHouseModel", "isSign", "(I)Z"⟩, 32), (⟨"SwollenHouseModel", "emit", "(II)V"⟩, 32), (⟨"SwollenHouseModel", "hasSign", "(I)Z"⟩, 32), (⟨"SwollenHouseModel", "takeSign", "(I)V"⟩, 32), (⟨"SwollenHouseModel", "isDoor", "(I)Z"⟩, 32), (⟨"SwollenHouseModel", "isWedged", "(II)Z"⟩, 32)]
theorem lw_r4 : ∀ q ∈ lw_privs_4, lw_okq q := List.forall_mem_cons.mpr ⟨lw_p48, List.forall_mem_cons.mpr ⟨lw_p49, List.forall_mem_cons.mpr ⟨lw_p50, List.forall_mem_cons.mpr ⟨lw_p51, List.forall_mem_cons.mpr ⟨lw_p52, List.forall_mem_cons.mpr ⟨lw_p53, List.forall_mem_cons.mpr ⟨lw_p54, List.forall_mem_cons.mpr ⟨lw_p55, List.forall_mem_cons.mpr ⟨lw_p56, List.forall_mem_cons.mpr ⟨lw_p57, List.forall_mem_cons.mpr ⟨lw_p58, List.forall_mem_cons.mpr ⟨lw_p59, List.forall_mem_cons.mpr ⟨lw_p60, List.forall_mem_cons.mpr ⟨lw_p61, List.forall_mem_cons.mpr ⟨lw_p62, List.forall_mem_cons.mpr ⟨lw_p63, fun _ h => absurd h List.not_mem_nil⟩⟩⟩⟩⟩⟩⟩⟩⟩⟩⟩⟩⟩⟩⟩⟩
theorem lw_p64 : lw_okq (⟨"SwollenHouseModel", "doesStick", "(II)Z"⟩, 32) := ⟨⟨by decide +kernel, by decide +kernel⟩, List.mem_of_getElem? (i := 1212) (by decide +kernel), List.mem_of_getElem? (i := 1506) (by decide +kernel), List.mem_of_getElem? (i := 1507) (by decide +kernel)⟩
theorem lw_p65 : lw_okq (⟨"SwollenHouseModel", "overOf", "(II)I"⟩, 32) := ⟨⟨by decide +kernel, by decide +kernel⟩, List.mem_of_getElem? (i := 1212) (by decide +kernel), List.mem_of_getElem? (i := 1510) (by decide +kernel), List.mem_of_getElem? (i := 1511) (by decide +kernel)⟩
theorem lw_p66 : lw_okq (⟨"SwollenHouseModel", "isPerson", "(I)Z"⟩, 32) := ⟨⟨by decide +kernel, by decide +kernel⟩, List.mem_of_getElem? (i := 1212) (by decide +kernel), List.mem_of_getElem? (i := 1518) (by decide +kernel), List.mem_of_getElem? (i := 1519) (by decide +kernel)⟩
theorem lw_p67 : lw_okq (⟨"SwollenHouseModel", "keeps", "()V"⟩, 32) := ⟨⟨by decide +kernel, by decide +kernel⟩, List.mem_of_getElem? (i := 1212) (by decide +kernel), List.mem_of_getElem? (i := 1526) (by decide +kernel), List.mem_of_getElem? (i := 1527) (by decide +kernel)⟩
theorem lw_p68 : lw_okq (⟨"SwollenHouseModel", "copies", "(III)V"⟩, 32) := ⟨⟨by decide +kernel, by decide +kernel⟩, List.mem_of_getElem? (i := 1212) (by decide +kernel), List.mem_of_getElem? (i := 1530) (by decide +kernel), List.mem_of_getElem? (i := 1531) (by decide +kernel)⟩
theorem lw_p69 : lw_okq (⟨"SwollenHouseModel", "passes", "(I)V"⟩, 32) := ⟨⟨by decide +kernel, by decide +kernel⟩, List.mem_of_getElem? (i := 1212) (by decide +kernel), List.mem_of_getElem? (i := 1534) (by decide +kernel), List.mem_of_getElem? (i := 1535) (by decide +kernel)⟩
theorem lw_p70 : lw_okq (⟨"SwollenHouseModel", "dampOn", "(I)I"⟩, 32) := ⟨⟨by decide +kernel, by decide +kernel⟩, List.mem_of_getElem? (i := 1212) (by decide +kernel), List.mem_of_getElem? (i := 1538) (by decide +kernel), List.mem_of_getElem? (i := 1539) (by decide +kernel)⟩
theorem lw_p71 : lw_okq (⟨"SwollenHouseModel", "passes", "(II)V"⟩, 32) := ⟨⟨by decide +kernel, by decide +kernel⟩, List.mem_of_getElem? (i := 1212) (by decide +kernel), List.mem_of_getElem? (i := 1542) (by decide +kernel), List.mem_of_getElem? (i := 1543) (by decide +kernel)⟩
theorem lw_p72 : lw_okq (⟨"SwollenHouseModel", "moves", "(III)I"⟩, 32) := ⟨⟨by decide +kernel, by decide +kernel⟩, List.mem_of_getElem? (i := 1212) (by decide +kernel), List.mem_of_getElem? (i := 1546) (by decide +kernel), List.mem_of_getElem? (i := 1547) (by decide +kernel)⟩
theorem lw_p73 : lw_okq (⟨"SwollenHouseModel", "worthAt", "(I)I"⟩, 32) := ⟨⟨by decide +kernel, by decide +kernel⟩, List.mem_of_getElem? (i := 1212) (by decide +kernel), List.mem_of_getElem? (i := 1550) (by decide +kernel), List.mem_of_getElem? (i := 1551) (by decide +kernel)⟩
theorem lw_p74 : lw_okq (⟨"SwollenHouseModel", "sticking", "(I)I"⟩, 32) := ⟨⟨by decide +kernel, by decide +kernel⟩, List.mem_of_getElem? (i := 1212) (by decide +kernel), List.mem_of_getElem? (i := 1557) (by decide +kernel), List.mem_of_getElem? (i := 1558) (by decide +kernel)⟩
theorem lw_p75 : lw_okq (⟨"SwollenHouseModel", "mayWalk", "(III)Z"⟩, 32) := ⟨⟨by decide +kernel, by decide +kernel⟩, List.mem_of_getElem? (i := 1212) (by decide +kernel), List.mem_of_getElem? (i := 1565) (by decide +kernel), List.mem_of_getElem? (i := 1566) (by decide +kernel)⟩
theorem lw_p76 : lw_okq (⟨"SwollenHouseModel", "behind", "(II)I"⟩, 32) := ⟨⟨by decide +kernel, by decide +kernel⟩, List.mem_of_getElem? (i := 1212) (by decide +kernel), List.mem_of_getElem? (i := 1569) (by decide +kernel), List.mem_of_getElem? (i := 1570) (by decide +kernel)⟩
theorem lw_p77 : lw_okq (⟨"SwollenHouseModel", "walks", "(III)V"⟩, 32) := ⟨⟨by decide +kernel, by decide +kernel⟩, List.mem_of_getElem? (i := 1212) (by decide +kernel), List.mem_of_getElem? (i := 1573) (by decide +kernel), List.mem_of_getElem? (i := 1574) (by decide +kernel)⟩
theorem lw_p78 : lw_okq (⟨"SwollenHouseModel", "mayWedge", "(II)Z"⟩, 32) := ⟨⟨by decide +kernel, by decide +kernel⟩, List.mem_of_getElem? (i := 1212) (by decide +kernel), List.mem_of_getElem? (i := 1585) (by decide +kernel), List.mem_of_getElem? (i := 1586) (by decide +kernel)⟩
theorem lw_p79 : lw_okq (⟨"SwollenHouseModel", "mayForce", "(II)Z"⟩, 32) := ⟨⟨by decide +kernel, by decide +kernel⟩, List.mem_of_getElem? (i := 1212) (by decide +kernel), List.mem_of_getElem? (i := 1593) (by decide +kernel), List.mem_of_getElem? (i := 1594) (by decide +kernel)⟩
def lw_privs_5 : List (MethodName × Nat) := [(⟨"SwollenHouseModel", "doesStick", "(II)Z"⟩, 32), (⟨"SwollenHouseModel", "overOf", "(II)I"⟩, 32), (⟨"SwollenHouseModel", "isPerson", "(I)Z"⟩, 32), (⟨"SwollenHouseModel", "keeps", "()V"⟩, 32), (⟨"SwollenHouseModel", "copies", "(III)V"⟩, 32), (⟨"SwollenHouseModel", "passes", "(I)V"⟩, 32), (⟨"SwollenHouseModel", "dampOn", "(I)I"⟩, 32), (⟨"SwollenHouseModel", "passes", "(II)V"⟩, 32), (⟨"SwollenHouseModel", "moves", "(III)I"⟩, 32), (⟨"SwollenHouseModel", "worthAt", "(I)I"⟩, 32), (⟨"SwollenHouseModel", "sticking", "(I)I"⟩, 32), (⟨"SwollenHouseModel", "mayWalk", "(III)Z"⟩, 32), (⟨"SwollenHouseModel", "behind", "(II)I"⟩, 32), (⟨"SwollenHouseModel", "walks", "(III)V"⟩, 32), (⟨"SwollenHouseModel", "mayWedge", "(II)Z"⟩, 32), (⟨"SwollenHouseModel", "mayForce", "(II)Z"⟩, 32)]
theorem lw_r5 : ∀ q ∈ lw_privs_5, lw_okq q := List.forall_mem_cons.mpr ⟨lw_p64, List.forall_mem_cons.mpr ⟨lw_p65, List.forall_mem_cons.mpr ⟨lw_p66, List.forall_mem_cons.mpr ⟨lw_p67, List.forall_mem_cons.mpr ⟨lw_p68, List.forall_mem_cons.mpr ⟨lw_p69, List.forall_mem_cons.mpr ⟨lw_p70, List.forall_mem_cons.mpr ⟨lw_p71, List.forall_mem_cons.mpr ⟨lw_p72, List.forall_mem_cons.mpr ⟨lw_p73, List.forall_mem_cons.mpr ⟨lw_p74, List.forall_mem_cons.mpr ⟨lw_p75, List.forall_mem_cons.mpr ⟨lw_p76, List.forall_mem_cons.mpr ⟨lw_p77, List.forall_mem_cons.mpr ⟨lw_p78, List.forall_mem_cons.mpr ⟨lw_p79, fun _ h => absurd h List.not_mem_nil⟩⟩⟩⟩⟩⟩⟩⟩⟩⟩⟩⟩⟩⟩⟩⟩
theorem lw_p80 : lw_okq (⟨"SwollenHouseModel", "can", "(III)Z"⟩, 32) := ⟨⟨by decide +kernel, by decide +kernel⟩, List.mem_of_getElem? (i := 1212) (by decide +kernel), List.mem_of_getElem? (i := 1605) (by decide +kernel), List.mem_of_getElem? (i := 1606) (by decide +kernel)⟩
theorem lw_p81 : lw_okq (⟨"SwollenHouseModel", "shutIn", "(I)I"⟩, 32) := ⟨⟨by decide +kernel, by decide +kernel⟩, List.mem_of_getElem? (i := 1212) (by decide +kernel), List.mem_of_getElem? (i := 1609) (by decide +kernel), List.mem_of_getElem? (i := 1610) (by decide +kernel)⟩
theorem lw_p82 : lw_okq (⟨"SwollenHouseModel", "isRoom", "(I)Z"⟩, 32) := ⟨⟨by decide +kernel, by decide +kernel⟩, List.mem_of_getElem? (i := 1212) (by decide +kernel), List.mem_of_getElem? (i := 1624) (by decide +kernel), List.mem_of_getElem? (i := 1625) (by decide +kernel)⟩
theorem lw_p83 : lw_okq (⟨"SwollenHouseModel", "rooms", "()I"⟩, 32) := ⟨⟨by decide +kernel, by decide +kernel⟩, List.mem_of_getElem? (i := 1212) (by decide +kernel), List.mem_of_getElem? (i := 1628) (by decide +kernel), List.mem_of_getElem? (i := 1629) (by decide +kernel)⟩
theorem lw_p84 : lw_okq (⟨"SwollenHouseModel", "openNow", "(I)I"⟩, 32) := ⟨⟨by decide +kernel, by decide +kernel⟩, List.mem_of_getElem? (i := 1212) (by decide +kernel), List.mem_of_getElem? (i := 1632) (by decide +kernel), List.mem_of_getElem? (i := 1633) (by decide +kernel)⟩
theorem lw_p85 : lw_okq (⟨"SwollenHouseModel", "rangeBy", "(II)I"⟩, 32) := ⟨⟨by decide +kernel, by decide +kernel⟩, List.mem_of_getElem? (i := 1212) (by decide +kernel), List.mem_of_getElem? (i := 1636) (by decide +kernel), List.mem_of_getElem? (i := 1637) (by decide +kernel)⟩
theorem lw_p86 : lw_okq (⟨"SwollenHouseModel", "onFrom", "(II)I"⟩, 32) := ⟨⟨by decide +kernel, by decide +kernel⟩, List.mem_of_getElem? (i := 1212) (by decide +kernel), List.mem_of_getElem? (i := 1640) (by decide +kernel), List.mem_of_getElem? (i := 1641) (by decide +kernel)⟩
theorem lw_p87 : lw_okq (⟨"SwollenHouseModel", "companyBy", "(II)I"⟩, 32) := ⟨⟨by decide +kernel, by decide +kernel⟩, List.mem_of_getElem? (i := 1212) (by decide +kernel), List.mem_of_getElem? (i := 1648) (by decide +kernel), List.mem_of_getElem? (i := 1649) (by decide +kernel)⟩
theorem lw_p88 : lw_okq (⟨"SwollenHouseModel", "pairsBy", "(I)I"⟩, 32) := ⟨⟨by decide +kernel, by decide +kernel⟩, List.mem_of_getElem? (i := 1212) (by decide +kernel), List.mem_of_getElem? (i := 1676) (by decide +kernel), List.mem_of_getElem? (i := 1677) (by decide +kernel)⟩
theorem lw_p89 : lw_okq (⟨"SwollenHouseModel", "triesNow", "()V"⟩, 32) := ⟨⟨by decide +kernel, by decide +kernel⟩, List.mem_of_getElem? (i := 1212) (by decide +kernel), List.mem_of_getElem? (i := 1696) (by decide +kernel), List.mem_of_getElem? (i := 1697) (by decide +kernel)⟩
theorem lw_p90 : lw_okq (⟨"SwollenHouseModel", "behindHow", "(IZ)I"⟩, 32) := ⟨⟨by decide +kernel, by decide +kernel⟩, List.mem_of_getElem? (i := 1212) (by decide +kernel), List.mem_of_getElem? (i := 1704) (by decide +kernel), List.mem_of_getElem? (i := 1705) (by decide +kernel)⟩
theorem lw_p91 : lw_okq (⟨"SwollenHouseModel", "opensThen", "()V"⟩, 32) := ⟨⟨by decide +kernel, by decide +kernel⟩, List.mem_of_getElem? (i := 1212) (by decide +kernel), List.mem_of_getElem? (i := 1724) (by decide +kernel), List.mem_of_getElem? (i := 1725) (by decide +kernel)⟩
theorem lw_p92 : lw_okq (⟨"SwollenHouseModel", "arrivesBy", "(II)I"⟩, 32) := ⟨⟨by decide +kernel, by decide +kernel⟩, List.mem_of_getElem? (i := 1212) (by decide +kernel), List.mem_of_getElem? (i := 1728) (by decide +kernel), List.mem_of_getElem? (i := 1729) (by decide +kernel)⟩
theorem lw_p93 : lw_okq (⟨"SwollenHouseModel", "doesPlane", "(IIII)Z"⟩, 32) := ⟨⟨by decide +kernel, by decide +kernel⟩, List.mem_of_getElem? (i := 1212) (by decide +kernel), List.mem_of_getElem? (i := 1744) (by decide +kernel), List.mem_of_getElem? (i := 1745) (by decide +kernel)⟩
theorem lw_p94 : lw_okq (⟨"SwollenHouseModel", "areOne", "(I)Z"⟩, 32) := ⟨⟨by decide +kernel, by decide +kernel⟩, List.mem_of_getElem? (i := 1212) (by decide +kernel), List.mem_of_getElem? (i := 1748) (by decide +kernel), List.mem_of_getElem? (i := 1749) (by decide +kernel)⟩
theorem lw_p95 : lw_okq (⟨"SwollenHouseModel", "wetsNow", "()I"⟩, 32) := ⟨⟨by decide +kernel, by decide +kernel⟩, List.mem_of_getElem? (i := 1212) (by decide +kernel), List.mem_of_getElem? (i := 1760) (by decide +kernel), List.mem_of_getElem? (i := 1761) (by decide +kernel)⟩
def lw_privs_6 : List (MethodName × Nat) := [(⟨"SwollenHouseModel", "can", "(III)Z"⟩, 32), (⟨"SwollenHouseModel", "shutIn", "(I)I"⟩, 32), (⟨"SwollenHouseModel", "isRoom", "(I)Z"⟩, 32), (⟨"SwollenHouseModel", "rooms", "()I"⟩, 32), (⟨"SwollenHouseModel", "openNow", "(I)I"⟩, 32), (⟨"SwollenHouseModel", "rangeBy", "(II)I"⟩, 32), (⟨"SwollenHouseModel", "onFrom", "(II)I"⟩, 32), (⟨"SwollenHouseModel", "companyBy", "(II)I"⟩, 32), (⟨"SwollenHouseModel", "pairsBy", "(I)I"⟩, 32), (⟨"SwollenHouseModel", "triesNow", "()V"⟩, 32), (⟨"SwollenHouseModel", "behindHow", "(IZ)I"⟩, 32), (⟨"SwollenHouseModel", "opensThen", "()V"⟩, 32), (⟨"SwollenHouseModel", "arrivesBy", "(II)I"⟩, 32), (⟨"SwollenHouseModel", "doesPlane", "(IIII)Z"⟩, 32), (⟨"SwollenHouseModel", "areOne", "(I)Z"⟩, 32), (⟨"SwollenHouseModel", "wetsNow", "()I"⟩, 32)]
theorem lw_r6 : ∀ q ∈ lw_privs_6, lw_okq q := List.forall_mem_cons.mpr ⟨lw_p80, List.forall_mem_cons.mpr ⟨lw_p81, List.forall_mem_cons.mpr ⟨lw_p82, List.forall_mem_cons.mpr ⟨lw_p83, List.forall_mem_cons.mpr ⟨lw_p84, List.forall_mem_cons.mpr ⟨lw_p85, List.forall_mem_cons.mpr ⟨lw_p86, List.forall_mem_cons.mpr ⟨lw_p87, List.forall_mem_cons.mpr ⟨lw_p88, List.forall_mem_cons.mpr ⟨lw_p89, List.forall_mem_cons.mpr ⟨lw_p90, List.forall_mem_cons.mpr ⟨lw_p91, List.forall_mem_cons.mpr ⟨lw_p92, List.forall_mem_cons.mpr ⟨lw_p93, List.forall_mem_cons.mpr ⟨lw_p94, List.forall_mem_cons.mpr ⟨lw_p95, fun _ h => absurd h List.not_mem_nil⟩⟩⟩⟩⟩⟩⟩⟩⟩⟩⟩⟩⟩⟩⟩⟩
theorem lw_p96 : lw_okq (⟨"SwollenHouseModel", "drawsDeed", "()Z"⟩, 32) := ⟨⟨by decide +kernel, by decide +kernel⟩, List.mem_of_getElem? (i := 1212) (by decide +kernel), List.mem_of_getElem? (i := 1792) (by decide +kernel), List.mem_of_getElem? (i := 1793) (by decide +kernel)⟩
theorem lw_p97 : lw_okq (⟨"SwollenHouseModel", "draw", "(I)I"⟩, 32) := ⟨⟨by decide +kernel, by decide +kernel⟩, List.mem_of_getElem? (i := 1212) (by decide +kernel), List.mem_of_getElem? (i := 1796) (by decide +kernel), List.mem_of_getElem? (i := 1797) (by decide +kernel)⟩
theorem lw_p98 : lw_okq (⟨"SwollenHouseModel", "sumOf", "(II)I"⟩, 32) := ⟨⟨by decide +kernel, by decide +kernel⟩, List.mem_of_getElem? (i := 1212) (by decide +kernel), List.mem_of_getElem? (i := 1804) (by decide +kernel), List.mem_of_getElem? (i := 1805) (by decide +kernel)⟩
def lw_privs_7 : List (MethodName × Nat) := [(⟨"SwollenHouseModel", "drawsDeed", "()Z"⟩, 32), (⟨"SwollenHouseModel", "draw", "(I)I"⟩, 32), (⟨"SwollenHouseModel", "sumOf", "(II)I"⟩, 32)]
theorem lw_r7 : ∀ q ∈ lw_privs_7, lw_okq q := List.forall_mem_cons.mpr ⟨lw_p96, List.forall_mem_cons.mpr ⟨lw_p97, List.forall_mem_cons.mpr ⟨lw_p98, fun _ h => absurd h List.not_mem_nil⟩⟩⟩
def lw_privs : List (MethodName × Nat) := lw_privs_1 ++ (lw_privs_2 ++ (lw_privs_3 ++ (lw_privs_4 ++ (lw_privs_5 ++ (lw_privs_6 ++ (lw_privs_7))))))
def lw_tbl : List Cond := k2_sels lw_privs ++ tables_1
theorem lw_privs_ok : ∀ q ∈ lw_privs, lw_okq q := by
  show ∀ q ∈ lw_privs_1 ++ (lw_privs_2 ++ (lw_privs_3 ++ (lw_privs_4 ++ (lw_privs_5 ++ (lw_privs_6 ++ (lw_privs_7)))))), lw_okq q
  exact List.forall_mem_append.mpr ⟨lw_r1, List.forall_mem_append.mpr ⟨lw_r2, List.forall_mem_append.mpr ⟨lw_r3, List.forall_mem_append.mpr ⟨lw_r4, List.forall_mem_append.mpr ⟨lw_r5, List.forall_mem_append.mpr ⟨lw_r6, lw_r7⟩⟩⟩⟩⟩⟩
def RX0 : String := "SwollenHouse$DaysReader"
def TX0 : u_T := fun k => match k with
  | 0 => ("SwollenHouse$DaysReader", "tape", "LSwollenHouse$Tape;", true)
  | 1 => ("SwollenHouse$DaysReader", "lines", "[I", true)
  | _ => ("SwollenHouse$DaysReader", "count", "I", false)
def tyX0 : Nat → FieldType := fun k => match k with
  | 0 => .object "SwollenHouse$Tape"
  | 1 => .array .int
  | _ => .int
abbrev wsX00 : List Cond := u_ws RX0 TX0 3
theorem nmX0 : ∀ a, a < 3 → ∀ b, b < 3 → a ≠ b → (TX0 a).2.1 ≠ (TX0 b).2.1 := by decide +kernel
theorem tyX0_ok : ∀ k, k < 3 → parseFieldDescriptor (TX0 k).2.2.1 = some (tyX0 k) := by decide +kernel
abbrev cX0_init : ByteArray := prog_2_method_1_code
def yX0_init : MethodName := ⟨RX0, "<init>", "(LSwollenHouse$Tape;)V"⟩
abbrev cX0_read : ByteArray := prog_2_method_2_code
def yX0_read : MethodName := ⟨RX0, "read", "(LSwollenHouse$Plan;)I"⟩
abbrev cX0_readLine : ByteArray := prog_2_method_3_code
def yX0_readLine : MethodName := ⟨RX0, "readLine", "(LSwollenHouse$Plan;)Z"⟩
abbrev cX0_deedTold : ByteArray := prog_2_method_4_code
def yX0_deedTold : MethodName := ⟨RX0, "deedTold", "()I"⟩
abbrev cX0_walkerTold : ByteArray := prog_2_method_5_code
def yX0_walkerTold : MethodName := ⟨RX0, "walkerTold", "(LSwollenHouse$Plan;)I"⟩
def RX1 : String := "SwollenHouse$History"
def TX1 : u_T := fun k => match k with
  | 0 => ("SwollenHouse$History", "states", "[LSwollenHouse$State;", true)
  | 1 => ("SwollenHouse$History", "newest", "I", false)
  | _ => ("SwollenHouse$History", "size", "I", false)
def tyX1 : Nat → FieldType := fun k => match k with
  | 0 => .array (.object "SwollenHouse$State")
  | 1 => .int
  | _ => .int
abbrev wsX10 : List Cond := u_ws RX1 TX1 3
theorem nmX1 : ∀ a, a < 3 → ∀ b, b < 3 → a ≠ b → (TX1 a).2.1 ≠ (TX1 b).2.1 := by decide +kernel
theorem tyX1_ok : ∀ k, k < 3 → parseFieldDescriptor (TX1 k).2.2.1 = some (tyX1 k) := by decide +kernel
abbrev cX1_init : ByteArray := prog_3_method_1_code
def yX1_init : MethodName := ⟨RX1, "<init>", "(LSwollenHouse$Plan;)V"⟩
abbrev cX1_keep : ByteArray := prog_3_method_2_code
def yX1_keep : MethodName := ⟨RX1, "keep", "(LSwollenHouse$State;)V"⟩
abbrev cX1_bringBack : ByteArray := prog_3_method_3_code
def yX1_bringBack : MethodName := ⟨RX1, "bringBack", "(LSwollenHouse$State;)Z"⟩
def RX2 : String := "SwollenHouse$HouseReader"
def TX2 : u_T := fun k => match k with
  | _ => ("SwollenHouse$HouseReader", "tape", "LSwollenHouse$Tape;", true)
def tyX2 : Nat → FieldType := fun k => match k with
  | _ => .object "SwollenHouse$Tape"
abbrev wsX20 : List Cond := u_ws RX2 TX2 1
theorem nmX2 : ∀ a, a < 1 → ∀ b, b < 1 → a ≠ b → (TX2 a).2.1 ≠ (TX2 b).2.1 := by decide +kernel
theorem tyX2_ok : ∀ k, k < 1 → parseFieldDescriptor (TX2 k).2.2.1 = some (tyX2 k) := by decide +kernel
abbrev cX2_init : ByteArray := prog_4_method_1_code
def yX2_init : MethodName := ⟨RX2, "<init>", "(LSwollenHouse$Tape;)V"⟩
abbrev cX2_read : ByteArray := prog_4_method_2_code
def yX2_read : MethodName := ⟨RX2, "read", "(LSwollenHouse$Plan;)I"⟩
abbrev cX2_readLine : ByteArray := prog_4_method_3_code
def yX2_readLine : MethodName := ⟨RX2, "readLine", "(LSwollenHouse$Plan;)Z"⟩
abbrev cX2_readRoom : ByteArray := prog_4_method_4_code
def yX2_readRoom : MethodName := ⟨RX2, "readRoom", "(LSwollenHouse$Plan;)Z"⟩
abbrev cX2_readDoor : ByteArray := prog_4_method_5_code
def yX2_readDoor : MethodName := ⟨RX2, "readDoor", "(LSwollenHouse$Plan;)Z"⟩
abbrev cX2_readPerson : ByteArray := prog_4_method_6_code
def yX2_readPerson : MethodName := ⟨RX2, "readPerson", "(LSwollenHouse$Plan;)Z"⟩
abbrev cX2_readDamp : ByteArray := prog_4_method_7_code
def yX2_readDamp : MethodName := ⟨RX2, "readDamp", "(LSwollenHouse$Plan;)Z"⟩
abbrev cX2_readSwells : ByteArray := prog_4_method_8_code
def yX2_readSwells : MethodName := ⟨RX2, "readSwells", "(LSwollenHouse$Plan;)Z"⟩
abbrev cX2_isNewName : ByteArray := prog_4_method_9_code
def yX2_isNewName : MethodName := ⟨RX2, "isNewName", "(LSwollenHouse$Plan;)Z"⟩
abbrev cX2_roomTold : ByteArray := prog_4_method_10_code
def yX2_roomTold : MethodName := ⟨RX2, "roomTold", "(LSwollenHouse$Plan;)I"⟩
abbrev cX2_woodTold : ByteArray := prog_4_method_11_code
def yX2_woodTold : MethodName := ⟨RX2, "woodTold", "()I"⟩
abbrev cX2_readTerm : ByteArray := prog_4_method_12_code
def yX2_readTerm : MethodName := ⟨RX2, "readTerm", "(LSwollenHouse$Tape;LSwollenHouse$Law;II)Z"⟩
abbrev cX2_joinOn : ByteArray := prog_4_method_13_code
def yX2_joinOn : MethodName := ⟨RX2, "joinOn", "(LSwollenHouse$Tape;I)I"⟩
abbrev cX2_readPart : ByteArray := prog_4_method_14_code
def yX2_readPart : MethodName := ⟨RX2, "readPart", "(LSwollenHouse$Tape;LSwollenHouse$Law;I)Z"⟩
abbrev cX2_factTold : ByteArray := prog_4_method_15_code
def yX2_factTold : MethodName := ⟨RX2, "factTold", "(LSwollenHouse$Tape;)I"⟩
def RX3 : String := "SwollenHouse$Law"
def TX3 : u_T := fun k => match k with
  | 0 => ("SwollenHouse$Law", "code", "[I", true)
  | 1 => ("SwollenHouse$Law", "waiting", "[I", true)
  | _ => ("SwollenHouse$Law", "length", "I", false)
def tyX3 : Nat → FieldType := fun k => match k with
  | 0 => .array .int
  | 1 => .array .int
  | _ => .int
abbrev wsX30 : List Cond := u_ws RX3 TX3 3
theorem nmX3 : ∀ a, a < 3 → ∀ b, b < 3 → a ≠ b → (TX3 a).2.1 ≠ (TX3 b).2.1 := by decide +kernel
theorem tyX3_ok : ∀ k, k < 3 → parseFieldDescriptor (TX3 k).2.2.1 = some (tyX3 k) := by decide +kernel
abbrev cX3_init : ByteArray := prog_5_method_1_code
def yX3_init : MethodName := ⟨RX3, "<init>", "()V"⟩
abbrev cX3_put : ByteArray := prog_5_method_2_code
def yX3_put : MethodName := ⟨RX3, "put", "(I)V"⟩
abbrev cX3_copyFrom : ByteArray := prog_5_method_3_code
def yX3_copyFrom : MethodName := ⟨RX3, "copyFrom", "(LSwollenHouse$Law;)V"⟩
abbrev cX3_valueBy : ByteArray := prog_5_method_4_code
def yX3_valueBy : MethodName := ⟨RX3, "valueBy", "(IIII)I"⟩
abbrev cX3_fact : ByteArray := prog_5_method_5_code
def yX3_fact : MethodName := ⟨RX3, "fact", "(IIIII)I"⟩
abbrev cX3_joined : ByteArray := prog_5_method_6_code
def yX3_joined : MethodName := ⟨RX3, "joined", "(III)I"⟩
def RX4 : String := "SwollenHouse$Mark"
def TX4 : u_T := fun k => match k with
  | 0 => ("SwollenHouse$Mark", "state", "LSwollenHouse$State;", true)
  | 1 => ("SwollenHouse$Mark", "rumours", "LSwollenHouse$Rumours;", true)
  | _ => ("SwollenHouse$Mark", "laid", "Z", false)
def tyX4 : Nat → FieldType := fun k => match k with
  | 0 => .object "SwollenHouse$State"
  | 1 => .object "SwollenHouse$Rumours"
  | _ => .boolean
abbrev wsX40 : List Cond := u_ws RX4 TX4 3
theorem nmX4 : ∀ a, a < 3 → ∀ b, b < 3 → a ≠ b → (TX4 a).2.1 ≠ (TX4 b).2.1 := by decide +kernel
theorem tyX4_ok : ∀ k, k < 3 → parseFieldDescriptor (TX4 k).2.2.1 = some (tyX4 k) := by decide +kernel
abbrev cX4_init : ByteArray := prog_6_method_1_code
def yX4_init : MethodName := ⟨RX4, "<init>", "(LSwollenHouse$Plan;)V"⟩
abbrev cX4_lay : ByteArray := prog_6_method_2_code
def yX4_lay : MethodName := ⟨RX4, "lay", "(LSwollenHouse$State;LSwollenHouse$Rumours;)V"⟩
abbrev cX4_bringBack : ByteArray := prog_6_method_3_code
def yX4_bringBack : MethodName := ⟨RX4, "bringBack", "(LSwollenHouse$State;LSwollenHouse$Rumours;)V"⟩
def RX5 : String := "SwollenHouse$Outlook"
def TX5 : u_T := fun k => match k with
  | 0 => ("SwollenHouse$Outlook", "now", "LSwollenHouse$State;", true)
  | 1 => ("SwollenHouse$Outlook", "plan", "LSwollenHouse$Plan;", true)
  | 2 => ("SwollenHouse$Outlook", "open", "[I", true)
  | 3 => ("SwollenHouse$Outlook", "swollen", "[I", true)
  | _ => ("SwollenHouse$Outlook", "swollenByWet", "[I", true)
def tyX5 : Nat → FieldType := fun k => match k with
  | 0 => .object "SwollenHouse$State"
  | 1 => .object "SwollenHouse$Plan"
  | 2 => .array .int
  | 3 => .array .int
  | _ => .array .int
abbrev wsX50 : List Cond := u_ws RX5 TX5 5
theorem nmX5 : ∀ a, a < 5 → ∀ b, b < 5 → a ≠ b → (TX5 a).2.1 ≠ (TX5 b).2.1 := by decide +kernel
theorem tyX5_ok : ∀ k, k < 5 → parseFieldDescriptor (TX5 k).2.2.1 = some (tyX5 k) := by decide +kernel
abbrev cX5_init : ByteArray := prog_7_method_1_code
def yX5_init : MethodName := ⟨RX5, "<init>", "(LSwollenHouse$State;)V"⟩
abbrev cX5_look : ByteArray := prog_7_method_2_code
def yX5_look : MethodName := ⟨RX5, "look", "(I)V"⟩
abbrev cX5_lookAt : ByteArray := prog_7_method_3_code
def yX5_lookAt : MethodName := ⟨RX5, "lookAt", "(I)V"⟩
abbrev cX5_swollenBehind : ByteArray := prog_7_method_4_code
def yX5_swollenBehind : MethodName := ⟨RX5, "swollenBehind", "(IIII)I"⟩
abbrev cX5_sticksAt : ByteArray := prog_7_method_5_code
def yX5_sticksAt : MethodName := ⟨RX5, "sticksAt", "(II)Z"⟩
abbrev cX5_firstDay : ByteArray := prog_7_method_6_code
def yX5_firstDay : MethodName := ⟨RX5, "firstDay", "(II)I"⟩
abbrev cX5_meetingDay : ByteArray := prog_7_method_7_code
def yX5_meetingDay : MethodName := ⟨RX5, "meetingDay", "(IIZ)I"⟩
abbrev cX5_roomsBehind : ByteArray := prog_7_method_8_code
def yX5_roomsBehind : MethodName := ⟨RX5, "roomsBehind", "(II)I"⟩
abbrev cX5_wetsBy : ByteArray := prog_7_method_9_code
def yX5_wetsBy : MethodName := ⟨RX5, "wetsBy", "(LSwollenHouse$Rumours;)I"⟩
abbrev cX5_agreesWith : ByteArray := prog_7_method_10_code
def yX5_agreesWith : MethodName := ⟨RX5, "agreesWith", "(LSwollenHouse$Rumours;I)Z"⟩
abbrev cX5_bestTry : ByteArray := prog_7_method_11_code
def yX5_bestTry : MethodName := ⟨RX5, "bestTry", "(I)I"⟩
abbrev cX5_stickingNext : ByteArray := prog_7_method_12_code
def yX5_stickingNext : MethodName := ⟨RX5, "stickingNext", "(III)I"⟩
abbrev cX5_millionths : ByteArray := prog_7_method_13_code
def yX5_millionths : MethodName := ⟨RX5, "millionths", "(III)I"⟩
def RX6 : String := "SwollenHouse$Plan"
def TX6 : u_T := fun k => match k with
  | 0 => ("SwollenHouse$Plan", "rooms", "I", false)
  | 1 => ("SwollenHouse$Plan", "doors", "I", false)
  | 2 => ("SwollenHouse$Plan", "persons", "I", false)
  | 3 => ("SwollenHouse$Plan", "damps", "I", false)
  | 4 => ("SwollenHouse$Plan", "roomName", "[J", true)
  | 5 => ("SwollenHouse$Plan", "personName", "[J", true)
  | 6 => ("SwollenHouse$Plan", "personStart", "[I", true)
  | 7 => ("SwollenHouse$Plan", "first", "[I", true)
  | 8 => ("SwollenHouse$Plan", "second", "[I", true)
  | 9 => ("SwollenHouse$Plan", "wood", "[I", true)
  | 10 => ("SwollenHouse$Plan", "gapTold", "[I", true)
  | 11 => ("SwollenHouse$Plan", "damp", "[I", true)
  | _ => ("SwollenHouse$Plan", "law", "LSwollenHouse$Law;", true)
def tyX6 : Nat → FieldType := fun k => match k with
  | 0 => .int
  | 1 => .int
  | 2 => .int
  | 3 => .int
  | 4 => .array .long
  | 5 => .array .long
  | 6 => .array .int
  | 7 => .array .int
  | 8 => .array .int
  | 9 => .array .int
  | 10 => .array .int
  | 11 => .array .int
  | _ => .object "SwollenHouse$Law"
abbrev wsX60 : List Cond := u_ws RX6 TX6 13
theorem nmX6 : ∀ a, a < 13 → ∀ b, b < 13 → a ≠ b → (TX6 a).2.1 ≠ (TX6 b).2.1 := by decide +kernel
theorem tyX6_ok : ∀ k, k < 13 → parseFieldDescriptor (TX6 k).2.2.1 = some (tyX6 k) := by decide +kernel
abbrev cX6_init : ByteArray := prog_8_method_1_code
def yX6_init : MethodName := ⟨RX6, "<init>", "()V"⟩
abbrev cX6_clear : ByteArray := prog_8_method_2_code
def yX6_clear : MethodName := ⟨RX6, "clear", "()V"⟩
abbrev cX6_copyFrom : ByteArray := prog_8_method_3_code
def yX6_copyFrom : MethodName := ⟨RX6, "copyFrom", "(LSwollenHouse$Plan;)V"⟩
abbrev cX6_addRoom : ByteArray := prog_8_method_4_code
def yX6_addRoom : MethodName := ⟨RX6, "addRoom", "(J)V"⟩
abbrev cX6_addDoor : ByteArray := prog_8_method_5_code
def yX6_addDoor : MethodName := ⟨RX6, "addDoor", "(IIII)V"⟩
abbrev cX6_addPerson : ByteArray := prog_8_method_6_code
def yX6_addPerson : MethodName := ⟨RX6, "addPerson", "(JI)V"⟩
abbrev cX6_addDamp : ByteArray := prog_8_method_7_code
def yX6_addDamp : MethodName := ⟨RX6, "addDamp", "(I)V"⟩
abbrev cX6_hasRoom : ByteArray := prog_8_method_8_code
def yX6_hasRoom : MethodName := ⟨RX6, "hasRoom", "(I)Z"⟩
abbrev cX6_hasDoor : ByteArray := prog_8_method_9_code
def yX6_hasDoor : MethodName := ⟨RX6, "hasDoor", "(I)Z"⟩
abbrev cX6_hasPerson : ByteArray := prog_8_method_10_code
def yX6_hasPerson : MethodName := ⟨RX6, "hasPerson", "(I)Z"⟩
abbrev cX6_allRooms : ByteArray := prog_8_method_11_code
def yX6_allRooms : MethodName := ⟨RX6, "allRooms", "()I"⟩
abbrev cX6_allDoors : ByteArray := prog_8_method_12_code
def yX6_allDoors : MethodName := ⟨RX6, "allDoors", "()I"⟩
abbrev cX6_roomNamed : ByteArray := prog_8_method_13_code
def yX6_roomNamed : MethodName := ⟨RX6, "roomNamed", "(J)I"⟩
abbrev cX6_personNamed : ByteArray := prog_8_method_14_code
def yX6_personNamed : MethodName := ⟨RX6, "personNamed", "(J)I"⟩
abbrev cX6_hasDoorBetween : ByteArray := prog_8_method_15_code
def yX6_hasDoorBetween : MethodName := ⟨RX6, "hasDoorBetween", "(II)Z"⟩
abbrev cX6_roomBehind : ByteArray := prog_8_method_16_code
def yX6_roomBehind : MethodName := ⟨RX6, "roomBehind", "(II)I"⟩
abbrev cX6_dampOn : ByteArray := prog_8_method_17_code
def yX6_dampOn : MethodName := ⟨RX6, "dampOn", "(I)I"⟩
abbrev cX6_swollenNext : ByteArray := prog_8_method_18_code
def yX6_swollenNext : MethodName := ⟨RX6, "swollenNext", "(IIIII)I"⟩
abbrev cX6_oneDoorOn : ByteArray := prog_8_method_19_code
def yX6_oneDoorOn : MethodName := ⟨RX6, "oneDoorOn", "(II)I"⟩
abbrev cX6_roomsReached : ByteArray := prog_8_method_20_code
def yX6_roomsReached : MethodName := ⟨RX6, "roomsReached", "(II)I"⟩
abbrev cX6_isJoined : ByteArray := prog_8_method_21_code
def yX6_isJoined : MethodName := ⟨RX6, "isJoined", "(III)Z"⟩
def RX7 : String := "SwollenHouse$Planer"
def TX7 : u_T := fun k => match k with
  | 0 => ("SwollenHouse$Planer", "now", "LSwollenHouse$State;", true)
  | 1 => ("SwollenHouse$Planer", "plan", "LSwollenHouse$Plan;", true)
  | 2 => ("SwollenHouse$Planer", "outlook", "LSwollenHouse$Outlook;", true)
  | 3 => ("SwollenHouse$Planer", "row", "[I", true)
  | _ => ("SwollenHouse$Planer", "openBy", "[I", true)
def tyX7 : Nat → FieldType := fun k => match k with
  | 0 => .object "SwollenHouse$State"
  | 1 => .object "SwollenHouse$Plan"
  | 2 => .object "SwollenHouse$Outlook"
  | 3 => .array .int
  | _ => .array .int
abbrev wsX70 : List Cond := u_ws RX7 TX7 5
theorem nmX7 : ∀ a, a < 5 → ∀ b, b < 5 → a ≠ b → (TX7 a).2.1 ≠ (TX7 b).2.1 := by decide +kernel
theorem tyX7_ok : ∀ k, k < 5 → parseFieldDescriptor (TX7 k).2.2.1 = some (tyX7 k) := by decide +kernel
abbrev cX7_init : ByteArray := prog_9_method_1_code
def yX7_init : MethodName := ⟨RX7, "<init>", "(LSwollenHouse$State;LSwollenHouse$Outlook;)V"⟩
abbrev cX7_fewest : ByteArray := prog_9_method_2_code
def yX7_fewest : MethodName := ⟨RX7, "fewest", "(I)I"⟩
abbrev cX7_lookAhead : ByteArray := prog_9_method_3_code
def yX7_lookAhead : MethodName := ⟨RX7, "lookAhead", "(II)V"⟩
abbrev cX7_findRow : ByteArray := prog_9_method_4_code
def yX7_findRow : MethodName := ⟨RX7, "findRow", "(I)Z"⟩
abbrev cX7_writeRow : ByteArray := prog_9_method_5_code
def yX7_writeRow : MethodName := ⟨RX7, "writeRow", "(II)V"⟩
abbrev cX7_canBePlaned : ByteArray := prog_9_method_6_code
def yX7_canBePlaned : MethodName := ⟨RX7, "canBePlaned", "(I)Z"⟩
abbrev cX7_timesInRow : ByteArray := prog_9_method_7_code
def yX7_timesInRow : MethodName := ⟨RX7, "timesInRow", "(II)I"⟩
abbrev cX7_openByRow : ByteArray := prog_9_method_8_code
def yX7_openByRow : MethodName := ⟨RX7, "openByRow", "(I)I"⟩
def RX8 : String := "SwollenHouse$Rumours"
def TX8 : u_T := fun k => match k with
  | 0 => ("SwollenHouse$Rumours", "felt", "I", false)
  | 1 => ("SwollenHouse$Rumours", "said", "I", false)
  | 2 => ("SwollenHouse$Rumours", "feltDoor", "[I", true)
  | 3 => ("SwollenHouse$Rumours", "feltDays", "[I", true)
  | 4 => ("SwollenHouse$Rumours", "feltSticks", "[Z", true)
  | 5 => ("SwollenHouse$Rumours", "saidRoom", "[I", true)
  | _ => ("SwollenHouse$Rumours", "saidDays", "[I", true)
def tyX8 : Nat → FieldType := fun k => match k with
  | 0 => .int
  | 1 => .int
  | 2 => .array .int
  | 3 => .array .int
  | 4 => .array .boolean
  | 5 => .array .int
  | _ => .array .int
abbrev wsX80 : List Cond := u_ws RX8 TX8 7
theorem nmX8 : ∀ a, a < 7 → ∀ b, b < 7 → a ≠ b → (TX8 a).2.1 ≠ (TX8 b).2.1 := by decide +kernel
theorem tyX8_ok : ∀ k, k < 7 → parseFieldDescriptor (TX8 k).2.2.1 = some (tyX8 k) := by decide +kernel
abbrev cX8_init : ByteArray := prog_10_method_1_code
def yX8_init : MethodName := ⟨RX8, "<init>", "()V"⟩
abbrev cX8_addFelt : ByteArray := prog_10_method_2_code
def yX8_addFelt : MethodName := ⟨RX8, "addFelt", "(IIZ)Z"⟩
abbrev cX8_addSaid : ByteArray := prog_10_method_3_code
def yX8_addSaid : MethodName := ⟨RX8, "addSaid", "(II)Z"⟩
abbrev cX8_copyFrom : ByteArray := prog_10_method_4_code
def yX8_copyFrom : MethodName := ⟨RX8, "copyFrom", "(LSwollenHouse$Rumours;)V"⟩
def RX9 : String := "SwollenHouse$State"
def TX9 : u_T := fun k => match k with
  | 0 => ("SwollenHouse$State", "plan", "LSwollenHouse$Plan;", true)
  | 1 => ("SwollenHouse$State", "day", "I", false)
  | 2 => ("SwollenHouse$State", "wedges", "I", false)
  | 3 => ("SwollenHouse$State", "gap", "[I", true)
  | 4 => ("SwollenHouse$State", "swollen", "[I", true)
  | _ => ("SwollenHouse$State", "place", "[I", true)
def tyX9 : Nat → FieldType := fun k => match k with
  | 0 => .object "SwollenHouse$Plan"
  | 1 => .int
  | 2 => .int
  | 3 => .array .int
  | 4 => .array .int
  | _ => .array .int
abbrev wsX90 : List Cond := u_ws RX9 TX9 6
theorem nmX9 : ∀ a, a < 6 → ∀ b, b < 6 → a ≠ b → (TX9 a).2.1 ≠ (TX9 b).2.1 := by decide +kernel
theorem tyX9_ok : ∀ k, k < 6 → parseFieldDescriptor (TX9 k).2.2.1 = some (tyX9 k) := by decide +kernel
abbrev cX9_init : ByteArray := prog_11_method_1_code
def yX9_init : MethodName := ⟨RX9, "<init>", "(LSwollenHouse$Plan;)V"⟩
abbrev cX9_copyFrom : ByteArray := prog_11_method_2_code
def yX9_copyFrom : MethodName := ⟨RX9, "copyFrom", "(LSwollenHouse$State;)V"⟩
abbrev cX9_begin : ByteArray := prog_11_method_3_code
def yX9_begin : MethodName := ⟨RX9, "begin", "()V"⟩
abbrev cX9_hasWedge : ByteArray := prog_11_method_4_code
def yX9_hasWedge : MethodName := ⟨RX9, "hasWedge", "(I)Z"⟩
abbrev cX9_isStuck : ByteArray := prog_11_method_5_code
def yX9_isStuck : MethodName := ⟨RX9, "isStuck", "(I)Z"⟩
abbrev cX9_stuckDoors : ByteArray := prog_11_method_6_code
def yX9_stuckDoors : MethodName := ⟨RX9, "stuckDoors", "()I"⟩
abbrev cX9_openDoors : ByteArray := prog_11_method_7_code
def yX9_openDoors : MethodName := ⟨RX9, "openDoors", "()I"⟩
abbrev cX9_swollenTogether : ByteArray := prog_11_method_8_code
def yX9_swollenTogether : MethodName := ⟨RX9, "swollenTogether", "()I"⟩
abbrev cX9_shutPersons : ByteArray := prog_11_method_9_code
def yX9_shutPersons : MethodName := ⟨RX9, "shutPersons", "()I"⟩
abbrev cX9_personsIn : ByteArray := prog_11_method_10_code
def yX9_personsIn : MethodName := ⟨RX9, "personsIn", "(I)I"⟩
abbrev cX9_companyOf : ByteArray := prog_11_method_11_code
def yX9_companyOf : MethodName := ⟨RX9, "companyOf", "(II)I"⟩
abbrev cX9_pairsTogether : ByteArray := prog_11_method_12_code
def yX9_pairsTogether : MethodName := ⟨RX9, "pairsTogether", "(I)I"⟩
abbrev cX9_isAllTogether : ByteArray := prog_11_method_13_code
def yX9_isAllTogether : MethodName := ⟨RX9, "isAllTogether", "(I)Z"⟩
abbrev cX9_passDay : ByteArray := prog_11_method_14_code
def yX9_passDay : MethodName := ⟨RX9, "passDay", "()V"⟩
abbrev cX9_canWalk : ByteArray := prog_11_method_15_code
def yX9_canWalk : MethodName := ⟨RX9, "canWalk", "(II)Z"⟩
abbrev cX9_makeWalk : ByteArray := prog_11_method_16_code
def yX9_makeWalk : MethodName := ⟨RX9, "makeWalk", "(II)V"⟩
abbrev cX9_walkIfCan : ByteArray := prog_11_method_17_code
def yX9_walkIfCan : MethodName := ⟨RX9, "walkIfCan", "(II)Z"⟩
abbrev cX9_canPlane : ByteArray := prog_11_method_18_code
def yX9_canPlane : MethodName := ⟨RX9, "canPlane", "(I)Z"⟩
abbrev cX9_makePlaning : ByteArray := prog_11_method_19_code
def yX9_makePlaning : MethodName := ⟨RX9, "makePlaning", "(I)V"⟩
abbrev cX9_planeIfCan : ByteArray := prog_11_method_20_code
def yX9_planeIfCan : MethodName := ⟨RX9, "planeIfCan", "(I)Z"⟩
abbrev cX9_canWedge : ByteArray := prog_11_method_21_code
def yX9_canWedge : MethodName := ⟨RX9, "canWedge", "(I)Z"⟩
abbrev cX9_turnWedge : ByteArray := prog_11_method_22_code
def yX9_turnWedge : MethodName := ⟨RX9, "turnWedge", "(I)V"⟩
abbrev cX9_wedgeIfCan : ByteArray := prog_11_method_23_code
def yX9_wedgeIfCan : MethodName := ⟨RX9, "wedgeIfCan", "(I)Z"⟩
abbrev cX9_canForce : ByteArray := prog_11_method_24_code
def yX9_canForce : MethodName := ⟨RX9, "canForce", "(I)Z"⟩
abbrev cX9_makeForcing : ByteArray := prog_11_method_25_code
def yX9_makeForcing : MethodName := ⟨RX9, "makeForcing", "(I)V"⟩
abbrev cX9_forceIfCan : ByteArray := prog_11_method_26_code
def yX9_forceIfCan : MethodName := ⟨RX9, "forceIfCan", "(I)Z"⟩
abbrev cX9_line : ByteArray := prog_11_method_27_code
def yX9_line : MethodName := ⟨RX9, "line", "(III)I"⟩
abbrev cX9_followLine : ByteArray := prog_11_method_28_code
def yX9_followLine : MethodName := ⟨RX9, "followLine", "(I)Z"⟩
def RX10 : String := "SwollenHouse$Tape"
def TX10 : u_T := fun k => match k with
  | 0 => ("SwollenHouse$Tape", "signs", "[B", true)
  | 1 => ("SwollenHouse$Tape", "length", "I", false)
  | 2 => ("SwollenHouse$Tape", "next", "I", false)
  | 3 => ("SwollenHouse$Tape", "kind", "I", false)
  | 4 => ("SwollenHouse$Tape", "place", "I", false)
  | 5 => ("SwollenHouse$Tape", "value", "J", false)
  | _ => ("SwollenHouse$Tape", "fault", "I", false)
def tyX10 : Nat → FieldType := fun k => match k with
  | 0 => .array .byte
  | 1 => .int
  | 2 => .int
  | 3 => .int
  | 4 => .int
  | 5 => .long
  | _ => .int
abbrev wsX100 : List Cond := u_ws RX10 TX10 7
theorem nmX10 : ∀ a, a < 7 → ∀ b, b < 7 → a ≠ b → (TX10 a).2.1 ≠ (TX10 b).2.1 := by decide +kernel
theorem tyX10_ok : ∀ k, k < 7 → parseFieldDescriptor (TX10 k).2.2.1 = some (tyX10 k) := by decide +kernel
abbrev cX10_init : ByteArray := prog_12_method_1_code
def yX10_init : MethodName := ⟨RX10, "<init>", "()V"⟩
abbrev cX10_putBytes : ByteArray := prog_12_method_2_code
def yX10_putBytes : MethodName := ⟨RX10, "putBytes", "(J)V"⟩
abbrev cX10_putSign : ByteArray := prog_12_method_3_code
def yX10_putSign : MethodName := ⟨RX10, "putSign", "(I)V"⟩
abbrev cX10_rewind : ByteArray := prog_12_method_4_code
def yX10_rewind : MethodName := ⟨RX10, "rewind", "()V"⟩
abbrev cX10_advance : ByteArray := prog_12_method_5_code
def yX10_advance : MethodName := ⟨RX10, "advance", "()V"⟩
abbrev cX10_readWord : ByteArray := prog_12_method_6_code
def yX10_readWord : MethodName := ⟨RX10, "readWord", "()V"⟩
abbrev cX10_readNumber : ByteArray := prog_12_method_7_code
def yX10_readNumber : MethodName := ⟨RX10, "readNumber", "()V"⟩
abbrev cX10_isBlank : ByteArray := prog_12_method_8_code
def yX10_isBlank : MethodName := ⟨RX10, "isBlank", "(I)Z"⟩
abbrev cX10_isLetter : ByteArray := prog_12_method_9_code
def yX10_isLetter : MethodName := ⟨RX10, "isLetter", "(I)Z"⟩
abbrev cX10_isDigit : ByteArray := prog_12_method_10_code
def yX10_isDigit : MethodName := ⟨RX10, "isDigit", "(I)Z"⟩
abbrev cX10_isSignOfOwn : ByteArray := prog_12_method_11_code
def yX10_isSignOfOwn : MethodName := ⟨RX10, "isSignOfOwn", "(I)Z"⟩
abbrev cX10_isWord : ByteArray := prog_12_method_12_code
def yX10_isWord : MethodName := ⟨RX10, "isWord", "(J)Z"⟩
abbrev cX10_isSign : ByteArray := prog_12_method_13_code
def yX10_isSign : MethodName := ⟨RX10, "isSign", "(I)Z"⟩
abbrev cX10_isName : ByteArray := prog_12_method_14_code
def yX10_isName : MethodName := ⟨RX10, "isName", "()Z"⟩
abbrev cX10_refuse : ByteArray := prog_12_method_15_code
def yX10_refuse : MethodName := ⟨RX10, "refuse", "(I)Z"⟩
abbrev cX10_takeWord : ByteArray := prog_12_method_16_code
def yX10_takeWord : MethodName := ⟨RX10, "takeWord", "(J)Z"⟩
abbrev cX10_takeSign : ByteArray := prog_12_method_17_code
def yX10_takeSign : MethodName := ⟨RX10, "takeSign", "(I)Z"⟩
abbrev cX10_takeNumber : ByteArray := prog_12_method_18_code
def yX10_takeNumber : MethodName := ⟨RX10, "takeNumber", "(I)I"⟩
def RX11 : String := "SwollenHouse"
def TX11 : u_T := fun k => match k with
  | 0 => ("SwollenHouse", "plan", "LSwollenHouse$Plan;", true)
  | 1 => ("SwollenHouse", "draft", "LSwollenHouse$Plan;", true)
  | 2 => ("SwollenHouse", "tape", "LSwollenHouse$Tape;", true)
  | 3 => ("SwollenHouse", "houseReader", "LSwollenHouse$HouseReader;", true)
  | 4 => ("SwollenHouse", "daysReader", "LSwollenHouse$DaysReader;", true)
  | 5 => ("SwollenHouse", "lines", "[I", true)
  | 6 => ("SwollenHouse", "now", "LSwollenHouse$State;", true)
  | 7 => ("SwollenHouse", "trial", "LSwollenHouse$State;", true)
  | 8 => ("SwollenHouse", "history", "LSwollenHouse$History;", true)
  | 9 => ("SwollenHouse", "rumours", "LSwollenHouse$Rumours;", true)
  | 10 => ("SwollenHouse", "marks", "[LSwollenHouse$Mark;", true)
  | 11 => ("SwollenHouse", "outlook", "LSwollenHouse$Outlook;", true)
  | 12 => ("SwollenHouse", "planer", "LSwollenHouse$Planer;", true)
  | 13 => ("SwollenHouse", "lineCount", "I", false)
  | _ => ("SwollenHouse", "drawn", "J", false)
def tyX11 : Nat → FieldType := fun k => match k with
  | 0 => .object "SwollenHouse$Plan"
  | 1 => .object "SwollenHouse$Plan"
  | 2 => .object "SwollenHouse$Tape"
  | 3 => .object "SwollenHouse$HouseReader"
  | 4 => .object "SwollenHouse$DaysReader"
  | 5 => .array .int
  | 6 => .object "SwollenHouse$State"
  | 7 => .object "SwollenHouse$State"
  | 8 => .object "SwollenHouse$History"
  | 9 => .object "SwollenHouse$Rumours"
  | 10 => .array (.object "SwollenHouse$Mark")
  | 11 => .object "SwollenHouse$Outlook"
  | 12 => .object "SwollenHouse$Planer"
  | 13 => .int
  | _ => .long
abbrev wsX110 : List Cond := u_ws RX11 TX11 15
theorem nmX11 : ∀ a, a < 15 → ∀ b, b < 15 → a ≠ b → (TX11 a).2.1 ≠ (TX11 b).2.1 := by decide +kernel
theorem tyX11_ok : ∀ k, k < 15 → parseFieldDescriptor (TX11 k).2.2.1 = some (tyX11 k) := by decide +kernel
abbrev cX11_init : ByteArray := prog_1_method_1_code
def yX11_init : MethodName := ⟨RX11, "<init>", "()V"⟩
abbrev cX11_feed : ByteArray := prog_1_method_2_code
def yX11_feed : MethodName := ⟨RX11, "feed", "(JJJ)I"⟩
abbrev cX11_house : ByteArray := prog_1_method_3_code
def yX11_house : MethodName := ⟨RX11, "house", "()I"⟩
abbrev cX11_startAnew : ByteArray := prog_1_method_4_code
def yX11_startAnew : MethodName := ⟨RX11, "startAnew", "()V"⟩
abbrev cX11_days : ByteArray := prog_1_method_5_code
def yX11_days : MethodName := ⟨RX11, "days", "()I"⟩
abbrev cX11_door : ByteArray := prog_1_method_6_code
def yX11_door : MethodName := ⟨RX11, "door", "(II)I"⟩
abbrev cX11_person : ByteArray := prog_1_method_7_code
def yX11_person : MethodName := ⟨RX11, "person", "(I)I"⟩
abbrev cX11_count : ByteArray := prog_1_method_8_code
def yX11_count : MethodName := ⟨RX11, "count", "(I)I"⟩
abbrev cX11_day : ByteArray := prog_1_method_9_code
def yX11_day : MethodName := ⟨RX11, "day", "()I"⟩
abbrev cX11_walk : ByteArray := prog_1_method_10_code
def yX11_walk : MethodName := ⟨RX11, "walk", "(II)I"⟩
abbrev cX11_plane : ByteArray := prog_1_method_11_code
def yX11_plane : MethodName := ⟨RX11, "plane", "(I)I"⟩
abbrev cX11_wedge : ByteArray := prog_1_method_12_code
def yX11_wedge : MethodName := ⟨RX11, "wedge", "(I)I"⟩
abbrev cX11_force : ByteArray := prog_1_method_13_code
def yX11_force : MethodName := ⟨RX11, "force", "(I)I"⟩
abbrev cX11_undo : ByteArray := prog_1_method_14_code
def yX11_undo : MethodName := ⟨RX11, "undo", "()Z"⟩
abbrev cX11_mark : ByteArray := prog_1_method_15_code
def yX11_mark : MethodName := ⟨RX11, "mark", "(IZ)Z"⟩
abbrev cX11_judged : ByteArray := prog_1_method_16_code
def yX11_judged : MethodName := ⟨RX11, "judged", "(I)I"⟩
abbrev cX11_shut : ByteArray := prog_1_method_17_code
def yX11_shut : MethodName := ⟨RX11, "shut", "()I"⟩
abbrev cX11_range : ByteArray := prog_1_method_18_code
def yX11_range : MethodName := ⟨RX11, "range", "(I)I"⟩
abbrev cX11_company : ByteArray := prog_1_method_19_code
def yX11_company : MethodName := ⟨RX11, "company", "(I)I"⟩
abbrev cX11_alone : ByteArray := prog_1_method_20_code
def yX11_alone : MethodName := ⟨RX11, "alone", "()I"⟩
abbrev cX11_rattles : ByteArray := prog_1_method_21_code
def yX11_rattles : MethodName := ⟨RX11, "rattles", "()I"⟩
abbrev cX11_parts : ByteArray := prog_1_method_22_code
def yX11_parts : MethodName := ⟨RX11, "parts", "()I"⟩
abbrev cX11_bride : ByteArray := prog_1_method_23_code
def yX11_bride : MethodName := ⟨RX11, "bride", "()I"⟩
abbrev cX11_worst : ByteArray := prog_1_method_24_code
def yX11_worst : MethodName := ⟨RX11, "worst", "()I"⟩
abbrev cX11_spared : ByteArray := prog_1_method_25_code
def yX11_spared : MethodName := ⟨RX11, "spared", "()I"⟩
abbrev cX11_opened : ByteArray := prog_1_method_26_code
def yX11_opened : MethodName := ⟨RX11, "opened", "()I"⟩
abbrev cX11_deep : ByteArray := prog_1_method_27_code
def yX11_deep : MethodName := ⟨RX11, "deep", "(I)I"⟩
abbrev cX11_cut : ByteArray := prog_1_method_28_code
def yX11_cut : MethodName := ⟨RX11, "cut", "(II)I"⟩
abbrev cX11_later : ByteArray := prog_1_method_29_code
def yX11_later : MethodName := ⟨RX11, "later", "(II)I"⟩
abbrev cX11_closes : ByteArray := prog_1_method_30_code
def yX11_closes : MethodName := ⟨RX11, "closes", "(I)I"⟩
abbrev cX11_gives : ByteArray := prog_1_method_31_code
def yX11_gives : MethodName := ⟨RX11, "gives", "(I)I"⟩
abbrev cX11_calm : ByteArray := prog_1_method_32_code
def yX11_calm : MethodName := ⟨RX11, "calm", "()I"⟩
abbrev cX11_hard : ByteArray := prog_1_method_33_code
def yX11_hard : MethodName := ⟨RX11, "hard", "()I"⟩
abbrev cX11_arrives : ByteArray := prog_1_method_34_code
def yX11_arrives : MethodName := ⟨RX11, "arrives", "(II)I"⟩
abbrev cX11_both : ByteArray := prog_1_method_35_code
def yX11_both : MethodName := ⟨RX11, "both", "(II)I"⟩
abbrev cX11_from : ByteArray := prog_1_method_36_code
def yX11_from : MethodName := ⟨RX11, "from", "(II)I"⟩
abbrev cX11_planed : ByteArray := prog_1_method_37_code
def yX11_planed : MethodName := ⟨RX11, "planed", "(II)I"⟩
abbrev cX11_feel : ByteArray := prog_1_method_38_code
def yX11_feel : MethodName := ⟨RX11, "feel", "(IIZ)Z"⟩
abbrev cX11_wets : ByteArray := prog_1_method_39_code
def yX11_wets : MethodName := ⟨RX11, "wets", "()I"⟩
abbrev cX11_tries : ByteArray := prog_1_method_40_code
def yX11_tries : MethodName := ⟨RX11, "tries", "()I"⟩
abbrev cX11_say : ByteArray := prog_1_method_41_code
def yX11_say : MethodName := ⟨RX11, "say", "(II)Z"⟩
abbrev cX11_who : ByteArray := prog_1_method_42_code
def yX11_who : MethodName := ⟨RX11, "who", "()I"⟩
abbrev cX11_chance : ByteArray := prog_1_method_43_code
def yX11_chance : MethodName := ⟨RX11, "chance", "(III)I"⟩
abbrev cX11_rests : ByteArray := prog_1_method_44_code
def yX11_rests : MethodName := ⟨RX11, "rests", "(IIII)I"⟩
abbrev cX11_isStake : ByteArray := prog_1_method_45_code
def yX11_isStake : MethodName := ⟨RX11, "isStake", "(I)Z"⟩
abbrev cX11_isRest : ByteArray := prog_1_method_46_code
def yX11_isRest : MethodName := ⟨RX11, "isRest", "(IIIII)Z"⟩
abbrev cX11_gain : ByteArray := prog_1_method_47_code
def yX11_gain : MethodName := ⟨RX11, "gain", "(IIIII)I"⟩
abbrev cX11_years : ByteArray := prog_1_method_48_code
def yX11_years : MethodName := ⟨RX11, "years", "(III)I"⟩
abbrev cX11_makeDrawnDeed : ByteArray := prog_1_method_49_code
def yX11_makeDrawnDeed : MethodName := ⟨RX11, "makeDrawnDeed", "()Z"⟩
abbrev cX11_drawBelow : ByteArray := prog_1_method_50_code
def yX11_drawBelow : MethodName := ⟨RX11, "drawBelow", "(I)I"⟩
def RX12 : String := "SwollenHouseModel"
def TX12 : u_T := fun k => match k with
  | 0 => ("SwollenHouseModel", "thrown", "I", false)
  | 1 => ("SwollenHouseModel", "tape", "[I", true)
  | 2 => ("SwollenHouseModel", "taped", "I", false)
  | 3 => ("SwollenHouseModel", "size", "I", false)
  | 4 => ("SwollenHouseModel", "sort", "[I", true)
  | 5 => ("SwollenHouseModel", "place", "[I", true)
  | 6 => ("SwollenHouseModel", "value", "[J", true)
  | 7 => ("SwollenHouseModel", "at", "I", false)
  | 8 => ("SwollenHouseModel", "fault", "I", false)
  | 9 => ("SwollenHouseModel", "words", "[J", true)
  | 10 => ("SwollenHouseModel", "houses", "[I", true)
  | 11 => ("SwollenHouseModel", "op", "[I", true)
  | 12 => ("SwollenHouseModel", "arg", "[I", true)
  | 13 => ("SwollenHouseModel", "codes", "I", false)
  | 14 => ("SwollenHouseModel", "names", "[J", true)
  | 15 => ("SwollenHouseModel", "readNames", "[J", true)
  | 16 => ("SwollenHouseModel", "nameOf", "[I", true)
  | 17 => ("SwollenHouseModel", "readNameOf", "[I", true)
  | 18 => ("SwollenHouseModel", "namesMany", "I", false)
  | 19 => ("SwollenHouseModel", "readMany", "I", false)
  | 20 => ("SwollenHouseModel", "once", "I", false)
  | 21 => ("SwollenHouseModel", "lines", "[I", true)
  | 22 => ("SwollenHouseModel", "facts", "[I", true)
  | 23 => ("SwollenHouseModel", "pile", "[I", true)
  | 24 => ("SwollenHouseModel", "state", "[I", true)
  | 25 => ("SwollenHouseModel", "undos", "I", false)
  | 26 => ("SwollenHouseModel", "isMarked", "[Z", true)
  | 27 => ("SwollenHouseModel", "opens", "[I", true)
  | 28 => ("SwollenHouseModel", "row", "[I", true)
  | 29 => ("SwollenHouseModel", "gaps", "[I", true)
  | 30 => ("SwollenHouseModel", "sticks", "[I", true)
  | _ => ("SwollenHouseModel", "g", "J", false)
def tyX12 : Nat → FieldType := fun k => match k with
  | 0 => .int
  | 1 => .array .int
  | 2 => .int
  | 3 => .int
  | 4 => .array .int
  | 5 => .array .int
  | 6 => .array .long
  | 7 => .int
  | 8 => .int
  | 9 => .array .long
  | 10 => .array .int
  | 11 => .array .int
  | 12 => .array .int
  | 13 => .int
  | 14 => .array .long
  | 15 => .array .long
  | 16 => .array .int
  | 17 => .array .int
  | 18 => .int
  | 19 => .int
  | 20 => .int
  | 21 => .array .int
  | 22 => .array .int
  | 23 => .array .int
  | 24 => .array .int
  | 25 => .int
  | 26 => .array .boolean
  | 27 => .array .int
  | 28 => .array .int
  | 29 => .array .int
  | 30 => .array .int
  | _ => .long
abbrev wsX120 : List Cond := u_ws RX12 TX12 32
theorem nmX12 : ∀ a, a < 32 → ∀ b, b < 32 → a ≠ b → (TX12 a).2.1 ≠ (TX12 b).2.1 := by decide +kernel
theorem tyX12_ok : ∀ k, k < 32 → parseFieldDescriptor (TX12 k).2.2.1 = some (tyX12 k) := by decide +kernel
abbrev cX12_thrown : ByteArray := prog_14_method_1_code
def yX12_thrown : MethodName := ⟨RX12, "thrown", "()I"⟩
abbrev cX12_feed : ByteArray := prog_14_method_2_code
def yX12_feed : MethodName := ⟨RX12, "feed", "(JJJ)I"⟩
abbrev cX12_lay : ByteArray := prog_14_method_3_code
def yX12_lay : MethodName := ⟨RX12, "lay", "(J)V"⟩
abbrev cX12_init : ByteArray := prog_14_method_4_code
def yX12_init : MethodName := ⟨RX12, "<init>", "()V"⟩
abbrev cX12_isLetter : ByteArray := prog_14_method_5_code
def yX12_isLetter : MethodName := ⟨RX12, "isLetter", "(I)Z"⟩
abbrev cX12_isDigit : ByteArray := prog_14_method_6_code
def yX12_isDigit : MethodName := ⟨RX12, "isDigit", "(I)Z"⟩
abbrev cX12_rank : ByteArray := prog_14_method_7_code
def yX12_rank : MethodName := ⟨RX12, "rank", "(I)I"⟩
abbrev cX12_isSignOf : ByteArray := prog_14_method_8_code
def yX12_isSignOf : MethodName := ⟨RX12, "isSignOf", "(I)Z"⟩
abbrev cX12_cutAll : ByteArray := prog_14_method_9_code
def yX12_cutAll : MethodName := ⟨RX12, "cutAll", "()V"⟩
abbrev cX12_wrong : ByteArray := prog_14_method_10_code
def yX12_wrong : MethodName := ⟨RX12, "wrong", "(I)V"⟩
abbrev cX12_isSign : ByteArray := prog_14_method_11_code
def yX12_isSign : MethodName := ⟨RX12, "isSign", "(I)Z"⟩
abbrev cX12_isWord : ByteArray := prog_14_method_12_code
def yX12_isWord : MethodName := ⟨RX12, "isWord", "(I)Z"⟩
abbrev cX12_takeSign : ByteArray := prog_14_method_13_code
def yX12_takeSign : MethodName := ⟨RX12, "takeSign", "(I)V"⟩
abbrev cX12_hasSign : ByteArray := prog_14_method_14_code
def yX12_hasSign : MethodName := ⟨RX12, "hasSign", "(I)Z"⟩
abbrev cX12_hasWord : ByteArray := prog_14_method_15_code
def yX12_hasWord : MethodName := ⟨RX12, "hasWord", "(I)Z"⟩
abbrev cX12_takeWord : ByteArray := prog_14_method_16_code
def yX12_takeWord : MethodName := ⟨RX12, "takeWord", "(I)V"⟩
abbrev cX12_within : ByteArray := prog_14_method_17_code
def yX12_within : MethodName := ⟨RX12, "within", "(III)Z"⟩
abbrev cX12_standsAsAlways : ByteArray := prog_14_method_18_code
def yX12_standsAsAlways : MethodName := ⟨RX12, "standsAsAlways", "(I)V"⟩
abbrev cX12_takeNumber : ByteArray := prog_14_method_19_code
def yX12_takeNumber : MethodName := ⟨RX12, "takeNumber", "(II)I"⟩
abbrev cX12_takeAfter : ByteArray := prog_14_method_20_code
def yX12_takeAfter : MethodName := ⟨RX12, "takeAfter", "(III)I"⟩
abbrev cX12_wordHere : ByteArray := prog_14_method_21_code
def yX12_wordHere : MethodName := ⟨RX12, "wordHere", "(II)I"⟩
abbrev cX12_takeOne : ByteArray := prog_14_method_22_code
def yX12_takeOne : MethodName := ⟨RX12, "takeOne", "(II)I"⟩
abbrev cX12_isName : ByteArray := prog_14_method_23_code
def yX12_isName : MethodName := ⟨RX12, "isName", "()Z"⟩
abbrev cX12_nameAt : ByteArray := prog_14_method_24_code
def yX12_nameAt : MethodName := ⟨RX12, "nameAt", "(Z)I"⟩
abbrev cX12_takeTold : ByteArray := prog_14_method_25_code
def yX12_takeTold : MethodName := ⟨RX12, "takeTold", "(ZII)I"⟩
abbrev cX12_house : ByteArray := prog_14_method_26_code
def yX12_house : MethodName := ⟨RX12, "house", "()I"⟩
abbrev cX12_readLine : ByteArray := prog_14_method_27_code
def yX12_readLine : MethodName := ⟨RX12, "readLine", "()V"⟩
abbrev cX12_readName : ByteArray := prog_14_method_28_code
def yX12_readName : MethodName := ⟨RX12, "readName", "(III)V"⟩
abbrev cX12_readDoor : ByteArray := prog_14_method_29_code
def yX12_readDoor : MethodName := ⟨RX12, "readDoor", "()V"⟩
abbrev cX12_readOnce : ByteArray := prog_14_method_30_code
def yX12_readOnce : MethodName := ⟨RX12, "readOnce", "()V"⟩
abbrev cX12_readDamp : ByteArray := prog_14_method_31_code
def yX12_readDamp : MethodName := ⟨RX12, "readDamp", "()V"⟩
abbrev cX12_days : ByteArray := prog_14_method_32_code
def yX12_days : MethodName := ⟨RX12, "days", "()I"⟩
abbrev cX12_emit : ByteArray := prog_14_method_33_code
def yX12_emit : MethodName := ⟨RX12, "emit", "(II)V"⟩
abbrev cX12_whole : ByteArray := prog_14_method_34_code
def yX12_whole : MethodName := ⟨RX12, "whole", "(I)V"⟩
abbrev cX12_test : ByteArray := prog_14_method_35_code
def yX12_test : MethodName := ⟨RX12, "test", "(I)V"⟩
abbrev cX12_sums : ByteArray := prog_14_method_36_code
def yX12_sums : MethodName := ⟨RX12, "sums", "(I)V"⟩
abbrev cX12_products : ByteArray := prog_14_method_37_code
def yX12_products : MethodName := ⟨RX12, "products", "(I)V"⟩
abbrev cX12_takePart : ByteArray := prog_14_method_38_code
def yX12_takePart : MethodName := ⟨RX12, "takePart", "(I)V"⟩
abbrev cX12_worthAt : ByteArray := prog_14_method_39_code
def yX12_worthAt : MethodName := ⟨RX12, "worthAt", "(I)I"⟩
abbrev cX12_both : ByteArray := prog_14_method_40_code
def yX12_both : MethodName := ⟨RX12, "both", "(III)I"⟩
abbrev cX12_copies : ByteArray := prog_14_method_41_code
def yX12_copies : MethodName := ⟨RX12, "copies", "(III)V"⟩
abbrev cX12_starts : ByteArray := prog_14_method_42_code
def yX12_starts : MethodName := ⟨RX12, "starts", "(I)V"⟩
abbrev cX12_begins : ByteArray := prog_14_method_43_code
def yX12_begins : MethodName := ⟨RX12, "begins", "()V"⟩
abbrev cX12_keeps : ByteArray := prog_14_method_44_code
def yX12_keeps : MethodName := ⟨RX12, "keeps", "()V"⟩
abbrev cX12_rooms : ByteArray := prog_14_method_45_code
def yX12_rooms : MethodName := ⟨RX12, "rooms", "()I"⟩
abbrev cX12_doors : ByteArray := prog_14_method_46_code
def yX12_doors : MethodName := ⟨RX12, "doors", "()I"⟩
abbrev cX12_persons : ByteArray := prog_14_method_47_code
def yX12_persons : MethodName := ⟨RX12, "persons", "()I"⟩
abbrev cX12_doorOf : ByteArray := prog_14_method_48_code
def yX12_doorOf : MethodName := ⟨RX12, "doorOf", "(II)I"⟩
abbrev cX12_isRoom : ByteArray := prog_14_method_49_code
def yX12_isRoom : MethodName := ⟨RX12, "isRoom", "(I)Z"⟩
abbrev cX12_isDoor : ByteArray := prog_14_method_50_code
def yX12_isDoor : MethodName := ⟨RX12, "isDoor", "(I)Z"⟩
abbrev cX12_isPerson : ByteArray := prog_14_method_51_code
def yX12_isPerson : MethodName := ⟨RX12, "isPerson", "(I)Z"⟩
abbrev cX12_dampOn : ByteArray := prog_14_method_52_code
def yX12_dampOn : MethodName := ⟨RX12, "dampOn", "(I)I"⟩
abbrev cX12_overOf : ByteArray := prog_14_method_53_code
def yX12_overOf : MethodName := ⟨RX12, "overOf", "(II)I"⟩
abbrev cX12_isWedged : ByteArray := prog_14_method_54_code
def yX12_isWedged : MethodName := ⟨RX12, "isWedged", "(II)Z"⟩
abbrev cX12_doesStick : ByteArray := prog_14_method_55_code
def yX12_doesStick : MethodName := ⟨RX12, "doesStick", "(II)Z"⟩
abbrev cX12_sticking : ByteArray := prog_14_method_56_code
def yX12_sticking : MethodName := ⟨RX12, "sticking", "(I)I"⟩
abbrev cX12_moves : ByteArray := prog_14_method_57_code
def yX12_moves : MethodName := ⟨RX12, "moves", "(III)I"⟩
abbrev cX12_passes : ByteArray := prog_14_method_58_code
def yX12_passes : MethodName := ⟨RX12, "passes", "(II)V"⟩
abbrev cX12_passes_ : ByteArray := prog_14_method_59_code
def yX12_passes_ : MethodName := ⟨RX12, "passes", "(I)V"⟩
abbrev cX12_behind : ByteArray := prog_14_method_60_code
def yX12_behind : MethodName := ⟨RX12, "behind", "(II)I"⟩
abbrev cX12_mayWalk : ByteArray := prog_14_method_61_code
def yX12_mayWalk : MethodName := ⟨RX12, "mayWalk", "(III)Z"⟩
abbrev cX12_mayForce : ByteArray := prog_14_method_62_code
def yX12_mayForce : MethodName := ⟨RX12, "mayForce", "(II)Z"⟩
abbrev cX12_mayWedge : ByteArray := prog_14_method_63_code
def yX12_mayWedge : MethodName := ⟨RX12, "mayWedge", "(II)Z"⟩
abbrev cX12_walks : ByteArray := prog_14_method_64_code
def yX12_walks : MethodName := ⟨RX12, "walks", "(III)V"⟩
abbrev cX12_bits : ByteArray := prog_14_method_65_code
def yX12_bits : MethodName := ⟨RX12, "bits", "(I)I"⟩
abbrev cX12_sumOf : ByteArray := prog_14_method_66_code
def yX12_sumOf : MethodName := ⟨RX12, "sumOf", "(II)I"⟩
abbrev cX12_door : ByteArray := prog_14_method_67_code
def yX12_door : MethodName := ⟨RX12, "door", "(II)I"⟩
abbrev cX12_person : ByteArray := prog_14_method_68_code
def yX12_person : MethodName := ⟨RX12, "person", "(I)I"⟩
abbrev cX12_day : ByteArray := prog_14_method_69_code
def yX12_day : MethodName := ⟨RX12, "day", "()I"⟩
abbrev cX12_walk : ByteArray := prog_14_method_70_code
def yX12_walk : MethodName := ⟨RX12, "walk", "(II)I"⟩
abbrev cX12_plane : ByteArray := prog_14_method_71_code
def yX12_plane : MethodName := ⟨RX12, "plane", "(I)I"⟩
abbrev cX12_wedge : ByteArray := prog_14_method_72_code
def yX12_wedge : MethodName := ⟨RX12, "wedge", "(I)I"⟩
abbrev cX12_force : ByteArray := prog_14_method_73_code
def yX12_force : MethodName := ⟨RX12, "force", "(I)I"⟩
abbrev cX12_undo : ByteArray := prog_14_method_74_code
def yX12_undo : MethodName := ⟨RX12, "undo", "()Z"⟩
abbrev cX12_can : ByteArray := prog_14_method_75_code
def yX12_can : MethodName := ⟨RX12, "can", "(III)Z"⟩
abbrev cX12_judged : ByteArray := prog_14_method_76_code
def yX12_judged : MethodName := ⟨RX12, "judged", "(I)I"⟩
abbrev cX12_shutIn : ByteArray := prog_14_method_77_code
def yX12_shutIn : MethodName := ⟨RX12, "shutIn", "(I)I"⟩
abbrev cX12_shut : ByteArray := prog_14_method_78_code
def yX12_shut : MethodName := ⟨RX12, "shut", "()I"⟩
abbrev cX12_onFrom : ByteArray := prog_14_method_79_code
def yX12_onFrom : MethodName := ⟨RX12, "onFrom", "(II)I"⟩
abbrev cX12_rangeBy : ByteArray := prog_14_method_80_code
def yX12_rangeBy : MethodName := ⟨RX12, "rangeBy", "(II)I"⟩
abbrev cX12_openNow : ByteArray := prog_14_method_81_code
def yX12_openNow : MethodName := ⟨RX12, "openNow", "(I)I"⟩
abbrev cX12_range : ByteArray := prog_14_method_82_code
def yX12_range : MethodName := ⟨RX12, "range", "(I)I"⟩
abbrev cX12_companyBy : ByteArray := prog_14_method_83_code
def yX12_companyBy : MethodName := ⟨RX12, "companyBy", "(II)I"⟩
abbrev cX12_company : ByteArray := prog_14_method_84_code
def yX12_company : MethodName := ⟨RX12, "company", "(I)I"⟩
abbrev cX12_alone : ByteArray := prog_14_method_85_code
def yX12_alone : MethodName := ⟨RX12, "alone", "()I"⟩
abbrev cX12_bride : ByteArray := prog_14_method_86_code
def yX12_bride : MethodName := ⟨RX12, "bride", "()I"⟩
abbrev cX12_parts : ByteArray := prog_14_method_87_code
def yX12_parts : MethodName := ⟨RX12, "parts", "()I"⟩
abbrev cX12_deep : ByteArray := prog_14_method_88_code
def yX12_deep : MethodName := ⟨RX12, "deep", "(I)I"⟩
abbrev cX12_spared : ByteArray := prog_14_method_89_code
def yX12_spared : MethodName := ⟨RX12, "spared", "()I"⟩
abbrev cX12_pairsBy : ByteArray := prog_14_method_90_code
def yX12_pairsBy : MethodName := ⟨RX12, "pairsBy", "(I)I"⟩
abbrev cX12_opened : ByteArray := prog_14_method_91_code
def yX12_opened : MethodName := ⟨RX12, "opened", "()I"⟩
abbrev cX12_cut : ByteArray := prog_14_method_92_code
def yX12_cut : MethodName := ⟨RX12, "cut", "(II)I"⟩
abbrev cX12_rattles : ByteArray := prog_14_method_93_code
def yX12_rattles : MethodName := ⟨RX12, "rattles", "()I"⟩
abbrev cX12_worst : ByteArray := prog_14_method_94_code
def yX12_worst : MethodName := ⟨RX12, "worst", "()I"⟩
abbrev cX12_triesNow : ByteArray := prog_14_method_95_code
def yX12_triesNow : MethodName := ⟨RX12, "triesNow", "()V"⟩
abbrev cX12_later : ByteArray := prog_14_method_96_code
def yX12_later : MethodName := ⟨RX12, "later", "(II)I"⟩
abbrev cX12_behindHow : ByteArray := prog_14_method_97_code
def yX12_behindHow : MethodName := ⟨RX12, "behindHow", "(IZ)I"⟩
abbrev cX12_closes : ByteArray := prog_14_method_98_code
def yX12_closes : MethodName := ⟨RX12, "closes", "(I)I"⟩
abbrev cX12_gives : ByteArray := prog_14_method_99_code
def yX12_gives : MethodName := ⟨RX12, "gives", "(I)I"⟩
abbrev cX12_calm : ByteArray := prog_14_method_100_code
def yX12_calm : MethodName := ⟨RX12, "calm", "()I"⟩
abbrev cX12_hard : ByteArray := prog_14_method_101_code
def yX12_hard : MethodName := ⟨RX12, "hard", "()I"⟩
abbrev cX12_opensThen : ByteArray := prog_14_method_102_code
def yX12_opensThen : MethodName := ⟨RX12, "opensThen", "()V"⟩
abbrev cX12_arrivesBy : ByteArray := prog_14_method_103_code
def yX12_arrivesBy : MethodName := ⟨RX12, "arrivesBy", "(II)I"⟩
abbrev cX12_arrives : ByteArray := prog_14_method_104_code
def yX12_arrives : MethodName := ⟨RX12, "arrives", "(II)I"⟩
abbrev cX12_from : ByteArray := prog_14_method_105_code
def yX12_from : MethodName := ⟨RX12, "from", "(II)I"⟩
abbrev cX12_both_ : ByteArray := prog_14_method_106_code
def yX12_both_ : MethodName := ⟨RX12, "both", "(II)I"⟩
abbrev cX12_areOne : ByteArray := prog_14_method_107_code
def yX12_areOne : MethodName := ⟨RX12, "areOne", "(I)Z"⟩
abbrev cX12_doesPlane : ByteArray := prog_14_method_108_code
def yX12_doesPlane : MethodName := ⟨RX12, "doesPlane", "(IIII)Z"⟩
abbrev cX12_planed : ByteArray := prog_14_method_109_code
def yX12_planed : MethodName := ⟨RX12, "planed", "(II)I"⟩
abbrev cX12_feel : ByteArray := prog_14_method_110_code
def yX12_feel : MethodName := ⟨RX12, "feel", "(IIZ)Z"⟩
abbrev cX12_wetsNow : ByteArray := prog_14_method_111_code
def yX12_wetsNow : MethodName := ⟨RX12, "wetsNow", "()I"⟩
abbrev cX12_wets : ByteArray := prog_14_method_112_code
def yX12_wets : MethodName := ⟨RX12, "wets", "()I"⟩
abbrev cX12_tries : ByteArray := prog_14_method_113_code
def yX12_tries : MethodName := ⟨RX12, "tries", "()I"⟩
abbrev cX12_say : ByteArray := prog_14_method_114_code
def yX12_say : MethodName := ⟨RX12, "say", "(II)Z"⟩
abbrev cX12_who : ByteArray := prog_14_method_115_code
def yX12_who : MethodName := ⟨RX12, "who", "()I"⟩
abbrev cX12_chance : ByteArray := prog_14_method_116_code
def yX12_chance : MethodName := ⟨RX12, "chance", "(III)I"⟩
abbrev cX12_getsBy : ByteArray := prog_14_method_117_code
def yX12_getsBy : MethodName := ⟨RX12, "getsBy", "(IIIII)I"⟩
abbrev cX12_rests : ByteArray := prog_14_method_118_code
def yX12_rests : MethodName := ⟨RX12, "rests", "(IIII)I"⟩
abbrev cX12_draw : ByteArray := prog_14_method_119_code
def yX12_draw : MethodName := ⟨RX12, "draw", "(I)I"⟩
abbrev cX12_drawsDeed : ByteArray := prog_14_method_120_code
def yX12_drawsDeed : MethodName := ⟨RX12, "drawsDeed", "()Z"⟩
abbrev cX12_years : ByteArray := prog_14_method_121_code
def yX12_years : MethodName := ⟨RX12, "years", "(III)I"⟩
abbrev cX12_mark : ByteArray := prog_14_method_122_code
def yX12_mark : MethodName := ⟨RX12, "mark", "(IZ)Z"⟩
abbrev cX12_count : ByteArray := prog_14_method_123_code
def yX12_count : MethodName := ⟨RX12, "count", "(I)I"⟩
def RJx145de : String := "java/io/Serializable"
def TJx145de : u_T := fun k => match k with
  | _ => ("", "", "", false)
def tyJx145de : Nat → FieldType := fun k => match k with
  | _ => .int
abbrev wsJx145de0 : List Cond := u_ws RJx145de TJx145de 0
theorem nmJx145de : ∀ a, a < 0 → ∀ b, b < 0 → a ≠ b → (TJx145de a).2.1 ≠ (TJx145de b).2.1 := by decide +kernel
theorem tyJx145de_ok : ∀ k, k < 0 → parseFieldDescriptor (TJx145de k).2.2.1 = some (tyJx145de k) := by decide +kernel
def RJ6 : String := "java/lang/Integer"
def TJ6 : u_T := fun k => match k with
  | _ => ("", "", "", false)
def tyJ6 : Nat → FieldType := fun k => match k with
  | _ => .int
abbrev wsJ60 : List Cond := u_ws RJ6 TJ6 0
theorem nmJ6 : ∀ a, a < 0 → ∀ b, b < 0 → a ≠ b → (TJ6 a).2.1 ≠ (TJ6 b).2.1 := by decide +kernel
theorem tyJ6_ok : ∀ k, k < 0 → parseFieldDescriptor (TJ6 k).2.2.1 = some (tyJ6 k) := by decide +kernel
abbrev cJ6_bitCount_0f7a4 : ByteArray := prog_17_method_49_code
def yJ6_bitCount_0f7a4 : MethodName := ⟨RJ6, "bitCount", "(I)I"⟩
def RJ9 : String := "java/lang/Math"
def TJ9 : u_T := fun k => match k with
  | _ => ("", "", "", false)
def tyJ9 : Nat → FieldType := fun k => match k with
  | _ => .int
abbrev wsJ90 : List Cond := u_ws RJ9 TJ9 0
theorem nmJ9 : ∀ a, a < 0 → ∀ b, b < 0 → a ≠ b → (TJ9 a).2.1 ≠ (TJ9 b).2.1 := by decide +kernel
theorem tyJ9_ok : ∀ k, k < 0 → parseFieldDescriptor (TJ9 k).2.2.1 = some (tyJ9 k) := by decide +kernel
abbrev cJ9_max_7cf53 : ByteArray := prog_18_method_65_code
def yJ9_max_7cf53 : MethodName := ⟨RJ9, "max", "(II)I"⟩
abbrev cJ9_min_7cf53 : ByteArray := prog_18_method_69_code
def yJ9_min_7cf53 : MethodName := ⟨RJ9, "min", "(II)I"⟩
def RJ0 : String := "java/lang/String"
def TJ0 : u_T := fun k => match k with
  | _ => ("", "", "", false)
def tyJ0 : Nat → FieldType := fun k => match k with
  | _ => .int
abbrev wsJ00 : List Cond := u_ws RJ0 TJ0 0
theorem nmJ0 : ∀ a, a < 0 → ∀ b, b < 0 → a ≠ b → (TJ0 a).2.1 ≠ (TJ0 b).2.1 := by decide +kernel
theorem tyJ0_ok : ∀ k, k < 0 → parseFieldDescriptor (TJ0 k).2.2.1 = some (tyJ0 k) := by decide +kernel
def RJ10 : String := "java/lang/System"
def TJ10 : u_T := fun k => match k with
  | _ => ("", "", "", false)
def tyJ10 : Nat → FieldType := fun k => match k with
  | _ => .int
abbrev wsJ100 : List Cond := u_ws RJ10 TJ10 0
theorem nmJ10 : ∀ a, a < 0 → ∀ b, b < 0 → a ≠ b → (TJ10 a).2.1 ≠ (TJ10 b).2.1 := by decide +kernel
theorem tyJ10_ok : ∀ k, k < 0 → parseFieldDescriptor (TJ10 k).2.2.1 = some (tyJ10 k) := by decide +kernel
def RL : String := "SwollenHouseLaw"
abbrev cL_rests : ByteArray := method_3_code
def yL_rests : MethodName := ⟨RL, "rests", "(LSwollenHouse;IIII[J)I"⟩
abbrev cL_law : ByteArray := code
def yL_law : MethodName := ⟨RL, "law", "([I)Z"⟩
abbrev vwCl : List vw_C := [(RX0, TX0, 3), (RX1, TX1, 3), (RX2, TX2, 1), (RX3, TX3, 3), (RX4, TX4, 3), (RX5, TX5, 5), (RX6, TX6, 13), (RX7, TX7, 5), (RX8, TX8, 7), (RX9, TX9, 6), (RX10, TX10, 7), (RX11, TX11, 15), (RX12, TX12, 32)]
