section
-- ===== PART A: goes FIRST, ahead of the names: the tables' words, and 'selects' of the private methods out of them =====
/-- a private method of a class that the tables say can be made, by its rows of tables_1 -/
def lw_okq (q : MethodName × Nat) : Prop := (q.1.cls ≠ "java/lang/invoke/MethodHandle" ∧ q.1.cls ≠ "java/lang/invoke/VarHandle") ∧ Cond.instantiable q.1.cls q.2 ∈ tables_1 ∧ Cond.privateMethod q.1 ∈ tables_1 ∧ Cond.instanceMethod q.1 ∈ tables_1
theorem lw_p0 : lw_okq (⟨"KeptLight", "shelfAt", "(I)LKeptLight$Shelf;"⟩, 8) := ⟨⟨by decide +kernel, by decide +kernel⟩, List.mem_of_getElem? (i := 17) (by decide +kernel), List.mem_of_getElem? (i := 366) (by decide +kernel), List.mem_of_getElem? (i := 367) (by decide +kernel)⟩
theorem lw_p1 : lw_okq (⟨"KeptLight", "refuse", "(I)I"⟩, 8) := ⟨⟨by decide +kernel, by decide +kernel⟩, List.mem_of_getElem? (i := 17) (by decide +kernel), List.mem_of_getElem? (i := 373) (by decide +kernel), List.mem_of_getElem? (i := 374) (by decide +kernel)⟩
theorem lw_p2 : lw_okq (⟨"KeptLight", "againstRowIn", "(I)I"⟩, 8) := ⟨⟨by decide +kernel, by decide +kernel⟩, List.mem_of_getElem? (i := 17) (by decide +kernel), List.mem_of_getElem? (i := 388) (by decide +kernel), List.mem_of_getElem? (i := 389) (by decide +kernel)⟩
theorem lw_p3 : lw_okq (⟨"KeptLight$Shelf", "fitted", "(J)J"⟩, 3) := ⟨⟨by decide +kernel, by decide +kernel⟩, List.mem_of_getElem? (i := 320) (by decide +kernel), List.mem_of_getElem? (i := 410) (by decide +kernel), List.mem_of_getElem? (i := 411) (by decide +kernel)⟩
theorem lw_p4 : lw_okq (⟨"KeptLight", "saidAs", "(II)I"⟩, 8) := ⟨⟨by decide +kernel, by decide +kernel⟩, List.mem_of_getElem? (i := 17) (by decide +kernel), List.mem_of_getElem? (i := 489) (by decide +kernel), List.mem_of_getElem? (i := 490) (by decide +kernel)⟩
theorem lw_p5 : lw_okq (⟨"KeptLight$Tape", "byteAt", "(I)I"⟩, 2) := ⟨⟨by decide +kernel, by decide +kernel⟩, List.mem_of_getElem? (i := 303) (by decide +kernel), List.mem_of_getElem? (i := 537) (by decide +kernel), List.mem_of_getElem? (i := 538) (by decide +kernel)⟩
theorem lw_p6 : lw_okq (⟨"KeptLight$Tape", "countDigits", "(I)I"⟩, 2) := ⟨⟨by decide +kernel, by decide +kernel⟩, List.mem_of_getElem? (i := 303) (by decide +kernel), List.mem_of_getElem? (i := 549) (by decide +kernel), List.mem_of_getElem? (i := 550) (by decide +kernel)⟩
theorem lw_p7 : lw_okq (⟨"KeptLight$Tape", "numberAt", "(II)I"⟩, 2) := ⟨⟨by decide +kernel, by decide +kernel⟩, List.mem_of_getElem? (i := 303) (by decide +kernel), List.mem_of_getElem? (i := 556) (by decide +kernel), List.mem_of_getElem? (i := 557) (by decide +kernel)⟩
theorem lw_p8 : lw_okq (⟨"KeptLight", "isKeeperOrNone", "(I)Z"⟩, 8) := ⟨⟨by decide +kernel, by decide +kernel⟩, List.mem_of_getElem? (i := 17) (by decide +kernel), List.mem_of_getElem? (i := 613) (by decide +kernel), List.mem_of_getElem? (i := 614) (by decide +kernel)⟩
theorem lw_p9 : lw_okq (⟨"KeptLight", "againstPlanIn", "(I)I"⟩, 8) := ⟨⟨by decide +kernel, by decide +kernel⟩, List.mem_of_getElem? (i := 17) (by decide +kernel), List.mem_of_getElem? (i := 634) (by decide +kernel), List.mem_of_getElem? (i := 635) (by decide +kernel)⟩
theorem lw_p10 : lw_okq (⟨"KeptLight", "mayBeOfBoat", "(II)Z"⟩, 8) := ⟨⟨by decide +kernel, by decide +kernel⟩, List.mem_of_getElem? (i := 17) (by decide +kernel), List.mem_of_getElem? (i := 653) (by decide +kernel), List.mem_of_getElem? (i := 654) (by decide +kernel)⟩
theorem lw_p11 : lw_okq (⟨"KeptLight$Fleet", "isBehind", "(III)Z"⟩, 6) := ⟨⟨by decide +kernel, by decide +kernel⟩, List.mem_of_getElem? (i := 192) (by decide +kernel), List.mem_of_getElem? (i := 704) (by decide +kernel), List.mem_of_getElem? (i := 705) (by decide +kernel)⟩
theorem lw_p12 : lw_okq (⟨"KeptLight$Station", "tendLamp", "()V"⟩, 17) := ⟨⟨by decide +kernel, by decide +kernel⟩, List.mem_of_getElem? (i := 31) (by decide +kernel), List.mem_of_getElem? (i := 758) (by decide +kernel), List.mem_of_getElem? (i := 759) (by decide +kernel)⟩
theorem lw_p13 : lw_okq (⟨"KeptLight$World", "meetShips", "(I)V"⟩, 6) := ⟨⟨by decide +kernel, by decide +kernel⟩, List.mem_of_getElem? (i := 25) (by decide +kernel), List.mem_of_getElem? (i := 763) (by decide +kernel), List.mem_of_getElem? (i := 764) (by decide +kernel)⟩
theorem lw_p14 : lw_okq (⟨"KeptLight$World", "writeLog", "(I)V"⟩, 6) := ⟨⟨by decide +kernel, by decide +kernel⟩, List.mem_of_getElem? (i := 25) (by decide +kernel), List.mem_of_getElem? (i := 777) (by decide +kernel), List.mem_of_getElem? (i := 778) (by decide +kernel)⟩
theorem lw_p15 : lw_okq (⟨"KeptLight$World", "enter", "(II)V"⟩, 6) := ⟨⟨by decide +kernel, by decide +kernel⟩, List.mem_of_getElem? (i := 25) (by decide +kernel), List.mem_of_getElem? (i := 791) (by decide +kernel), List.mem_of_getElem? (i := 792) (by decide +kernel)⟩
def lw_privs_1 : List (MethodName × Nat) := [(⟨"KeptLight", "shelfAt", "(I)LKeptLight$Shelf;"⟩, 8), (⟨"KeptLight", "refuse", "(I)I"⟩, 8), (⟨"KeptLight", "againstRowIn", "(I)I"⟩, 8), (⟨"KeptLight$Shelf", "fitted", "(J)J"⟩, 3), (⟨"KeptLight", "saidAs", "(II)I"⟩, 8), (⟨"KeptLight$Tape", "byteAt", "(I)I"⟩, 2), (⟨"KeptLight$Tape", "countDigits", "(I)I"⟩, 2), (⟨"KeptLight$Tape", "numberAt", "(II)I"⟩, 2), (⟨"KeptLight", "isKeeperOrNone", "(I)Z"⟩, 8), (⟨"KeptLight", "againstPlanIn", "(I)I"⟩, 8), (⟨"KeptLight", "mayBeOfBoat", "(II)Z"⟩, 8), (⟨"KeptLight$Fleet", "isBehind", "(III)Z"⟩, 6), (⟨"KeptLight$Station", "tendLamp", "()V"⟩, 17), (⟨"KeptLight$World", "meetShips", "(I)V"⟩, 6), (⟨"KeptLight$World", "writeLog", "(I)V"⟩, 6), (⟨"KeptLight$World", "enter", "(II)V"⟩, 6)]
theorem lw_r1 : ∀ q ∈ lw_privs_1, lw_okq q := List.forall_mem_cons.mpr ⟨lw_p0, List.forall_mem_cons.mpr ⟨lw_p1, List.forall_mem_cons.mpr ⟨lw_p2, List.forall_mem_cons.mpr ⟨lw_p3, List.forall_mem_cons.mpr ⟨lw_p4, List.forall_mem_cons.mpr ⟨lw_p5, List.forall_mem_cons.mpr ⟨lw_p6, List.forall_mem_cons.mpr ⟨lw_p7, List.forall_mem_cons.mpr ⟨lw_p8, List.forall_mem_cons.mpr ⟨lw_p9, List.forall_mem_cons.mpr ⟨lw_p10, List.forall_mem_cons.mpr ⟨lw_p11, List.forall_mem_cons.mpr ⟨lw_p12, List.forall_mem_cons.mpr ⟨lw_p13, List.forall_mem_cons.mpr ⟨lw_p14, List.forall_mem_cons.mpr ⟨lw_p15, fun _ h => absurd h List.not_mem_nil⟩⟩⟩⟩⟩⟩⟩⟩⟩⟩⟩⟩⟩⟩⟩⟩
theorem lw_p16 : lw_okq (⟨"KeptLight$Station", "meetBoat", "()V"⟩, 17) := ⟨⟨by decide +kernel, by decide +kernel⟩, List.mem_of_getElem? (i := 31) (by decide +kernel), List.mem_of_getElem? (i := 820) (by decide +kernel), List.mem_of_getElem? (i := 821) (by decide +kernel)⟩
theorem lw_p17 : lw_okq (⟨"KeptLight$World", "draw", "(I)I"⟩, 6) := ⟨⟨by decide +kernel, by decide +kernel⟩, List.mem_of_getElem? (i := 25) (by decide +kernel), List.mem_of_getElem? (i := 839) (by decide +kernel), List.mem_of_getElem? (i := 840) (by decide +kernel)⟩
theorem lw_p18 : lw_okq (⟨"KeptLight", "isAsTold", "(IILKeptLight$Shelf;)Z"⟩, 8) := ⟨⟨by decide +kernel, by decide +kernel⟩, List.mem_of_getElem? (i := 17) (by decide +kernel), List.mem_of_getElem? (i := 917) (by decide +kernel), List.mem_of_getElem? (i := 918) (by decide +kernel)⟩
theorem lw_p19 : lw_okq (⟨"KeptLight", "unlitWithOil", "(II)I"⟩, 8) := ⟨⟨by decide +kernel, by decide +kernel⟩, List.mem_of_getElem? (i := 17) (by decide +kernel), List.mem_of_getElem? (i := 974) (by decide +kernel), List.mem_of_getElem? (i := 975) (by decide +kernel)⟩
theorem lw_p20 : lw_okq (⟨"KeptLight", "unlitAsPlanned", "(I)I"⟩, 8) := ⟨⟨by decide +kernel, by decide +kernel⟩, List.mem_of_getElem? (i := 17) (by decide +kernel), List.mem_of_getElem? (i := 982) (by decide +kernel), List.mem_of_getElem? (i := 983) (by decide +kernel)⟩
theorem lw_p21 : lw_okq (⟨"KeptLight", "countFullShelves", "()I"⟩, 8) := ⟨⟨by decide +kernel, by decide +kernel⟩, List.mem_of_getElem? (i := 17) (by decide +kernel), List.mem_of_getElem? (i := 1025) (by decide +kernel), List.mem_of_getElem? (i := 1026) (by decide +kernel)⟩
theorem lw_p22 : lw_okq (⟨"KeptLightModel", "refused", "(I)I"⟩, 21) := ⟨⟨by decide +kernel, by decide +kernel⟩, List.mem_of_getElem? (i := 1029) (by decide +kernel), List.mem_of_getElem? (i := 1108) (by decide +kernel), List.mem_of_getElem? (i := 1109) (by decide +kernel)⟩
theorem lw_p23 : lw_okq (⟨"KeptLightModel", "isRun", "()Z"⟩, 21) := ⟨⟨by decide +kernel, by decide +kernel⟩, List.mem_of_getElem? (i := 1029) (by decide +kernel), List.mem_of_getElem? (i := 1120) (by decide +kernel), List.mem_of_getElem? (i := 1121) (by decide +kernel)⟩
theorem lw_p24 : lw_okq (⟨"KeptLightModel", "byteAt", "(I)I"⟩, 21) := ⟨⟨by decide +kernel, by decide +kernel⟩, List.mem_of_getElem? (i := 1029) (by decide +kernel), List.mem_of_getElem? (i := 1124) (by decide +kernel), List.mem_of_getElem? (i := 1125) (by decide +kernel)⟩
theorem lw_p25 : lw_okq (⟨"KeptLightModel", "isKeeper", "(I)Z"⟩, 21) := ⟨⟨by decide +kernel, by decide +kernel⟩, List.mem_of_getElem? (i := 1029) (by decide +kernel), List.mem_of_getElem? (i := 1140) (by decide +kernel), List.mem_of_getElem? (i := 1141) (by decide +kernel)⟩
theorem lw_p26 : lw_okq (⟨"KeptLightModel", "isPlan", "(I)I"⟩, 21) := ⟨⟨by decide +kernel, by decide +kernel⟩, List.mem_of_getElem? (i := 1029) (by decide +kernel), List.mem_of_getElem? (i := 1152) (by decide +kernel), List.mem_of_getElem? (i := 1153) (by decide +kernel)⟩
theorem lw_p27 : lw_okq (⟨"KeptLightModel", "takesPlan", "(I)V"⟩, 21) := ⟨⟨by decide +kernel, by decide +kernel⟩, List.mem_of_getElem? (i := 1029) (by decide +kernel), List.mem_of_getElem? (i := 1157) (by decide +kernel), List.mem_of_getElem? (i := 1158) (by decide +kernel)⟩
theorem lw_p28 : lw_okq (⟨"KeptLightModel", "comesShip", "(II)I"⟩, 21) := ⟨⟨by decide +kernel, by decide +kernel⟩, List.mem_of_getElem? (i := 1029) (by decide +kernel), List.mem_of_getElem? (i := 1180) (by decide +kernel), List.mem_of_getElem? (i := 1181) (by decide +kernel)⟩
theorem lw_p29 : lw_okq (⟨"KeptLightModel", "passes", "(I)I"⟩, 21) := ⟨⟨by decide +kernel, by decide +kernel⟩, List.mem_of_getElem? (i := 1029) (by decide +kernel), List.mem_of_getElem? (i := 1189) (by decide +kernel), List.mem_of_getElem? (i := 1190) (by decide +kernel)⟩
theorem lw_p30 : lw_okq (⟨"KeptLightModel", "hourPasses", "()V"⟩, 21) := ⟨⟨by decide +kernel, by decide +kernel⟩, List.mem_of_getElem? (i := 1029) (by decide +kernel), List.mem_of_getElem? (i := 1193) (by decide +kernel), List.mem_of_getElem? (i := 1194) (by decide +kernel)⟩
theorem lw_p31 : lw_okq (⟨"KeptLightModel", "weatherOf", "(I)I"⟩, 21) := ⟨⟨by decide +kernel, by decide +kernel⟩, List.mem_of_getElem? (i := 1029) (by decide +kernel), List.mem_of_getElem? (i := 1197) (by decide +kernel), List.mem_of_getElem? (i := 1198) (by decide +kernel)⟩
def lw_privs_2 : List (MethodName × Nat) := [(⟨"KeptLight$Station", "meetBoat", "()V"⟩, 17), (⟨"KeptLight$World", "draw", "(I)I"⟩, 6), (⟨"KeptLight", "isAsTold", "(IILKeptLight$Shelf;)Z"⟩, 8), (⟨"KeptLight", "unlitWithOil", "(II)I"⟩, 8), (⟨"KeptLight", "unlitAsPlanned", "(I)I"⟩, 8), (⟨"KeptLight", "countFullShelves", "()I"⟩, 8), (⟨"KeptLightModel", "refused", "(I)I"⟩, 21), (⟨"KeptLightModel", "isRun", "()Z"⟩, 21), (⟨"KeptLightModel", "byteAt", "(I)I"⟩, 21), (⟨"KeptLightModel", "isKeeper", "(I)Z"⟩, 21), (⟨"KeptLightModel", "isPlan", "(I)I"⟩, 21), (⟨"KeptLightModel", "takesPlan", "(I)V"⟩, 21), (⟨"KeptLightModel", "comesShip", "(II)I"⟩, 21), (⟨"KeptLightModel", "passes", "(I)I"⟩, 21), (⟨"KeptLightModel", "hourPasses", "()V"⟩, 21), (⟨"KeptLightModel", "weatherOf", "(I)I"⟩, 21)]
theorem lw_r2 : ∀ q ∈ lw_privs_2, lw_okq q := List.forall_mem_cons.mpr ⟨lw_p16, List.forall_mem_cons.mpr ⟨lw_p17, List.forall_mem_cons.mpr ⟨lw_p18, List.forall_mem_cons.mpr ⟨lw_p19, List.forall_mem_cons.mpr ⟨lw_p20, List.forall_mem_cons.mpr ⟨lw_p21, List.forall_mem_cons.mpr ⟨lw_p22, List.forall_mem_cons.mpr ⟨lw_p23, List.forall_mem_cons.mpr ⟨lw_p24, List.forall_mem_cons.mpr ⟨lw_p25, List.forall_mem_cons.mpr ⟨lw_p26, List.forall_mem_cons.mpr ⟨lw_p27, List.forall_mem_cons.mpr ⟨lw_p28, List.forall_mem_cons.mpr ⟨lw_p29, List.forall_mem_cons.mpr ⟨lw_p30, List.forall_mem_cons.mpr ⟨lw_p31, fun _ h => absurd h List.not_mem_nil⟩⟩⟩⟩⟩⟩⟩⟩⟩⟩⟩⟩⟩⟩⟩⟩
theorem lw_p32 : lw_okq (⟨"KeptLightModel", "isDark", "(I)Z"⟩, 21) := ⟨⟨by decide +kernel, by decide +kernel⟩, List.mem_of_getElem? (i := 1029) (by decide +kernel), List.mem_of_getElem? (i := 1201) (by decide +kernel), List.mem_of_getElem? (i := 1202) (by decide +kernel)⟩
theorem lw_p33 : lw_okq (⟨"KeptLightModel", "ofKeeper", "(II)I"⟩, 21) := ⟨⟨by decide +kernel, by decide +kernel⟩, List.mem_of_getElem? (i := 1029) (by decide +kernel), List.mem_of_getElem? (i := 1205) (by decide +kernel), List.mem_of_getElem? (i := 1206) (by decide +kernel)⟩
theorem lw_p34 : lw_okq (⟨"KeptLightModel", "lasts", "(I)I"⟩, 21) := ⟨⟨by decide +kernel, by decide +kernel⟩, List.mem_of_getElem? (i := 1029) (by decide +kernel), List.mem_of_getElem? (i := 1209) (by decide +kernel), List.mem_of_getElem? (i := 1210) (by decide +kernel)⟩
theorem lw_p35 : lw_okq (⟨"KeptLightModel", "passesLamp", "(ZZ)V"⟩, 21) := ⟨⟨by decide +kernel, by decide +kernel⟩, List.mem_of_getElem? (i := 1029) (by decide +kernel), List.mem_of_getElem? (i := 1213) (by decide +kernel), List.mem_of_getElem? (i := 1214) (by decide +kernel)⟩
theorem lw_p36 : lw_okq (⟨"KeptLightModel", "logs", "(III)V"⟩, 21) := ⟨⟨by decide +kernel, by decide +kernel⟩, List.mem_of_getElem? (i := 1029) (by decide +kernel), List.mem_of_getElem? (i := 1217) (by decide +kernel), List.mem_of_getElem? (i := 1218) (by decide +kernel)⟩
theorem lw_p37 : lw_okq (⟨"KeptLightModel", "passesShips", "(ZZII)V"⟩, 21) := ⟨⟨by decide +kernel, by decide +kernel⟩, List.mem_of_getElem? (i := 1029) (by decide +kernel), List.mem_of_getElem? (i := 1221) (by decide +kernel), List.mem_of_getElem? (i := 1222) (by decide +kernel)⟩
theorem lw_p38 : lw_okq (⟨"KeptLightModel", "rankedAt", "(II)I"⟩, 21) := ⟨⟨by decide +kernel, by decide +kernel⟩, List.mem_of_getElem? (i := 1029) (by decide +kernel), List.mem_of_getElem? (i := 1225) (by decide +kernel), List.mem_of_getElem? (i := 1226) (by decide +kernel)⟩
theorem lw_p39 : lw_okq (⟨"KeptLightModel", "ofShip", "(II)I"⟩, 21) := ⟨⟨by decide +kernel, by decide +kernel⟩, List.mem_of_getElem? (i := 1029) (by decide +kernel), List.mem_of_getElem? (i := 1229) (by decide +kernel), List.mem_of_getElem? (i := 1230) (by decide +kernel)⟩
theorem lw_p40 : lw_okq (⟨"KeptLightModel", "tires", "(II)V"⟩, 21) := ⟨⟨by decide +kernel, by decide +kernel⟩, List.mem_of_getElem? (i := 1029) (by decide +kernel), List.mem_of_getElem? (i := 1239) (by decide +kernel), List.mem_of_getElem? (i := 1240) (by decide +kernel)⟩
theorem lw_p41 : lw_okq (⟨"KeptLightModel", "hoursOf", "(I)I"⟩, 21) := ⟨⟨by decide +kernel, by decide +kernel⟩, List.mem_of_getElem? (i := 1029) (by decide +kernel), List.mem_of_getElem? (i := 1258) (by decide +kernel), List.mem_of_getElem? (i := 1259) (by decide +kernel)⟩
theorem lw_p42 : lw_okq (⟨"KeptLightModel", "isShip", "(I)Z"⟩, 21) := ⟨⟨by decide +kernel, by decide +kernel⟩, List.mem_of_getElem? (i := 1029) (by decide +kernel), List.mem_of_getElem? (i := 1266) (by decide +kernel), List.mem_of_getElem? (i := 1267) (by decide +kernel)⟩
theorem lw_p43 : lw_okq (⟨"KeptLightModel", "shipAgainst", "(I)I"⟩, 21) := ⟨⟨by decide +kernel, by decide +kernel⟩, List.mem_of_getElem? (i := 1029) (by decide +kernel), List.mem_of_getElem? (i := 1294) (by decide +kernel), List.mem_of_getElem? (i := 1295) (by decide +kernel)⟩
theorem lw_p44 : lw_okq (⟨"KeptLightModel", "became", "(I)I"⟩, 21) := ⟨⟨by decide +kernel, by decide +kernel⟩, List.mem_of_getElem? (i := 1029) (by decide +kernel), List.mem_of_getElem? (i := 1313) (by decide +kernel), List.mem_of_getElem? (i := 1314) (by decide +kernel)⟩
theorem lw_p45 : lw_okq (⟨"KeptLightModel", "unlitBy", "(II)I"⟩, 21) := ⟨⟨by decide +kernel, by decide +kernel⟩, List.mem_of_getElem? (i := 1029) (by decide +kernel), List.mem_of_getElem? (i := 1329) (by decide +kernel), List.mem_of_getElem? (i := 1330) (by decide +kernel)⟩
theorem lw_p46 : lw_okq (⟨"KeptLightModel", "unlitOf", "(I)I"⟩, 21) := ⟨⟨by decide +kernel, by decide +kernel⟩, List.mem_of_getElem? (i := 1029) (by decide +kernel), List.mem_of_getElem? (i := 1337) (by decide +kernel), List.mem_of_getElem? (i := 1338) (by decide +kernel)⟩
theorem lw_p47 : lw_okq (⟨"KeptLightModel", "keepsPlan", "(Z)V"⟩, 21) := ⟨⟨by decide +kernel, by decide +kernel⟩, List.mem_of_getElem? (i := 1029) (by decide +kernel), List.mem_of_getElem? (i := 1345) (by decide +kernel), List.mem_of_getElem? (i := 1346) (by decide +kernel)⟩
def lw_privs_3 : List (MethodName × Nat) := [(⟨"KeptLightModel", "isDark", "(I)Z"⟩, 21), (⟨"KeptLightModel", "ofKeeper", "(II)I"⟩, 21), (⟨"KeptLightModel", "lasts", "(I)I"⟩, 21), (⟨"KeptLightModel", "passesLamp", "(ZZ)V"⟩, 21), (⟨"KeptLightModel", "logs", "(III)V"⟩, 21), (⟨"KeptLightModel", "passesShips", "(ZZII)V"⟩, 21), (⟨"KeptLightModel", "rankedAt", "(II)I"⟩, 21), (⟨"KeptLightModel", "ofShip", "(II)I"⟩, 21), (⟨"KeptLightModel", "tires", "(II)V"⟩, 21), (⟨"KeptLightModel", "hoursOf", "(I)I"⟩, 21), (⟨"KeptLightModel", "isShip", "(I)Z"⟩, 21), (⟨"KeptLightModel", "shipAgainst", "(I)I"⟩, 21), (⟨"KeptLightModel", "became", "(I)I"⟩, 21), (⟨"KeptLightModel", "unlitBy", "(II)I"⟩, 21), (⟨"KeptLightModel", "unlitOf", "(I)I"⟩, 21), (⟨"KeptLightModel", "keepsPlan", "(Z)V"⟩, 21)]
theorem lw_r3 : ∀ q ∈ lw_privs_3, lw_okq q := List.forall_mem_cons.mpr ⟨lw_p32, List.forall_mem_cons.mpr ⟨lw_p33, List.forall_mem_cons.mpr ⟨lw_p34, List.forall_mem_cons.mpr ⟨lw_p35, List.forall_mem_cons.mpr ⟨lw_p36, List.forall_mem_cons.mpr ⟨lw_p37, List.forall_mem_cons.mpr ⟨lw_p38, List.forall_mem_cons.mpr ⟨lw_p39, List.forall_mem_cons.mpr ⟨lw_p40, List.forall_mem_cons.mpr ⟨lw_p41, List.forall_mem_cons.mpr ⟨lw_p42, List.forall_mem_cons.mpr ⟨lw_p43, List.forall_mem_cons.mpr ⟨lw_p44, List.forall_mem_cons.mpr ⟨lw_p45, List.forall_mem_cons.mpr ⟨lw_p46, List.forall_mem_cons.mpr ⟨lw_p47, fun _ h => absurd h List.not_mem_nil⟩⟩⟩⟩⟩⟩⟩⟩⟩⟩⟩⟩⟩⟩⟩⟩
theorem lw_p48 : lw_okq (⟨"KeptLightModel", "draw", "(I)I"⟩, 21) := ⟨⟨by decide +kernel, by decide +kernel⟩, List.mem_of_getElem? (i := 1029) (by decide +kernel), List.mem_of_getElem? (i := 1395) (by decide +kernel), List.mem_of_getElem? (i := 1396) (by decide +kernel)⟩
theorem lw_p49 : lw_okq (⟨"KeptLightModel", "held", "()I"⟩, 21) := ⟨⟨by decide +kernel, by decide +kernel⟩, List.mem_of_getElem? (i := 1029) (by decide +kernel), List.mem_of_getElem? (i := 1418) (by decide +kernel), List.mem_of_getElem? (i := 1419) (by decide +kernel)⟩
def lw_privs_4 : List (MethodName × Nat) := [(⟨"KeptLightModel", "draw", "(I)I"⟩, 21), (⟨"KeptLightModel", "held", "()I"⟩, 21)]
theorem lw_r4 : ∀ q ∈ lw_privs_4, lw_okq q := List.forall_mem_cons.mpr ⟨lw_p48, List.forall_mem_cons.mpr ⟨lw_p49, fun _ h => absurd h List.not_mem_nil⟩⟩
def lw_privs : List (MethodName × Nat) := lw_privs_1 ++ (lw_privs_2 ++ (lw_privs_3 ++ (lw_privs_4)))
def lw_tbl : List Cond := k2_sels lw_privs ++ tables_1
theorem lw_privs_ok : ∀ q ∈ lw_privs, lw_okq q := by
  show ∀ q ∈ lw_privs_1 ++ (lw_privs_2 ++ (lw_privs_3 ++ (lw_privs_4))), lw_okq q
  exact List.forall_mem_append.mpr ⟨lw_r1, List.forall_mem_append.mpr ⟨lw_r2, List.forall_mem_append.mpr ⟨lw_r3, lw_r4⟩⟩⟩
-- ===== end of PART A; then your names; then what follows =====
end
section
def RX0 : String := "KeptLight$Boat"
def TX0 : u_T := fun k => match k with
  | 0 => ("KeptLight$Boat", "due", "I", false)
  | 1 => ("KeptLight$Boat", "every", "I", false)
  | 2 => ("KeptLight$Boat", "oil", "I", false)
  | 3 => ("KeptLight$Boat", "coal", "I", false)
  | _ => ("KeptLight$Boat", "came", "I", false)
def tyX0 : Nat → FieldType := fun k => match k with
  | 0 => .int
  | 1 => .int
  | 2 => .int
  | 3 => .int
  | _ => .int
abbrev wsX00 : List Cond := u_ws RX0 TX0 5
theorem nmX0 : ∀ a, a < 5 → ∀ b, b < 5 → a ≠ b → (TX0 a).2.1 ≠ (TX0 b).2.1 := by decide +kernel
theorem tyX0_ok : ∀ k, k < 5 → parseFieldDescriptor (TX0 k).2.2.1 = some (tyX0 k) := by decide +kernel
abbrev cX0_init : ByteArray := prog_2_method_1_code
def yX0_init : MethodName := ⟨RX0, "<init>", "()V"⟩
abbrev cX0_isDueAt : ByteArray := prog_2_method_2_code
def yX0_isDueAt : MethodName := ⟨RX0, "isDueAt", "(I)Z"⟩
abbrev cX0_become : ByteArray := prog_2_method_3_code
def yX0_become : MethodName := ⟨RX0, "become", "(LKeptLight$Boat;)V"⟩
def RX1 : String := "KeptLight$Crew"
def TX1 : u_T := fun k => match k with
  | 0 => ("KeptLight$Crew", "ranks", "[I", true)
  | 1 => ("KeptLight$Crew", "lasts", "[I", true)
  | 2 => ("KeptLight$Crew", "tired", "[I", true)
  | 3 => ("KeptLight$Crew", "tended", "[I", true)
  | 4 => ("KeptLight$Crew", "slept", "[I", true)
  | _ => ("KeptLight$Crew", "count", "I", false)
def tyX1 : Nat → FieldType := fun k => match k with
  | 0 => .array .int
  | 1 => .array .int
  | 2 => .array .int
  | 3 => .array .int
  | 4 => .array .int
  | _ => .int
abbrev wsX10 : List Cond := u_ws RX1 TX1 6
theorem nmX1 : ∀ a, a < 6 → ∀ b, b < 6 → a ≠ b → (TX1 a).2.1 ≠ (TX1 b).2.1 := by decide +kernel
theorem tyX1_ok : ∀ k, k < 6 → parseFieldDescriptor (TX1 k).2.2.1 = some (tyX1 k) := by decide +kernel
abbrev cX1_init : ByteArray := prog_3_method_1_code
def yX1_init : MethodName := ⟨RX1, "<init>", "()V"⟩
abbrev cX1_has : ByteArray := prog_3_method_2_code
def yX1_has : MethodName := ⟨RX1, "has", "(I)Z"⟩
abbrev cX1_isFull : ByteArray := prog_3_method_3_code
def yX1_isFull : MethodName := ⟨RX1, "isFull", "()Z"⟩
abbrev cX1_hire : ByteArray := prog_3_method_4_code
def yX1_hire : MethodName := ⟨RX1, "hire", "(I)I"⟩
abbrev cX1_rankOf : ByteArray := prog_3_method_5_code
def yX1_rankOf : MethodName := ⟨RX1, "rankOf", "(I)I"⟩
abbrev cX1_tiredOf : ByteArray := prog_3_method_6_code
def yX1_tiredOf : MethodName := ⟨RX1, "tiredOf", "(I)I"⟩
abbrev cX1_tendedBy : ByteArray := prog_3_method_7_code
def yX1_tendedBy : MethodName := ⟨RX1, "tendedBy", "(I)I"⟩
abbrev cX1_sleptBy : ByteArray := prog_3_method_8_code
def yX1_sleptBy : MethodName := ⟨RX1, "sleptBy", "(I)I"⟩
abbrev cX1_lastsOf : ByteArray := prog_3_method_9_code
def yX1_lastsOf : MethodName := ⟨RX1, "lastsOf", "(I)I"⟩
abbrev cX1_lastsIn : ByteArray := prog_3_method_10_code
def yX1_lastsIn : MethodName := ⟨RX1, "lastsIn", "(I)I"⟩
abbrev cX1_isAwake : ByteArray := prog_3_method_11_code
def yX1_isAwake : MethodName := ⟨RX1, "isAwake", "(I)Z"⟩
abbrev cX1_spendHour : ByteArray := prog_3_method_12_code
def yX1_spendHour : MethodName := ⟨RX1, "spendHour", "(IZI)V"⟩
abbrev cX1_restAll : ByteArray := prog_3_method_13_code
def yX1_restAll : MethodName := ⟨RX1, "restAll", "()V"⟩
abbrev cX1_become : ByteArray := prog_3_method_14_code
def yX1_become : MethodName := ⟨RX1, "become", "(LKeptLight$Crew;)V"⟩
def RX2 : String := "KeptLight$Fleet"
def TX2 : u_T := fun k => match k with
  | 0 => ("KeptLight$Fleet", "kinds", "[I", true)
  | 1 => ("KeptLight$Fleet", "hours", "[I", true)
  | 2 => ("KeptLight$Fleet", "fates", "[I", true)
  | 3 => ("KeptLight$Fleet", "mets", "[I", true)
  | 4 => ("KeptLight$Fleet", "places", "[I", true)
  | _ => ("KeptLight$Fleet", "count", "I", false)
def tyX2 : Nat → FieldType := fun k => match k with
  | 0 => .array .int
  | 1 => .array .int
  | 2 => .array .int
  | 3 => .array .int
  | 4 => .array .int
  | _ => .int
abbrev wsX20 : List Cond := u_ws RX2 TX2 6
theorem nmX2 : ∀ a, a < 6 → ∀ b, b < 6 → a ≠ b → (TX2 a).2.1 ≠ (TX2 b).2.1 := by decide +kernel
theorem tyX2_ok : ∀ k, k < 6 → parseFieldDescriptor (TX2 k).2.2.1 = some (tyX2 k) := by decide +kernel
abbrev cX2_init : ByteArray := prog_4_method_1_code
def yX2_init : MethodName := ⟨RX2, "<init>", "()V"⟩
abbrev cX2_has : ByteArray := prog_4_method_2_code
def yX2_has : MethodName := ⟨RX2, "has", "(I)Z"⟩
abbrev cX2_isFull : ByteArray := prog_4_method_3_code
def yX2_isFull : MethodName := ⟨RX2, "isFull", "()Z"⟩
abbrev cX2_kindOf : ByteArray := prog_4_method_4_code
def yX2_kindOf : MethodName := ⟨RX2, "kindOf", "(I)I"⟩
abbrev cX2_hourOf : ByteArray := prog_4_method_5_code
def yX2_hourOf : MethodName := ⟨RX2, "hourOf", "(I)I"⟩
abbrev cX2_fateOf : ByteArray := prog_4_method_6_code
def yX2_fateOf : MethodName := ⟨RX2, "fateOf", "(I)I"⟩
abbrev cX2_metOf : ByteArray := prog_4_method_7_code
def yX2_metOf : MethodName := ⟨RX2, "metOf", "(I)I"⟩
abbrev cX2_expect : ByteArray := prog_4_method_8_code
def yX2_expect : MethodName := ⟨RX2, "expect", "(II)I"⟩
abbrev cX2_isBehind : ByteArray := prog_4_method_9_code
def yX2_isBehind : MethodName := ⟨RX2, "isBehind", "(III)Z"⟩
abbrev cX2_shipInPlace : ByteArray := prog_4_method_10_code
def yX2_shipInPlace : MethodName := ⟨RX2, "shipInPlace", "(I)I"⟩
abbrev cX2_firstPlaceOf : ByteArray := prog_4_method_11_code
def yX2_firstPlaceOf : MethodName := ⟨RX2, "firstPlaceOf", "(I)I"⟩
abbrev cX2_isPlaceOf : ByteArray := prog_4_method_12_code
def yX2_isPlaceOf : MethodName := ⟨RX2, "isPlaceOf", "(II)Z"⟩
abbrev cX2_becameOf : ByteArray := prog_4_method_13_code
def yX2_becameOf : MethodName := ⟨RX2, "becameOf", "(III)V"⟩
abbrev cX2_countFates : ByteArray := prog_4_method_14_code
def yX2_countFates : MethodName := ⟨RX2, "countFates", "(II)I"⟩
abbrev cX2_become : ByteArray := prog_4_method_15_code
def yX2_become : MethodName := ⟨RX2, "become", "(LKeptLight$Fleet;)V"⟩
def RX3 : String := "KeptLight$LogBook"
def TX3 : u_T := fun k => match k with
  | 0 => ("KeptLight$LogBook", "hours", "[I", true)
  | 1 => ("KeptLight$LogBook", "sorts", "[I", true)
  | 2 => ("KeptLight$LogBook", "ships", "[I", true)
  | 3 => ("KeptLight$LogBook", "writers", "[I", true)
  | _ => ("KeptLight$LogBook", "count", "I", false)
def tyX3 : Nat → FieldType := fun k => match k with
  | 0 => .array .int
  | 1 => .array .int
  | 2 => .array .int
  | 3 => .array .int
  | _ => .int
abbrev wsX30 : List Cond := u_ws RX3 TX3 5
theorem nmX3 : ∀ a, a < 5 → ∀ b, b < 5 → a ≠ b → (TX3 a).2.1 ≠ (TX3 b).2.1 := by decide +kernel
theorem tyX3_ok : ∀ k, k < 5 → parseFieldDescriptor (TX3 k).2.2.1 = some (tyX3 k) := by decide +kernel
abbrev cX3_init : ByteArray := prog_5_method_1_code
def yX3_init : MethodName := ⟨RX3, "<init>", "()V"⟩
abbrev cX3_has : ByteArray := prog_5_method_2_code
def yX3_has : MethodName := ⟨RX3, "has", "(I)Z"⟩
abbrev cX3_write : ByteArray := prog_5_method_3_code
def yX3_write : MethodName := ⟨RX3, "write", "(IIII)V"⟩
abbrev cX3_hourOf : ByteArray := prog_5_method_4_code
def yX3_hourOf : MethodName := ⟨RX3, "hourOf", "(I)I"⟩
abbrev cX3_sortOf : ByteArray := prog_5_method_5_code
def yX3_sortOf : MethodName := ⟨RX3, "sortOf", "(I)I"⟩
abbrev cX3_shipOfEntry : ByteArray := prog_5_method_6_code
def yX3_shipOfEntry : MethodName := ⟨RX3, "shipOfEntry", "(I)I"⟩
abbrev cX3_writerOf : ByteArray := prog_5_method_7_code
def yX3_writerOf : MethodName := ⟨RX3, "writerOf", "(I)I"⟩
abbrev cX3_countOf : ByteArray := prog_5_method_8_code
def yX3_countOf : MethodName := ⟨RX3, "countOf", "(I)I"⟩
abbrev cX3_become : ByteArray := prog_5_method_9_code
def yX3_become : MethodName := ⟨RX3, "become", "(LKeptLight$LogBook;)V"⟩
def RX4 : String := "KeptLight$Shelf"
def TX4 : u_T := fun k => match k with
  | 0 => ("KeptLight$Shelf", "elements", "[J", true)
  | 1 => ("KeptLight$Shelf", "size", "I", false)
  | _ => ("KeptLight$Shelf", "held", "I", false)
def tyX4 : Nat → FieldType := fun k => match k with
  | 0 => .array .long
  | 1 => .int
  | _ => .int
abbrev wsX40 : List Cond := u_ws RX4 TX4 3
theorem nmX4 : ∀ a, a < 3 → ∀ b, b < 3 → a ≠ b → (TX4 a).2.1 ≠ (TX4 b).2.1 := by decide +kernel
theorem tyX4_ok : ∀ k, k < 3 → parseFieldDescriptor (TX4 k).2.2.1 = some (tyX4 k) := by decide +kernel
abbrev cX4_init : ByteArray := prog_6_method_1_code
def yX4_init : MethodName := ⟨RX4, "<init>", "()V"⟩
abbrev cX4_content : ByteArray := prog_6_method_2_code
def yX4_content : MethodName := ⟨RX4, "content", "()I"⟩
abbrev cX4_isEmpty : ByteArray := prog_6_method_3_code
def yX4_isEmpty : MethodName := ⟨RX4, "isEmpty", "()Z"⟩
abbrev cX4_isShip : ByteArray := prog_6_method_4_code
def yX4_isShip : MethodName := ⟨RX4, "isShip", "()Z"⟩
abbrev cX4_isOfSameSort : ByteArray := prog_6_method_5_code
def yX4_isOfSameSort : MethodName := ⟨RX4, "isOfSameSort", "(LKeptLight$Shelf;)Z"⟩
abbrev cX4_shipNumber : ByteArray := prog_6_method_6_code
def yX4_shipNumber : MethodName := ⟨RX4, "shipNumber", "()I"⟩
abbrev cX4_takeNothing : ByteArray := prog_6_method_7_code
def yX4_takeNothing : MethodName := ⟨RX4, "takeNothing", "()V"⟩
abbrev cX4_takeShip : ByteArray := prog_6_method_8_code
def yX4_takeShip : MethodName := ⟨RX4, "takeShip", "(I)V"⟩
abbrev cX4_takeRow : ByteArray := prog_6_method_9_code
def yX4_takeRow : MethodName := ⟨RX4, "takeRow", "(II)V"⟩
abbrev cX4_hasElement : ByteArray := prog_6_method_10_code
def yX4_hasElement : MethodName := ⟨RX4, "hasElement", "(I)Z"⟩
abbrev cX4_hasElements : ByteArray := prog_6_method_11_code
def yX4_hasElements : MethodName := ⟨RX4, "hasElements", "(II)Z"⟩
abbrev cX4_valueAt : ByteArray := prog_6_method_12_code
def yX4_valueAt : MethodName := ⟨RX4, "valueAt", "(I)J"⟩
abbrev cX4_put : ByteArray := prog_6_method_13_code
def yX4_put : MethodName := ⟨RX4, "put", "(IJ)V"⟩
abbrev cX4_fitted : ByteArray := prog_6_method_14_code
def yX4_fitted : MethodName := ⟨RX4, "fitted", "(J)J"⟩
abbrev cX4_takeElements : ByteArray := prog_6_method_15_code
def yX4_takeElements : MethodName := ⟨RX4, "takeElements", "(ILKeptLight$Shelf;II)V"⟩
def RX5 : String := "KeptLight$Sky"
def TX5 : u_T := fun k => match k with
  | 0 => ("KeptLight$Sky", "weathers", "[I", true)
  | 1 => ("KeptLight$Sky", "lengths", "[I", true)
  | 2 => ("KeptLight$Sky", "runs", "I", false)
  | _ => ("KeptLight$Sky", "allHours", "I", false)
def tyX5 : Nat → FieldType := fun k => match k with
  | 0 => .array .int
  | 1 => .array .int
  | 2 => .int
  | _ => .int
abbrev wsX50 : List Cond := u_ws RX5 TX5 4
theorem nmX5 : ∀ a, a < 4 → ∀ b, b < 4 → a ≠ b → (TX5 a).2.1 ≠ (TX5 b).2.1 := by decide +kernel
theorem tyX5_ok : ∀ k, k < 4 → parseFieldDescriptor (TX5 k).2.2.1 = some (tyX5 k) := by decide +kernel
abbrev cX5_init : ByteArray := prog_7_method_1_code
def yX5_init : MethodName := ⟨RX5, "<init>", "()V"⟩
abbrev cX5_isFull : ByteArray := prog_7_method_2_code
def yX5_isFull : MethodName := ⟨RX5, "isFull", "()Z"⟩
abbrev cX5_clear : ByteArray := prog_7_method_3_code
def yX5_clear : MethodName := ⟨RX5, "clear", "()V"⟩
abbrev cX5_append : ByteArray := prog_7_method_4_code
def yX5_append : MethodName := ⟨RX5, "append", "(II)V"⟩
abbrev cX5_weatherAt : ByteArray := prog_7_method_5_code
def yX5_weatherAt : MethodName := ⟨RX5, "weatherAt", "(I)I"⟩
abbrev cX5_become : ByteArray := prog_7_method_6_code
def yX5_become : MethodName := ⟨RX5, "become", "(LKeptLight$Sky;)V"⟩
def RX6 : String := "KeptLight$Station"
def TX6 : u_T := fun k => match k with
  | 0 => ("KeptLight$Station", "sky", "LKeptLight$Sky;", true)
  | 1 => ("KeptLight$Station", "crew", "LKeptLight$Crew;", true)
  | 2 => ("KeptLight$Station", "boat", "LKeptLight$Boat;", true)
  | 3 => ("KeptLight$Station", "watches", "[I", true)
  | 4 => ("KeptLight$Station", "hour", "I", false)
  | 5 => ("KeptLight$Station", "dawn", "I", false)
  | 6 => ("KeptLight$Station", "dusk", "I", false)
  | 7 => ("KeptLight$Station", "wick", "I", false)
  | 8 => ("KeptLight$Station", "oil", "I", false)
  | 9 => ("KeptLight$Station", "coal", "I", false)
  | 10 => ("KeptLight$Station", "lit", "Z", false)
  | 11 => ("KeptLight$Station", "untended", "I", false)
  | 12 => ("KeptLight$Station", "weather", "I", false)
  | 13 => ("KeptLight$Station", "dark", "Z", false)
  | 14 => ("KeptLight$Station", "watch", "I", false)
  | 15 => ("KeptLight$Station", "tended", "Z", false)
  | _ => ("KeptLight$Station", "signal", "Z", false)
def tyX6 : Nat → FieldType := fun k => match k with
  | 0 => .object "KeptLight$Sky"
  | 1 => .object "KeptLight$Crew"
  | 2 => .object "KeptLight$Boat"
  | 3 => .array .int
  | 4 => .int
  | 5 => .int
  | 6 => .int
  | 7 => .int
  | 8 => .int
  | 9 => .int
  | 10 => .boolean
  | 11 => .int
  | 12 => .int
  | 13 => .boolean
  | 14 => .int
  | 15 => .boolean
  | _ => .boolean
abbrev wsX60 : List Cond := u_ws RX6 TX6 17
theorem nmX6 : ∀ a, a < 17 → ∀ b, b < 17 → a ≠ b → (TX6 a).2.1 ≠ (TX6 b).2.1 := by decide +kernel
theorem tyX6_ok : ∀ k, k < 17 → parseFieldDescriptor (TX6 k).2.2.1 = some (tyX6 k) := by decide +kernel
abbrev cX6_init : ByteArray := prog_8_method_1_code
def yX6_init : MethodName := ⟨RX6, "<init>", "()V"⟩
abbrev cX6_isDarkAt : ByteArray := prog_8_method_2_code
def yX6_isDarkAt : MethodName := ⟨RX6, "isDarkAt", "(I)Z"⟩
abbrev cX6_planned : ByteArray := prog_8_method_3_code
def yX6_planned : MethodName := ⟨RX6, "planned", "(I)I"⟩
abbrev cX6_assign : ByteArray := prog_8_method_4_code
def yX6_assign : MethodName := ⟨RX6, "assign", "(II)V"⟩
abbrev cX6_relieve : ByteArray := prog_8_method_5_code
def yX6_relieve : MethodName := ⟨RX6, "relieve", "(I)V"⟩
abbrev cX6_hoursPlannedFor : ByteArray := prog_8_method_6_code
def yX6_hoursPlannedFor : MethodName := ⟨RX6, "hoursPlannedFor", "(I)I"⟩
abbrev cX6_keepWatch : ByteArray := prog_8_method_7_code
def yX6_keepWatch : MethodName := ⟨RX6, "keepWatch", "()V"⟩
abbrev cX6_tendLamp : ByteArray := prog_8_method_8_code
def yX6_tendLamp : MethodName := ⟨RX6, "tendLamp", "()V"⟩
abbrev cX6_endHour : ByteArray := prog_8_method_9_code
def yX6_endHour : MethodName := ⟨RX6, "endHour", "()V"⟩
abbrev cX6_meetBoat : ByteArray := prog_8_method_10_code
def yX6_meetBoat : MethodName := ⟨RX6, "meetBoat", "()V"⟩
abbrev cX6_isUnlit : ByteArray := prog_8_method_11_code
def yX6_isUnlit : MethodName := ⟨RX6, "isUnlit", "()Z"⟩
abbrev cX6_isAsleepOnWatch : ByteArray := prog_8_method_12_code
def yX6_isAsleepOnWatch : MethodName := ⟨RX6, "isAsleepOnWatch", "()Z"⟩
abbrev cX6_isBoyAsleepOnWatch : ByteArray := prog_8_method_13_code
def yX6_isBoyAsleepOnWatch : MethodName := ⟨RX6, "isBoyAsleepOnWatch", "()Z"⟩
abbrev cX6_become : ByteArray := prog_8_method_14_code
def yX6_become : MethodName := ⟨RX6, "become", "(LKeptLight$Station;)V"⟩
def RX7 : String := "KeptLight$Tape"
def TX7 : u_T := fun k => match k with
  | 0 => ("KeptLight$Tape", "bytes", "[I", true)
  | _ => ("KeptLight$Tape", "size", "I", false)
def tyX7 : Nat → FieldType := fun k => match k with
  | 0 => .array .int
  | _ => .int
abbrev wsX70 : List Cond := u_ws RX7 TX7 2
theorem nmX7 : ∀ a, a < 2 → ∀ b, b < 2 → a ≠ b → (TX7 a).2.1 ≠ (TX7 b).2.1 := by decide +kernel
theorem tyX7_ok : ∀ k, k < 2 → parseFieldDescriptor (TX7 k).2.2.1 = some (tyX7 k) := by decide +kernel
abbrev cX7_init : ByteArray := prog_9_method_1_code
def yX7_init : MethodName := ⟨RX7, "<init>", "()V"⟩
abbrev cX7_isFull : ByteArray := prog_9_method_2_code
def yX7_isFull : MethodName := ⟨RX7, "isFull", "()Z"⟩
abbrev cX7_append : ByteArray := prog_9_method_3_code
def yX7_append : MethodName := ⟨RX7, "append", "(I)V"⟩
abbrev cX7_readInto : ByteArray := prog_9_method_4_code
def yX7_readInto : MethodName := ⟨RX7, "readInto", "(LKeptLight$Sky;)I"⟩
abbrev cX7_byteAt : ByteArray := prog_9_method_5_code
def yX7_byteAt : MethodName := ⟨RX7, "byteAt", "(I)I"⟩
abbrev cX7_countDigits : ByteArray := prog_9_method_6_code
def yX7_countDigits : MethodName := ⟨RX7, "countDigits", "(I)I"⟩
abbrev cX7_numberAt : ByteArray := prog_9_method_7_code
def yX7_numberAt : MethodName := ⟨RX7, "numberAt", "(II)I"⟩
abbrev cX7_isDigit : ByteArray := prog_9_method_8_code
def yX7_isDigit : MethodName := ⟨RX7, "isDigit", "(I)Z"⟩
abbrev cX7_weatherOf : ByteArray := prog_9_method_9_code
def yX7_weatherOf : MethodName := ⟨RX7, "weatherOf", "(I)I"⟩
def RX8 : String := "KeptLight$Thought"
def TX8 : u_T := fun k => match k with
  | 0 => ("KeptLight$Thought", "station", "LKeptLight$Station;", true)
  | 1 => ("KeptLight$Thought", "unlit", "I", false)
  | 2 => ("KeptLight$Thought", "misses", "I", false)
  | 3 => ("KeptLight$Thought", "wrecks", "I", false)
  | 4 => ("KeptLight$Thought", "asleep", "I", false)
  | _ => ("KeptLight$Thought", "nextPlace", "I", false)
def tyX8 : Nat → FieldType := fun k => match k with
  | 0 => .object "KeptLight$Station"
  | 1 => .int
  | 2 => .int
  | 3 => .int
  | 4 => .int
  | _ => .int
abbrev wsX80 : List Cond := u_ws RX8 TX8 6
theorem nmX8 : ∀ a, a < 6 → ∀ b, b < 6 → a ≠ b → (TX8 a).2.1 ≠ (TX8 b).2.1 := by decide +kernel
theorem tyX8_ok : ∀ k, k < 6 → parseFieldDescriptor (TX8 k).2.2.1 = some (tyX8 k) := by decide +kernel
abbrev cX8_init : ByteArray := prog_10_method_1_code
def yX8_init : MethodName := ⟨RX8, "<init>", "()V"⟩
abbrev cX8_begin : ByteArray := prog_10_method_2_code
def yX8_begin : MethodName := ⟨RX8, "begin", "(LKeptLight$World;)V"⟩
abbrev cX8_passHours : ByteArray := prog_10_method_3_code
def yX8_passHours : MethodName := ⟨RX8, "passHours", "(LKeptLight$Fleet;I)I"⟩
abbrev cX8_passHour : ByteArray := prog_10_method_4_code
def yX8_passHour : MethodName := ⟨RX8, "passHour", "(LKeptLight$Fleet;)V"⟩
def RX9 : String := "KeptLight$World"
def TX9 : u_T := fun k => match k with
  | 0 => ("KeptLight$World", "station", "LKeptLight$Station;", true)
  | 1 => ("KeptLight$World", "fleet", "LKeptLight$Fleet;", true)
  | 2 => ("KeptLight$World", "book", "LKeptLight$LogBook;", true)
  | 3 => ("KeptLight$World", "unlit", "I", false)
  | 4 => ("KeptLight$World", "unlitHours", "I", false)
  | _ => ("KeptLight$World", "seed", "I", false)
def tyX9 : Nat → FieldType := fun k => match k with
  | 0 => .object "KeptLight$Station"
  | 1 => .object "KeptLight$Fleet"
  | 2 => .object "KeptLight$LogBook"
  | 3 => .int
  | 4 => .int
  | _ => .int
abbrev wsX90 : List Cond := u_ws RX9 TX9 6
theorem nmX9 : ∀ a, a < 6 → ∀ b, b < 6 → a ≠ b → (TX9 a).2.1 ≠ (TX9 b).2.1 := by decide +kernel
theorem tyX9_ok : ∀ k, k < 6 → parseFieldDescriptor (TX9 k).2.2.1 = some (tyX9 k) := by decide +kernel
abbrev cX9_init : ByteArray := prog_11_method_1_code
def yX9_init : MethodName := ⟨RX9, "<init>", "()V"⟩
abbrev cX9_passHour : ByteArray := prog_11_method_2_code
def yX9_passHour : MethodName := ⟨RX9, "passHour", "()V"⟩
abbrev cX9_meetShips : ByteArray := prog_11_method_3_code
def yX9_meetShips : MethodName := ⟨RX9, "meetShips", "(I)V"⟩
abbrev cX9_writeLog : ByteArray := prog_11_method_4_code
def yX9_writeLog : MethodName := ⟨RX9, "writeLog", "(I)V"⟩
abbrev cX9_enter : ByteArray := prog_11_method_5_code
def yX9_enter : MethodName := ⟨RX9, "enter", "(II)V"⟩
abbrev cX9_passDay : ByteArray := prog_11_method_6_code
def yX9_passDay : MethodName := ⟨RX9, "passDay", "()V"⟩
abbrev cX9_draw : ByteArray := prog_11_method_7_code
def yX9_draw : MethodName := ⟨RX9, "draw", "(I)I"⟩
abbrev cX9_shipAgainst : ByteArray := prog_11_method_8_code
def yX9_shipAgainst : MethodName := ⟨RX9, "shipAgainst", "(I)I"⟩
abbrev cX9_entryOfDifference : ByteArray := prog_11_method_9_code
def yX9_entryOfDifference : MethodName := ⟨RX9, "entryOfDifference", "(I)I"⟩
abbrev cX9_countDifferences : ByteArray := prog_11_method_10_code
def yX9_countDifferences : MethodName := ⟨RX9, "countDifferences", "(I)I"⟩
abbrev cX9_become : ByteArray := prog_11_method_11_code
def yX9_become : MethodName := ⟨RX9, "become", "(LKeptLight$World;)V"⟩
def RX10 : String := "KeptLight"
def TX10 : u_T := fun k => match k with
  | 0 => ("KeptLight", "now", "LKeptLight$World;", true)
  | 1 => ("KeptLight", "kept", "LKeptLight$World;", true)
  | 2 => ("KeptLight", "thought", "LKeptLight$Thought;", true)
  | 3 => ("KeptLight", "tape", "LKeptLight$Tape;", true)
  | 4 => ("KeptLight", "draft", "LKeptLight$Sky;", true)
  | 5 => ("KeptLight", "shelves", "[LKeptLight$Shelf;", true)
  | 6 => ("KeptLight", "refusals", "[I", true)
  | _ => ("KeptLight", "hasImage", "Z", false)
def tyX10 : Nat → FieldType := fun k => match k with
  | 0 => .object "KeptLight$World"
  | 1 => .object "KeptLight$World"
  | 2 => .object "KeptLight$Thought"
  | 3 => .object "KeptLight$Tape"
  | 4 => .object "KeptLight$Sky"
  | 5 => .array (.object "KeptLight$Shelf")
  | 6 => .array .int
  | _ => .boolean
abbrev wsX100 : List Cond := u_ws RX10 TX10 8
theorem nmX10 : ∀ a, a < 8 → ∀ b, b < 8 → a ≠ b → (TX10 a).2.1 ≠ (TX10 b).2.1 := by decide +kernel
theorem tyX10_ok : ∀ k, k < 8 → parseFieldDescriptor (TX10 k).2.2.1 = some (tyX10 k) := by decide +kernel
abbrev cX10_init : ByteArray := prog_1_method_1_code
def yX10_init : MethodName := ⟨RX10, "<init>", "()V"⟩
abbrev cX10_row : ByteArray := prog_1_method_2_code
def yX10_row : MethodName := ⟨RX10, "row", "(III)I"⟩
abbrev cX10_set : ByteArray := prog_1_method_3_code
def yX10_set : MethodName := ⟨RX10, "set", "(IIJ)I"⟩
abbrev cX10_copy : ByteArray := prog_1_method_4_code
def yX10_copy : MethodName := ⟨RX10, "copy", "(IIIII)I"⟩
abbrev cX10_element : ByteArray := prog_1_method_5_code
def yX10_element : MethodName := ⟨RX10, "element", "(II)J"⟩
abbrev cX10_holds : ByteArray := prog_1_method_6_code
def yX10_holds : MethodName := ⟨RX10, "holds", "(I)I"⟩
abbrev cX10_show : ByteArray := prog_1_method_7_code
def yX10_show : MethodName := ⟨RX10, "show", "(II)I"⟩
abbrev cX10_says : ByteArray := prog_1_method_8_code
def yX10_says : MethodName := ⟨RX10, "says", "(II)I"⟩
abbrev cX10_saidAs : ByteArray := prog_1_method_9_code
def yX10_saidAs : MethodName := ⟨RX10, "saidAs", "(II)I"⟩
abbrev cX10_feed : ByteArray := prog_1_method_10_code
def yX10_feed : MethodName := ⟨RX10, "feed", "(I)I"⟩
abbrev cX10_wipe : ByteArray := prog_1_method_11_code
def yX10_wipe : MethodName := ⟨RX10, "wipe", "()I"⟩
abbrev cX10_sky : ByteArray := prog_1_method_12_code
def yX10_sky : MethodName := ⟨RX10, "sky", "()I"⟩
abbrev cX10_weather : ByteArray := prog_1_method_13_code
def yX10_weather : MethodName := ⟨RX10, "weather", "(I)I"⟩
abbrev cX10_dark : ByteArray := prog_1_method_14_code
def yX10_dark : MethodName := ⟨RX10, "dark", "(I)I"⟩
abbrev cX10_keeper : ByteArray := prog_1_method_15_code
def yX10_keeper : MethodName := ⟨RX10, "keeper", "(I)I"⟩
abbrev cX10_plan : ByteArray := prog_1_method_16_code
def yX10_plan : MethodName := ⟨RX10, "plan", "(II)I"⟩
abbrev cX10_plans : ByteArray := prog_1_method_17_code
def yX10_plans : MethodName := ⟨RX10, "plans", "(I)I"⟩
abbrev cX10_tell : ByteArray := prog_1_method_18_code
def yX10_tell : MethodName := ⟨RX10, "tell", "(II)I"⟩
abbrev cX10_mayBeTold : ByteArray := prog_1_method_19_code
def yX10_mayBeTold : MethodName := ⟨RX10, "mayBeTold", "(II)Z"⟩
abbrev cX10_boat : ByteArray := prog_1_method_20_code
def yX10_boat : MethodName := ⟨RX10, "boat", "(II)I"⟩
abbrev cX10_mayBeOfBoat : ByteArray := prog_1_method_21_code
def yX10_mayBeOfBoat : MethodName := ⟨RX10, "mayBeOfBoat", "(II)Z"⟩
abbrev cX10_keeperOf : ByteArray := prog_1_method_22_code
def yX10_keeperOf : MethodName := ⟨RX10, "keeperOf", "(II)I"⟩
abbrev cX10_ship : ByteArray := prog_1_method_23_code
def yX10_ship : MethodName := ⟨RX10, "ship", "(II)I"⟩
abbrev cX10_shipOf : ByteArray := prog_1_method_24_code
def yX10_shipOf : MethodName := ⟨RX10, "shipOf", "(II)I"⟩
abbrev cX10_shipAt : ByteArray := prog_1_method_25_code
def yX10_shipAt : MethodName := ⟨RX10, "shipAt", "(II)I"⟩
abbrev cX10_many : ByteArray := prog_1_method_26_code
def yX10_many : MethodName := ⟨RX10, "many", "(II)I"⟩
abbrev cX10_pass : ByteArray := prog_1_method_27_code
def yX10_pass : MethodName := ⟨RX10, "pass", "(I)I"⟩
abbrev cX10_days : ByteArray := prog_1_method_28_code
def yX10_days : MethodName := ⟨RX10, "days", "(I)I"⟩
abbrev cX10_seed : ByteArray := prog_1_method_29_code
def yX10_seed : MethodName := ⟨RX10, "seed", "(I)I"⟩
abbrev cX10_log : ByteArray := prog_1_method_30_code
def yX10_log : MethodName := ⟨RX10, "log", "(II)I"⟩
abbrev cX10_logged : ByteArray := prog_1_method_31_code
def yX10_logged : MethodName := ⟨RX10, "logged", "(I)I"⟩
abbrev cX10_difference : ByteArray := prog_1_method_32_code
def yX10_difference : MethodName := ⟨RX10, "difference", "(II)I"⟩
abbrev cX10_differences : ByteArray := prog_1_method_33_code
def yX10_differences : MethodName := ⟨RX10, "differences", "(I)I"⟩
abbrev cX10_unlit : ByteArray := prog_1_method_34_code
def yX10_unlit : MethodName := ⟨RX10, "unlit", "()I"⟩
abbrev cX10_judge : ByteArray := prog_1_method_35_code
def yX10_judge : MethodName := ⟨RX10, "judge", "(III)I"⟩
abbrev cX10_isAsTold : ByteArray := prog_1_method_36_code
def yX10_isAsTold : MethodName := ⟨RX10, "isAsTold", "(IILKeptLight$Shelf;)Z"⟩
abbrev cX10_would : ByteArray := prog_1_method_37_code
def yX10_would : MethodName := ⟨RX10, "would", "(II)I"⟩
abbrev cX10_fails : ByteArray := prog_1_method_38_code
def yX10_fails : MethodName := ⟨RX10, "fails", "()I"⟩
abbrev cX10_comes : ByteArray := prog_1_method_39_code
def yX10_comes : MethodName := ⟨RX10, "comes", "()I"⟩
abbrev cX10_oil : ByteArray := prog_1_method_40_code
def yX10_oil : MethodName := ⟨RX10, "oil", "(I)I"⟩
abbrev cX10_unlitWithOil : ByteArray := prog_1_method_41_code
def yX10_unlitWithOil : MethodName := ⟨RX10, "unlitWithOil", "(II)I"⟩
abbrev cX10_better : ByteArray := prog_1_method_42_code
def yX10_better : MethodName := ⟨RX10, "better", "(II)I"⟩
abbrev cX10_other : ByteArray := prog_1_method_43_code
def yX10_other : MethodName := ⟨RX10, "other", "(II)I"⟩
abbrev cX10_idle : ByteArray := prog_1_method_44_code
def yX10_idle : MethodName := ⟨RX10, "idle", "(I)I"⟩
abbrev cX10_unlitAsPlanned : ByteArray := prog_1_method_45_code
def yX10_unlitAsPlanned : MethodName := ⟨RX10, "unlitAsPlanned", "(I)I"⟩
abbrev cX10_image : ByteArray := prog_1_method_46_code
def yX10_image : MethodName := ⟨RX10, "image", "()I"⟩
abbrev cX10_back : ByteArray := prog_1_method_47_code
def yX10_back : MethodName := ⟨RX10, "back", "()I"⟩
abbrev cX10_status : ByteArray := prog_1_method_48_code
def yX10_status : MethodName := ⟨RX10, "status", "(I)I"⟩
abbrev cX10_countFullShelves : ByteArray := prog_1_method_49_code
def yX10_countFullShelves : MethodName := ⟨RX10, "countFullShelves", "()I"⟩
abbrev cX10_refuse : ByteArray := prog_1_method_50_code
def yX10_refuse : MethodName := ⟨RX10, "refuse", "(I)I"⟩
abbrev cX10_againstRowIn : ByteArray := prog_1_method_51_code
def yX10_againstRowIn : MethodName := ⟨RX10, "againstRowIn", "(I)I"⟩
abbrev cX10_againstPlanIn : ByteArray := prog_1_method_52_code
def yX10_againstPlanIn : MethodName := ⟨RX10, "againstPlanIn", "(I)I"⟩
abbrev cX10_assignAll : ByteArray := prog_1_method_53_code
def yX10_assignAll : MethodName := ⟨RX10, "assignAll", "(LKeptLight$Station;LKeptLight$Shelf;)V"⟩
abbrev cX10_shelfAt : ByteArray := prog_1_method_54_code
def yX10_shelfAt : MethodName := ⟨RX10, "shelfAt", "(I)LKeptLight$Shelf;"⟩
abbrev cX10_isKeeperOrNone : ByteArray := prog_1_method_55_code
def yX10_isKeeperOrNone : MethodName := ⟨RX10, "isKeeperOrNone", "(I)Z"⟩
abbrev cX10_isHourOfDay : ByteArray := prog_1_method_56_code
def yX10_isHourOfDay : MethodName := ⟨RX10, "isHourOfDay", "(I)Z"⟩
abbrev cX10_areHours : ByteArray := prog_1_method_57_code
def yX10_areHours : MethodName := ⟨RX10, "areHours", "(I)Z"⟩
abbrev cX10_isKind : ByteArray := prog_1_method_58_code
def yX10_isKind : MethodName := ⟨RX10, "isKind", "(I)Z"⟩
abbrev cX10_isWithin : ByteArray := prog_1_method_59_code
def yX10_isWithin : MethodName := ⟨RX10, "isWithin", "(III)Z"⟩
abbrev cX10_kindAbove : ByteArray := prog_1_method_60_code
def yX10_kindAbove : MethodName := ⟨RX10, "kindAbove", "(I)I"⟩
abbrev cX10_isUnder : ByteArray := prog_1_method_61_code
def yX10_isUnder : MethodName := ⟨RX10, "isUnder", "(II)Z"⟩
abbrev cX10_lacks : ByteArray := prog_1_method_62_code
def yX10_lacks : MethodName := ⟨RX10, "lacks", "(IZZIZ)I"⟩
abbrev cX10_fateIn : ByteArray := prog_1_method_63_code
def yX10_fateIn : MethodName := ⟨RX10, "fateIn", "(LKeptLight$Station;I)I"⟩
def RX11 : String := "KeptLightModel"
def TX11 : u_T := fun k => match k with
  | 0 => ("KeptLightModel", "g", "[I", true)
  | 1 => ("KeptLightModel", "was", "[I", true)
  | 2 => ("KeptLightModel", "kept", "[I", true)
  | 3 => ("KeptLightModel", "hasImage", "Z", false)
  | 4 => ("KeptLightModel", "refusals", "[I", true)
  | 5 => ("KeptLightModel", "wasDark", "Z", false)
  | 6 => ("KeptLightModel", "wasTended", "Z", false)
  | 7 => ("KeptLightModel", "boatCame", "Z", false)
  | 8 => ("KeptLightModel", "tape", "[I", true)
  | 9 => ("KeptLightModel", "taped", "I", false)
  | 10 => ("KeptLightModel", "place", "I", false)
  | 11 => ("KeptLightModel", "read", "[I", true)
  | 12 => ("KeptLightModel", "readMany", "I", false)
  | 13 => ("KeptLightModel", "darkAt", "[Z", true)
  | 14 => ("KeptLightModel", "tendedAt", "[Z", true)
  | 15 => ("KeptLightModel", "boatAt", "[Z", true)
  | 16 => ("KeptLightModel", "hadPlan", "[I", true)
  | 17 => ("KeptLightModel", "sorts", "[I", true)
  | 18 => ("KeptLightModel", "sizes", "[I", true)
  | 19 => ("KeptLightModel", "elements", "[J", true)
  | _ => ("KeptLightModel", "told", "[I", true)
def tyX11 : Nat → FieldType := fun k => match k with
  | 0 => .array .int
  | 1 => .array .int
  | 2 => .array .int
  | 3 => .boolean
  | 4 => .array .int
  | 5 => .boolean
  | 6 => .boolean
  | 7 => .boolean
  | 8 => .array .int
  | 9 => .int
  | 10 => .int
  | 11 => .array .int
  | 12 => .int
  | 13 => .array .boolean
  | 14 => .array .boolean
  | 15 => .array .boolean
  | 16 => .array .int
  | 17 => .array .int
  | 18 => .array .int
  | 19 => .array .long
  | _ => .array .int
abbrev wsX110 : List Cond := u_ws RX11 TX11 21
theorem nmX11 : ∀ a, a < 21 → ∀ b, b < 21 → a ≠ b → (TX11 a).2.1 ≠ (TX11 b).2.1 := by decide +kernel
theorem tyX11_ok : ∀ k, k < 21 → parseFieldDescriptor (TX11 k).2.2.1 = some (tyX11 k) := by decide +kernel
abbrev cX11_init : ByteArray := prog_13_method_1_code
def yX11_init : MethodName := ⟨RX11, "<init>", "()V"⟩
abbrev cX11_in : ByteArray := prog_13_method_2_code
def yX11_in : MethodName := ⟨RX11, "in", "(JJJ)Z"⟩
abbrev cX11_refused : ByteArray := prog_13_method_3_code
def yX11_refused : MethodName := ⟨RX11, "refused", "(I)I"⟩
abbrev cX11_copies : ByteArray := prog_13_method_4_code
def yX11_copies : MethodName := ⟨RX11, "copies", "([I[I)V"⟩
abbrev cX11_isKeeper : ByteArray := prog_13_method_5_code
def yX11_isKeeper : MethodName := ⟨RX11, "isKeeper", "(I)Z"⟩
abbrev cX11_isShip : ByteArray := prog_13_method_6_code
def yX11_isShip : MethodName := ⟨RX11, "isShip", "(I)Z"⟩
abbrev cX11_ofKeeper : ByteArray := prog_13_method_7_code
def yX11_ofKeeper : MethodName := ⟨RX11, "ofKeeper", "(II)I"⟩
abbrev cX11_ofShip : ByteArray := prog_13_method_8_code
def yX11_ofShip : MethodName := ⟨RX11, "ofShip", "(II)I"⟩
abbrev cX11_lasts : ByteArray := prog_13_method_9_code
def yX11_lasts : MethodName := ⟨RX11, "lasts", "(I)I"⟩
abbrev cX11_weatherOf : ByteArray := prog_13_method_10_code
def yX11_weatherOf : MethodName := ⟨RX11, "weatherOf", "(I)I"⟩
abbrev cX11_isDark : ByteArray := prog_13_method_11_code
def yX11_isDark : MethodName := ⟨RX11, "isDark", "(I)Z"⟩
abbrev cX11_logs : ByteArray := prog_13_method_12_code
def yX11_logs : MethodName := ⟨RX11, "logs", "(III)V"⟩
abbrev cX11_isSmall : ByteArray := prog_13_method_13_code
def yX11_isSmall : MethodName := ⟨RX11, "isSmall", "(I)Z"⟩
abbrev cX11_lacks : ByteArray := prog_13_method_14_code
def yX11_lacks : MethodName := ⟨RX11, "lacks", "(IZZZI)I"⟩
abbrev cX11_rankedAt : ByteArray := prog_13_method_15_code
def yX11_rankedAt : MethodName := ⟨RX11, "rankedAt", "(II)I"⟩
abbrev cX11_passesShips : ByteArray := prog_13_method_16_code
def yX11_passesShips : MethodName := ⟨RX11, "passesShips", "(ZZII)V"⟩
abbrev cX11_passesLamp : ByteArray := prog_13_method_17_code
def yX11_passesLamp : MethodName := ⟨RX11, "passesLamp", "(ZZ)V"⟩
abbrev cX11_tires : ByteArray := prog_13_method_18_code
def yX11_tires : MethodName := ⟨RX11, "tires", "(II)V"⟩
abbrev cX11_hourPasses : ByteArray := prog_13_method_19_code
def yX11_hourPasses : MethodName := ⟨RX11, "hourPasses", "()V"⟩
abbrev cX11_passes : ByteArray := prog_13_method_20_code
def yX11_passes : MethodName := ⟨RX11, "passes", "(I)I"⟩
abbrev cX11_unlitOf : ByteArray := prog_13_method_21_code
def yX11_unlitOf : MethodName := ⟨RX11, "unlitOf", "(I)I"⟩
abbrev cX11_feed : ByteArray := prog_13_method_22_code
def yX11_feed : MethodName := ⟨RX11, "feed", "(I)I"⟩
abbrev cX11_wipe : ByteArray := prog_13_method_23_code
def yX11_wipe : MethodName := ⟨RX11, "wipe", "()I"⟩
abbrev cX11_byteAt : ByteArray := prog_13_method_24_code
def yX11_byteAt : MethodName := ⟨RX11, "byteAt", "(I)I"⟩
abbrev cX11_isRun : ByteArray := prog_13_method_25_code
def yX11_isRun : MethodName := ⟨RX11, "isRun", "()Z"⟩
abbrev cX11_sky : ByteArray := prog_13_method_26_code
def yX11_sky : MethodName := ⟨RX11, "sky", "()I"⟩
abbrev cX11_keeper : ByteArray := prog_13_method_27_code
def yX11_keeper : MethodName := ⟨RX11, "keeper", "(I)I"⟩
abbrev cX11_plan : ByteArray := prog_13_method_28_code
def yX11_plan : MethodName := ⟨RX11, "plan", "(II)I"⟩
abbrev cX11_isPlan : ByteArray := prog_13_method_29_code
def yX11_isPlan : MethodName := ⟨RX11, "isPlan", "(I)I"⟩
abbrev cX11_takesPlan : ByteArray := prog_13_method_30_code
def yX11_takesPlan : MethodName := ⟨RX11, "takesPlan", "(I)V"⟩
abbrev cX11_plans : ByteArray := prog_13_method_31_code
def yX11_plans : MethodName := ⟨RX11, "plans", "(I)I"⟩
abbrev cX11_tell : ByteArray := prog_13_method_32_code
def yX11_tell : MethodName := ⟨RX11, "tell", "(II)I"⟩
abbrev cX11_boat : ByteArray := prog_13_method_33_code
def yX11_boat : MethodName := ⟨RX11, "boat", "(II)I"⟩
abbrev cX11_comesShip : ByteArray := prog_13_method_34_code
def yX11_comesShip : MethodName := ⟨RX11, "comesShip", "(II)I"⟩
abbrev cX11_ship : ByteArray := prog_13_method_35_code
def yX11_ship : MethodName := ⟨RX11, "ship", "(II)I"⟩
abbrev cX11_pass : ByteArray := prog_13_method_36_code
def yX11_pass : MethodName := ⟨RX11, "pass", "(I)I"⟩
abbrev cX11_weather : ByteArray := prog_13_method_37_code
def yX11_weather : MethodName := ⟨RX11, "weather", "(I)I"⟩
abbrev cX11_dark : ByteArray := prog_13_method_38_code
def yX11_dark : MethodName := ⟨RX11, "dark", "(I)I"⟩
abbrev cX11_keeperOf : ByteArray := prog_13_method_39_code
def yX11_keeperOf : MethodName := ⟨RX11, "keeperOf", "(II)I"⟩
abbrev cX11_hoursOf : ByteArray := prog_13_method_40_code
def yX11_hoursOf : MethodName := ⟨RX11, "hoursOf", "(I)I"⟩
abbrev cX11_shipOf : ByteArray := prog_13_method_41_code
def yX11_shipOf : MethodName := ⟨RX11, "shipOf", "(II)I"⟩
abbrev cX11_shipAt : ByteArray := prog_13_method_42_code
def yX11_shipAt : MethodName := ⟨RX11, "shipAt", "(II)I"⟩
abbrev cX11_isUnder : ByteArray := prog_13_method_43_code
def yX11_isUnder : MethodName := ⟨RX11, "isUnder", "(II)Z"⟩
abbrev cX11_many : ByteArray := prog_13_method_44_code
def yX11_many : MethodName := ⟨RX11, "many", "(II)I"⟩
abbrev cX11_log : ByteArray := prog_13_method_45_code
def yX11_log : MethodName := ⟨RX11, "log", "(II)I"⟩
abbrev cX11_logged : ByteArray := prog_13_method_46_code
def yX11_logged : MethodName := ⟨RX11, "logged", "(I)I"⟩
abbrev cX11_shipAgainst : ByteArray := prog_13_method_47_code
def yX11_shipAgainst : MethodName := ⟨RX11, "shipAgainst", "(I)I"⟩
abbrev cX11_difference : ByteArray := prog_13_method_48_code
def yX11_difference : MethodName := ⟨RX11, "difference", "(II)I"⟩
abbrev cX11_differences : ByteArray := prog_13_method_49_code
def yX11_differences : MethodName := ⟨RX11, "differences", "(I)I"⟩
abbrev cX11_unlit : ByteArray := prog_13_method_50_code
def yX11_unlit : MethodName := ⟨RX11, "unlit", "()I"⟩
abbrev cX11_became : ByteArray := prog_13_method_51_code
def yX11_became : MethodName := ⟨RX11, "became", "(I)I"⟩
abbrev cX11_would : ByteArray := prog_13_method_52_code
def yX11_would : MethodName := ⟨RX11, "would", "(II)I"⟩
abbrev cX11_fails : ByteArray := prog_13_method_53_code
def yX11_fails : MethodName := ⟨RX11, "fails", "()I"⟩
abbrev cX11_comes : ByteArray := prog_13_method_54_code
def yX11_comes : MethodName := ⟨RX11, "comes", "()I"⟩
abbrev cX11_unlitBy : ByteArray := prog_13_method_55_code
def yX11_unlitBy : MethodName := ⟨RX11, "unlitBy", "(II)I"⟩
abbrev cX11_oil : ByteArray := prog_13_method_56_code
def yX11_oil : MethodName := ⟨RX11, "oil", "(I)I"⟩
abbrev cX11_better : ByteArray := prog_13_method_57_code
def yX11_better : MethodName := ⟨RX11, "better", "(II)I"⟩
abbrev cX11_keepsPlan : ByteArray := prog_13_method_58_code
def yX11_keepsPlan : MethodName := ⟨RX11, "keepsPlan", "(Z)V"⟩
abbrev cX11_other : ByteArray := prog_13_method_59_code
def yX11_other : MethodName := ⟨RX11, "other", "(II)I"⟩
abbrev cX11_idle : ByteArray := prog_13_method_60_code
def yX11_idle : MethodName := ⟨RX11, "idle", "(I)I"⟩
abbrev cX11_isShelf : ByteArray := prog_13_method_61_code
def yX11_isShelf : MethodName := ⟨RX11, "isShelf", "(I)Z"⟩
abbrev cX11_row : ByteArray := prog_13_method_62_code
def yX11_row : MethodName := ⟨RX11, "row", "(III)I"⟩
abbrev cX11_lowest : ByteArray := prog_13_method_63_code
def yX11_lowest : MethodName := ⟨RX11, "lowest", "(IJ)J"⟩
abbrev cX11_set : ByteArray := prog_13_method_64_code
def yX11_set : MethodName := ⟨RX11, "set", "(IIJ)I"⟩
abbrev cX11_copy : ByteArray := prog_13_method_65_code
def yX11_copy : MethodName := ⟨RX11, "copy", "(IIIII)I"⟩
abbrev cX11_element : ByteArray := prog_13_method_66_code
def yX11_element : MethodName := ⟨RX11, "element", "(II)J"⟩
abbrev cX11_holds : ByteArray := prog_13_method_67_code
def yX11_holds : MethodName := ⟨RX11, "holds", "(I)I"⟩
abbrev cX11_show : ByteArray := prog_13_method_68_code
def yX11_show : MethodName := ⟨RX11, "show", "(II)I"⟩
abbrev cX11_says : ByteArray := prog_13_method_69_code
def yX11_says : MethodName := ⟨RX11, "says", "(II)I"⟩
abbrev cX11_judge : ByteArray := prog_13_method_70_code
def yX11_judge : MethodName := ⟨RX11, "judge", "(III)I"⟩
abbrev cX11_draw : ByteArray := prog_13_method_71_code
def yX11_draw : MethodName := ⟨RX11, "draw", "(I)I"⟩
abbrev cX11_days : ByteArray := prog_13_method_72_code
def yX11_days : MethodName := ⟨RX11, "days", "(I)I"⟩
abbrev cX11_seed : ByteArray := prog_13_method_73_code
def yX11_seed : MethodName := ⟨RX11, "seed", "(I)I"⟩
abbrev cX11_image : ByteArray := prog_13_method_74_code
def yX11_image : MethodName := ⟨RX11, "image", "()I"⟩
abbrev cX11_back : ByteArray := prog_13_method_75_code
def yX11_back : MethodName := ⟨RX11, "back", "()I"⟩
abbrev cX11_held : ByteArray := prog_13_method_76_code
def yX11_held : MethodName := ⟨RX11, "held", "()I"⟩
abbrev cX11_status : ByteArray := prog_13_method_77_code
def yX11_status : MethodName := ⟨RX11, "status", "(I)I"⟩
def RJ9 : String := "java/lang/Math"
def TJ9 : u_T := fun k => match k with
  | _ => ("", "", "", false)
def tyJ9 : Nat → FieldType := fun k => match k with
  | _ => .int
abbrev wsJ90 : List Cond := u_ws RJ9 TJ9 0
theorem nmJ9 : ∀ a, a < 0 → ∀ b, b < 0 → a ≠ b → (TJ9 a).2.1 ≠ (TJ9 b).2.1 := by decide +kernel
theorem tyJ9_ok : ∀ k, k < 0 → parseFieldDescriptor (TJ9 k).2.2.1 = some (tyJ9 k) := by decide +kernel
abbrev cJ9_floorMod_7cf53 : ByteArray := prog_14_method_50_code
def yJ9_floorMod_7cf53 : MethodName := ⟨RJ9, "floorMod", "(II)I"⟩
abbrev cJ9_max_7cf53 : ByteArray := prog_14_method_65_code
def yJ9_max_7cf53 : MethodName := ⟨RJ9, "max", "(II)I"⟩
abbrev cJ9_min_7cf53 : ByteArray := prog_14_method_69_code
def yJ9_min_7cf53 : MethodName := ⟨RJ9, "min", "(II)I"⟩
def RJ10 : String := "java/lang/System"
def TJ10 : u_T := fun k => match k with
  | _ => ("", "", "", false)
def tyJ10 : Nat → FieldType := fun k => match k with
  | _ => .int
abbrev wsJ100 : List Cond := u_ws RJ10 TJ10 0
theorem nmJ10 : ∀ a, a < 0 → ∀ b, b < 0 → a ≠ b → (TJ10 a).2.1 ≠ (TJ10 b).2.1 := by decide +kernel
theorem tyJ10_ok : ∀ k, k < 0 → parseFieldDescriptor (TJ10 k).2.2.1 = some (tyJ10 k) := by decide +kernel
def RJ7 : String := "java/util/Arrays"
def TJ7 : u_T := fun k => match k with
  | _ => ("", "", "", false)
def tyJ7 : Nat → FieldType := fun k => match k with
  | _ => .int
abbrev wsJ70 : List Cond := u_ws RJ7 TJ7 0
theorem nmJ7 : ∀ a, a < 0 → ∀ b, b < 0 → a ≠ b → (TJ7 a).2.1 ≠ (TJ7 b).2.1 := by decide +kernel
theorem tyJ7_ok : ∀ k, k < 0 → parseFieldDescriptor (TJ7 k).2.2.1 = some (tyJ7 k) := by decide +kernel
abbrev cJ7_fill_d0a16 : ByteArray := prog_16_method_101_code
def yJ7_fill_d0a16 : MethodName := ⟨RJ7, "fill", "([JJ)V"⟩
abbrev cJ7_fill_53178 : ByteArray := prog_16_method_103_code
def yJ7_fill_53178 : MethodName := ⟨RJ7, "fill", "([II)V"⟩
def RL : String := "KeptLightLaw"
abbrev cL_law : ByteArray := code
def yL_law : MethodName := ⟨RL, "law", "([I)Z"⟩
abbrev vwCl : List vw_C := [(RX0, TX0, 5), (RX1, TX1, 6), (RX2, TX2, 6), (RX3, TX3, 5), (RX4, TX4, 3), (RX5, TX5, 4), (RX6, TX6, 17), (RX7, TX7, 2), (RX8, TX8, 6), (RX9, TX9, 6), (RX10, TX10, 8), (RX11, TX11, 21)]
set_option maxRecDepth 20000 in
theorem kx_in0 : ∀ w ∈ wsX00, w ∈ lw_tbl := by decide +kernel
set_option maxRecDepth 20000 in
theorem kx_in1 : ∀ w ∈ wsX10, w ∈ lw_tbl := by decide +kernel
set_option maxRecDepth 20000 in
theorem kx_in2 : ∀ w ∈ wsX20, w ∈ lw_tbl := by decide +kernel
set_option maxRecDepth 20000 in
theorem kx_in3 : ∀ w ∈ wsX30, w ∈ lw_tbl := by decide +kernel
set_option maxRecDepth 20000 in
theorem kx_in4 : ∀ w ∈ wsX40, w ∈ lw_tbl := by decide +kernel
set_option maxRecDepth 20000 in
theorem kx_in5 : ∀ w ∈ wsX50, w ∈ lw_tbl := by decide +kernel
set_option maxRecDepth 20000 in
theorem kx_in6 : ∀ w ∈ wsX60, w ∈ lw_tbl := by decide +kernel
set_option maxRecDepth 20000 in
theorem kx_in7 : ∀ w ∈ wsX70, w ∈ lw_tbl := by decide +kernel
set_option maxRecDepth 20000 in
theorem kx_in8 : ∀ w ∈ wsX80, w ∈ lw_tbl := by decide +kernel
set_option maxRecDepth 20000 in
theorem kx_in9 : ∀ w ∈ wsX90, w ∈ lw_tbl := by decide +kernel
set_option maxRecDepth 20000 in
theorem kx_in10 : ∀ w ∈ wsX100, w ∈ lw_tbl := by decide +kernel
set_option maxRecDepth 20000 in
theorem kx_in11 : ∀ w ∈ wsX110, w ∈ lw_tbl := by decide +kernel
abbrev kx_F : Type := Option (Nat × (Nat → Nat))
def kx_cells : List (Nat × Nat) := [(10, 0), (9, 0), (6, 0), (5, 0), (35, 0), (36, 0), (1, 0), (20, 0), (21, 0), (22, 0), (23, 0), (24, 0), (0, 0), (37, 0), (2, 0), (25, 0), (26, 0), (27, 0), (28, 0), (29, 0), (3, 0), (30, 0), (31, 0), (32, 0), (33, 0), (9, 1), (6, 1), (5, 1), (35, 1), (36, 1), (1, 1), (20, 1), (21, 1), (22, 1), (23, 1), (24, 1), (0, 1), (37, 1), (2, 1), (25, 1), (26, 1), (27, 1), (28, 1), (29, 1), (3, 1), (30, 1), (31, 1), (32, 1), (33, 1), (8, 0), (6, 2), (5, 2), (35, 2), (36, 2), (1, 2), (20, 2), (21, 2), (22, 2), (23, 2), (24, 2), (0, 2), (37, 2), (7, 0), (38, 0), (5, 3), (35, 3), (36, 3), (39, 0), (40, 0), (4, 0), (34, 0), (4, 1), (34, 1), (4, 2), (34, 2), (4, 3), (34, 3), (4, 4), (34, 4), (4, 5), (34, 5), (4, 6), (34, 6), (4, 7), (34, 7), (11, 0), (41, 0), (41, 1), (41, 2), (42, 0), (43, 0), (44, 0), (45, 0), (46, 0), (47, 0), (48, 0), (49, 0), (50, 0), (51, 0), (52, 0)]
def kx_kinds : List (Nat × Nat) := [(0, 0), (0, 1), (0, 2), (0, 3), (0, 4), (0, 5), (0, 6), (0, 7), (0, 8), (0, 9), (0, 10), (0, 11), (9, 0), (9, 0), (9, 0), (9, 0), (9, 0), (9, 0), (9, 0), (9, 0), (1, 6), (1, 6), (1, 6), (1, 6), (1, 6), (1, 200), (1, 200), (1, 200), (1, 200), (1, 200), (1, 400), (1, 400), (1, 400), (1, 400), (2, 40), (1, 20), (1, 20), (1, 24), (1, 250), (4, 8), (1, 5), (1, 2509), (1, 5), (1, 250), (1, 40), (3, 200), (3, 200), (3, 200), (1, 24), (1, 8), (1, 8), (2, 320), (1, 12)]
def kx_kind (t : Nat) : Nat × Nat := kx_kinds.getD t (9, 0)
def kx_ftl : List (List kx_F) := [[none, none, none, none, none], [some (20, fun o => o), some (21, fun o => o), some (22, fun o => o), some (23, fun o => o), some (24, fun o => o), none], [some (25, fun o => o), some (26, fun o => o), some (27, fun o => o), some (28, fun o => o), some (29, fun o => o), none], [some (30, fun o => o), some (31, fun o => o), some (32, fun o => o), some (33, fun o => o), none], [some (34, fun o => o), none, none], [some (35, fun o => o), some (36, fun o => o), none, none], [some (5, fun o => o), some (1, fun o => o), some (0, fun o => o), some (37, fun o => o), none, none, none, none, none, none, none, none, none, none, none, none, none], [some (38, fun o => o), none], [some (6, fun _ => 2), none, none, none, none, none], [some (6, fun o => o), some (2, fun o => o), some (3, fun o => o), none, none, none], [some (9, fun _ => 0), some (9, fun _ => 1), some (8, fun _ => 0), some (7, fun _ => 0), some (5, fun _ => 3), some (39, fun _ => 0), some (40, fun _ => 0), none], [some (41, fun _ => 0), some (41, fun _ => 1), some (41, fun _ => 2), none, some (42, fun _ => 0), none, none, none, some (43, fun _ => 0), none, none, some (44, fun _ => 0), none, some (45, fun _ => 0), some (46, fun _ => 0), some (47, fun _ => 0), some (48, fun _ => 0), some (49, fun _ => 0), some (50, fun _ => 0), some (51, fun _ => 0), some (52, fun _ => 0)]]
def kx_fts (c : Nat) : List kx_F := kx_ftl.getD c []
def kx_szl : List Nat := [0, 8, 14, 31, 35, 55, 75, 81, 87, 93, 99, 105, 111, 116, 140, 146, 346, 546, 746, 946, 1146, 1151, 1551, 1951, 2351, 2751, 2757, 2774, 2778, 2798, 2818, 2824, 2830, 2836, 2842, 2848, 2854, 2859, 2883, 2889, 3089, 3289, 3489, 3689, 3889, 3894, 4294, 4694, 5094, 5494, 5500, 5517, 5521, 5541, 5561, 5567, 5573, 5579, 5585, 5591, 5597, 5602, 5626, 5628, 5878, 5882, 5902, 5922, 5930, 5935, 5938, 5978, 5981, 6021, 6024, 6064, 6067, 6107, 6110, 6150, 6153, 6193, 6196, 6236, 6239, 6279, 6300, 8809, 11318, 13827, 13832, 14082, 14122, 14322, 14522, 14722, 14746, 14754, 14762, 15082, 15094]
def kx_sz (k : Nat) : Nat := kx_szl.getD k 15094
abbrev kx_NC : Nat := 100
abbrev kx_tSh : Nat := 4
def kx_nl : List (String × Nat × MethodName × String) := [("KeptLight", 9, { cls := "KeptLight$World", name := "<init>", desc := "()V" }, "KeptLight"), ("KeptLight$Station", 11, { cls := "KeptLight$Sky", name := "<init>", desc := "()V" }, "KeptLight"), ("KeptLight$Station", 20, { cls := "KeptLight$Crew", name := "<init>", desc := "()V" }, "KeptLight"), ("KeptLight$Station", 27, { cls := "KeptLight$Boat", name := "<init>", desc := "()V" }, "KeptLight"), ("KeptLight$World", 20, { cls := "KeptLight$Fleet", name := "<init>", desc := "()V" }, "KeptLight"), ("KeptLight$World", 27, { cls := "KeptLight$LogBook", name := "<init>", desc := "()V" }, "KeptLight"), ("KeptLight", 21, { cls := "KeptLight$Thought", name := "<init>", desc := "()V" }, "KeptLight"), ("KeptLight", 28, { cls := "KeptLight$Tape", name := "<init>", desc := "()V" }, "KeptLight"), ("KeptLight", 35, { cls := "KeptLight$Sky", name := "<init>", desc := "()V" }, "KeptLight"), ("KeptLight", 54, { cls := "KeptLight$Shelf", name := "<init>", desc := "()V" }, "KeptLight"), ("KeptLight$Shelf", 32, { cls := "KeptLight", name := "isWithin", desc := "(III)Z" }, "KeptLight"), ("KeptLight$Tape", 47, { cls := "KeptLight", name := "isWithin", desc := "(III)Z" }, "KeptLight"), ("KeptLight$Station", 89, { cls := "KeptLight", name := "isHourOfDay", desc := "(I)Z" }, "KeptLight"), ("KeptLight$Fleet", 53, { cls := "KeptLight", name := "isWithin", desc := "(III)Z" }, "KeptLight"), ("KeptLight$Fleet", 56, { cls := "KeptLight", name := "isUnder", desc := "(II)Z" }, "KeptLight"), ("KeptLight$World", 92, { cls := "KeptLight", name := "fateIn", desc := "(LKeptLight$Station;I)I" }, "KeptLight"), ("KeptLight$Thought", 81, { cls := "KeptLight", name := "fateIn", desc := "(LKeptLight$Station;I)I" }, "KeptLight")]
def kx_tbl : List Cond := lw_tbl.filter goodWord
end
section
/-! a small machine over numbers alone: its states, its steps; then that the machine follows it -/
abbrev kx_V : Type := Int32 ⊕ Int64 ⊕ Option (Nat × Nat)
abbrev kx_S : Type := (Nat → Nat → Nat → Int32) × (Nat → Nat → Nat → Int64) × Option Nat
abbrev kx_L : Type := List (Option kx_V)
abbrev kx_K : Type := Nat → kx_L → List kx_V → kx_S → Prop
abbrev kx_P : Type := Nat × (Option kx_V → kx_S → Prop)
abbrev kx_T : Type := kx_P → kx_K → kx_L → List kx_V → kx_S → Prop
abbrev kx_i (x : Int32) : kx_V := Sum.inl x
abbrev kx_l (x : Int64) : kx_V := Sum.inr (Sum.inl x)
abbrev kx_r (t o : Nat) : kx_V := Sum.inr (Sum.inr (some (t, o)))
abbrev kx_n : kx_V := Sum.inr (Sum.inr none)
def kx_cnt (S : kx_S) : Nat := match S.2.2 with
  | none => kx_NC
  | some k => k
def kx_ix (t o : Nat) : Nat := kx_cells.idxOf (t, o)
def kx_uA (I : Nat → Nat → Nat → Int32) (t o : Nat) (f : Nat → Int32) : Nat → Nat → Nat → Int32 := fun t2 o2 => if t2 = t ∧ o2 = o then f else I t2 o2
def kx_uL (I : Nat → Nat → Nat → Int64) (t o : Nat) (f : Nat → Int64) : Nat → Nat → Nat → Int64 := fun t2 o2 => if t2 = t ∧ o2 = o then f else I t2 o2
theorem kx_uA_eq (I : Nat → Nat → Nat → Int32) (t o : Nat) (f : Nat → Int32) : kx_uA I t o f t o = f := by simp [kx_uA]
theorem kx_uA_ne (I : Nat → Nat → Nat → Int32) {t o t2 o2 : Nat} (f : Nat → Int32) (h : ¬ (t2 = t ∧ o2 = o)) : kx_uA I t o f t2 o2 = I t2 o2 := by simp [kx_uA, h]
theorem kx_uL_eq (I : Nat → Nat → Nat → Int64) (t o : Nat) (f : Nat → Int64) : kx_uL I t o f t o = f := by simp [kx_uL]
theorem kx_uL_ne (I : Nat → Nat → Nat → Int64) {t o t2 o2 : Nat} (f : Nat → Int64) (h : ¬ (t2 = t ∧ o2 = o)) : kx_uL I t o f t2 o2 = I t2 o2 := by simp [kx_uL, h]
/-- where a place of a cell points -/
def kx_tgt (t o j : Nat) : Option (Nat × Nat) := match kx_kind t with
  | (0, c) => match (kx_fts c)[j]? with
    | some (some f) => some (f.1, f.2 o)
    | _ => none
  | (4, _) => some (kx_tSh, j)
  | _ => none
def kx_rv (ad : Nat → Nat) (S : kx_S) (t o j t2 o2 : Nat) : Value := match S.2.2 with
  | none => .ref (ad (kx_ix t2 o2))
  | some _ => if S.1 t o j = 0 then .null else .ref (ad (kx_ix t2 o2))
def kx_ro (ad : Nat → Nat) (S : kx_S) (t o j t2 o2 : Nat) : Option Nat := match S.2.2 with
  | none => some (ad (kx_ix t2 o2))
  | some _ => if S.1 t o j = 0 then none else some (ad (kx_ix t2 o2))
def kx_sv (ad : Nat → Nat) (S : kx_S) (t o : Nat) (q : kx_F × Nat) : Value := match q.1 with
  | none => .int (S.1 t o q.2)
  | some f => kx_rv ad S t o q.2 f.1 (f.2 o)
abbrev kx_C : Type := ClassId × ClassId × ClassId × ClassId
def kx_tys (C4 : kx_C) : List (ClassId × FieldType) := [(C4.1, .int), (C4.2.1, .long), (C4.2.2.1, .boolean), (C4.2.2.2, .object "KeptLight$Shelf")]
def kx_en (C4 : kx_C) (ad : Nat → Nat) (S : kx_S) (t o : Nat) : va_E := match kx_kind t with
  | (0, c) => .inr (c, (kx_fts c).zipIdx.map (kx_sv ad S t o))
  | (1, n) => .inl (C4.1, n, .inl (S.1 t o))
  | (2, n) => .inl (C4.2.1, n, .inr (.inl (S.2.1 t o)))
  | (3, n) => .inl (C4.2.2.1, n, .inl (S.1 t o))
  | (_, n) => .inl (C4.2.2.2, n, .inr (.inr (.inr (.inr fun j => kx_ro ad S t o j kx_tSh j))))
def kx_ws (C4 : kx_C) (ad : Nat → Nat) (S : kx_S) : va_W := (kx_cells.take (kx_cnt S)).zipIdx.map fun q => (ad q.2, kx_en C4 ad S q.1.1 q.1.2)
def kx_ok (n : Nat) (v : kx_V) : Prop := match v with
  | .inr (.inr (some q)) => kx_ix q.1 q.2 < n ∨ q.1 = 999
  | _ => True
def kx_okl (n : Nat) : List kx_V → Prop
  | [] => True
  | v :: r => kx_ok n v ∧ kx_okl n r
def kx_okL (n : Nat) (L : kx_L) : Prop := ∀ (i : Nat) (v : kx_V), L[i]? = some (some v) → kx_ok n v
def kx_hv (S : kx_S) : Prop := match S.2.2 with
  | none => True
  | some k => k ≤ kx_NC ∧ ∀ t o j t2 o2 : Nat, kx_ix t o < k → kx_tgt t o j = some (t2, o2) → S.1 t o j ≠ 0 → kx_ix t2 o2 < k
def kx_cv (ad : Nat → Nat) (v : kx_V) : Value := match v with
  | .inl x => .int x
  | .inr (.inl x) => .long x
  | .inr (.inr none) => .null
  | .inr (.inr (some q)) => .ref (ad (kx_ix q.1 q.2))
def kx_lg (a : Option kx_V) : Bool := match a with
  | some (.inr (.inl _)) => true
  | _ => false
def kx_st1 : kx_L → Nat → kx_V → kx_L
  | [], _, _ => []
  | _ :: r, 0, v => some v :: r
  | a :: r, n + 1, v => (bif Nat.beq n 0 && kx_lg a then none else a) :: kx_st1 r n v
def kx_st2 : kx_L → Nat → kx_V → kx_L
  | [], _, _ => []
  | [_], 0, v => [some v]
  | _ :: _ :: r, 0, v => some v :: none :: r
  | a :: r, n + 1, v => (bif Nat.beq n 0 && kx_lg a then none else a) :: kx_st2 r n v
def kx_l0 : List kx_V → Nat → kx_L
  | [], n => List.replicate n none
  | .inr (.inl x) :: vs, n => some (.inr (.inl x)) :: none :: kx_l0 vs (n - 2)
  | v :: vs, n => some v :: kx_l0 vs (n - 1)
def kx_has (ad : Nat → Nat) (ls : Array Slot) (nL : Nat) (L : kx_L) : Prop := ls.size = nL ∧ lv_wf ls ∧ ∀ (i : Nat) (v : kx_V), L[i]? = some (some v) → ls[i]? = some (.val (kx_cv ad v))
def kx_lp (ad : Nat → Nat) : Nat → kx_L → List (Nat × Value)
  | _, [] => []
  | i, none :: r => kx_lp ad (i + 1) r
  | i, some v :: r => (i, kx_cv ad v) :: kx_lp ad (i + 1) r
theorem kx_lp_mem (ad : Nat → Nat) (L : kx_L) : ∀ (i : Nat) (q : Nat × Value), q ∈ kx_lp ad i L ↔ ∃ (j : Nat) (v : kx_V), L[j]? = some (some v) ∧ q = (i + j, kx_cv ad v) := by
  induction L with
  | nil => intro i q; simp [kx_lp]
  | cons a r ih =>
    intro i q
    cases a with
    | none =>
      rw [kx_lp, ih]
      constructor
      · rintro ⟨j, v, h, rfl⟩
        exact ⟨j + 1, v, by simpa using h, by rw [Nat.add_assoc, Nat.add_comm 1 j]⟩
      · rintro ⟨j, v, h, rfl⟩
        cases j with
        | zero => simp at h
        | succ j => exact ⟨j, v, by simpa using h, by rw [Nat.add_assoc, Nat.add_comm 1 j]⟩
    | some w =>
      rw [kx_lp, List.mem_cons, ih]
      constructor
      · rintro (rfl | ⟨j, v, h, rfl⟩)
        · exact ⟨0, w, by simp, by simp⟩
        · exact ⟨j + 1, v, by simpa using h, by rw [Nat.add_assoc, Nat.add_comm 1 j]⟩
      · rintro ⟨j, v, h, rfl⟩
        cases j with
        | zero =>
          simp at h
          subst h
          exact Or.inl (by simp)
        | succ j => exact Or.inr ⟨j, v, by simpa using h, by rw [Nat.add_assoc, Nat.add_comm 1 j]⟩
theorem kx_has.lv {ad : Nat → Nat} {ls : Array Slot} {nL : Nat} {L : kx_L} (h : kx_has ad ls nL L) : lv_has ls nL (kx_lp ad 0 L) := ⟨h.1, h.2.1, fun q hq => by
  obtain ⟨j, v, h1, rfl⟩ := (kx_lp_mem ad L 0 q).mp hq
  simpa using h.2.2 j v h1⟩
theorem kx_cat (ad : Nat → Nat) (v : kx_V) : ((kx_cv ad v).category == 2) = kx_lg (some v) := by
  rcases v with x | x | _ | q <;> rfl
theorem kx_st1_get (L : kx_L) : ∀ (i j : Nat) (v w : kx_V), (kx_st1 L i v)[j]? = some (some w) → (j = i ∧ w = v) ∨ (j ≠ i ∧ L[j]? = some (some w) ∧ ¬ (j + 1 = i ∧ kx_lg (some w) = true)) := by
  induction L with
  | nil => intro i j v w h; simp [kx_st1] at h
  | cons a r ih =>
    intro i j v w h
    cases i with
    | zero =>
      rw [kx_st1] at h
      cases j with
      | zero => left; simp at h; exact ⟨rfl, h.symm⟩
      | succ j => right; exact ⟨by omega, by simpa using h, by omega⟩
    | succ n =>
      rw [kx_st1] at h
      cases j with
      | zero =>
        right
        simp only [List.getElem?_cons_zero, Option.some.injEq] at h
        refine ⟨by omega, ?_, ?_⟩
        · cases hb : (Nat.beq n 0 && kx_lg a) with
          | true => rw [hb] at h; cases h
          | false => rw [hb] at h; simpa using h
        · rintro ⟨h1, h2⟩
          have hn : n = 0 := by omega
          subst hn
          cases hb : kx_lg a with
          | true => rw [hb] at h; cases h
          | false =>
            rw [hb] at h
            have h' : a = some w := h
            rw [h', h2] at hb
            cases hb
      | succ j =>
        simp only [List.getElem?_cons_succ] at h
        rcases ih n j v w h with ⟨h1, h2⟩ | ⟨h1, h2, h3⟩
        · left; exact ⟨by omega, h2⟩
        · right; exact ⟨by omega, by simpa using h2, fun q => h3 ⟨by omega, q.2⟩⟩
theorem kx_st2_get (L : kx_L) : ∀ (i j : Nat) (v w : kx_V), (kx_st2 L i v)[j]? = some (some w) → (j = i ∧ w = v) ∨ (j ≠ i ∧ j ≠ i + 1 ∧ L[j]? = some (some w) ∧ ¬ (j + 1 = i ∧ kx_lg (some w) = true)) := by
  induction L with
  | nil => intro i j v w h; simp [kx_st2] at h
  | cons a r ih =>
    intro i j v w h
    cases i with
    | zero =>
      cases r with
      | nil =>
        rw [kx_st2] at h
        cases j with
        | zero => left; simp at h; exact ⟨rfl, h.symm⟩
        | succ j => simp at h
      | cons b r =>
        rw [kx_st2] at h
        cases j with
        | zero => left; simp at h; exact ⟨rfl, h.symm⟩
        | succ j =>
          cases j with
          | zero => simp at h
          | succ j => right; exact ⟨by omega, by omega, by simpa using h, by omega⟩
    | succ n =>
      have e : kx_st2 (a :: r) (n + 1) v = (bif Nat.beq n 0 && kx_lg a then none else a) :: kx_st2 r n v := by
        cases r <;> rfl
      rw [e] at h
      cases j with
      | zero =>
        right
        simp only [List.getElem?_cons_zero, Option.some.injEq] at h
        refine ⟨by omega, by omega, ?_, ?_⟩
        · cases hb : (Nat.beq n 0 && kx_lg a) with
          | true => rw [hb] at h; cases h
          | false => rw [hb] at h; simpa using h
        · rintro ⟨h1, h2⟩
          have hn : n = 0 := by omega
          subst hn
          cases hb : kx_lg a with
          | true => rw [hb] at h; cases h
          | false =>
            rw [hb] at h
            have h' : a = some w := h
            rw [h', h2] at hb
            cases hb
      | succ j =>
        simp only [List.getElem?_cons_succ] at h
        rcases ih n j v w h with ⟨h1, h2⟩ | ⟨h1, h2, h3, h4⟩
        · left; exact ⟨by omega, h2⟩
        · right; exact ⟨by omega, by omega, by simpa using h3, fun q => h4 ⟨by omega, q.2⟩⟩
theorem kx_has.st1 {ad : Nat → Nat} {ls' : Array Slot} {nL i : Nat} {v : kx_V} {L : kx_L} (h : lv_has ls' nL ((i, kx_cv ad v) :: (kx_lp ad 0 L).filter (fun q => !(q.1 == i) && !(q.1 + 1 == i && q.2.category == 2)))) : kx_has ad ls' nL (kx_st1 L i v) := by
  refine ⟨h.1, h.2.1, fun j w hj => ?_⟩
  rcases kx_st1_get L i j v w hj with ⟨rfl, rfl⟩ | ⟨h1, h2, h3⟩
  · exact h.2.2 _ List.mem_cons_self
  · refine h.2.2 (j, kx_cv ad w) (List.mem_cons_of_mem _ (List.mem_filter.mpr ⟨(kx_lp_mem ad L 0 _).mpr ⟨j, w, h2, by simp⟩, ?_⟩))
    simp only [kx_cat]
    cases hg : kx_lg (some w) with
    | false => simp [h1]
    | true => rw [hg] at h3; simp at h3; simp [h1, h3]
theorem kx_has.st2 {ad : Nat → Nat} {ls' : Array Slot} {nL i : Nat} {v : kx_V} {L : kx_L} (h : lv_has ls' nL ((i, kx_cv ad v) :: (kx_lp ad 0 L).filter (fun q => !(q.1 == i) && (!(q.1 == i + 1) && !(q.1 + 1 == i && q.2.category == 2))))) : kx_has ad ls' nL (kx_st2 L i v) := by
  refine ⟨h.1, h.2.1, fun j w hj => ?_⟩
  rcases kx_st2_get L i j v w hj with ⟨rfl, rfl⟩ | ⟨h1, h1', h2, h3⟩
  · exact h.2.2 _ List.mem_cons_self
  · refine h.2.2 (j, kx_cv ad w) (List.mem_cons_of_mem _ (List.mem_filter.mpr ⟨(kx_lp_mem ad L 0 _).mpr ⟨j, w, h2, by simp⟩, ?_⟩))
    simp only [kx_cat]
    cases hg : kx_lg (some w) with
    | false => simp [h1, h1']
    | true => rw [hg] at h3; simp at h3; simp [h1, h1', h3]
theorem kx_okL.st1 {n i : Nat} {v : kx_V} {L : kx_L} (h : kx_okL n L) (hv : kx_ok n v) : kx_okL n (kx_st1 L i v) := by
  intro j w hj
  rcases kx_st1_get L i j v w hj with ⟨rfl, rfl⟩ | ⟨h1, h2, h3⟩
  · exact hv
  · exact h j w h2
theorem kx_okL.st2 {n i : Nat} {v : kx_V} {L : kx_L} (h : kx_okL n L) (hv : kx_ok n v) : kx_okL n (kx_st2 L i v) := by
  intro j w hj
  rcases kx_st2_get L i j v w hj with ⟨rfl, rfl⟩ | ⟨h1, h1', h2, h3⟩
  · exact hv
  · exact h j w h2
theorem kx_lg_cat (ad : Nat → Nat) {v : kx_V} (h : kx_lg (some v) = true) : (kx_cv ad v).category = 2 := by
  have e := kx_cat ad v
  rw [h] at e
  simpa using e
theorem kx_nlg_cat (ad : Nat → Nat) {v : kx_V} (h : kx_lg (some v) = false) : (kx_cv ad v).category = 1 := by
  rcases v with x | x | _ | q <;> first | rfl | cases h
theorem kx_l0_get (ad : Nat → Nat) (av : List kx_V) : ∀ (n i j : Nat) (w : kx_V), (kx_l0 av n)[j]? = some (some w) → (i + j, kx_cv ad w) ∈ lv_args i (av.map (kx_cv ad)) ∧ w ∈ av := by
  induction av with
  | nil =>
    intro n i j w h
    rw [kx_l0, List.getElem?_replicate] at h
    split at h <;> cases h
  | cons a r ih =>
    intro n i j w h
    rcases a with x | x | z
    · rw [kx_l0] at h
      · cases j with
        | zero => simp at h; subst h; exact ⟨List.mem_cons_self, List.mem_cons_self⟩
        | succ j =>
          have := ih (n - 1) (i + 1) j w (by simpa using h)
          exact ⟨List.mem_cons_of_mem _ (by have e := this.1; rw [Nat.add_assoc, Nat.add_comm 1 j] at e; exact e), List.mem_cons_of_mem _ this.2⟩
      · intro y hy; cases hy
    · rw [kx_l0] at h
      cases j with
      | zero => simp at h; subst h; exact ⟨List.mem_cons_self, List.mem_cons_self⟩
      | succ j =>
        cases j with
        | zero => simp at h
        | succ j =>
          have := ih (n - 2) (i + 2) j w (by simpa using h)
          exact ⟨List.mem_cons_of_mem _ (by have e := this.1; rw [Nat.add_assoc, Nat.add_comm 2 j] at e; exact e), List.mem_cons_of_mem _ this.2⟩
    · rw [kx_l0] at h
      · cases j with
        | zero => simp at h; subst h; exact ⟨List.mem_cons_self, List.mem_cons_self⟩
        | succ j =>
          have := ih (n - 1) (i + 1) j w (by simpa using h)
          refine ⟨List.mem_cons_of_mem _ ?_, List.mem_cons_of_mem _ this.2⟩
          have e := this.1
          rw [Nat.add_assoc, Nat.add_comm 1 j] at e
          rcases z with _ | q <;> exact e
      · intro y hy; cases hy
theorem kx_okl_mem {n : Nat} {av : List kx_V} (h : kx_okl n av) : ∀ v ∈ av, kx_ok n v := by
  induction av with
  | nil => intro v hv; cases hv
  | cons a r ih =>
    intro v hv
    rcases List.mem_cons.mp hv with rfl | hv
    · exact h.1
    · exact ih h.2 v hv
theorem kx_okl_of {n : Nat} {av : List kx_V} (h : ∀ v ∈ av, kx_ok n v) : kx_okl n av := by
  induction av with
  | nil => exact trivial
  | cons a r ih => exact ⟨h a List.mem_cons_self, ih fun v hv => h v (List.mem_cons_of_mem _ hv)⟩
/-! runs -/
def kx_Run (tb : Nat → kx_T) (P : kx_P) : kx_K := fun pc L st S => ∀ X : kx_K, (∀ (K : kx_K) (pc : Nat) (L : kx_L) (st : List kx_V) (S : kx_S), (∀ pc L st S, K pc L st S → X pc L st S) → tb pc P K L st S → X pc L st S) → X pc L st S
theorem kx_go {tb : Nat → kx_T} {P : kx_P} {K : kx_K} {pc : Nat} {L : kx_L} {st : List kx_V} {S : kx_S} (hK : ∀ pc L st S, K pc L st S → kx_Run tb P pc L st S) (h : tb pc P K L st S) : kx_Run tb P pc L st S := fun X hX => hX K pc L st S (fun pc L st S h2 => hK pc L st S h2 X hX) h
def kx_wk (tb : Nat → kx_T) (P : kx_P) (cuts : List Nat) : Nat → kx_K
  | 0 => kx_Run tb P
  | n + 1 => fun pc L st S => bif cuts.any (Nat.beq pc) then kx_Run tb P pc L st S else tb pc P (kx_wk tb P cuts n) L st S
theorem kx_wk_run {tb : Nat → kx_T} {P : kx_P} {cuts : List Nat} : ∀ (n pc : Nat) (L : kx_L) (st : List kx_V) (S : kx_S), kx_wk tb P cuts n pc L st S → kx_Run tb P pc L st S := by
  intro n
  induction n with
  | zero => exact fun pc L st S h => h
  | succ n ih =>
    intro pc L st S h
    rw [kx_wk] at h
    cases hb : cuts.any (Nat.beq pc) with
    | true => rw [hb] at h; exact h
    | false => rw [hb] at h; exact kx_go ih h
theorem kx_start {tb : Nat → kx_T} {P : kx_P} (cuts : List Nat) (n : Nat) {pc : Nat} {L : kx_L} {st : List kx_V} {S : kx_S} (h : tb pc P (kx_wk tb P cuts n) L st S) : kx_Run tb P pc L st S := kx_go (kx_wk_run n) h
def kx_Snd (W : kx_K) (P : kx_P) (pc : Nat) (t : kx_T) : Prop := ∀ K : kx_K, (∀ pc L st S, K pc L st S → W pc L st S) → ∀ L st S, t P K L st S → W pc L st S
theorem kx_sound {tb : Nat → kx_T} {W : kx_K} {P : kx_P} (h : ∀ pc, kx_Snd W P pc (tb pc)) {pc : Nat} {L : kx_L} {st : List kx_V} {S : kx_S} (hr : kx_Run tb P pc L st S) : W pc L st S := hr W fun K pc L st S hK ht => h pc K hK L st S ht
def kx_no : kx_T := fun _ _ _ _ _ => False
theorem kx_sl {W : kx_K} {P : kx_P} {p0 : Nat} {t : kx_T} (h : kx_Snd W P p0 t) : ∀ pc, kx_Snd W P pc (bif Nat.beq pc p0 then t else kx_no) := by
  intro pc
  cases hb : Nat.beq pc p0 with
  | true => rw [Nat.eq_of_beq_eq_true hb]; exact h
  | false => exact fun K hK L st S ht => ht.elim
theorem kx_sb {W : kx_K} {P : kx_P} {k : Nat} {a b : Nat → kx_T} (ha : ∀ pc, kx_Snd W P pc (a pc)) (hb : ∀ pc, kx_Snd W P pc (b pc)) : ∀ pc, kx_Snd W P pc (bif Nat.blt pc k then a pc else b pc) := by
  intro pc
  cases h : Nat.blt pc k with
  | true => exact ha pc
  | false => exact hb pc
end
section
theorem kx_cells_len : kx_cells.length = kx_NC := by decide +kernel
theorem kx_cells_nd : kx_cells.Nodup := by decide +kernel
theorem kx_ix_at {t o : Nat} (h : kx_ix t o < kx_NC) : kx_cells[kx_ix t o]? = some (t, o) := by
  have h1 : kx_cells.idxOf (t, o) < kx_cells.length := by rw [kx_cells_len]; exact h
  have h2 := List.getElem_idxOf h1
  rw [List.getElem?_eq_getElem (by exact h1)]
  exact congrArg some h2
theorem kx_ix_of {t o k : Nat} (h : kx_cells[k]? = some (t, o)) : kx_ix t o = k := by
  obtain ⟨hk, he⟩ := List.getElem?_eq_some_iff.mp h
  have h2 := List.Nodup.idxOf_getElem kx_cells_nd k hk
  rw [he] at h2
  exact h2
theorem kx_ws_get {C4 : kx_C} {ad : Nat → Nat} {S : kx_S} {k : Nat} {x : Nat × va_E} (h : (kx_ws C4 ad S)[k]? = some x) : k < kx_cnt S ∧ ∃ t o, kx_cells[k]? = some (t, o) ∧ x = (ad k, kx_en C4 ad S t o) := by
  unfold kx_ws at h
  rw [List.getElem?_map, List.getElem?_zipIdx, Option.map_eq_some_iff] at h
  obtain ⟨q, h1, rfl⟩ := h
  rw [Option.map_eq_some_iff] at h1
  obtain ⟨⟨t, o⟩, h2, rfl⟩ := h1
  rw [List.getElem?_take] at h2
  split at h2
  next hk => exact ⟨hk, t, o, h2, by simp⟩
  next => cases h2
theorem kx_ws_k {C4 : kx_C} {ad : Nat → Nat} {S : kx_S} {k t o : Nat} (hk : k < kx_cnt S) (h : kx_cells[k]? = some (t, o)) : (kx_ws C4 ad S)[k]? = some (ad k, kx_en C4 ad S t o) := by
  unfold kx_ws
  rw [List.getElem?_map, List.getElem?_zipIdx, List.getElem?_take, if_pos hk, h]
  simp
theorem kx_ws_at {C4 : kx_C} {ad : Nat → Nat} {S : kx_S} {t o : Nat} (h : kx_ix t o < kx_cnt S) (hn : kx_cnt S ≤ kx_NC) : (kx_ws C4 ad S)[kx_ix t o]? = some (ad (kx_ix t o), kx_en C4 ad S t o) :=
  kx_ws_k h (kx_ix_at (Nat.lt_of_lt_of_le h hn))
theorem kx_ws_len {C4 : kx_C} {ad : Nat → Nat} {S : kx_S} (hn : kx_cnt S ≤ kx_NC) : (kx_ws C4 ad S).length = kx_cnt S := by
  simp [kx_ws, kx_cells_len, hn]
/-- one cell changes -/
theorem kx_ws_set {C4 : kx_C} {ad : Nat → Nat} {S S' : kx_S} {t o : Nat} (h : kx_ix t o < kx_cnt S) (hn : kx_cnt S ≤ kx_NC) (hc : kx_cnt S' = kx_cnt S)
    (ho : ∀ t2 o2, ¬ (t2 = t ∧ o2 = o) → kx_en C4 ad S' t2 o2 = kx_en C4 ad S t2 o2) : (kx_ws C4 ad S).set (kx_ix t o) (ad (kx_ix t o), kx_en C4 ad S' t o) = kx_ws C4 ad S' := by
  apply List.ext_getElem?
  intro k
  rw [List.getElem?_set]
  by_cases hk : kx_ix t o = k
  · rw [if_pos hk, if_pos (by rw [kx_ws_len hn]; exact h)]
    subst hk
    exact (kx_ws_at (by rw [hc]; exact h) (by rw [hc]; exact hn)).symm
  · rw [if_neg hk]
    by_cases hkc : k < kx_cnt S
    · have hl : k < kx_cells.length := by rw [kx_cells_len]; omega
      obtain ⟨⟨t2, o2⟩, hq⟩ : ∃ q, kx_cells[k]? = some q := ⟨_, List.getElem?_eq_getElem hl⟩
      rw [kx_ws_k hkc hq, kx_ws_k (by rw [hc]; exact hkc) hq, ho t2 o2 (fun e => hk (by rw [← e.1, ← e.2]; exact kx_ix_of hq))]
    · rw [List.getElem?_eq_none (by rw [kx_ws_len hn]; omega), List.getElem?_eq_none (by rw [kx_ws_len (by rw [hc]; exact hn), hc]; omega)]
theorem kx_en_o {C4 : kx_C} {ad : Nat → Nat} {S : kx_S} {t o c : Nat} (h : kx_kind t = (0, c)) : kx_en C4 ad S t o = .inr (c, (kx_fts c).zipIdx.map (kx_sv ad S t o)) := by unfold kx_en; rw [h]; rfl
theorem kx_en_i {C4 : kx_C} {ad : Nat → Nat} {S : kx_S} {t o n : Nat} (h : kx_kind t = (1, n)) : kx_en C4 ad S t o = .inl (C4.1, n, .inl (S.1 t o)) := by unfold kx_en; rw [h]; rfl
theorem kx_en_l {C4 : kx_C} {ad : Nat → Nat} {S : kx_S} {t o n : Nat} (h : kx_kind t = (2, n)) : kx_en C4 ad S t o = .inl (C4.2.1, n, .inr (.inl (S.2.1 t o))) := by unfold kx_en; rw [h]; rfl
theorem kx_en_z {C4 : kx_C} {ad : Nat → Nat} {S : kx_S} {t o n : Nat} (h : kx_kind t = (3, n)) : kx_en C4 ad S t o = .inl (C4.2.2.1, n, .inl (S.1 t o)) := by unfold kx_en; rw [h]; rfl
theorem kx_en_r {C4 : kx_C} {ad : Nat → Nat} {S : kx_S} {t o n : Nat} (h : kx_kind t = (4, n)) : kx_en C4 ad S t o = .inl (C4.2.2.2, n, .inr (.inr (.inr (.inr fun j => kx_ro ad S t o j kx_tSh j)))) := by unfold kx_en; rw [h]; rfl
/-- what a cell is depends on its own numbers alone -/
theorem kx_en_same {C4 : kx_C} {ad : Nat → Nat} {S S' : kx_S} {t o : Nat} (h1 : S'.1 t o = S.1 t o) (h2 : S'.2.1 t o = S.2.1 t o) (h3 : S'.2.2 = S.2.2) : kx_en C4 ad S' t o = kx_en C4 ad S t o := by
  have e : kx_sv ad S' t o = kx_sv ad S t o := by
    funext q
    unfold kx_sv kx_rv
    rw [h1, h3]
  have e2 : (fun j => kx_ro ad S' t o j kx_tSh j) = (fun j => kx_ro ad S t o j kx_tSh j) := by
    funext j
    unfold kx_ro
    rw [h1, h3]
  unfold kx_en
  rw [e, e2, h1, h2]
theorem kx_fs_get {ad : Nat → Nat} {S : kx_S} {t o c j : Nat} {f : kx_F} (h : (kx_fts c)[j]? = some f) : ((kx_fts c).zipIdx.map (kx_sv ad S t o))[j]? = some (kx_sv ad S t o (f, j)) := by
  rw [List.getElem?_map, List.getElem?_zipIdx, h]
  simp
theorem kx_fs_len {ad : Nat → Nat} {S : kx_S} {t o c : Nat} : ((kx_fts c).zipIdx.map (kx_sv ad S t o)).length = (kx_fts c).length := by simp
theorem kx_fs_set {ad : Nat → Nat} {S S' : kx_S} {t o c j : Nat} {f : kx_F} {v : Value} (h : (kx_fts c)[j]? = some f) (hv : kx_sv ad S' t o (f, j) = v) (h3 : S'.2.2 = S.2.2) (ho : ∀ i, i ≠ j → S'.1 t o i = S.1 t o i) :
    ((kx_fts c).zipIdx.map (kx_sv ad S t o)).set j v = (kx_fts c).zipIdx.map (kx_sv ad S' t o) := by
  have hl : j < (kx_fts c).length := (List.getElem?_eq_some_iff.mp h).1
  apply List.ext_getElem?
  intro k
  rw [List.getElem?_set]
  by_cases hk : j = k
  · subst hk
    rw [if_pos rfl, if_pos (by rw [kx_fs_len]; exact hl), kx_fs_get h, hv]
  · rw [if_neg hk]
    by_cases hkl : k < (kx_fts c).length
    · have hg := List.getElem?_eq_getElem hkl
      rw [kx_fs_get hg, kx_fs_get hg]
      unfold kx_sv kx_rv
      dsimp only
      rw [h3, ho k (fun e => hk e.symm)]
    · rw [List.getElem?_eq_none (by rw [kx_fs_len]; omega), List.getElem?_eq_none (by rw [kx_fs_len]; omega)]
/-- the closed world: what its fields point to is there -/
theorem kx_closed : ∀ q ∈ kx_cells, ∀ f ∈ (if (kx_kind q.1).1 = 0 then kx_fts (kx_kind q.1).2 else []), ∀ g ∈ f, kx_ix g.1 (g.2 q.2) < kx_NC := by decide +kernel
theorem kx_closed_r : ∀ j, j < 8 → kx_ix kx_tSh j < kx_NC := by decide +kernel
def kx_agree (n : Nat) (ad0 ad : Nat → Nat) : Prop := ∀ k, k < n ∨ k = kx_NC → ad k = ad0 k
section KXW
variable (p : Program) (l : Launch) (e : Env) (R : Room) (s : State) (m : MethodId) (args : Array Value) (below : List Frame) (meth : Method) (c : Code) (Q : State → Prop) (D : va_G) (C4 : kx_C) (A : Nat → Prop) (cnt0 : Nat) (ad0 : Nat → Nat) (nL : Nat)
def kx_W (P : kx_P) : kx_K := fun pc L st S => ∀ (ad : Nat → Nat) (H : Heap) (locs : List Loc) (ls : Array Slot), kx_agree cnt0 ad0 ad → cnt0 ≤ kx_cnt S ∧ kx_cnt S ≤ P.1 → kx_hv S → kx_okl (kx_cnt S) st → kx_okL (kx_cnt S) L →
  va_P D vwCl (kx_ws C4 ad S) H → va_D A (kx_ws C4 ad S) → va_S A s.heap H locs → kx_has ad ls nL L →
  W p l e R s m args below meth c H locs (kx_cnt S - cnt0) (kx_sz (kx_cnt S) - kx_sz cnt0) Q (F0 m pc ls (st.map (kx_cv ad)))
end KXW
end
section
section KXS
variable {p : Program} {l : Launch} {e : Env} {R : Room} {s : State} {m : MethodId} {args : Array Value} {below : List Frame} {meth : Method} {c : Code} {Q : State → Prop} {D : va_G} {C4 : kx_C} {A : Nat → Prop} {cnt0 : Nat} {ad0 : Nat → Nat} {nL : Nat} {P : kx_P} {cc : ByteArray} {pc : Nat}
def ki_iadd (n : Nat) : kx_T := fun _ K L st S => match st with
  | .inl y :: .inl x :: r => K n L (.inl (x + y) :: r) S
  | _ => False
theorem ks_iadd (hx : p.tables.exec = Jvm.exec) (hb : c.code = cc) (d : decode cc pc = .ok (.iadd, 1)) : kx_Snd (kx_W p l e R s m args below meth c Q D C4 A cnt0 ad0 nL P) P pc (ki_iadd (pc + 1)) := by
  intro K hK L st S h ad H locs ls ha hc ho hst hL hP hD hS hl
  match st, h, hst with
  | .inl y :: .inl x :: r, h, hst => exact lv_iadd hx hb d (hK _ _ _ _ h ad H locs ls ha hc ho ⟨trivial, hst.2.2⟩ hL hP hD hS hl)
def ki_isub (n : Nat) : kx_T := fun _ K L st S => match st with
  | .inl y :: .inl x :: r => K n L (.inl (x - y) :: r) S
  | _ => False
theorem ks_isub (hx : p.tables.exec = Jvm.exec) (hb : c.code = cc) (d : decode cc pc = .ok (.isub, 1)) : kx_Snd (kx_W p l e R s m args below meth c Q D C4 A cnt0 ad0 nL P) P pc (ki_isub (pc + 1)) := by
  intro K hK L st S h ad H locs ls ha hc ho hst hL hP hD hS hl
  match st, h, hst with
  | .inl y :: .inl x :: r, h, hst => exact lv_isub hx hb d (hK _ _ _ _ h ad H locs ls ha hc ho ⟨trivial, hst.2.2⟩ hL hP hD hS hl)
def ki_imul (n : Nat) : kx_T := fun _ K L st S => match st with
  | .inl y :: .inl x :: r => K n L (.inl (x * y) :: r) S
  | _ => False
theorem ks_imul (hx : p.tables.exec = Jvm.exec) (hb : c.code = cc) (d : decode cc pc = .ok (.imul, 1)) : kx_Snd (kx_W p l e R s m args below meth c Q D C4 A cnt0 ad0 nL P) P pc (ki_imul (pc + 1)) := by
  intro K hK L st S h ad H locs ls ha hc ho hst hL hP hD hS hl
  match st, h, hst with
  | .inl y :: .inl x :: r, h, hst => exact lv_imul hx hb d (hK _ _ _ _ h ad H locs ls ha hc ho ⟨trivial, hst.2.2⟩ hL hP hD hS hl)
def ki_iand (n : Nat) : kx_T := fun _ K L st S => match st with
  | .inl y :: .inl x :: r => K n L (.inl (x &&& y) :: r) S
  | _ => False
theorem ks_iand (hx : p.tables.exec = Jvm.exec) (hb : c.code = cc) (d : decode cc pc = .ok (.iand, 1)) : kx_Snd (kx_W p l e R s m args below meth c Q D C4 A cnt0 ad0 nL P) P pc (ki_iand (pc + 1)) := by
  intro K hK L st S h ad H locs ls ha hc ho hst hL hP hD hS hl
  match st, h, hst with
  | .inl y :: .inl x :: r, h, hst => exact lv_iand hx hb d (hK _ _ _ _ h ad H locs ls ha hc ho ⟨trivial, hst.2.2⟩ hL hP hD hS hl)
def ki_ior (n : Nat) : kx_T := fun _ K L st S => match st with
  | .inl y :: .inl x :: r => K n L (.inl (x ||| y) :: r) S
  | _ => False
theorem ks_ior (hx : p.tables.exec = Jvm.exec) (hb : c.code = cc) (d : decode cc pc = .ok (.ior, 1)) : kx_Snd (kx_W p l e R s m args below meth c Q D C4 A cnt0 ad0 nL P) P pc (ki_ior (pc + 1)) := by
  intro K hK L st S h ad H locs ls ha hc ho hst hL hP hD hS hl
  match st, h, hst with
  | .inl y :: .inl x :: r, h, hst => exact lv_ior hx hb d (hK _ _ _ _ h ad H locs ls ha hc ho ⟨trivial, hst.2.2⟩ hL hP hD hS hl)
def ki_ixor (n : Nat) : kx_T := fun _ K L st S => match st with
  | .inl y :: .inl x :: r => K n L (.inl (x ^^^ y) :: r) S
  | _ => False
theorem ks_ixor (hx : p.tables.exec = Jvm.exec) (hb : c.code = cc) (d : decode cc pc = .ok (.ixor, 1)) : kx_Snd (kx_W p l e R s m args below meth c Q D C4 A cnt0 ad0 nL P) P pc (ki_ixor (pc + 1)) := by
  intro K hK L st S h ad H locs ls ha hc ho hst hL hP hD hS hl
  match st, h, hst with
  | .inl y :: .inl x :: r, h, hst => exact lv_ixor hx hb d (hK _ _ _ _ h ad H locs ls ha hc ho ⟨trivial, hst.2.2⟩ hL hP hD hS hl)
def ki_ishl (n : Nat) : kx_T := fun _ K L st S => match st with
  | .inl y :: .inl x :: r => K n L (.inl (x <<< (y &&& 31)) :: r) S
  | _ => False
theorem ks_ishl (hx : p.tables.exec = Jvm.exec) (hb : c.code = cc) (d : decode cc pc = .ok (.ishl, 1)) : kx_Snd (kx_W p l e R s m args below meth c Q D C4 A cnt0 ad0 nL P) P pc (ki_ishl (pc + 1)) := by
  intro K hK L st S h ad H locs ls ha hc ho hst hL hP hD hS hl
  match st, h, hst with
  | .inl y :: .inl x :: r, h, hst => exact lv_ishl hx hb d (hK _ _ _ _ h ad H locs ls ha hc ho ⟨trivial, hst.2.2⟩ hL hP hD hS hl)
def ki_irem (n : Nat) : kx_T := fun _ K L st S => match st with
  | .inl y :: .inl x :: r => ¬ y = 0 ∧ K n L (.inl (x - x / y * y) :: r) S
  | _ => False
theorem ks_irem (hx : p.tables.exec = Jvm.exec) (hb : c.code = cc) (d : decode cc pc = .ok (.irem, 1)) : kx_Snd (kx_W p l e R s m args below meth c Q D C4 A cnt0 ad0 nL P) P pc (ki_irem (pc + 1)) := by
  intro K hK L st S h ad H locs ls ha hc ho hst hL hP hD hS hl
  match st, h, hst with
  | .inl y :: .inl x :: r, h, hst => exact lv_irem hx hb d h.1 (hK _ _ _ _ h.2 ad H locs ls ha hc ho ⟨trivial, hst.2.2⟩ hL hP hD hS hl)
def ki_idiv (n : Nat) : kx_T := fun _ K L st S => match st with
  | .inl y :: .inl x :: r => ¬ y = 0 ∧ K n L (.inl (x / y) :: r) S
  | _ => False
theorem ks_idiv (hx : p.tables.exec = Jvm.exec) (hb : c.code = cc) (d : decode cc pc = .ok (.idiv, 1)) : kx_Snd (kx_W p l e R s m args below meth c Q D C4 A cnt0 ad0 nL P) P pc (ki_idiv (pc + 1)) := by
  intro K hK L st S h ad H locs ls ha hc ho hst hL hP hD hS hl
  match st, h, hst with
  | .inl y :: .inl x :: r, h, hst => exact lv_idiv hx hb d h.1 (hK _ _ _ _ h.2 ad H locs ls ha hc ho ⟨trivial, hst.2.2⟩ hL hP hD hS hl)
def ki_iushr (n : Nat) : kx_T := fun _ K L st S => match st with
  | .inl y :: .inl x :: r => K n L (.inl ((x.toUInt32 >>> (y.toUInt32 &&& Int32.toUInt32 31)).toInt32) :: r) S
  | _ => False
theorem ks_iushr (hx : p.tables.exec = Jvm.exec) (hb : c.code = cc) (d : decode cc pc = .ok (.iushr, 1)) : kx_Snd (kx_W p l e R s m args below meth c Q D C4 A cnt0 ad0 nL P) P pc (ki_iushr (pc + 1)) := by
  intro K hK L st S h ad H locs ls ha hc ho hst hL hP hD hS hl
  match st, h, hst with
  | .inl y :: .inl x :: r, h, hst => exact lv_iushr hx hb d rfl (hK _ _ _ _ h ad H locs ls ha hc ho ⟨trivial, hst.2.2⟩ hL hP hD hS hl)
def ki_ineg (n : Nat) : kx_T := fun _ K L st S => match st with
  | .inl x :: r => K n L (.inl (-x) :: r) S
  | _ => False
theorem ks_ineg (hx : p.tables.exec = Jvm.exec) (hb : c.code = cc) (d : decode cc pc = .ok (.ineg, 1)) : kx_Snd (kx_W p l e R s m args below meth c Q D C4 A cnt0 ad0 nL P) P pc (ki_ineg (pc + 1)) := by
  intro K hK L st S h ad H locs ls ha hc ho hst hL hP hD hS hl
  match st, h, hst with
  | .inl x :: r, h, hst => exact lv_ineg hx hb d (hK _ _ _ _ h ad H locs ls ha hc ho ⟨trivial, hst.2⟩ hL hP hD hS hl)
def ki_ladd (n : Nat) : kx_T := fun _ K L st S => match st with
  | .inr (.inl y) :: .inr (.inl x) :: r => K n L (.inr (.inl (x + y)) :: r) S
  | _ => False
theorem ks_ladd (hx : p.tables.exec = Jvm.exec) (hb : c.code = cc) (d : decode cc pc = .ok (.ladd, 1)) : kx_Snd (kx_W p l e R s m args below meth c Q D C4 A cnt0 ad0 nL P) P pc (ki_ladd (pc + 1)) := by
  intro K hK L st S h ad H locs ls ha hc ho hst hL hP hD hS hl
  match st, h, hst with
  | .inr (.inl y) :: .inr (.inl x) :: r, h, hst => exact lv_ladd hx hb d (hK _ _ _ _ h ad H locs ls ha hc ho ⟨trivial, hst.2.2⟩ hL hP hD hS hl)
def ki_land (n : Nat) : kx_T := fun _ K L st S => match st with
  | .inr (.inl y) :: .inr (.inl x) :: r => K n L (.inr (.inl (x &&& y)) :: r) S
  | _ => False
theorem ks_land (hx : p.tables.exec = Jvm.exec) (hb : c.code = cc) (d : decode cc pc = .ok (.land, 1)) : kx_Snd (kx_W p l e R s m args below meth c Q D C4 A cnt0 ad0 nL P) P pc (ki_land (pc + 1)) := by
  intro K hK L st S h ad H locs ls ha hc ho hst hL hP hD hS hl
  match st, h, hst with
  | .inr (.inl y) :: .inr (.inl x) :: r, h, hst => exact lv_land hx hb d (hK _ _ _ _ h ad H locs ls ha hc ho ⟨trivial, hst.2.2⟩ hL hP hD hS hl)
def ki_lor (n : Nat) : kx_T := fun _ K L st S => match st with
  | .inr (.inl y) :: .inr (.inl x) :: r => K n L (.inr (.inl (x ||| y)) :: r) S
  | _ => False
theorem ks_lor (hx : p.tables.exec = Jvm.exec) (hb : c.code = cc) (d : decode cc pc = .ok (.lor, 1)) : kx_Snd (kx_W p l e R s m args below meth c Q D C4 A cnt0 ad0 nL P) P pc (ki_lor (pc + 1)) := by
  intro K hK L st S h ad H locs ls ha hc ho hst hL hP hD hS hl
  match st, h, hst with
  | .inr (.inl y) :: .inr (.inl x) :: r, h, hst => exact lv_lor hx hb d (hK _ _ _ _ h ad H locs ls ha hc ho ⟨trivial, hst.2.2⟩ hL hP hD hS hl)
def ki_lshl (n : Nat) : kx_T := fun _ K L st S => match st with
  | .inl y :: .inr (.inl x) :: r => K n L (.inr (.inl (x <<< (y.toInt64 &&& 63))) :: r) S
  | _ => False
theorem ks_lshl (hx : p.tables.exec = Jvm.exec) (hb : c.code = cc) (d : decode cc pc = .ok (.lshl, 1)) : kx_Snd (kx_W p l e R s m args below meth c Q D C4 A cnt0 ad0 nL P) P pc (ki_lshl (pc + 1)) := by
  intro K hK L st S h ad H locs ls ha hc ho hst hL hP hD hS hl
  match st, h, hst with
  | .inl y :: .inr (.inl x) :: r, h, hst => exact lv_lshl hx hb d rfl (hK _ _ _ _ h ad H locs ls ha hc ho ⟨trivial, hst.2.2⟩ hL hP hD hS hl)
def ki_i2l (n : Nat) : kx_T := fun _ K L st S => match st with
  | .inl x :: r => K n L (.inr (.inl x.toInt64) :: r) S
  | _ => False
theorem ks_i2l (hx : p.tables.exec = Jvm.exec) (hb : c.code = cc) (d : decode cc pc = .ok (.i2l, 1)) : kx_Snd (kx_W p l e R s m args below meth c Q D C4 A cnt0 ad0 nL P) P pc (ki_i2l (pc + 1)) := by
  intro K hK L st S h ad H locs ls ha hc ho hst hL hP hD hS hl
  match st, h, hst with
  | .inl x :: r, h, hst => exact lv_i2l hx hb d rfl (hK _ _ _ _ h ad H locs ls ha hc ho ⟨trivial, hst.2⟩ hL hP hD hS hl)
def ki_l2i (n : Nat) : kx_T := fun _ K L st S => match st with
  | .inr (.inl x) :: r => K n L (.inl x.toInt32 :: r) S
  | _ => False
theorem ks_l2i (hx : p.tables.exec = Jvm.exec) (hb : c.code = cc) (d : decode cc pc = .ok (.l2i, 1)) : kx_Snd (kx_W p l e R s m args below meth c Q D C4 A cnt0 ad0 nL P) P pc (ki_l2i (pc + 1)) := by
  intro K hK L st S h ad H locs ls ha hc ho hst hL hP hD hS hl
  match st, h, hst with
  | .inr (.inl x) :: r, h, hst => exact lv_l2i hx hb d rfl (hK _ _ _ _ h ad H locs ls ha hc ho ⟨trivial, hst.2⟩ hL hP hD hS hl)
def ki_i2b (n : Nat) : kx_T := fun _ K L st S => match st with
  | .inl x :: r => K n L (.inl x.toInt8.toInt32 :: r) S
  | _ => False
theorem ks_i2b (hx : p.tables.exec = Jvm.exec) (hb : c.code = cc) (d : decode cc pc = .ok (.i2b, 1)) : kx_Snd (kx_W p l e R s m args below meth c Q D C4 A cnt0 ad0 nL P) P pc (ki_i2b (pc + 1)) := by
  intro K hK L st S h ad H locs ls ha hc ho hst hL hP hD hS hl
  match st, h, hst with
  | .inl x :: r, h, hst => exact lv_i2b hx hb d rfl (hK _ _ _ _ h ad H locs ls ha hc ho ⟨trivial, hst.2⟩ hL hP hD hS hl)
def ki_i2s (n : Nat) : kx_T := fun _ K L st S => match st with
  | .inl x :: r => K n L (.inl x.toInt16.toInt32 :: r) S
  | _ => False
theorem ks_i2s (hx : p.tables.exec = Jvm.exec) (hb : c.code = cc) (d : decode cc pc = .ok (.i2s, 1)) : kx_Snd (kx_W p l e R s m args below meth c Q D C4 A cnt0 ad0 nL P) P pc (ki_i2s (pc + 1)) := by
  intro K hK L st S h ad H locs ls ha hc ho hst hL hP hD hS hl
  match st, h, hst with
  | .inl x :: r, h, hst => exact lv_i2s hx hb d rfl (hK _ _ _ _ h ad H locs ls ha hc ho ⟨trivial, hst.2⟩ hL hP hD hS hl)
def ki_lcmp (n : Nat) : kx_T := fun _ K L st S => match st with
  | .inr (.inl y) :: .inr (.inl x) :: r => K n L (.inl (lg_cmp x y) :: r) S
  | _ => False
theorem ks_lcmp (hx : p.tables.exec = Jvm.exec) (hb : c.code = cc) (d : decode cc pc = .ok (.lcmp, 1)) : kx_Snd (kx_W p l e R s m args below meth c Q D C4 A cnt0 ad0 nL P) P pc (ki_lcmp (pc + 1)) := by
  intro K hK L st S h ad H locs ls ha hc ho hst hL hP hD hS hl
  match st, h, hst with
  | .inr (.inl y) :: .inr (.inl x) :: r, h, hst => exact W.lcmp hx hb d (hK _ _ _ _ h ad H locs ls ha hc ho ⟨trivial, hst.2.2⟩ hL hP hD hS hl)
def ki_ic (v : Int32) (n : Nat) : kx_T := fun _ K L st S => K n L (.inl v :: st) S
theorem ks_iconst (hx : p.tables.exec = Jvm.exec) (hb : c.code = cc) {k : Int} {v : Int32} (hv : Int32.ofInt k = v) (d : decode cc pc = .ok (.iconst k, 1)) : kx_Snd (kx_W p l e R s m args below meth c Q D C4 A cnt0 ad0 nL P) P pc (ki_ic v (pc + 1)) := by
  intro K hK L st S h ad H locs ls ha hc ho hst hL hP hD hS hl
  exact lv_iconst hx hb d hv (hK _ _ _ _ h ad H locs ls ha hc ho ⟨trivial, hst⟩ hL hP hD hS hl)
theorem ks_bipush (hx : p.tables.exec = Jvm.exec) (hb : c.code = cc) {k : Int} {v : Int32} (hv : (Int8.ofInt k).toInt32 = v) (d : decode cc pc = .ok (.bipush k, 2)) : kx_Snd (kx_W p l e R s m args below meth c Q D C4 A cnt0 ad0 nL P) P pc (ki_ic v (pc + 2)) := by
  intro K hK L st S h ad H locs ls ha hc ho hst hL hP hD hS hl
  exact lv_bipush hx hb d hv (hK _ _ _ _ h ad H locs ls ha hc ho ⟨trivial, hst⟩ hL hP hD hS hl)
theorem ks_sipush (hx : p.tables.exec = Jvm.exec) (hb : c.code = cc) {k : Int} {v : Int32} (hv : (Int16.ofInt k).toInt32 = v) (d : decode cc pc = .ok (.sipush k, 3)) : kx_Snd (kx_W p l e R s m args below meth c Q D C4 A cnt0 ad0 nL P) P pc (ki_ic v (pc + 3)) := by
  intro K hK L st S h ad H locs ls ha hc ho hst hL hP hD hS hl
  exact lv_sipush hx hb d hv (hK _ _ _ _ h ad H locs ls ha hc ho ⟨trivial, hst⟩ hL hP hD hS hl)
theorem ks_ldc (hx : p.tables.exec = Jvm.exec) (hb : c.code = cc) {own : String} {index : Nat} {v : Int32} (hown : s.vm.findClass own = some m.cls) (hk : (Jvm.Cond.constant own index v).before args s = true) (d : decode cc pc = .ok (.ldc index, 2)) : kx_Snd (kx_W p l e R s m args below meth c Q D C4 A cnt0 ad0 nL P) P pc (ki_ic v (pc + 2)) := by
  intro K hK L st S h ad H locs ls ha hc ho hst hL hP hD hS hl
  exact lv_ldc hx hb hown hk d (hK _ _ _ _ h ad H locs ls ha hc ho ⟨trivial, hst⟩ hL hP hD hS hl)
def ki_lc (v : Int64) (n : Nat) : kx_T := fun _ K L st S => K n L (.inr (.inl v) :: st) S
theorem ks_lconst (hx : p.tables.exec = Jvm.exec) (hb : c.code = cc) {k : Fin 2} {v : Int64} (hv : Int64.ofNat (k : Nat) = v) (d : decode cc pc = .ok (.lconst k, 1)) : kx_Snd (kx_W p l e R s m args below meth c Q D C4 A cnt0 ad0 nL P) P pc (ki_lc v (pc + 1)) := by
  intro K hK L st S h ad H locs ls ha hc ho hst hL hP hD hS hl
  exact lv_lconst hx hb d hv (hK _ _ _ _ h ad H locs ls ha hc ho ⟨trivial, hst⟩ hL hP hD hS hl)
theorem ks_ldc2 (hx : p.tables.exec = Jvm.exec) (hb : c.code = cc) {own : String} {index : Nat} {v : Int64} (hown : s.vm.findClass own = some m.cls) (hk : (Jvm.Cond.constantLong own index v).before args s = true) (d : decode cc pc = .ok (.ldc2_w index, 3)) : kx_Snd (kx_W p l e R s m args below meth c Q D C4 A cnt0 ad0 nL P) P pc (ki_lc v (pc + 3)) := by
  intro K hK L st S h ad H locs ls ha hc ho hst hL hP hD hS hl
  exact lv_ldc2 hx hb hown hk d (hK _ _ _ _ h ad H locs ls ha hc ho ⟨trivial, hst⟩ hL hP hD hS hl)
def ki_null (n : Nat) : kx_T := fun _ K L st S => K n L (.inr (.inr none) :: st) S
theorem ks_null (hx : p.tables.exec = Jvm.exec) (hb : c.code = cc) (d : decode cc pc = .ok (.aconst_null, 1)) : kx_Snd (kx_W p l e R s m args below meth c Q D C4 A cnt0 ad0 nL P) P pc (ki_null (pc + 1)) := by
  intro K hK L st S h ad H locs ls ha hc ho hst hL hP hD hS hl
  exact lv_null hx hb d (hK _ _ _ _ h ad H locs ls ha hc ho ⟨trivial, hst⟩ hL hP hD hS hl)
def ki_iload (i n : Nat) : kx_T := fun _ K L st S => match L[i]? with
  | some (some (.inl x)) => K n L (.inl x :: st) S
  | _ => False
def ki_lload (i n : Nat) : kx_T := fun _ K L st S => match L[i]? with
  | some (some (.inr (.inl x))) => K n L (.inr (.inl x) :: st) S
  | _ => False
def ki_aload (i n : Nat) : kx_T := fun _ K L st S => match L[i]? with
  | some (some (.inr (.inr none))) => K n L (.inr (.inr none) :: st) S
  | some (some (.inr (.inr (some q)))) => K n L (.inr (.inr (some q)) :: st) S
  | _ => False
theorem ks_iload (hx : p.tables.exec = Jvm.exec) (hb : c.code = cc) {i : Nat} (d : decode cc pc = .ok (.iload i, 2)) : kx_Snd (kx_W p l e R s m args below meth c Q D C4 A cnt0 ad0 nL P) P pc (ki_iload i (pc + 2)) := by
  intro K hK L st S h ad H locs ls ha hc ho hst hL hP hD hS hl
  unfold ki_iload at h
  split at h
  next x he => exact lv_iload hx hb d (hl.2.2 i (.inl x) he) (hK _ _ _ _ h ad H locs ls ha hc ho ⟨trivial, hst⟩ hL hP hD hS hl)
  next => exact h.elim
theorem ks_iload_n (hx : p.tables.exec = Jvm.exec) (hb : c.code = cc) {k : Fin 4} {i : Nat} (hi : (k : Nat) = i) (d : decode cc pc = .ok (.iload_n k, 1)) : kx_Snd (kx_W p l e R s m args below meth c Q D C4 A cnt0 ad0 nL P) P pc (ki_iload i (pc + 1)) := by
  intro K hK L st S h ad H locs ls ha hc ho hst hL hP hD hS hl
  unfold ki_iload at h
  split at h
  next x he => exact lv_iload_n hx hb d hi (hl.2.2 i (.inl x) he) (hK _ _ _ _ h ad H locs ls ha hc ho ⟨trivial, hst⟩ hL hP hD hS hl)
  next => exact h.elim
theorem ks_lload (hx : p.tables.exec = Jvm.exec) (hb : c.code = cc) {i : Nat} (d : decode cc pc = .ok (.lload i, 2)) : kx_Snd (kx_W p l e R s m args below meth c Q D C4 A cnt0 ad0 nL P) P pc (ki_lload i (pc + 2)) := by
  intro K hK L st S h ad H locs ls ha hc ho hst hL hP hD hS hl
  unfold ki_lload at h
  split at h
  next x he => exact lv_lload hx hb d (hl.2.2 i (.inr (.inl x)) he) (hK _ _ _ _ h ad H locs ls ha hc ho ⟨trivial, hst⟩ hL hP hD hS hl)
  next => exact h.elim
theorem ks_lload_n (hx : p.tables.exec = Jvm.exec) (hb : c.code = cc) {k : Fin 4} {i : Nat} (hi : (k : Nat) = i) (d : decode cc pc = .ok (.lload_n k, 1)) : kx_Snd (kx_W p l e R s m args below meth c Q D C4 A cnt0 ad0 nL P) P pc (ki_lload i (pc + 1)) := by
  intro K hK L st S h ad H locs ls ha hc ho hst hL hP hD hS hl
  unfold ki_lload at h
  split at h
  next x he => exact lv_lload_n hx hb d hi (hl.2.2 i (.inr (.inl x)) he) (hK _ _ _ _ h ad H locs ls ha hc ho ⟨trivial, hst⟩ hL hP hD hS hl)
  next => exact h.elim
theorem ks_aload (hx : p.tables.exec = Jvm.exec) (hb : c.code = cc) {i : Nat} (d : decode cc pc = .ok (.aload i, 2)) : kx_Snd (kx_W p l e R s m args below meth c Q D C4 A cnt0 ad0 nL P) P pc (ki_aload i (pc + 2)) := by
  intro K hK L st S h ad H locs ls ha hc ho hst hL hP hD hS hl
  unfold ki_aload at h
  split at h
  next he => exact lv_aloadN hx hb d (hl.2.2 i (.inr (.inr none)) he) (hK _ _ _ _ h ad H locs ls ha hc ho ⟨trivial, hst⟩ hL hP hD hS hl)
  next q he => exact lv_aload hx hb d (hl.2.2 i (.inr (.inr (some q))) he) (hK _ _ _ _ h ad H locs ls ha hc ho ⟨hL i _ he, hst⟩ hL hP hD hS hl)
  next => exact h.elim
theorem ks_aload_n (hx : p.tables.exec = Jvm.exec) (hb : c.code = cc) {k : Fin 4} {i : Nat} (hi : (k : Nat) = i) (d : decode cc pc = .ok (.aload_n k, 1)) : kx_Snd (kx_W p l e R s m args below meth c Q D C4 A cnt0 ad0 nL P) P pc (ki_aload i (pc + 1)) := by
  intro K hK L st S h ad H locs ls ha hc ho hst hL hP hD hS hl
  unfold ki_aload at h
  split at h
  next he => exact lv_aload_nN hx hb d hi (hl.2.2 i (.inr (.inr none)) he) (hK _ _ _ _ h ad H locs ls ha hc ho ⟨trivial, hst⟩ hL hP hD hS hl)
  next q he => exact lv_aload_n hx hb d hi (hl.2.2 i (.inr (.inr (some q))) he) (hK _ _ _ _ h ad H locs ls ha hc ho ⟨hL i _ he, hst⟩ hL hP hD hS hl)
  next => exact h.elim
def ki_istore (i n : Nat) : kx_T := fun _ K L st S => match st with
  | .inl x :: r => K n (kx_st1 L i (.inl x)) r S
  | _ => False
def ki_lstore (i n : Nat) : kx_T := fun _ K L st S => match st with
  | .inr (.inl x) :: r => K n (kx_st2 L i (.inr (.inl x))) r S
  | _ => False
def ki_astore (i n : Nat) : kx_T := fun _ K L st S => match st with
  | .inr (.inr none) :: r => K n (kx_st1 L i (.inr (.inr none))) r S
  | .inr (.inr (some q)) :: r => K n (kx_st1 L i (.inr (.inr (some q)))) r S
  | _ => False
def ki_iinc (i : Nat) (v : Int32) (n : Nat) : kx_T := fun _ K L st S => match L[i]? with
  | some (some (.inl x)) => K n (kx_st1 L i (.inl (x + v))) st S
  | _ => False
theorem ks_istore (hx : p.tables.exec = Jvm.exec) (hb : c.code = cc) {i : Nat} (hn : i < nL) (d : decode cc pc = .ok (.istore i, 2)) : kx_Snd (kx_W p l e R s m args below meth c Q D C4 A cnt0 ad0 nL P) P pc (ki_istore i (pc + 2)) := by
  intro K hK L st S h ad H locs ls ha hc ho hst hL hP hD hS hl
  match st, h, hst with
  | .inl x :: r, h, hst => exact lv_istore hx hb d hl.lv hn rfl (fun ls' hl' => hK _ _ _ _ h ad H locs ls' ha hc ho hst.2 (hL.st1 trivial) hP hD hS (kx_has.st1 (v := .inl x) hl'))
theorem ks_lstore (hx : p.tables.exec = Jvm.exec) (hb : c.code = cc) {i : Nat} (hn : i + 1 < nL) (d : decode cc pc = .ok (.lstore i, 2)) : kx_Snd (kx_W p l e R s m args below meth c Q D C4 A cnt0 ad0 nL P) P pc (ki_lstore i (pc + 2)) := by
  intro K hK L st S h ad H locs ls ha hc ho hst hL hP hD hS hl
  match st, h, hst with
  | .inr (.inl x) :: r, h, hst => exact lv_lstore hx hb d hl.lv hn rfl (fun ls' hl' => hK _ _ _ _ h ad H locs ls' ha hc ho hst.2 (hL.st2 trivial) hP hD hS (kx_has.st2 (v := .inr (.inl x)) hl'))
theorem ks_astore (hx : p.tables.exec = Jvm.exec) (hb : c.code = cc) {i : Nat} (hn : i < nL) (d : decode cc pc = .ok (.astore i, 2)) : kx_Snd (kx_W p l e R s m args below meth c Q D C4 A cnt0 ad0 nL P) P pc (ki_astore i (pc + 2)) := by
  intro K hK L st S h ad H locs ls ha hc ho hst hL hP hD hS hl
  match st, h, hst with
  | .inr (.inr none) :: r, h, hst => exact lv_astoreN hx hb d hl.lv hn rfl (fun ls' hl' => hK _ _ _ _ h ad H locs ls' ha hc ho hst.2 (hL.st1 trivial) hP hD hS (kx_has.st1 (v := .inr (.inr none)) hl'))
  | .inr (.inr (some q)) :: r, h, hst => exact lv_astore hx hb d hl.lv hn rfl (fun ls' hl' => hK _ _ _ _ h ad H locs ls' ha hc ho hst.2 (hL.st1 hst.1) hP hD hS (kx_has.st1 (v := .inr (.inr (some q))) hl'))
theorem ks_istore_n (hx : p.tables.exec = Jvm.exec) (hb : c.code = cc) {k : Fin 4} {i : Nat} (hi : (k : Nat) = i) (hn : i < nL) (d : decode cc pc = .ok (.istore_n k, 1)) : kx_Snd (kx_W p l e R s m args below meth c Q D C4 A cnt0 ad0 nL P) P pc (ki_istore i (pc + 1)) := by
  intro K hK L st S h ad H locs ls ha hc ho hst hL hP hD hS hl
  match st, h, hst with
  | .inl x :: r, h, hst => exact lv_istore_n hx hb d hi hl.lv hn rfl (fun ls' hl' => hK _ _ _ _ h ad H locs ls' ha hc ho hst.2 (hL.st1 trivial) hP hD hS (kx_has.st1 (v := .inl x) hl'))
theorem ks_lstore_n (hx : p.tables.exec = Jvm.exec) (hb : c.code = cc) {k : Fin 4} {i : Nat} (hi : (k : Nat) = i) (hn : i + 1 < nL) (d : decode cc pc = .ok (.lstore_n k, 1)) : kx_Snd (kx_W p l e R s m args below meth c Q D C4 A cnt0 ad0 nL P) P pc (ki_lstore i (pc + 1)) := by
  intro K hK L st S h ad H locs ls ha hc ho hst hL hP hD hS hl
  match st, h, hst with
  | .inr (.inl x) :: r, h, hst => exact lv_lstore_n hx hb d hi hl.lv hn rfl (fun ls' hl' => hK _ _ _ _ h ad H locs ls' ha hc ho hst.2 (hL.st2 trivial) hP hD hS (kx_has.st2 (v := .inr (.inl x)) hl'))
theorem ks_astore_n (hx : p.tables.exec = Jvm.exec) (hb : c.code = cc) {k : Fin 4} {i : Nat} (hi : (k : Nat) = i) (hn : i < nL) (d : decode cc pc = .ok (.astore_n k, 1)) : kx_Snd (kx_W p l e R s m args below meth c Q D C4 A cnt0 ad0 nL P) P pc (ki_astore i (pc + 1)) := by
  intro K hK L st S h ad H locs ls ha hc ho hst hL hP hD hS hl
  match st, h, hst with
  | .inr (.inr none) :: r, h, hst => exact lv_astore_nN hx hb d hi hl.lv hn rfl (fun ls' hl' => hK _ _ _ _ h ad H locs ls' ha hc ho hst.2 (hL.st1 trivial) hP hD hS (kx_has.st1 (v := .inr (.inr none)) hl'))
  | .inr (.inr (some q)) :: r, h, hst => exact lv_astore_n hx hb d hi hl.lv hn rfl (fun ls' hl' => hK _ _ _ _ h ad H locs ls' ha hc ho hst.2 (hL.st1 hst.1) hP hD hS (kx_has.st1 (v := .inr (.inr (some q))) hl'))
theorem ks_iinc (hx : p.tables.exec = Jvm.exec) (hb : c.code = cc) {i : Nat} {k : Int} {v : Int32} (hv : Int32.ofInt k = v) (hn : i < nL) (d : decode cc pc = .ok (.iinc i k, 3)) : kx_Snd (kx_W p l e R s m args below meth c Q D C4 A cnt0 ad0 nL P) P pc (ki_iinc i v (pc + 3)) := by
  subst hv
  intro K hK L st S h ad H locs ls ha hc ho hst hL hP hD hS hl
  unfold ki_iinc at h
  split at h
  next x he =>
    obtain ⟨q, hq⟩ := List.getElem?_of_mem ((kx_lp_mem ad L 0 (i, .int x)).mpr ⟨i, .inl x, he, by simp [kx_cv]⟩)
    exact lv_iinc hx hb d hl.lv hq rfl hn rfl (fun ls' hl' => hK _ _ _ _ h ad H locs ls' ha hc ho hst (hL.st1 trivial) hP hD hS (kx_has.st1 (v := .inl (x + Int32.ofInt k)) hl'))
  next => exact h.elim
def ki_dup (n : Nat) : kx_T := fun _ K L st S => match st with
  | v :: r => bif kx_lg (some v) then False else K n L (v :: v :: r) S
  | _ => False
def ki_pop (n : Nat) : kx_T := fun _ K L st S => match st with
  | v :: r => bif kx_lg (some v) then False else K n L r S
  | _ => False
def ki_dup2 (n : Nat) : kx_T := fun _ K L st S => match st with
  | v :: w :: r => bif kx_lg (some v) || kx_lg (some w) then False else K n L (v :: w :: v :: w :: r) S
  | _ => False
theorem ks_dup (hx : p.tables.exec = Jvm.exec) (hb : c.code = cc) (d : decode cc pc = .ok (.dup, 1)) : kx_Snd (kx_W p l e R s m args below meth c Q D C4 A cnt0 ad0 nL P) P pc (ki_dup (pc + 1)) := by
  intro K hK L st S h ad H locs ls ha hc ho hst hL hP hD hS hl
  match st, h, hst with
  | v :: r, h, hst =>
    unfold ki_dup at h
    dsimp only at h
    cases hg : kx_lg (some v) with
    | true => rw [hg] at h; exact h.elim
    | false => rw [hg] at h; exact lv_dup hx hb d (kx_nlg_cat ad hg) (hK _ _ _ _ h ad H locs ls ha hc ho ⟨hst.1, hst.1, hst.2⟩ hL hP hD hS hl)
theorem ks_pop (hx : p.tables.exec = Jvm.exec) (hb : c.code = cc) (d : decode cc pc = .ok (.pop, 1)) : kx_Snd (kx_W p l e R s m args below meth c Q D C4 A cnt0 ad0 nL P) P pc (ki_pop (pc + 1)) := by
  intro K hK L st S h ad H locs ls ha hc ho hst hL hP hD hS hl
  match st, h, hst with
  | v :: r, h, hst =>
    unfold ki_pop at h
    dsimp only at h
    cases hg : kx_lg (some v) with
    | true => rw [hg] at h; exact h.elim
    | false => rw [hg] at h; exact lv_pop hx hb d (kx_nlg_cat ad hg) (hK _ _ _ _ h ad H locs ls ha hc ho hst.2 hL hP hD hS hl)
theorem ks_dup2 (hx : p.tables.exec = Jvm.exec) (hb : c.code = cc) (d : decode cc pc = .ok (.dup2, 1)) : kx_Snd (kx_W p l e R s m args below meth c Q D C4 A cnt0 ad0 nL P) P pc (ki_dup2 (pc + 1)) := by
  intro K hK L st S h ad H locs ls ha hc ho hst hL hP hD hS hl
  match st, h, hst with
  | v :: w :: r, h, hst =>
    unfold ki_dup2 at h
    dsimp only at h
    cases hg : kx_lg (some v) with
    | true => rw [hg] at h; exact h.elim
    | false =>
      cases hg2 : kx_lg (some w) with
      | true => rw [hg, hg2] at h; exact h.elim
      | false => rw [hg, hg2] at h; exact lv_dup2_11 hx hb d (kx_nlg_cat ad hg) (kx_nlg_cat ad hg2) (hK _ _ _ _ h ad H locs ls ha hc ho ⟨hst.1, hst.2.1, hst.1, hst.2.1, hst.2.2⟩ hL hP hD hS hl)
def ki_if_eq (t n : Nat) : kx_T := fun _ K L st S => match st with
  | .inl x :: r => (x = 0 → K t L r S) ∧ (¬ x = 0 → K n L r S)
  | _ => False
theorem ks_if_eq (hx : p.tables.exec = Jvm.exec) (hb : c.code = cc) {off : Int} {t : Nat} (ht : (pc : Int) + off = (t : Int)) (d : decode cc pc = .ok (.ifCond .eq off, 3)) : kx_Snd (kx_W p l e R s m args below meth c Q D C4 A cnt0 ad0 nL P) P pc (ki_if_eq t (pc + 3)) := by
  intro K hK L st S h ad H locs ls ha hc ho hst hL hP hD hS hl
  match st, h, hst with
  | .inl x :: r, h, hst => exact lv_if_eq hx hb d ht (fun q => hK _ _ _ _ (h.1 q) ad H locs ls ha hc ho hst.2 hL hP hD hS hl) (fun q => hK _ _ _ _ (h.2 q) ad H locs ls ha hc ho hst.2 hL hP hD hS hl)
def ki_if_ne (t n : Nat) : kx_T := fun _ K L st S => match st with
  | .inl x :: r => (¬ x = 0 → K t L r S) ∧ (x = 0 → K n L r S)
  | _ => False
theorem ks_if_ne (hx : p.tables.exec = Jvm.exec) (hb : c.code = cc) {off : Int} {t : Nat} (ht : (pc : Int) + off = (t : Int)) (d : decode cc pc = .ok (.ifCond .ne off, 3)) : kx_Snd (kx_W p l e R s m args below meth c Q D C4 A cnt0 ad0 nL P) P pc (ki_if_ne t (pc + 3)) := by
  intro K hK L st S h ad H locs ls ha hc ho hst hL hP hD hS hl
  match st, h, hst with
  | .inl x :: r, h, hst => exact lv_if_ne hx hb d ht (fun q => hK _ _ _ _ (h.1 q) ad H locs ls ha hc ho hst.2 hL hP hD hS hl) (fun q => hK _ _ _ _ (h.2 q) ad H locs ls ha hc ho hst.2 hL hP hD hS hl)
def ki_if_lt (t n : Nat) : kx_T := fun _ K L st S => match st with
  | .inl x :: r => (x < 0 → K t L r S) ∧ (¬ x < 0 → K n L r S)
  | _ => False
theorem ks_if_lt (hx : p.tables.exec = Jvm.exec) (hb : c.code = cc) {off : Int} {t : Nat} (ht : (pc : Int) + off = (t : Int)) (d : decode cc pc = .ok (.ifCond .lt off, 3)) : kx_Snd (kx_W p l e R s m args below meth c Q D C4 A cnt0 ad0 nL P) P pc (ki_if_lt t (pc + 3)) := by
  intro K hK L st S h ad H locs ls ha hc ho hst hL hP hD hS hl
  match st, h, hst with
  | .inl x :: r, h, hst => exact lv_if_lt hx hb d ht (fun q => hK _ _ _ _ (h.1 q) ad H locs ls ha hc ho hst.2 hL hP hD hS hl) (fun q => hK _ _ _ _ (h.2 q) ad H locs ls ha hc ho hst.2 hL hP hD hS hl)
def ki_if_ge (t n : Nat) : kx_T := fun _ K L st S => match st with
  | .inl x :: r => (0 ≤ x → K t L r S) ∧ (¬ 0 ≤ x → K n L r S)
  | _ => False
theorem ks_if_ge (hx : p.tables.exec = Jvm.exec) (hb : c.code = cc) {off : Int} {t : Nat} (ht : (pc : Int) + off = (t : Int)) (d : decode cc pc = .ok (.ifCond .ge off, 3)) : kx_Snd (kx_W p l e R s m args below meth c Q D C4 A cnt0 ad0 nL P) P pc (ki_if_ge t (pc + 3)) := by
  intro K hK L st S h ad H locs ls ha hc ho hst hL hP hD hS hl
  match st, h, hst with
  | .inl x :: r, h, hst => exact lv_if_ge hx hb d ht (fun q => hK _ _ _ _ (h.1 q) ad H locs ls ha hc ho hst.2 hL hP hD hS hl) (fun q => hK _ _ _ _ (h.2 q) ad H locs ls ha hc ho hst.2 hL hP hD hS hl)
def ki_if_gt (t n : Nat) : kx_T := fun _ K L st S => match st with
  | .inl x :: r => (0 < x → K t L r S) ∧ (¬ 0 < x → K n L r S)
  | _ => False
theorem ks_if_gt (hx : p.tables.exec = Jvm.exec) (hb : c.code = cc) {off : Int} {t : Nat} (ht : (pc : Int) + off = (t : Int)) (d : decode cc pc = .ok (.ifCond .gt off, 3)) : kx_Snd (kx_W p l e R s m args below meth c Q D C4 A cnt0 ad0 nL P) P pc (ki_if_gt t (pc + 3)) := by
  intro K hK L st S h ad H locs ls ha hc ho hst hL hP hD hS hl
  match st, h, hst with
  | .inl x :: r, h, hst => exact lv_if_gt hx hb d ht (fun q => hK _ _ _ _ (h.1 q) ad H locs ls ha hc ho hst.2 hL hP hD hS hl) (fun q => hK _ _ _ _ (h.2 q) ad H locs ls ha hc ho hst.2 hL hP hD hS hl)
def ki_if_le (t n : Nat) : kx_T := fun _ K L st S => match st with
  | .inl x :: r => (x ≤ 0 → K t L r S) ∧ (¬ x ≤ 0 → K n L r S)
  | _ => False
theorem ks_if_le (hx : p.tables.exec = Jvm.exec) (hb : c.code = cc) {off : Int} {t : Nat} (ht : (pc : Int) + off = (t : Int)) (d : decode cc pc = .ok (.ifCond .le off, 3)) : kx_Snd (kx_W p l e R s m args below meth c Q D C4 A cnt0 ad0 nL P) P pc (ki_if_le t (pc + 3)) := by
  intro K hK L st S h ad H locs ls ha hc ho hst hL hP hD hS hl
  match st, h, hst with
  | .inl x :: r, h, hst => exact lv_if_le hx hb d ht (fun q => hK _ _ _ _ (h.1 q) ad H locs ls ha hc ho hst.2 hL hP hD hS hl) (fun q => hK _ _ _ _ (h.2 q) ad H locs ls ha hc ho hst.2 hL hP hD hS hl)
def ki_icmp_eq (t n : Nat) : kx_T := fun _ K L st S => match st with
  | .inl y :: .inl x :: r => (x = y → K t L r S) ∧ (¬ x = y → K n L r S)
  | _ => False
theorem ks_icmp_eq (hx : p.tables.exec = Jvm.exec) (hb : c.code = cc) {off : Int} {t : Nat} (ht : (pc : Int) + off = (t : Int)) (d : decode cc pc = .ok (.if_icmp .eq off, 3)) : kx_Snd (kx_W p l e R s m args below meth c Q D C4 A cnt0 ad0 nL P) P pc (ki_icmp_eq t (pc + 3)) := by
  intro K hK L st S h ad H locs ls ha hc ho hst hL hP hD hS hl
  match st, h, hst with
  | .inl y :: .inl x :: r, h, hst => exact lv_icmp_eq hx hb d ht (fun q => hK _ _ _ _ (h.1 q) ad H locs ls ha hc ho hst.2.2 hL hP hD hS hl) (fun q => hK _ _ _ _ (h.2 q) ad H locs ls ha hc ho hst.2.2 hL hP hD hS hl)
def ki_icmp_ne (t n : Nat) : kx_T := fun _ K L st S => match st with
  | .inl y :: .inl x :: r => (¬ x = y → K t L r S) ∧ (x = y → K n L r S)
  | _ => False
theorem ks_icmp_ne (hx : p.tables.exec = Jvm.exec) (hb : c.code = cc) {off : Int} {t : Nat} (ht : (pc : Int) + off = (t : Int)) (d : decode cc pc = .ok (.if_icmp .ne off, 3)) : kx_Snd (kx_W p l e R s m args below meth c Q D C4 A cnt0 ad0 nL P) P pc (ki_icmp_ne t (pc + 3)) := by
  intro K hK L st S h ad H locs ls ha hc ho hst hL hP hD hS hl
  match st, h, hst with
  | .inl y :: .inl x :: r, h, hst => exact lv_icmp_ne hx hb d ht (fun q => hK _ _ _ _ (h.1 q) ad H locs ls ha hc ho hst.2.2 hL hP hD hS hl) (fun q => hK _ _ _ _ (h.2 q) ad H locs ls ha hc ho hst.2.2 hL hP hD hS hl)
def ki_icmp_lt (t n : Nat) : kx_T := fun _ K L st S => match st with
  | .inl y :: .inl x :: r => (x < y → K t L r S) ∧ (¬ x < y → K n L r S)
  | _ => False
theorem ks_icmp_lt (hx : p.tables.exec = Jvm.exec) (hb : c.code = cc) {off : Int} {t : Nat} (ht : (pc : Int) + off = (t : Int)) (d : decode cc pc = .ok (.if_icmp .lt off, 3)) : kx_Snd (kx_W p l e R s m args below meth c Q D C4 A cnt0 ad0 nL P) P pc (ki_icmp_lt t (pc + 3)) := by
  intro K hK L st S h ad H locs ls ha hc ho hst hL hP hD hS hl
  match st, h, hst with
  | .inl y :: .inl x :: r, h, hst => exact lv_icmp_lt hx hb d ht (fun q => hK _ _ _ _ (h.1 q) ad H locs ls ha hc ho hst.2.2 hL hP hD hS hl) (fun q => hK _ _ _ _ (h.2 q) ad H locs ls ha hc ho hst.2.2 hL hP hD hS hl)
def ki_icmp_ge (t n : Nat) : kx_T := fun _ K L st S => match st with
  | .inl y :: .inl x :: r => (y ≤ x → K t L r S) ∧ (¬ y ≤ x → K n L r S)
  | _ => False
theorem ks_icmp_ge (hx : p.tables.exec = Jvm.exec) (hb : c.code = cc) {off : Int} {t : Nat} (ht : (pc : Int) + off = (t : Int)) (d : decode cc pc = .ok (.if_icmp .ge off, 3)) : kx_Snd (kx_W p l e R s m args below meth c Q D C4 A cnt0 ad0 nL P) P pc (ki_icmp_ge t (pc + 3)) := by
  intro K hK L st S h ad H locs ls ha hc ho hst hL hP hD hS hl
  match st, h, hst with
  | .inl y :: .inl x :: r, h, hst => exact lv_icmp_ge hx hb d ht (fun q => hK _ _ _ _ (h.1 q) ad H locs ls ha hc ho hst.2.2 hL hP hD hS hl) (fun q => hK _ _ _ _ (h.2 q) ad H locs ls ha hc ho hst.2.2 hL hP hD hS hl)
def ki_icmp_gt (t n : Nat) : kx_T := fun _ K L st S => match st with
  | .inl y :: .inl x :: r => (y < x → K t L r S) ∧ (¬ y < x → K n L r S)
  | _ => False
theorem ks_icmp_gt (hx : p.tables.exec = Jvm.exec) (hb : c.code = cc) {off : Int} {t : Nat} (ht : (pc : Int) + off = (t : Int)) (d : decode cc pc = .ok (.if_icmp .gt off, 3)) : kx_Snd (kx_W p l e R s m args below meth c Q D C4 A cnt0 ad0 nL P) P pc (ki_icmp_gt t (pc + 3)) := by
  intro K hK L st S h ad H locs ls ha hc ho hst hL hP hD hS hl
  match st, h, hst with
  | .inl y :: .inl x :: r, h, hst => exact lv_icmp_gt hx hb d ht (fun q => hK _ _ _ _ (h.1 q) ad H locs ls ha hc ho hst.2.2 hL hP hD hS hl) (fun q => hK _ _ _ _ (h.2 q) ad H locs ls ha hc ho hst.2.2 hL hP hD hS hl)
def ki_icmp_le (t n : Nat) : kx_T := fun _ K L st S => match st with
  | .inl y :: .inl x :: r => (x ≤ y → K t L r S) ∧ (¬ x ≤ y → K n L r S)
  | _ => False
theorem ks_icmp_le (hx : p.tables.exec = Jvm.exec) (hb : c.code = cc) {off : Int} {t : Nat} (ht : (pc : Int) + off = (t : Int)) (d : decode cc pc = .ok (.if_icmp .le off, 3)) : kx_Snd (kx_W p l e R s m args below meth c Q D C4 A cnt0 ad0 nL P) P pc (ki_icmp_le t (pc + 3)) := by
  intro K hK L st S h ad H locs ls ha hc ho hst hL hP hD hS hl
  match st, h, hst with
  | .inl y :: .inl x :: r, h, hst => exact lv_icmp_le hx hb d ht (fun q => hK _ _ _ _ (h.1 q) ad H locs ls ha hc ho hst.2.2 hL hP hD hS hl) (fun q => hK _ _ _ _ (h.2 q) ad H locs ls ha hc ho hst.2.2 hL hP hD hS hl)
def ki_goto (t : Nat) : kx_T := fun _ K L st S => K t L st S
theorem ks_goto (hx : p.tables.exec = Jvm.exec) (hb : c.code = cc) {off : Int} {t : Nat} (ht : (pc : Int) + off = (t : Int)) (d : decode cc pc = .ok (.goto off, 3)) : kx_Snd (kx_W p l e R s m args below meth c Q D C4 A cnt0 ad0 nL P) P pc (ki_goto t) := by
  intro K hK L st S h ad H locs ls ha hc ho hst hL hP hD hS hl
  exact lv_goto hx hb d ht (hK _ _ _ _ h ad H locs ls ha hc ho hst hL hP hD hS hl)
def ki_ifnull (t n : Nat) : kx_T := fun _ K L st S => match st with
  | .inr (.inr none) :: r => K t L r S
  | .inr (.inr (some _)) :: r => K n L r S
  | _ => False
theorem ks_ifnull (hx : p.tables.exec = Jvm.exec) (hb : c.code = cc) {off : Int} {t : Nat} (ht : (pc : Int) + off = (t : Int)) (d : decode cc pc = .ok (.ifnull off, 3)) : kx_Snd (kx_W p l e R s m args below meth c Q D C4 A cnt0 ad0 nL P) P pc (ki_ifnull t (pc + 3)) := by
  intro K hK L st S h ad H locs ls ha hc ho hst hL hP hD hS hl
  match st, h, hst with
  | .inr (.inr none) :: r, h, hst => exact lv_ifnullN hx hb d ht (hK _ _ _ _ h ad H locs ls ha hc ho hst.2 hL hP hD hS hl)
  | .inr (.inr (some q)) :: r, h, hst => exact lv_ifnull hx hb d (hK _ _ _ _ h ad H locs ls ha hc ho hst.2 hL hP hD hS hl)
theorem ks_ifnonnull (hx : p.tables.exec = Jvm.exec) (hb : c.code = cc) {off : Int} {t : Nat} (ht : (pc : Int) + off = (t : Int)) (d : decode cc pc = .ok (.ifnonnull off, 3)) : kx_Snd (kx_W p l e R s m args below meth c Q D C4 A cnt0 ad0 nL P) P pc (ki_ifnull (pc + 3) t) := by
  intro K hK L st S h ad H locs ls ha hc ho hst hL hP hD hS hl
  match st, h, hst with
  | .inr (.inr none) :: r, h, hst => exact lv_ifnonnullN hx hb d (hK _ _ _ _ h ad H locs ls ha hc ho hst.2 hL hP hD hS hl)
  | .inr (.inr (some q)) :: r, h, hst => exact lv_ifnonnull hx hb d ht (hK _ _ _ _ h ad H locs ls ha hc ho hst.2 hL hP hD hS hl)
def kx_sw (K : Nat → Prop) (x : Int32) : List (Int32 × Nat) → Nat → Prop
  | [], d => K d
  | (k, t) :: r, d => (x = k → K t) ∧ (¬ x = k → kx_sw K x r d)
def ki_sw (ts : List (Int32 × Nat)) (df : Nat) : kx_T := fun _ K L st S => match st with
  | .inl x :: r => kx_sw (fun t => K t L r S) x ts df
  | _ => False
theorem kx_sw_use {K : Nat → Prop} {x : Int32} : ∀ {ts : List (Int32 × Nat)} {df : Nat}, kx_sw K x ts df → (∃ k t, (k, t) ∈ ts ∧ x = k ∧ K t ∧ ts.find? (fun q => q.1 == x) = some (k, t)) ∨ ((∀ q ∈ ts, ¬ x = q.1) ∧ K df) := by
  intro ts
  induction ts with
  | nil => intro df h; exact Or.inr ⟨(fun q hq => by cases hq), h⟩
  | cons a r ih =>
    intro df h
    obtain ⟨k, t⟩ := a
    by_cases hx : x = k
    · exact Or.inl ⟨k, t, List.mem_cons_self, hx, h.1 hx, by rw [List.find?_cons]; simp [hx]⟩
    · rcases ih (h.2 hx) with ⟨k2, t2, h1, h2, h3, h4⟩ | ⟨h1, h2⟩
      · refine Or.inl ⟨k2, t2, List.mem_cons_of_mem _ h1, h2, h3, ?_⟩
        rw [List.find?_cons]
        have hne : (k == x) = false := by simpa using fun q => hx q.symm
        rw [hne]; exact h4
      · refine Or.inr ⟨fun q hq => ?_, h2⟩
        rcases List.mem_cons.mp hq with rfl | hq
        · exact hx
        · exact h1 q hq
theorem ks_table (hx : p.tables.exec = Jvm.exec) (hb : c.code = cc) {dflt lo hi : Int} {offs : Array Int} {len : Nat} {ts : List (Int32 × Nat)} {df : Nat} (hd : (pc : Int) + dflt = (df : Int))
    (hts : ∀ q ∈ ts, ¬ q.1.toInt < lo ∧ ¬ hi < q.1.toInt ∧ ∃ off, offs[(q.1.toInt - lo).toNat]? = some off ∧ (pc : Int) + off = (q.2 : Int)) (hall : (List.range (hi - lo + 1).toNat).all (fun (k : Nat) => ts.any (fun q => q.1.toInt == lo + (k : Int))) = true) (d : decode cc pc = .ok (.tableswitch dflt lo hi offs, len)) : kx_Snd (kx_W p l e R s m args below meth c Q D C4 A cnt0 ad0 nL P) P pc (ki_sw ts df) := by
  intro K hK L st S h ad H locs ls ha hc ho hst hL hP hD hS hl
  match st, h, hst with
  | .inl x :: r, h, hst =>
    rcases kx_sw_use h with ⟨k, t, h1, rfl, h3, -⟩ | ⟨h1, h2⟩
    · obtain ⟨g1, g2, off, g3, g4⟩ := hts _ h1
      exact lv_tableIn hx hb d g1 g2 g3 g4 (hK _ _ _ _ h3 ad H locs ls ha hc ho hst.2 hL hP hD hS hl)
    · refine lv_tableOut hx hb d ?_ hd (hK _ _ _ _ h2 ad H locs ls ha hc ho hst.2 hL hP hD hS hl)
      by_cases g1 : x.toInt < lo
      · exact Or.inl g1
      · by_cases g2 : hi < x.toInt
        · exact Or.inr g2
        · exfalso
          have h5 := List.all_eq_true.mp hall (x.toInt - lo).toNat (List.mem_range.mpr (by omega))
          obtain ⟨q, hq, h6⟩ := List.any_eq_true.mp h5
          refine h1 q hq (Int32.toInt_inj.mp ?_)
          have h7 : q.1.toInt = lo + ((x.toInt - lo).toNat : Int) := by simpa using h6
          omega
theorem kx_lk {x : Int32} : ∀ {ps : List (Int × Int)} {dflt : Int}, (∃ a o, (a, o) ∈ ps ∧ ps.find? (fun q => q.1 == x.toInt) = some (a, o) ∧ Op.lookupswitch.offset ps dflt x.toInt = o) ∨ ((∀ q ∈ ps, ¬ q.1 = x.toInt) ∧ Op.lookupswitch.offset ps dflt x.toInt = dflt) := by
  intro ps
  induction ps with
  | nil => intro dflt; exact Or.inr ⟨(fun q hq => by cases hq), rfl⟩
  | cons a r ih =>
    intro dflt
    obtain ⟨k, o⟩ := a
    rw [Op.lookupswitch.offset_cons]
    by_cases hx : x.toInt = k
    · exact Or.inl ⟨k, o, List.mem_cons_self, by rw [List.find?_cons]; simp [hx], by rw [if_pos (by first | exact hx | exact hx.symm)]⟩
    · rw [if_neg (by first | exact hx | exact fun q => hx q.symm)]
      rcases ih (dflt := dflt) with ⟨k2, t2, h1, h2, h3⟩ | ⟨h1, h2⟩
      · refine Or.inl ⟨k2, t2, List.mem_cons_of_mem _ h1, ?_, h3⟩
        rw [List.find?_cons]
        have hne : (k == x.toInt) = false := by simpa using fun q => hx q.symm
        rw [hne]; exact h2
      · refine Or.inr ⟨fun q hq => ?_, h2⟩
        rcases List.mem_cons.mp hq with rfl | hq
        · exact fun e => hx e.symm
        · exact h1 q hq
theorem ks_lookup (hx : p.tables.exec = Jvm.exec) (hb : c.code = cc) {dflt : Int} {ps : Array (Int × Int)} {len : Nat} {ts : List (Int32 × Nat)} {df : Nat} (hd : (pc : Int) + dflt = (df : Int)) (hsort : (ps.toList.zip (ps.toList.drop 1)).all (fun (a, next) => a.1 < next.1) = true)
    (hps : ps.toList = ts.map (fun q => (q.1.toInt, (q.2 : Int) - (pc : Int)))) (d : decode cc pc = .ok (.lookupswitch dflt ps, len)) : kx_Snd (kx_W p l e R s m args below meth c Q D C4 A cnt0 ad0 nL P) P pc (ki_sw ts df) := by
  intro K hK L st S h ad H locs ls ha hc ho hst hL hP hD hS hl
  match st, h, hst with
  | .inl x :: r, h, hst =>
    rcases kx_sw_use h with ⟨k, t, h1, rfl, h3, h4⟩ | ⟨h1, h2⟩
    · rcases kx_lk (x := x) (ps := ps.toList) (dflt := dflt) with ⟨a, o, g1, g2, g3⟩ | ⟨g1, g2⟩
      · have e : ps.toList.find? (fun q => q.1 == x.toInt) = some (x.toInt, (t : Int) - (pc : Int)) := by
          rw [hps, List.find?_map]
          have e2 : ((fun q : Int × Int => q.1 == x.toInt) ∘ fun q : Int32 × Nat => (q.1.toInt, (q.2 : Int) - (pc : Int))) = fun q => q.1 == x := by
            funext q
            show (q.1.toInt == x.toInt) = (q.1 == x)
            by_cases hq : q.1 = x
            · simp [hq]
            · have hq2 : ¬ q.1.toInt = x.toInt := fun z => hq (Int32.toInt_inj.mp z)
              rw [beq_eq_false_iff_ne.mpr hq, beq_eq_false_iff_ne.mpr hq2]
          rw [e2, h4]; rfl
        rw [e] at g2
        have g4 := Prod.mk.inj (Option.some.inj g2)
        exact lv_lookup hx hb d hsort g3 (by rw [← g4.2]; omega) (hK _ _ _ _ h3 ad H locs ls ha hc ho hst.2 hL hP hD hS hl)
      · exfalso
        refine g1 (x.toInt, (t : Int) - (pc : Int)) ?_ rfl
        rw [hps]
        exact List.mem_map.mpr ⟨(x, t), h1, rfl⟩
    · rcases kx_lk (x := x) (ps := ps.toList) (dflt := dflt) with ⟨a, o, g1, g2, g3⟩ | ⟨g1, g2⟩
      · exfalso
        rw [hps] at g1
        obtain ⟨q, hq, he⟩ := List.mem_map.mp g1
        have g5 : (a == x.toInt) = true := by simpa using List.find?_some g2
        refine h1 q hq (Int32.toInt_inj.mp ?_)
        have e1 := (Prod.mk.inj he).1
        have e2 : a = x.toInt := by simpa using g5
        rw [e1, e2]
      · exact lv_lookup hx hb d hsort g2 hd (hK _ _ _ _ h2 ad H locs ls ha hc ho hst.2 hL hP hD hS hl)
end KXS
end
section
theorem kx_ok_lt {n t o : Nat} {k : Nat × Nat} (h : kx_ok n (.inr (.inr (some (t, o))))) (hk : kx_kind t = k) (h9 : k.1 ≠ 9) : kx_ix t o < n := by
  rcases h with h | h
  · exact h
  · exfalso
    have h2 : t = 999 := h
    subst h2
    subst hk
    exact h9 (by decide +kernel)
theorem kx_hv.le {S : kx_S} (h : kx_hv S) : kx_cnt S ≤ kx_NC := by
  unfold kx_hv at h
  unfold kx_cnt
  split at h
  next he => exact Nat.le_refl _
  next k he => exact h.1
theorem kx_hv_same {S S' : kx_S} (h3 : S'.2.2 = S.2.2) (ho : ∀ t o j q, kx_tgt t o j = some q → S'.1 t o j = S.1 t o j) (h : kx_hv S) : kx_hv S' := by
  unfold kx_hv at h ⊢
  rw [h3]
  split
  next => trivial
  next k he =>
    rw [he] at h
    refine ⟨h.1, fun t o j t2 o2 h1 h2 h4 => h.2 t o j t2 o2 h1 h2 ?_⟩
    rw [← ho t o j _ h2]
    exact h4
theorem kx_cnt_same {S S' : kx_S} (h3 : S'.2.2 = S.2.2) : kx_cnt S' = kx_cnt S := by unfold kx_cnt; rw [h3]
theorem kx_tgt_o {t o c j : Nat} {f : kx_F} (hk : kx_kind t = (0, c)) (hf : (kx_fts c)[j]? = some f) : kx_tgt t o j = f.map (fun g => (g.1, g.2 o)) := by
  unfold kx_tgt
  rw [hk]
  show (match (kx_fts c)[j]? with
    | some (some f) => some (f.1, f.2 o)
    | _ => none) = _
  rw [hf]
  cases f <;> rfl
theorem kx_tgt_n {t o j a n : Nat} (hk : kx_kind t = (a + 1, n)) (h4 : a ≠ 3) : kx_tgt t o j = none := by
  unfold kx_tgt
  rw [hk]
  split
  next h => cases h
  next h => exfalso; exact h4 (by have := (Prod.mk.inj h).1; omega)
  next => rfl
/-- what a class's rows of the tables say -/
def kx_cf (t : Nat) (C : String) (T : u_T) (N : Nat) (ty : Nat → FieldType) : Prop := kx_kind t = (0, t) ∧ vwCl[t]? = some (C, T, N) ∧ (∀ w ∈ u_ws C T N, w ∈ kx_tbl) ∧ (∀ k, k < N → parseFieldDescriptor (T k).2.2.1 = some (ty k)) ∧ (∀ a, a < N → ∀ b, b < N → a ≠ b → (T a).2.1 ≠ (T b).2.1) ∧ (kx_fts t).length = N ∧ (∀ k, k < N → (T k).1 = C)
theorem kx_set1 {C4 : kx_C} {ad : Nat → Nat} {S : kx_S} {t o : Nat} {f : Nat → Int32} (h : kx_ix t o < kx_cnt S) (hn : kx_cnt S ≤ kx_NC) : (kx_ws C4 ad S).set (kx_ix t o) (ad (kx_ix t o), kx_en C4 ad (kx_uA S.1 t o f, S.2) t o) = kx_ws C4 ad (kx_uA S.1 t o f, S.2) :=
  kx_ws_set h hn rfl (fun t2 o2 hne => kx_en_same (kx_uA_ne _ _ hne) rfl rfl)
theorem kx_set2 {C4 : kx_C} {ad : Nat → Nat} {S : kx_S} {t o : Nat} {f : Nat → Int64} (h : kx_ix t o < kx_cnt S) (hn : kx_cnt S ≤ kx_NC) : (kx_ws C4 ad S).set (kx_ix t o) (ad (kx_ix t o), kx_en C4 ad (S.1, kx_uL S.2.1 t o f, S.2.2) t o) = kx_ws C4 ad (S.1, kx_uL S.2.1 t o f, S.2.2) :=
  kx_ws_set h hn rfl (fun t2 o2 hne => kx_en_same rfl (kx_uL_ne _ _ hne) rfl)
section KXH
variable {p : Program} {l : Launch} {e : Env} {R : Room} {s : State} {m : MethodId} {args : Array Value} {below : List Frame} {meth : Method} {c : Code} {Q : State → Prop} {D : va_G} {C4 : kx_C} {A : Nat → Prop} {cnt0 : Nat} {ad0 : Nat → Nat} {nL : Nat} {P : kx_P} {cc : ByteArray} {pc : Nat}
def ki_getI (t j n : Nat) : kx_T := fun _ K L st S => match st with
  | .inr (.inr (some (t1, o))) :: r => bif Nat.beq t1 t then K n L (.inl (S.1 t o j) :: r) S else False
  | _ => False
def ki_getR (t j t2 : Nat) (g : Nat → Nat) (n : Nat) : kx_T := fun _ K L st S => match st with
  | .inr (.inr (some (t1, o))) :: r => bif Nat.beq t1 t then (match S.2.2 with
    | none => K n L (.inr (.inr (some (t2, g o))) :: r) S
    | some _ => S.1 t o j ≠ 0 ∧ K n L (.inr (.inr (some (t2, g o))) :: r) S) else False
  | _ => False
def ki_putI (t j n : Nat) : kx_T := fun _ K L st S => match st with
  | .inl x :: .inr (.inr (some (t1, o))) :: r => bif Nat.beq t1 t then K n L r (kx_uA S.1 t o (upd (S.1 t o) j x), S.2) else False
  | _ => False
def ki_putZ (t j n : Nat) : kx_T := fun _ K L st S => match st with
  | .inl x :: .inr (.inr (some (t1, o))) :: r => bif Nat.beq t1 t then (x = 0 ∨ x = 1) ∧ K n L r (kx_uA S.1 t o (upd (S.1 t o) j x), S.2) else False
  | _ => False
def ki_putR (t j t2 : Nat) (g : Nat → Nat) (n : Nat) : kx_T := fun _ K L st S => match st with
  | .inr (.inr (some (t3, o3))) :: .inr (.inr (some (t1, o))) :: r => bif Nat.beq t1 t && Nat.beq t3 t2 && Nat.beq o3 (g o) then (match S.2.2 with
    | none => False
    | some _ => K n L r (kx_uA S.1 t o (upd (S.1 t o) j 1), S.2)) else False
  | _ => False

theorem ks_getI (hx : p.tables.exec = Jvm.exec) (hb : c.code = cc) (hts : ∀ w ∈ kx_tbl, w.before args s = true) {own C : String} {T : u_T} {N t j index : Nat} {ty : Nat → FieldType} (hown : s.vm.findClass own = some m.cls) (hK9 : va_K D vwCl (kx_tys C4) s) (hf : kx_cf t C T N ty) (hj : (kx_fts t)[j]? = some none) (hlk : Cond.fieldLink own index C (T j).2.1 (T j).2.2.1 ∈ kx_tbl) (d : decode cc pc = .ok (.getfield index, 3)) : kx_Snd (kx_W p l e R s m args below meth c Q D C4 A cnt0 ad0 nL P) P pc (ki_getI t j (pc + 3)) := by
  intro K hK L st S h ad H locs ls ha hc ho hst hL hP hD hS hl
  match st, h, hst with
  | .inr (.inr (some (t1, o))) :: r, h, hst =>
    unfold ki_getI at h
    dsimp only at h
    cases hq : Nat.beq t1 t with
    | false => rw [hq] at h; exact h.elim
    | true =>
      rw [hq] at h
      obtain rfl := Nat.eq_of_beq_eq_true hq
      have hi := kx_ok_lt hst.1 hf.1 (Nat.ne_of_beq_eq_false rfl)
      have he := kx_ws_at (C4 := C4) (ad := ad) hi ho.le
      rw [kx_en_o hf.1] at he
      have hjN : j < N := by rw [← hf.2.2.2.2.2.1]; exact (List.getElem?_eq_some_iff.mp hj).1
      have hT : (T j).1 = C := hf.2.2.2.2.2.2 j hjN
      exact va_get (D := D) hx hb hts hf.2.2.1 hown hK9 hP _ he hf.2.1 j hjN (hts _ hlk) (fun _ h9 => by rw [← hT]; exact h9) (v := .int (S.1 t1 o j)) (kx_fs_get hj) d (hK _ _ _ _ h ad H locs ls ha hc ho ⟨trivial, hst.2⟩ hL hP hD hS hl)
theorem ks_getR (hx : p.tables.exec = Jvm.exec) (hb : c.code = cc) (hts : ∀ w ∈ kx_tbl, w.before args s = true) {own C : String} {T : u_T} {N t j index : Nat} {ty : Nat → FieldType} (hown : s.vm.findClass own = some m.cls) (hK9 : va_K D vwCl (kx_tys C4) s) (hf : kx_cf t C T N ty) {t2 : Nat} {g : Nat → Nat} (hj : (kx_fts t)[j]? = some (some (t2, g))) (hlk : Cond.fieldLink own index C (T j).2.1 (T j).2.2.1 ∈ kx_tbl) (d : decode cc pc = .ok (.getfield index, 3)) : kx_Snd (kx_W p l e R s m args below meth c Q D C4 A cnt0 ad0 nL P) P pc (ki_getR t j t2 g (pc + 3)) := by
  intro K hK L st S h ad H locs ls ha hc ho hst hL hP hD hS hl
  match st, h, hst with
  | .inr (.inr (some (t1, o))) :: r, h, hst =>
    unfold ki_getR at h
    dsimp only at h
    cases hq : Nat.beq t1 t with
    | false => rw [hq] at h; exact h.elim
    | true =>
      rw [hq] at h
      obtain rfl := Nat.eq_of_beq_eq_true hq
      have hi := kx_ok_lt hst.1 hf.1 (Nat.ne_of_beq_eq_false rfl)
      have he := kx_ws_at (C4 := C4) (ad := ad) hi ho.le
      rw [kx_en_o hf.1] at he
      have hjN : j < N := by rw [← hf.2.2.2.2.2.1]; exact (List.getElem?_eq_some_iff.mp hj).1
      have hT : (T j).1 = C := hf.2.2.2.2.2.2 j hjN
      have hm : (t1, o) ∈ kx_cells := List.mem_of_getElem? (kx_ix_at (Nat.lt_of_lt_of_le hi ho.le))
      obtain ⟨hv, hk2, hok⟩ : kx_sv ad S t1 o (some (t2, g), j) = .ref (ad (kx_ix t2 (g o))) ∧ K (pc + 3) L (.inr (.inr (some (t2, g o))) :: r) S ∧ kx_ix t2 (g o) < kx_cnt S := by
        cases hm2 : S.2.2 with
        | none =>
          rw [hm2] at h
          refine ⟨by unfold kx_sv kx_rv; dsimp only; rw [hm2], h, ?_⟩
          have hz := kx_closed _ hm (some (t2, g)) (by rw [hf.1]; dsimp only; rw [if_pos rfl]; exact List.mem_of_getElem? hj) (t2, g) rfl
          unfold kx_cnt
          rw [hm2]
          exact hz
        | some k =>
          rw [hm2] at h
          refine ⟨by unfold kx_sv kx_rv; dsimp only; rw [hm2]; dsimp only; rw [if_neg h.1], h.2, ?_⟩
          unfold kx_hv at ho
          rw [hm2] at ho
          have hcn : kx_cnt S = k := by unfold kx_cnt; rw [hm2]
          rw [hcn] at hi ⊢
          exact ho.2 t1 o j t2 (g o) hi (kx_tgt_o hf.1 hj) h.1
      have hget := kx_fs_get (ad := ad) (S := S) (t := t1) (o := o) hj
      rw [hv] at hget
      exact va_get (D := D) hx hb hts hf.2.2.1 hown hK9 hP _ he hf.2.1 j hjN (hts _ hlk) (fun _ h9 => by rw [← hT]; exact h9) hget d (hK _ _ _ _ hk2 ad H locs ls ha hc ho ⟨Or.inl hok, hst.2⟩ hL hP hD hS hl)
theorem ks_putI (hx : p.tables.exec = Jvm.exec) (hb : c.code = cc) (hts : ∀ w ∈ kx_tbl, w.before args s = true) {own C : String} {T : u_T} {N t j index : Nat} {ty : Nat → FieldType} (hown : s.vm.findClass own = some m.cls) (hK9 : va_K D vwCl (kx_tys C4) s) (hf : kx_cf t C T N ty) (hj : (kx_fts t)[j]? = some none) (hlk : Cond.fieldLink own index C (T j).2.1 (T j).2.2.1 ∈ kx_tbl) (hfin : (T j).2.2.2 = false) (hd : parseFieldDescriptor (T j).2.2.1 = some .int) (d : decode cc pc = .ok (.putfield index, 3)) : kx_Snd (kx_W p l e R s m args below meth c Q D C4 A cnt0 ad0 nL P) P pc (ki_putI t j (pc + 3)) := by
  intro K hK L st S h ad H locs ls ha hc ho hst hL hP hD hS hl
  match st, h, hst with
  | .inl x :: .inr (.inr (some (t1, o))) :: r, h, hst =>
    unfold ki_putI at h
    dsimp only at h
    cases hq : Nat.beq t1 t with
    | false => rw [hq] at h; exact h.elim
    | true =>
      rw [hq] at h
      obtain rfl := Nat.eq_of_beq_eq_true hq
      have hi := kx_ok_lt hst.2.1 hf.1 (Nat.ne_of_beq_eq_false rfl)
      have he := kx_ws_at (C4 := C4) (ad := ad) hi ho.le
      rw [kx_en_o hf.1] at he
      have hjN : j < N := by rw [← hf.2.2.2.2.2.1]; exact (List.getElem?_eq_some_iff.mp hj).1
      have hT : (T j).1 = C := hf.2.2.2.2.2.2 j hjN
      have hset := kx_set1 (C4 := C4) (ad := ad) (f := upd (S.1 t1 o) j x) hi ho.le
      have hfs := kx_fs_set (ad := ad) (S := S) (S' := (kx_uA S.1 t1 o (upd (S.1 t1 o) j x), S.2)) (t := t1) (o := o) (v := .int x) hj (by unfold kx_sv; dsimp only; rw [kx_uA_eq]; simp [upd]) rfl (fun i hi2 => by dsimp only; rw [kx_uA_eq]; simp [upd, hi2])
      rw [kx_en_o hf.1, ← hfs] at hset
      refine va_put (D := D) hx hb hts hf.2.2.1 ty hf.2.2.2.1 hf.2.2.2.2.1 hown hK9 hP hD hS _ he hf.2.1 j hjN (hts _ hlk) (fun _ h9 => by rw [← hT]; exact h9) hfin (v := .int x) hd rfl rfl (by rw [kx_fs_len, hf.2.2.2.2.2.1]; exact hjN) d (fun H1 locs1 hP1 hD1 hS1 => ?_)
      rw [hset] at hP1 hD1
      refine hK _ _ _ _ h ad H1 locs1 ls ha hc (kx_hv_same (S := S) rfl (fun t3 o3 j3 q hq3 => ?_) ho) hst.2.2 hL hP1 hD1 hS1 hl
      by_cases hto : t3 = t1 ∧ o3 = o
      · obtain ⟨rfl, rfl⟩ := hto
        dsimp only
        rw [kx_uA_eq]
        by_cases hjj : j3 = j
        · subst hjj
          rw [kx_tgt_o hf.1 hj] at hq3
          cases hq3
        · simp [upd, hjj]
      · dsimp only
        rw [kx_uA_ne _ _ hto]
theorem ks_putZ (hx : p.tables.exec = Jvm.exec) (hb : c.code = cc) (hts : ∀ w ∈ kx_tbl, w.before args s = true) {own C : String} {T : u_T} {N t j index : Nat} {ty : Nat → FieldType} (hown : s.vm.findClass own = some m.cls) (hK9 : va_K D vwCl (kx_tys C4) s) (hf : kx_cf t C T N ty) (hj : (kx_fts t)[j]? = some none) (hlk : Cond.fieldLink own index C (T j).2.1 (T j).2.2.1 ∈ kx_tbl) (hfin : (T j).2.2.2 = false) (hd : parseFieldDescriptor (T j).2.2.1 = some .boolean) (d : decode cc pc = .ok (.putfield index, 3)) : kx_Snd (kx_W p l e R s m args below meth c Q D C4 A cnt0 ad0 nL P) P pc (ki_putZ t j (pc + 3)) := by
  intro K hK L st S h ad H locs ls ha hc ho hst hL hP hD hS hl
  match st, h, hst with
  | .inl x :: .inr (.inr (some (t1, o))) :: r, h, hst =>
    unfold ki_putZ at h
    dsimp only at h
    cases hq : Nat.beq t1 t with
    | false => rw [hq] at h; exact h.elim
    | true =>
      rw [hq] at h
      obtain rfl := Nat.eq_of_beq_eq_true hq
      have hi := kx_ok_lt hst.2.1 hf.1 (Nat.ne_of_beq_eq_false rfl)
      have he := kx_ws_at (C4 := C4) (ad := ad) hi ho.le
      rw [kx_en_o hf.1] at he
      have hjN : j < N := by rw [← hf.2.2.2.2.2.1]; exact (List.getElem?_eq_some_iff.mp hj).1
      have hT : (T j).1 = C := hf.2.2.2.2.2.2 j hjN
      have hset := kx_set1 (C4 := C4) (ad := ad) (f := upd (S.1 t1 o) j x) hi ho.le
      have hfs := kx_fs_set (ad := ad) (S := S) (S' := (kx_uA S.1 t1 o (upd (S.1 t1 o) j x), S.2)) (t := t1) (o := o) (v := .int x) hj (by unfold kx_sv; dsimp only; rw [kx_uA_eq]; simp [upd]) rfl (fun i hi2 => by dsimp only; rw [kx_uA_eq]; simp [upd, hi2])
      rw [kx_en_o hf.1, ← hfs] at hset
      refine va_put (D := D) hx hb hts hf.2.2.1 ty hf.2.2.2.1 hf.2.2.2.2.1 hown hK9 hP hD hS _ he hf.2.1 j hjN (hts _ hlk) (fun _ h9 => by rw [← hT]; exact h9) hfin (v := .int x) hd (by rcases h.1 with rfl | rfl <;> rfl) (by rcases h.1 with rfl | rfl <;> rfl) (by rw [kx_fs_len, hf.2.2.2.2.2.1]; exact hjN) d (fun H1 locs1 hP1 hD1 hS1 => ?_)
      rw [hset] at hP1 hD1
      refine hK _ _ _ _ h.2 ad H1 locs1 ls ha hc (kx_hv_same (S := S) rfl (fun t3 o3 j3 q hq3 => ?_) ho) hst.2.2 hL hP1 hD1 hS1 hl
      by_cases hto : t3 = t1 ∧ o3 = o
      · obtain ⟨rfl, rfl⟩ := hto
        dsimp only
        rw [kx_uA_eq]
        by_cases hjj : j3 = j
        · subst hjj
          rw [kx_tgt_o hf.1 hj] at hq3
          cases hq3
        · simp [upd, hjj]
      · dsimp only
        rw [kx_uA_ne _ _ hto]
theorem ks_putR (hx : p.tables.exec = Jvm.exec) (hb : c.code = cc) (hts : ∀ w ∈ kx_tbl, w.before args s = true) {own C : String} {T : u_T} {N t j index : Nat} {ty : Nat → FieldType} (hown : s.vm.findClass own = some m.cls) (hK9 : va_K D vwCl (kx_tys C4) s) (hf : kx_cf t C T N ty) {t2 : Nat} {g : Nat → Nat} {ty1 : FieldType} (hj : (kx_fts t)[j]? = some (some (t2, g))) (hlk : Cond.fieldLink own index C (T j).2.1 (T j).2.2.1 ∈ kx_tbl) (hfin : (T j).2.2.2 = true) (hin2 : meth.name = "<init>") (hoC : own = C) (hd : parseFieldDescriptor (T j).2.2.1 = some ty1) (hnr : ∀ a, narrow ty1 (.ref a) = .ref a) (hft : ∀ a, fits ty1 (.ref a) = true) (d : decode cc pc = .ok (.putfield index, 3)) : kx_Snd (kx_W p l e R s m args below meth c Q D C4 A cnt0 ad0 nL P) P pc (ki_putR t j t2 g (pc + 3)) := by
  intro K hK L st S h ad H locs ls ha hc ho hst hL hP hD hS hl
  match st, h, hst with
  | .inr (.inr (some (t3, o3))) :: .inr (.inr (some (t1, o))) :: r, g9, hst =>
    unfold ki_putR at g9
    dsimp only at g9
    cases hq : (Nat.beq t1 t && Nat.beq t3 t2 && Nat.beq o3 (g o)) with
    | false => rw [hq] at g9; exact g9.elim
    | true =>
      rw [hq] at g9
      simp only [Bool.and_eq_true] at hq
      obtain rfl := Nat.eq_of_beq_eq_true hq.1.1
      obtain rfl := Nat.eq_of_beq_eq_true hq.1.2
      obtain rfl := Nat.eq_of_beq_eq_true hq.2
      cases hm2 : S.2.2 with
      | none => rw [hm2] at g9; exact g9.elim
      | some k =>
      rw [hm2] at g9
      have hi := kx_ok_lt hst.2.1 hf.1 (Nat.ne_of_beq_eq_false rfl)
      have he := kx_ws_at (C4 := C4) (ad := ad) hi ho.le
      rw [kx_en_o hf.1] at he
      have hjN : j < N := by rw [← hf.2.2.2.2.2.1]; exact (List.getElem?_eq_some_iff.mp hj).1
      have hT : (T j).1 = C := hf.2.2.2.2.2.2 j hjN
      have hset := kx_set1 (C4 := C4) (ad := ad) (f := upd (S.1 t1 o) j 1) hi ho.le
      have hfs := kx_fs_set (ad := ad) (S := S) (S' := (kx_uA S.1 t1 o (upd (S.1 t1 o) j 1), S.2)) (t := t1) (o := o) (v := .ref (ad (kx_ix t3 (g o)))) hj (by unfold kx_sv kx_rv; dsimp only; simp only [hm2, kx_uA_eq]; simp [upd]) rfl (fun i hi2 => by dsimp only; rw [kx_uA_eq]; simp [upd, hi2])
      rw [kx_en_o hf.1, ← hfs] at hset
      refine va_putF (D := D) hx hb hts hf.2.2.1 ty hf.2.2.2.1 hf.2.2.2.2.1 hown hK9 hP hD hS _ he hf.2.1 j hjN (hts _ hlk) (fun _ h9 => by rw [← hT]; exact h9) hfin hin2 (hT.trans hoC.symm) (v := .ref (ad (kx_ix t3 (g o)))) hd (hnr _) (hft _) (by rw [kx_fs_len, hf.2.2.2.2.2.1]; exact hjN) d (fun H1 locs1 hP1 hD1 hS1 => ?_)
      rw [hset] at hP1 hD1
      have hok3 : kx_ix t3 (g o) < kx_cnt S := by
        rcases hst.1 with h9 | h9
        · exact h9
        · exfalso
          have hcl := kx_closed _ (List.mem_of_getElem? (kx_ix_at (Nat.lt_of_lt_of_le hi ho.le))) (some (t3, g)) (by rw [hf.1]; dsimp only; rw [if_pos rfl]; exact List.mem_of_getElem? hj) (t3, g) rfl
          have h8 : t3 = 999 := h9
          have h7 := kx_ix_at hcl
          have h6 : ∀ q ∈ kx_cells, q.1 ≠ 999 := by decide +kernel
          exact h6 _ (List.mem_of_getElem? h7) h8
      refine hK _ _ _ _ g9 ad H1 locs1 ls ha hc ?_ hst.2.2 hL hP1 hD1 hS1 hl
      have hcn : kx_cnt S = k := by unfold kx_cnt; rw [hm2]
      unfold kx_hv at ho ⊢
      dsimp only
      rw [hm2] at ho ⊢
      rw [hcn] at hok3
      refine ⟨ho.1, fun t5 o5 j5 t6 o6 h1 h2 h4 => ?_⟩
      by_cases hto : t5 = t1 ∧ o5 = o
      · obtain ⟨rfl, rfl⟩ := hto
        by_cases hjj : j5 = j
        · subst hjj
          rw [kx_tgt_o hf.1 hj] at h2
          cases h2
          exact hok3
        · rw [kx_uA_eq] at h4
          simp only [upd, if_neg hjj] at h4
          exact ho.2 _ _ _ _ _ h1 h2 h4
      · rw [kx_uA_ne _ _ hto] at h4
        exact ho.2 _ _ _ _ _ h1 h2 h4
def ki_iald (n : Nat) : kx_T := fun _ K L st S => match st with
  | .inl i :: .inr (.inr (some (t, o))) :: r => (match kx_kind t with
    | (1, len) => vp_in i len ∧ K n L (.inl (S.1 t o i.toNatClampNeg) :: r) S
    | _ => False)
  | _ => False
def ki_iast (n : Nat) : kx_T := fun _ K L st S => match st with
  | .inl x :: .inl i :: .inr (.inr (some (t, o))) :: r => (match kx_kind t with
    | (1, len) => vp_in i len ∧ K n L r (kx_uA S.1 t o (upd (S.1 t o) i.toNatClampNeg x), S.2)
    | _ => False)
  | _ => False
def ki_bald (n : Nat) : kx_T := fun _ K L st S => match st with
  | .inl i :: .inr (.inr (some (t, o))) :: r => (match kx_kind t with
    | (3, len) => vp_in i len ∧ K n L (.inl (S.1 t o i.toNatClampNeg) :: r) S
    | _ => False)
  | _ => False
def ki_bast (n : Nat) : kx_T := fun _ K L st S => match st with
  | .inl x :: .inl i :: .inr (.inr (some (t, o))) :: r => (match kx_kind t with
    | (3, len) => vp_in i len ∧ K n L r (kx_uA S.1 t o (upd (S.1 t o) i.toNatClampNeg (vp_nar .boolean x)), S.2)
    | _ => False)
  | _ => False
def ki_lald (n : Nat) : kx_T := fun _ K L st S => match st with
  | .inl i :: .inr (.inr (some (t, o))) :: r => (match kx_kind t with
    | (2, len) => vp_in i len ∧ K n L (.inr (.inl (S.2.1 t o i.toNatClampNeg)) :: r) S
    | _ => False)
  | _ => False
def ki_last (n : Nat) : kx_T := fun _ K L st S => match st with
  | .inr (.inl x) :: .inl i :: .inr (.inr (some (t, o))) :: r => (match kx_kind t with
    | (2, len) => vp_in i len ∧ K n L r (S.1, kx_uL S.2.1 t o (vp_updL (S.2.1 t o) i.toNatClampNeg x), S.2.2)
    | _ => False)
  | _ => False
def ki_aald (n : Nat) : kx_T := fun _ K L st S => match st with
  | .inl i :: .inr (.inr (some (t, o))) :: r => (match kx_kind t, S.2.2 with
    | (4, len), none => vp_in i len ∧ K n L (.inr (.inr (some (kx_tSh, i.toNatClampNeg))) :: r) S
    | _, _ => False)
  | _ => False
def ki_alen (n : Nat) : kx_T := fun _ K L st S => match st with
  | .inr (.inr (some (t, o))) :: r => (match kx_kind t with
    | (1, len) => K n L (.inl (Int32.ofNat len) :: r) S
    | (2, len) => K n L (.inl (Int32.ofNat len) :: r) S
    | (4, len) => K n L (.inl (Int32.ofNat len) :: r) S
    | _ => False)
  | _ => False
def ki_acopy (n : Nat) : kx_T := fun _ K L st S => match st with
  | [.inl k, .inl dp, .inr (.inr (some (t2, o2))), .inl sp, .inr (.inr (some (t1, o1)))] => (match kx_kind t1, kx_kind t2 with
    | (1, l1), (1, l2) => ¬ sp < 0 ∧ ¬ dp < 0 ∧ ¬ k < 0 ∧ sp.toNatClampNeg + k.toNatClampNeg ≤ l1 ∧ dp.toNatClampNeg + k.toNatClampNeg ≤ l2 ∧ K n L [] (kx_uA S.1 t2 o2 (va_cpy (S.1 t1 o1) (S.1 t2 o2) sp.toNatClampNeg dp.toNatClampNeg k.toNatClampNeg), S.2)
    | (2, l1), (2, l2) => ¬ sp < 0 ∧ ¬ dp < 0 ∧ ¬ k < 0 ∧ sp.toNatClampNeg + k.toNatClampNeg ≤ l1 ∧ dp.toNatClampNeg + k.toNatClampNeg ≤ l2 ∧ K n L [] (S.1, kx_uL S.2.1 t2 o2 (va_cpy (S.2.1 t1 o1) (S.2.1 t2 o2) sp.toNatClampNeg dp.toNatClampNeg k.toNatClampNeg), S.2.2)
    | _, _ => False)
  | _ => False
theorem kx_hv_arr {S : kx_S} {t o a n : Nat} {f : Nat → Int32} (hk : kx_kind t = (a + 1, n)) (h4 : a ≠ 3) (h : kx_hv S) : kx_hv (kx_uA S.1 t o f, S.2) := by
  refine kx_hv_same (S := S) rfl (fun t3 o3 j3 q hq3 => ?_) h
  by_cases hto : t3 = t ∧ o3 = o
  · obtain ⟨rfl, rfl⟩ := hto
    rw [kx_tgt_n hk h4] at hq3
    cases hq3
  · dsimp only
    rw [kx_uA_ne _ _ hto]
theorem kx_kind4 : ∀ t n, kx_kind t = (4, n) → n = 8 := by
  intro t n h
  have h1 : ∀ q ∈ kx_kinds, q.1 = 4 → q.2 = 8 := by decide +kernel
  unfold kx_kind at h
  by_cases ht : t < kx_kinds.length
  · rw [List.getD_eq_getElem?_getD, List.getElem?_eq_getElem ht] at h
    have h2 := h1 _ (List.getElem_mem ht)
    simp only [Option.getD_some] at h
    rw [h] at h2
    exact h2 rfl
  · rw [List.getD_eq_getElem?_getD, List.getElem?_eq_none (by omega)] at h
    cases h
theorem ks_iald (hx : p.tables.exec = Jvm.exec) (hb : c.code = cc) (hK9 : va_K D vwCl (kx_tys C4) s) (d : decode cc pc = .ok (.iaload, 1)) : kx_Snd (kx_W p l e R s m args below meth c Q D C4 A cnt0 ad0 nL P) P pc (ki_iald (pc + 1)) := by
  intro K hK L st S h ad H locs ls ha hc ho hst hL hP hD hS hl
  match st, h, hst with
  | .inl i :: .inr (.inr (some (t, o))) :: r, h, hst =>
    unfold ki_iald at h
    dsimp only at h
    split at h
    next len hk =>
      have hi := kx_ok_lt hst.2.1 hk (Nat.ne_of_beq_eq_false rfl)
      have he := kx_ws_at (C4 := C4) (ad := ad) hi ho.le
      rw [kx_en_i hk] at he
      exact va_iald hx hb hK9 hP _ 0 he rfl h.1 d (hK _ _ _ _ h.2 ad H locs ls ha hc ho ⟨trivial, hst.2.2⟩ hL hP hD hS hl)
    next => exact h.elim
theorem ks_bald (hx : p.tables.exec = Jvm.exec) (hb : c.code = cc) (hK9 : va_K D vwCl (kx_tys C4) s) (d : decode cc pc = .ok (.baload, 1)) : kx_Snd (kx_W p l e R s m args below meth c Q D C4 A cnt0 ad0 nL P) P pc (ki_bald (pc + 1)) := by
  intro K hK L st S h ad H locs ls ha hc ho hst hL hP hD hS hl
  match st, h, hst with
  | .inl i :: .inr (.inr (some (t, o))) :: r, h, hst =>
    unfold ki_bald at h
    dsimp only at h
    split at h
    next len hk =>
      have hi := kx_ok_lt hst.2.1 hk (Nat.ne_of_beq_eq_false rfl)
      have he := kx_ws_at (C4 := C4) (ad := ad) hi ho.le
      rw [kx_en_z hk] at he
      exact va_zald hx hb hK9 hP _ 2 he rfl h.1 d (hK _ _ _ _ h.2 ad H locs ls ha hc ho ⟨trivial, hst.2.2⟩ hL hP hD hS hl)
    next => exact h.elim
theorem ks_lald (hx : p.tables.exec = Jvm.exec) (hb : c.code = cc) (hK9 : va_K D vwCl (kx_tys C4) s) (d : decode cc pc = .ok (.laload, 1)) : kx_Snd (kx_W p l e R s m args below meth c Q D C4 A cnt0 ad0 nL P) P pc (ki_lald (pc + 1)) := by
  intro K hK L st S h ad H locs ls ha hc ho hst hL hP hD hS hl
  match st, h, hst with
  | .inl i :: .inr (.inr (some (t, o))) :: r, h, hst =>
    unfold ki_lald at h
    dsimp only at h
    split at h
    next len hk =>
      have hi := kx_ok_lt hst.2.1 hk (Nat.ne_of_beq_eq_false rfl)
      have he := kx_ws_at (C4 := C4) (ad := ad) hi ho.le
      rw [kx_en_l hk] at he
      exact va_lald hx hb hK9 hP _ 1 he rfl h.1 d (hK _ _ _ _ h.2 ad H locs ls ha hc ho ⟨trivial, hst.2.2⟩ hL hP hD hS hl)
    next => exact h.elim
theorem ks_iast (hx : p.tables.exec = Jvm.exec) (hb : c.code = cc) (hK9 : va_K D vwCl (kx_tys C4) s) (d : decode cc pc = .ok (.iastore, 1)) : kx_Snd (kx_W p l e R s m args below meth c Q D C4 A cnt0 ad0 nL P) P pc (ki_iast (pc + 1)) := by
  intro K hK L st S h ad H locs ls ha hc ho hst hL hP hD hS hl
  match st, h, hst with
  | .inl x :: .inl i :: .inr (.inr (some (t, o))) :: r, h, hst =>
    unfold ki_iast at h
    dsimp only at h
    split at h
    next len hk =>
      have hi := kx_ok_lt hst.2.2.1 hk (Nat.ne_of_beq_eq_false rfl)
      have he := kx_ws_at (C4 := C4) (ad := ad) hi ho.le
      rw [kx_en_i hk] at he
      have hset := kx_set1 (C4 := C4) (ad := ad) (f := upd (S.1 t o) i.toNatClampNeg x) hi ho.le
      rw [kx_en_i hk] at hset
      dsimp only at hset
      rw [kx_uA_eq] at hset
      refine va_iast hx hb hK9 hP hD hS _ 0 he rfl h.1 d (fun H1 locs1 hP1 hD1 hS1 => ?_)
      rw [hset] at hP1 hD1
      exact hK _ _ _ _ h.2 ad H1 locs1 ls ha hc (kx_hv_arr (a := 0) hk (by decide) ho) hst.2.2.2 hL hP1 hD1 hS1 hl
    next => exact h.elim
theorem ks_bast (hx : p.tables.exec = Jvm.exec) (hb : c.code = cc) (hK9 : va_K D vwCl (kx_tys C4) s) (d : decode cc pc = .ok (.bastore, 1)) : kx_Snd (kx_W p l e R s m args below meth c Q D C4 A cnt0 ad0 nL P) P pc (ki_bast (pc + 1)) := by
  intro K hK L st S h ad H locs ls ha hc ho hst hL hP hD hS hl
  match st, h, hst with
  | .inl x :: .inl i :: .inr (.inr (some (t, o))) :: r, h, hst =>
    unfold ki_bast at h
    dsimp only at h
    split at h
    next len hk =>
      have hi := kx_ok_lt hst.2.2.1 hk (Nat.ne_of_beq_eq_false rfl)
      have he := kx_ws_at (C4 := C4) (ad := ad) hi ho.le
      rw [kx_en_z hk] at he
      have hset := kx_set1 (C4 := C4) (ad := ad) (f := upd (S.1 t o) i.toNatClampNeg (vp_nar .boolean x)) hi ho.le
      rw [kx_en_z hk] at hset
      dsimp only at hset
      rw [kx_uA_eq] at hset
      refine va_zast hx hb hK9 hP hD hS _ 2 he rfl h.1 d (fun H1 locs1 hP1 hD1 hS1 => ?_)
      rw [hset] at hP1 hD1
      exact hK _ _ _ _ h.2 ad H1 locs1 ls ha hc (kx_hv_arr (a := 2) hk (by decide) ho) hst.2.2.2 hL hP1 hD1 hS1 hl
    next => exact h.elim
theorem ks_last (hx : p.tables.exec = Jvm.exec) (hb : c.code = cc) (hK9 : va_K D vwCl (kx_tys C4) s) (d : decode cc pc = .ok (.lastore, 1)) : kx_Snd (kx_W p l e R s m args below meth c Q D C4 A cnt0 ad0 nL P) P pc (ki_last (pc + 1)) := by
  intro K hK L st S h ad H locs ls ha hc ho hst hL hP hD hS hl
  match st, h, hst with
  | .inr (.inl x) :: .inl i :: .inr (.inr (some (t, o))) :: r, h, hst =>
    unfold ki_last at h
    dsimp only at h
    split at h
    next len hk =>
      have hi := kx_ok_lt hst.2.2.1 hk (Nat.ne_of_beq_eq_false rfl)
      have he := kx_ws_at (C4 := C4) (ad := ad) hi ho.le
      rw [kx_en_l hk] at he
      have hset := kx_set2 (C4 := C4) (ad := ad) (f := vp_updL (S.2.1 t o) i.toNatClampNeg x) hi ho.le
      rw [kx_en_l hk] at hset
      dsimp only at hset
      rw [kx_uL_eq] at hset
      refine va_last hx hb hK9 hP hD hS _ 1 he rfl h.1 d (fun H1 locs1 hP1 hD1 hS1 => ?_)
      rw [hset] at hP1 hD1
      exact hK _ _ _ _ h.2 ad H1 locs1 ls ha hc (kx_hv_same (S := S) rfl (fun _ _ _ _ _ => rfl) ho) hst.2.2.2 hL hP1 hD1 hS1 hl
    next => exact h.elim
theorem ks_aald (hx : p.tables.exec = Jvm.exec) (hb : c.code = cc) (hK9 : va_K D vwCl (kx_tys C4) s) (d : decode cc pc = .ok (.aaload, 1)) : kx_Snd (kx_W p l e R s m args below meth c Q D C4 A cnt0 ad0 nL P) P pc (ki_aald (pc + 1)) := by
  intro K hK L st S h ad H locs ls ha hc ho hst hL hP hD hS hl
  match st, h, hst with
  | .inl i :: .inr (.inr (some (t, o))) :: r, h, hst =>
    unfold ki_aald at h
    dsimp only at h
    split at h
    next len hk hm =>
      have hi := kx_ok_lt hst.2.1 hk (Nat.ne_of_beq_eq_false rfl)
      have he := kx_ws_at (C4 := C4) (ad := ad) hi ho.le
      rw [kx_en_r hk] at he
      have h8 := kx_kind4 _ _ hk
      subst h8
      have hlt : i.toNatClampNeg < 8 := Nat.not_le.mp fun q => h.1 (Or.inr q)
      have hok : kx_ok (kx_cnt S) (.inr (.inr (some (kx_tSh, i.toNatClampNeg)))) := by
        refine Or.inl ?_
        unfold kx_cnt
        rw [hm]
        exact kx_closed_r _ hlt
      have hkk := hK _ _ _ _ h.2 ad H locs ls ha hc ho ⟨hok, hst.2.2⟩ hL hP hD hS hl
      refine va_aldq hx hb hK9 hP _ 3 he rfl h.1 d ?_
      have e9 : kx_ro ad S t o i.toNatClampNeg kx_tSh i.toNatClampNeg = some (ad (kx_ix kx_tSh i.toNatClampNeg)) := by
        unfold kx_ro
        rw [hm]
      rw [e9]
      exact hkk
    next => exact h.elim
theorem ks_alen (hx : p.tables.exec = Jvm.exec) (hb : c.code = cc) (hK9 : va_K D vwCl (kx_tys C4) s) (d : decode cc pc = .ok (.arraylength, 1)) : kx_Snd (kx_W p l e R s m args below meth c Q D C4 A cnt0 ad0 nL P) P pc (ki_alen (pc + 1)) := by
  intro K hK L st S h ad H locs ls ha hc ho hst hL hP hD hS hl
  match st, h, hst with
  | .inr (.inr (some (t, o))) :: r, h, hst =>
    unfold ki_alen at h
    dsimp only at h
    split at h
    next len hk =>
      have hi := kx_ok_lt hst.1 hk (Nat.ne_of_beq_eq_false rfl)
      have he := kx_ws_at (C4 := C4) (ad := ad) hi ho.le
      rw [kx_en_i hk] at he
      exact va_alen hx hb hK9 hP _ 0 he rfl rfl d (hK _ _ _ _ h ad H locs ls ha hc ho ⟨trivial, hst.2⟩ hL hP hD hS hl)
    next len hk =>
      have hi := kx_ok_lt hst.1 hk (Nat.ne_of_beq_eq_false rfl)
      have he := kx_ws_at (C4 := C4) (ad := ad) hi ho.le
      rw [kx_en_l hk] at he
      exact va_alen hx hb hK9 hP _ 1 he rfl rfl d (hK _ _ _ _ h ad H locs ls ha hc ho ⟨trivial, hst.2⟩ hL hP hD hS hl)
    next len hk =>
      have hi := kx_ok_lt hst.1 hk (Nat.ne_of_beq_eq_false rfl)
      have he := kx_ws_at (C4 := C4) (ad := ad) hi ho.le
      rw [kx_en_r hk] at he
      exact va_alen hx hb hK9 hP _ 3 he rfl rfl d (hK _ _ _ _ h ad H locs ls ha hc ho ⟨trivial, hst.2⟩ hL hP hD hS hl)
    next => exact h.elim
theorem ks_acopy (hx : p.tables.exec = Jvm.exec) (hb : c.code = cc) (hK9 : va_K D vwCl (kx_tys C4) s) (hts : ∀ w ∈ kx_tbl, w.before args s = true) {own : String} {index : Nat} (hml : c.maxLocals = nL) (hown : s.vm.findClass own = some m.cls) (hlk : Cond.methodLink own index arraycopyName ∈ kx_tbl) (hnat : Cond.native arraycopyName ∈ kx_tbl) (hstat : Cond.static arraycopyName ∈ kx_tbl) (hini : Cond.initialized "java/lang/System" ∈ kx_tbl) (hfr : 1 ≤ R.frames) (hlo : 0 + (nativeFrameWords "java/lang/System" "arraycopy" 5 + 11) ≤ R.locals) (d : decode cc pc = .ok (.invokestatic index, 3)) : kx_Snd (kx_W p l e R s m args below meth c Q D C4 A cnt0 ad0 nL P) P pc (ki_acopy (pc + 3)) := by
  intro K hK L st S h ad H locs ls ha hc ho hst hL hP hD hS hl
  match st, h, hst with
  | [.inl k, .inl dp, .inr (.inr (some (t2, o2))), .inl sp, .inr (.inr (some (t1, o1)))], h, hst =>
    unfold ki_acopy at h
    dsimp only at h
    split at h
    next l1 l2 hk1 hk2 =>
      obtain ⟨h1, h2, h3, h4, h5, h⟩ := h
      have hi2 := kx_ok_lt hst.2.2.1 hk2 (Nat.ne_of_beq_eq_false rfl)
      have hi1 := kx_ok_lt hst.2.2.2.2.1 hk1 (Nat.ne_of_beq_eq_false rfl)
      have he1 := kx_ws_at (C4 := C4) (ad := ad) hi1 ho.le
      have he2 := kx_ws_at (C4 := C4) (ad := ad) hi2 ho.le
      rw [kx_en_i hk1] at he1
      rw [kx_en_i hk2] at he2
      have hset := kx_set1 (C4 := C4) (ad := ad) (f := va_cpy (S.1 t1 o1) (S.1 t2 o2) sp.toNatClampNeg dp.toNatClampNeg k.toNatClampNeg) hi2 ho.le
      rw [kx_en_i hk2] at hset
      dsimp only at hset
      rw [kx_uA_eq] at hset
      refine va_copyi hx hb (hml.trans hl.1.symm) hown (hts _ hlk) (hts _ hnat) (hts _ hstat) (hts _ hini) hK9 hP hD hS _ _ 0 0 he1 he2 rfl rfl rfl h1 h2 h3 h4 h5 (fun _ _ => rfl) hfr hlo d (fun H1 locs1 hP1 hD1 hS1 => ?_)
      rw [hset] at hP1 hD1
      exact hK _ _ _ _ h ad H1 locs1 ls ha hc (kx_hv_arr (a := 0) hk2 (by decide) ho) trivial hL hP1 hD1 hS1 hl
    next l1 l2 hk1 hk2 =>
      obtain ⟨h1, h2, h3, h4, h5, h⟩ := h
      have hi2 := kx_ok_lt hst.2.2.1 hk2 (Nat.ne_of_beq_eq_false rfl)
      have hi1 := kx_ok_lt hst.2.2.2.2.1 hk1 (Nat.ne_of_beq_eq_false rfl)
      have he1 := kx_ws_at (C4 := C4) (ad := ad) hi1 ho.le
      have he2 := kx_ws_at (C4 := C4) (ad := ad) hi2 ho.le
      rw [kx_en_l hk1] at he1
      rw [kx_en_l hk2] at he2
      have hset := kx_set2 (C4 := C4) (ad := ad) (f := va_cpy (S.2.1 t1 o1) (S.2.1 t2 o2) sp.toNatClampNeg dp.toNatClampNeg k.toNatClampNeg) hi2 ho.le
      rw [kx_en_l hk2] at hset
      dsimp only at hset
      rw [kx_uL_eq] at hset
      refine va_copyl hx hb (hml.trans hl.1.symm) hown (hts _ hlk) (hts _ hnat) (hts _ hstat) (hts _ hini) hK9 hP hD hS _ _ 1 1 he1 he2 rfl rfl rfl h1 h2 h3 h4 h5 (fun _ _ => rfl) hfr hlo d (fun H1 locs1 hP1 hD1 hS1 => ?_)
      rw [hset] at hP1 hD1
      exact hK _ _ _ _ h ad H1 locs1 ls ha hc (kx_hv_same (S := S) rfl (fun _ _ _ _ _ => rfl) ho) trivial hL hP1 hD1 hS1 hl
    next => exact h.elim
end KXH
end
section
/-! calls, answers, contracts -/
abbrev kx_Sp : Type := List kx_V → kx_S → Option kx_V → kx_S → Prop
def kx_catl : List kx_V → Nat
  | [] => 0
  | .inr (.inl _) :: r => 2 + kx_catl r
  | _ :: r => 1 + kx_catl r
theorem kx_catl_eq (ad : Nat → Nat) (st : List kx_V) : ((st.map (kx_cv ad)).map fun v => v.category).sum = kx_catl st := by
  induction st with
  | nil => rfl
  | cons a r ih =>
    rw [List.map_cons, List.map_cons, List.sum_cons, ih]
    rcases a with x | x | _ | q <;> rfl
theorem kx_catl_sl (ad : Nat → Nat) (st : List kx_V) : (lg_sl (st.map (kx_cv ad))).length = kx_catl st := by
  induction st with
  | nil => rfl
  | cons a r ih =>
    have e : lg_sl ((a :: r).map (kx_cv ad)) = (if (kx_cv ad a).category = 2 then [.val (kx_cv ad a), .second] else [.val (kx_cv ad a)]) ++ lg_sl (r.map (kx_cv ad)) := rfl
    rw [e, List.length_append, ih]
    rcases a with x | x | _ | q <;> rfl
def kx_okr (n : Nat) (r : Option kx_V) : Prop := match r with
  | none => True
  | some v => kx_ok n v
theorem kx_agree.rf {n : Nat} {ad : Nat → Nat} : kx_agree n ad ad := fun _ _ => rfl
theorem kx_agree.tr {n k : Nat} {a0 a1 a2 : Nat → Nat} (h : kx_agree n a0 a1) (h2 : kx_agree k a1 a2) (hn : n ≤ k) : kx_agree n a0 a2 := fun i hi => (h2 i (hi.elim (fun q => Or.inl (Nat.lt_of_lt_of_le q hn)) Or.inr)).trans (h i hi)
theorem kx_ix_scr (o : Nat) : kx_ix 999 o = kx_NC := by
  have h : (999, o) ∉ kx_cells := fun hm => by
    have h6 : ∀ q ∈ kx_cells, q.1 ≠ 999 := by decide +kernel
    exact h6 _ hm rfl
  have h2 := List.idxOf_eq_length h
  rw [kx_cells_len] at h2
  exact h2
theorem kx_cv_agree {n : Nat} {ad ad' : Nat → Nat} {v : kx_V} (h : kx_agree n ad ad') (hv : kx_ok n v) : kx_cv ad' v = kx_cv ad v := by
  rcases v with x | x | _ | ⟨t, o⟩
  · rfl
  · rfl
  · rfl
  · show Value.ref (ad' (kx_ix t o)) = Value.ref (ad (kx_ix t o))
    rcases hv with hv | hv
    · rw [h _ (Or.inl hv)]
    · have h2 : t = 999 := hv
      subst h2
      rw [h _ (Or.inr (kx_ix_scr o))]
theorem kx_map_agree {n : Nat} {ad ad' : Nat → Nat} {st : List kx_V} (h : kx_agree n ad ad') (hv : kx_okl n st) : st.map (kx_cv ad') = st.map (kx_cv ad) := List.map_congr_left fun v hm => kx_cv_agree h (kx_okl_mem hv v hm)
theorem kx_has.agree {n nL : Nat} {ad ad' : Nat → Nat} {ls : Array Slot} {L : kx_L} (h : kx_agree n ad ad') (hv : kx_okL n L) (hl : kx_has ad ls nL L) : kx_has ad' ls nL L := ⟨hl.1, hl.2.1, fun i v hi => by rw [kx_cv_agree h (hv i v hi)]; exact hl.2.2 i v hi⟩
theorem kx_ok.mono {n k : Nat} {v : kx_V} (h : kx_ok n v) (hn : n ≤ k) : kx_ok k v := by
  rcases v with x | x | _ | q
  · trivial
  · trivial
  · trivial
  · exact h.elim (fun z => Or.inl (Nat.lt_of_lt_of_le z hn)) Or.inr
theorem kx_okl.mono {n k : Nat} {st : List kx_V} (h : kx_okl n st) (hn : n ≤ k) : kx_okl k st := kx_okl_of fun v hv => (kx_okl_mem h v hv).mono hn
theorem kx_okL.mono {n k : Nat} {L : kx_L} (h : kx_okL n L) (hn : n ≤ k) : kx_okL k L := fun i v hv => (h i v hv).mono hn
theorem kx_okl_take {n : Nat} {st : List kx_V} (k : Nat) (h : kx_okl n st) : kx_okl n (st.take k).reverse := kx_okl_of fun v hv => kx_okl_mem h v (List.mem_of_mem_take (List.mem_reverse.mp hv))
theorem kx_okl_drop {n : Nat} {st : List kx_V} (k : Nat) (h : kx_okl n st) : kx_okl n (st.drop k) := kx_okl_of fun v hv => kx_okl_mem h v (List.mem_of_mem_drop hv)
theorem kx_szl_ok : kx_szl.Pairwise (· ≤ ·) ∧ kx_szl.length = kx_NC + 1 := by decide +kernel
theorem kx_sz_mono {a b : Nat} (h : a ≤ b) (hb : b ≤ kx_NC) : kx_sz a ≤ kx_sz b := by
  unfold kx_sz
  have hl := kx_szl_ok.2
  rw [List.getD_eq_getElem?_getD, List.getD_eq_getElem?_getD, List.getElem?_eq_getElem (by omega), List.getElem?_eq_getElem (by omega)]
  rcases Nat.lt_or_eq_of_le h with h1 | h1
  · exact List.pairwise_iff_getElem.mp kx_szl_ok.1 a b _ _ h1
  · subst h1
    exact Nat.le_refl _
theorem kx_tbl_good {w : Cond} (h : w ∈ kx_tbl) : (w.onTables && w.keeps) = true ∨ ∃ ty, w = .arrayClass ty := good_of_word (List.mem_filter.mp h).2
theorem kx_goodIn {ws : List Cond} (h : ∀ w ∈ ws, w ∈ kx_tbl) : GoodIn kx_tbl ws := fun w hw => ⟨h w hw, kx_tbl_good (h w hw)⟩
abbrev kx_wd (y : MethodName) (b : ByteArray) (n : Nat) (ret : Option FieldType) : List Cond := .code y b n ret :: kx_tbl
def kx_nst (U : State) : Prop := (∀ q ∈ kx_nl, va_Nw (.methodLinkNest q.1 q.2.1 q.2.2.1 q.2.2.2) U) ∧ va_AO "KeptLight$Shelf" U
theorem kx_nst.warm {s U : State} (h : kx_nst s) (hW : s.WarmedH U.vm) : kx_nst U := ⟨fun q hq => va_Nw.warmM hW (h.1 q hq), va_AO.moved hW.alike h.2⟩
def kx_B (D : va_G) (C4 : kx_C) (ad : Nat → Nat) (sz : Nat) (S : kx_S) : State → Prop := fun U => U.heap.size = sz ∧ va_P D vwCl (kx_ws C4 ad S) U.heap ∧ va_K D vwCl (kx_tys C4) U ∧ va_D (fun _ => True) (kx_ws C4 ad S) ∧ kx_nst U
theorem kx_blind {D : va_G} {C4 : kx_C} {ad : Nat → Nat} {sz : Nat} {S : kx_S} {av : List Value} : FrameBlind (va_Pc av (kx_B D C4 ad sz S)) := fun a U g mk q => by
  obtain ⟨q0, q1, qP, qK, qD, qN⟩ := q
  exact ⟨q0, q1, qP, va_K.moved (u := U) (U := U.calling g mk a) (Vm.Alike.refl U.vm) qK, qD, fun w hw => va_Nw.same rfl rfl (qN.1 w hw), va_AO.moved (u := U) (U := U.calling g mk a) (Vm.Alike.refl U.vm) qN.2⟩
def kx_Q (D : va_G) (C4 : kx_C) (ad : Nat → Nat) (S : kx_S) (r : Option kx_V) (S' : kx_S) (A1 : Nat → Prop) : Array Value → State → Outcome → State → Prop := fun _ st oc t => (∃ ad', kx_agree (kx_cnt S) ad ad' ∧ oc = .returned (r.map (kx_cv ad')) ∧ kx_okr (kx_cnt S') r ∧ kx_hv S' ∧ va_P D vwCl (kx_ws C4 ad' S') t.heap ∧ va_D A1 (kx_ws C4 ad' S')) ∧ va_F A1 st t
def kx_ok1 (l : Launch) (y : MethodName) (ws : List Cond) (rm : Room) (Sp : kx_Sp) (nl mc ms : Nat) : Prop := ∀ (D : va_G) (C4 : kx_C) (ad : Nat → Nat) (sz : Nat) (av : List kx_V) (S : kx_S) (r : Option kx_V) (S' : kx_S), Sp av S r S' → kx_catl av ≤ nl → kx_okl (kx_cnt S) av → kx_hv S → kx_cnt S' ≤ kx_NC → kx_cnt S' = kx_cnt S + mc → kx_sz (kx_cnt S') = kx_sz (kx_cnt S) + ms →
  Met l y ws rm (va_Pc (av.map (kx_cv ad)) (kx_B D C4 ad sz S)) (kx_Q D C4 ad S r S' (va_A (kx_ws C4 ad S) sz)) mc ms (va_A (kx_ws C4 ad S) sz)
def kx_Ctx (p : Program) (R : Room) (s : State) (m : MethodId) (args : Array Value) (c : Code) (cc : ByteArray) (own : String) (nL : Nat) (D : va_G) (C4 : kx_C) (A : Nat → Prop) (cnt0 : Nat) (P : kx_P) : Prop := CallFix p m c cc nL s args kx_tbl own ∧ va_K D vwCl (kx_tys C4) s ∧ kx_nst s ∧ (∀ q, s.heap.size ≤ q → A q) ∧ P.1 - cnt0 ≤ R.cells ∧ kx_sz P.1 - kx_sz cnt0 ≤ R.slots ∧ P.1 ≤ kx_NC
def kx_sp (tb : Nat → kx_T) (nl : Nat) : kx_Sp := fun av S r S' => kx_Run tb (kx_cnt S', fun r' S'' => r' = r ∧ S'' = S') 0 (kx_l0 av nl) [] S
section KXC
variable {p : Program} {l : Launch} {e : Env} {R : Room} {s : State} {m : MethodId} {args : Array Value} {below : List Frame} {meth : Method} {c : Code} {Q : State → Prop} {D : va_G} {C4 : kx_C} {A : Nat → Prop} {cnt0 : Nat} {ad0 : Nat → Nat} {nL : Nat} {P : kx_P} {cc : ByteArray} {pc : Nat} {own : String}
theorem kx_call {H : Heap} {locs : List Loc} {cells slots mc ms : Nat} {ls : Array Slot} {st0 rest : List Value} {ad : Nat → Nat} {S S' : kx_S} {r : Option kx_V} {A1 : Nat → Prop} {H0 : Heap} {a : Array Value}
    (hr : va_Run p l e R s m args below meth c H locs cells slots mc ms (F0 m pc ls st0) rest (kx_Q D C4 ad S r S' A1 a) A1) (hS : va_S A H0 H locs) (hf : ∀ q, A1 q → A q)
    (kk : ∀ (ad' : Nat → Nat) (H1 : Heap) (locs1 : List Loc), kx_agree (kx_cnt S) ad ad' → kx_okr (kx_cnt S') r → kx_hv S' → va_P D vwCl (kx_ws C4 ad' S') H1 → va_D A (kx_ws C4 ad' S') → va_S A H0 H1 locs1 → W p l e R s m args below meth c H1 locs1 (cells + mc) (slots + ms) Q (F0 m (pc + 3) ls ((r.map (kx_cv ad')).toList ++ rest))) : W p l e R s m args below meth c H locs cells slots Q (F0 m pc ls st0) := by
  intro T hT X
  obtain ⟨v, st₀, t, T', L, h0, X', hL, e1, e2, ⟨⟨ad', h1, hv, h2, h3, h4, h5⟩, hz, hk⟩, st⟩ := hr T hT X
  cases hv
  rw [h0] at hz hk
  obtain ⟨t2, a1, b1⟩ := kk ad' T'.heap (locs ++ L) h1 h2 h3 (by rw [e1]; exact h4) (h5.weaken fun _ _ _ z => hf _ z)
    ⟨Nat.le_trans hS.1 (by rw [e1]; exact hz), fun q g1 g2 => by rw [e1, hk q (Nat.lt_of_lt_of_le g1 hS.1) (fun z => g2 (hf q z))]; exact hS.2.1 q g1 g2, fun q hq => by
      rcases List.mem_append.mp hq with h | h
      · exact hS.2.2 q h
      · exact hf _ (hL q h)⟩ T' rfl X'
  exact ⟨t2, st t2 a1, b1⟩
/-- what a call's words are, for any kind of call -/
theorem kx_after {H : Heap} {locs : List Loc} {mc ms : Nat} {ls : Array Slot} {st0 : List Value} {ad : Nat → Nat} {S S' : kx_S} {r : Option kx_V} {a : Array Value} {K : kx_K} {L : kx_L} {st : List kx_V} (X : kx_Ctx p R s m args c cc own nL D C4 A cnt0 P)
    (hK : ∀ pc L st S, K pc L st S → kx_W p l e R s m args below meth c Q D C4 A cnt0 ad0 nL P pc L st S)
    (hr : va_Run p l e R s m args below meth c H locs (kx_cnt S - cnt0) (kx_sz (kx_cnt S) - kx_sz cnt0) mc ms (F0 m pc ls st0) (st.map (kx_cv ad)) (kx_Q D C4 ad S r S' (va_A (kx_ws C4 ad S) H.size) a) (va_A (kx_ws C4 ad S) H.size))
    (ha : kx_agree cnt0 ad0 ad) (hc : cnt0 ≤ kx_cnt S) (hc' : kx_cnt S' ≤ P.1) (hmc : kx_cnt S' = kx_cnt S + mc) (hms : kx_sz (kx_cnt S') = kx_sz (kx_cnt S) + ms) (hst : kx_okl (kx_cnt S) st) (hL : kx_okL (kx_cnt S) L) (hD : va_D A (kx_ws C4 ad S)) (hS : va_S A s.heap H locs) (hl : kx_has ad ls nL L)
    (hk : K (pc + 3) L (r.toList ++ st) S') : W p l e R s m args below meth c H locs (kx_cnt S - cnt0) (kx_sz (kx_cnt S) - kx_sz cnt0) Q (F0 m pc ls st0) := by
  refine kx_call hr hS (fun q hq => ?_) fun ad' H1 locs1 h1 h2 h3 h4 h5 h6 => ?_
  · rcases hq with ⟨k, x, hk⟩ | hq
    · exact hD.2 k _ hk
    · exact X.2.2.2.1 q (Nat.le_trans hS.1 hq)
  · have hz := kx_sz_mono hc (by have := X.2.2.2.2.2.2; omega)
    have e1 : kx_cnt S - cnt0 + mc = kx_cnt S' - cnt0 := by omega
    have e2 : kx_sz (kx_cnt S) - kx_sz cnt0 + ms = kx_sz (kx_cnt S') - kx_sz cnt0 := by omega
    rw [e1, e2]
    have e3 : (r.map (kx_cv ad')).toList ++ st.map (kx_cv ad) = (r.toList ++ st).map (kx_cv ad') := by
      rw [List.map_append, kx_map_agree h1 hst]
      cases r <;> rfl
    rw [e3]
    refine hK _ _ _ _ hk ad' H1 locs1 ls (ha.tr h1 hc) ⟨by omega, hc'⟩ h3 ?_ (hL.mono (by omega)) h4 h5 h6 (hl.agree h1 hL)
    cases r with
    | none => exact hst.mono (by omega)
    | some v => exact ⟨h2, hst.mono (by omega)⟩
theorem kx_pre {H : Heap} {ad : Nat → Nat} {S : kx_S} {av : List kx_V} (hK9 : va_K D vwCl (kx_tys C4) s) (hN : kx_nst s) (hP : va_P D vwCl (kx_ws C4 ad S) H) (hD : va_D A (kx_ws C4 ad S)) : PreS s H (va_Pc (av.map (kx_cv ad)) (kx_B D C4 ad H.size S)) (av.map (kx_cv ad)) :=
  ⟨kx_blind, fun U hU hW => ⟨rfl, by rw [hU], by rw [hU]; exact hP, va_K.moved hW.alike hK9, hD.weaken (fun _ _ _ _ => trivial), hN.warm hW⟩⟩
def ki_cs (k nl : Nat) (Sp : kx_Sp) (n : Nat) : kx_T := fun _ K L st S => bif Nat.beq (st.take k).length k && Nat.ble (kx_catl (st.drop k)) 8 && Nat.ble (kx_catl (st.take k).reverse) nl then (∃ r S', Sp (st.take k).reverse S r S' ∧ S'.2.2 = S.2.2 ∧ K n L (r.toList ++ st.drop k) S') else False
def ki_cv (t k nl : Nat) (Sp : kx_Sp) (n : Nat) : kx_T := fun _ K L st S => match (st.take (k + 1)).reverse with
  | .inr (.inr (some (t1, o))) :: r9 => bif Nat.beq t1 t && Nat.beq r9.length k && Nat.ble (kx_catl (st.drop (k + 1))) 8 && Nat.ble (1 + kx_catl r9) nl then (∃ r S', Sp (.inr (.inr (some (t, o))) :: r9) S r S' ∧ S'.2.2 = S.2.2 ∧ K n L (r.toList ++ st.drop (k + 1)) S') else False
  | _ => False
def ki_ci (t nl mc ms : Nat) (Sp : kx_Sp) (n : Nat) : kx_T := fun P K L st S => match st with
  | .inr (.inr (some (t1, o))) :: r9 => bif Nat.beq t1 t && Nat.ble (kx_catl r9) 8 && Nat.ble 1 nl then (∃ S', Sp [.inr (.inr (some (t, o)))] S none S' ∧ kx_cnt S' = kx_cnt S + mc ∧ kx_sz (kx_cnt S') = kx_sz (kx_cnt S) + ms ∧ kx_cnt S' ≤ P.1 ∧ K n L r9 S') else False
  | _ => False
theorem kx_rm0 {S : kx_S} (X : kx_Ctx p R s m args c cc own nL D C4 A cnt0 P) (hc : cnt0 ≤ kx_cnt S ∧ kx_cnt S ≤ P.1) : kx_cnt S - cnt0 + 0 ≤ R.cells ∧ kx_sz (kx_cnt S) - kx_sz cnt0 + 0 ≤ R.slots := by
  have h1 := X.2.2.2.2.1
  have h2 := X.2.2.2.2.2.1
  have h3 := kx_sz_mono hc.2 X.2.2.2.2.2.2
  omega
theorem kx_rm1 {S S' : kx_S} {mc ms : Nat} (X : kx_Ctx p R s m args c cc own nL D C4 A cnt0 P) (hc : cnt0 ≤ kx_cnt S) (hc' : kx_cnt S' ≤ P.1) (hmc : kx_cnt S' = kx_cnt S + mc) (hms : kx_sz (kx_cnt S') = kx_sz (kx_cnt S) + ms) : kx_cnt S - cnt0 + mc ≤ R.cells ∧ kx_sz (kx_cnt S) - kx_sz cnt0 + ms ≤ R.slots := by
  have h1 := X.2.2.2.2.1
  have h2 := X.2.2.2.2.2.1
  have h3 := kx_sz_mono hc' X.2.2.2.2.2.2
  have h4 := kx_sz_mono hc (by have := X.2.2.2.2.2.2; omega)
  omega

theorem ks_cs (X : kx_Ctx p R s m args c cc own nL D C4 A cnt0 P) {y : MethodName} {b : ByteArray} {nl : Nat} {ret : Option FieldType} {rm : Room} {Sp : kx_Sp} {k index : Nat} (hM : kx_ok1 l y (kx_wd y b nl ret) rm Sp nl 0 0) (hrm : rm.cells = 0 ∧ rm.slots = 0) (hlk : Cond.methodLink own index y ∈ kx_tbl) (hstt : Cond.static y ∈ kx_tbl) (hcode : Cond.code y b nl ret ∈ kx_tbl) (hini : Cond.initialized y.cls ∈ kx_tbl) (hd : y.cls ≠ "java/lang/invoke/MethodHandle" ∧ y.cls ≠ "java/lang/invoke/VarHandle" ∧ (parseMethodDescriptor y.desc).map (fun d => d.parameters.length) = some k) (hR : rm.frames + 1 ≤ R.frames ∧ 8 + (nl + 11) + rm.locals ≤ R.locals) (d : decode cc pc = .ok (.invokestatic index, 3)) : kx_Snd (kx_W p l e R s m args below meth c Q D C4 A cnt0 ad0 nL P) P pc (ki_cs k nl Sp (pc + 3)) := by
  intro K hK L st S h ad H locs ls ha hc ho hst hL hP hD hS hl
  unfold ki_cs at h
  cases hq : (Nat.beq (st.take k).length k && Nat.ble (kx_catl (st.drop k)) 8 && Nat.ble (kx_catl (st.take k).reverse) nl) with
  | false => rw [hq] at h; exact h.elim
  | true =>
    rw [hq] at h
    simp only [Bool.and_eq_true] at hq
    obtain ⟨r, S', hsp, hm, h⟩ := h
    have hcs := kx_cnt_same hm
    have hlen : (st.take k).length = k := Nat.eq_of_beq_eq_true hq.1.1
    have hcat : kx_catl (st.drop k) ≤ 8 := Nat.le_of_ble_eq_true hq.1.2
    have hcn : kx_catl (st.take k).reverse ≤ nl := Nat.le_of_ble_eq_true hq.2
    have hmet := hM D C4 ad H.size (st.take k).reverse S r S' hsp hcn (kx_okl_take k hst) ho (by rw [hcs]; exact ho.le) (by rw [hcs]; rfl) (by rw [hcs]; rfl)
    refine kx_after X hK (va_runS (As := (st.take k).reverse.map (kx_cv ad)) (rest := (st.drop k).map (kx_cv ad)) X.1 hmet (va_cwS k X.1.2.2.2.2 (kx_goodIn (by intro w hw; unfold va_wsS at hw; simp only [List.cons_append, List.nil_append, List.mem_cons] at hw; rcases hw with rfl | rfl | rfl | rfl | hw <;> assumption)) rfl hrm.1 hrm.2 hd hR) (kx_pre X.2.1 X.2.2.1 hP hD) rfl (by simpa using hlen) hl.1 ?_ (lv_room (by rw [kx_catl_eq]; exact hcat)) d (kx_rm0 X hc)) ha hc.1 (by rw [hcs]; exact hc.2) (by rw [hcs]; rfl) (by rw [hcs]; rfl) (kx_okl_drop k hst) hL hD hS hl h
    show st.map (kx_cv ad) = _
    rw [← List.map_reverse, List.reverse_reverse, ← List.map_append, List.take_append_drop]
theorem ks_csN (X : kx_Ctx p R s m args c cc own nL D C4 A cnt0 P) {y : MethodName} {b : ByteArray} {nl : Nat} {ret : Option FieldType} {rm : Room} {Sp : kx_Sp} {k index : Nat} (hM : kx_ok1 l y (kx_wd y b nl ret) rm Sp nl 0 0) (hrm : rm.cells = 0 ∧ rm.slots = 0) {host : String} (hlk : (own, index, y, host) ∈ kx_nl) (hstt : Cond.static y ∈ kx_tbl) (hcode : Cond.code y b nl ret ∈ kx_tbl) (hini : Cond.initialized y.cls ∈ kx_tbl) (hd : y.cls ≠ "java/lang/invoke/MethodHandle" ∧ y.cls ≠ "java/lang/invoke/VarHandle" ∧ (parseMethodDescriptor y.desc).map (fun d => d.parameters.length) = some k) (hR : rm.frames + 1 ≤ R.frames ∧ 8 + (nl + 11) + rm.locals ≤ R.locals) (d : decode cc pc = .ok (.invokestatic index, 3)) : kx_Snd (kx_W p l e R s m args below meth c Q D C4 A cnt0 ad0 nL P) P pc (ki_cs k nl Sp (pc + 3)) := by
  intro K hK L st S h ad H locs ls ha hc ho hst hL hP hD hS hl
  unfold ki_cs at h
  cases hq : (Nat.beq (st.take k).length k && Nat.ble (kx_catl (st.drop k)) 8 && Nat.ble (kx_catl (st.take k).reverse) nl) with
  | false => rw [hq] at h; exact h.elim
  | true =>
    rw [hq] at h
    simp only [Bool.and_eq_true] at hq
    obtain ⟨r, S', hsp, hm, h⟩ := h
    have hcs := kx_cnt_same hm
    have hlen : (st.take k).length = k := Nat.eq_of_beq_eq_true hq.1.1
    have hcat : kx_catl (st.drop k) ≤ 8 := Nat.le_of_ble_eq_true hq.1.2
    have hcn : kx_catl (st.take k).reverse ≤ nl := Nat.le_of_ble_eq_true hq.2
    have hmet := hM D C4 ad H.size (st.take k).reverse S r S' hsp hcn (kx_okl_take k hst) ho (by rw [hcs]; exact ho.le) (by rw [hcs]; rfl) (by rw [hcs]; rfl)
    refine kx_after X hK (va_runSN (As := (st.take k).reverse.map (kx_cv ad)) (rest := (st.drop k).map (kx_cv ad)) X.1 hmet ⟨va_cnB k X.1.2.2.2.2 (kx_goodIn (by intro w hw; simp only [List.mem_cons] at hw; rcases hw with rfl | hw <;> assumption)) rfl hrm.1 hrm.2 (X.2.2.1.1 _ hlk) (X.1.2.2.2.2 _ hini) hd hR, X.1.2.2.2.2 _ hstt, trivial⟩ (kx_pre X.2.1 X.2.2.1 hP hD) rfl (by simpa using hlen) hl.1 ?_ (lv_room (by rw [kx_catl_eq]; exact hcat)) d (kx_rm0 X hc)) ha hc.1 (by rw [hcs]; exact hc.2) (by rw [hcs]; rfl) (by rw [hcs]; rfl) (kx_okl_drop k hst) hL hD hS hl h
    show st.map (kx_cv ad) = _
    rw [← List.map_reverse, List.reverse_reverse, ← List.map_append, List.take_append_drop]
theorem ks_cv (X : kx_Ctx p R s m args c cc own nL D C4 A cnt0 P) {y : MethodName} {b : ByteArray} {nl : Nat} {ret : Option FieldType} {rm : Room} {Sp : kx_Sp} {k index : Nat} (hM : kx_ok1 l y (kx_wd y b nl ret) rm Sp nl 0 0) (hrm : rm.cells = 0 ∧ rm.slots = 0) {t N : Nat} {T : u_T} {ty : Nat → FieldType} (hf : kx_cf t y.cls T N ty) (hlk : Cond.methodLink own index y ∈ kx_tbl) (hins : Cond.instanceMethod y ∈ kx_tbl) (hsel : Cond.selects y.cls y y ∈ kx_tbl) (hcode : Cond.code y b nl ret ∈ kx_tbl) (hini : Cond.initialized y.cls ∈ kx_tbl) (hd : y.cls ≠ "java/lang/invoke/MethodHandle" ∧ y.cls ≠ "java/lang/invoke/VarHandle" ∧ (parseMethodDescriptor y.desc).map (fun d => d.parameters.length) = some k) (hR : rm.frames + 1 ≤ R.frames ∧ 8 + (nl + 11) + rm.locals ≤ R.locals) (d : decode cc pc = .ok (.invokevirtual index, 3)) : kx_Snd (kx_W p l e R s m args below meth c Q D C4 A cnt0 ad0 nL P) P pc (ki_cv t k nl Sp (pc + 3)) := by
  intro K hK L st S h ad H locs ls ha hc ho hst hL hP hD hS hl
  unfold ki_cv at h
  split at h
  next t1 o r9 he9 =>
    cases hq : (Nat.beq t1 t && Nat.beq r9.length k && Nat.ble (kx_catl (st.drop (k + 1))) 8 && Nat.ble (1 + kx_catl r9) nl) with
    | false => rw [hq] at h; exact h.elim
    | true =>
      rw [hq] at h
      simp only [Bool.and_eq_true] at hq
      obtain ⟨r, S', hsp, hm, h⟩ := h
      have hcs := kx_cnt_same hm
      obtain rfl := Nat.eq_of_beq_eq_true hq.1.1.1
      have hlen : r9.length = k := Nat.eq_of_beq_eq_true hq.1.1.2
      have hcat : kx_catl (st.drop (k + 1)) ≤ 8 := Nat.le_of_ble_eq_true hq.1.2
      have hcn : 1 + kx_catl r9 ≤ nl := Nat.le_of_ble_eq_true hq.2
      have hok := kx_okl_take (k + 1) hst
      rw [he9] at hok
      have hmet := hM D C4 ad H.size (.inr (.inr (some (t1, o))) :: r9) S r S' hsp hcn hok ho (by rw [hcs]; exact ho.le) (by rw [hcs]; rfl) (by rw [hcs]; rfl)
      have hi := kx_ok_lt hok.1 hf.1 (Nat.ne_of_beq_eq_false rfl)
      have he := kx_ws_at (C4 := C4) (ad := ad) hi ho.le
      rw [kx_en_o hf.1] at he
      have hpre := kx_pre (av := .inr (.inr (some (t1, o))) :: r9) X.2.1 X.2.2.1 hP hD
      refine kx_after X hK (va_runV (b := ad (kx_ix t1 o)) (C := y.cls) (As := r9.map (kx_cv ad)) (rest := (st.drop (k + 1)).map (kx_cv ad)) X.1 hmet (cwV k X.1.2.2.2.2 (kx_goodIn (by intro w hw; unfold wsV at hw; simp only [List.cons_append, List.nil_append, List.mem_cons] at hw; rcases hw with rfl | rfl | rfl | rfl | rfl | hw <;> assumption)) rfl hrm.1 hrm.2 ⟨rfl, hd⟩ hR) ⟨hpre.1, va_recv X.2.1 hP hf.2.1 he, hpre.2⟩ rfl (by simpa using hlen) hl.1 ?_ (lv_room (by rw [kx_catl_eq]; exact hcat)) d (kx_rm0 X hc)) ha hc.1 (by rw [hcs]; exact hc.2) (by rw [hcs]; rfl) (by rw [hcs]; rfl) (kx_okl_drop _ hst) hL hD hS hl h
      show st.map (kx_cv ad) = _
      have e9 : st.take (k + 1) = r9.reverse ++ [.inr (.inr (some (t1, o)))] := by
        have := congrArg List.reverse he9
        rw [List.reverse_reverse, List.reverse_cons] at this
        exact this
      rw [show (Value.ref (ad (kx_ix t1 o))) = kx_cv ad (.inr (.inr (some (t1, o)))) from rfl, ← List.map_reverse, ← List.map_cons, ← List.map_append]
      refine congrArg _ ?_
      have e8 := List.take_append_drop (k + 1) st
      rw [e9, List.append_assoc] at e8
      exact e8.symm
  next => exact h.elim
theorem ks_ci (X : kx_Ctx p R s m args c cc own nL D C4 A cnt0 P) {y : MethodName} {b : ByteArray} {nl mc ms : Nat} {rm : Room} {Sp : kx_Sp} {index : Nat} (hM : kx_ok1 l y (kx_wd y b nl none) rm Sp nl mc ms) (hrm : rm.cells = mc ∧ rm.slots = ms) (hy1 : y.name = "<init>") (hlk : Cond.methodLink own index y ∈ kx_tbl) (hins : Cond.instanceMethod y ∈ kx_tbl) (hcode : Cond.code y b nl none ∈ kx_tbl) (hini : Cond.initialized y.cls ∈ kx_tbl) (hd : y.cls ≠ "java/lang/invoke/MethodHandle" ∧ y.cls ≠ "java/lang/invoke/VarHandle" ∧ (parseMethodDescriptor y.desc).map (fun d => d.parameters.length) = some 0) (hR : rm.frames + 1 ≤ R.frames ∧ 8 + (nl + 11) + rm.locals ≤ R.locals) {t : Nat} (d : decode cc pc = .ok (.invokespecial index, 3)) : kx_Snd (kx_W p l e R s m args below meth c Q D C4 A cnt0 ad0 nL P) P pc (ki_ci t nl mc ms Sp (pc + 3)) := by
  intro K hK L st S h ad H locs ls ha hc ho hst hL hP hD hS hl
  match st, h, hst with
  | .inr (.inr (some (t1, o))) :: r9, g9, hst =>
    unfold ki_ci at g9
    dsimp only at g9
    cases hq : (Nat.beq t1 t && Nat.ble (kx_catl r9) 8 && Nat.ble 1 nl) with
    | false => rw [hq] at g9; exact g9.elim
    | true =>
      rw [hq] at g9
      simp only [Bool.and_eq_true] at hq
      obtain ⟨S', hsp, hmc, hms, hc', g9⟩ := g9
      obtain rfl := Nat.eq_of_beq_eq_true hq.1.1
      have hcat : kx_catl r9 ≤ 8 := Nat.le_of_ble_eq_true hq.1.2
      have hcn : 1 ≤ nl := Nat.le_of_ble_eq_true hq.2
      have hmet := hM D C4 ad H.size [.inr (.inr (some (t1, o)))] S none S' hsp hcn ⟨hst.1, trivial⟩ ho (Nat.le_trans hc' X.2.2.2.2.2.2) hmc hms
      exact kx_after (r := none) X hK (va_runI (b := ad (kx_ix t1 o)) (As := []) (rest := r9.map (kx_cv ad)) X.1 hmet (cwI 0 X.1.2.2.2.2 (kx_goodIn (by intro w hw; simp only [List.mem_cons] at hw; rcases hw with rfl | hw <;> assumption)) rfl hrm.1 hrm.2 (X.1.2.2.2.2 _ hini) (X.1.2.2.2.2 _ hlk) (X.1.2.2.2.2 _ hins) hy1 hd hR) (kx_pre (av := [.inr (.inr (some (t1, o)))]) X.2.1 X.2.2.1 hP hD) rfl rfl hl.1 rfl (lv_room (by rw [kx_catl_eq]; exact hcat)) d (kx_rm1 X hc.1 hc' hmc hms)) ha hc.1 hc' hmc hms hst.2 hL hD hS hl g9
theorem ks_ciN (X : kx_Ctx p R s m args c cc own nL D C4 A cnt0 P) {y : MethodName} {b : ByteArray} {nl mc ms : Nat} {rm : Room} {Sp : kx_Sp} {index : Nat} (hM : kx_ok1 l y (kx_wd y b nl none) rm Sp nl mc ms) (hrm : rm.cells = mc ∧ rm.slots = ms) (hy1 : y.name = "<init>") {host : String} (hlk : (own, index, y, host) ∈ kx_nl) (hins : Cond.instanceMethod y ∈ kx_tbl) (hcode : Cond.code y b nl none ∈ kx_tbl) (hini : Cond.initialized y.cls ∈ kx_tbl) (hd : y.cls ≠ "java/lang/invoke/MethodHandle" ∧ y.cls ≠ "java/lang/invoke/VarHandle" ∧ (parseMethodDescriptor y.desc).map (fun d => d.parameters.length) = some 0) (hR : rm.frames + 1 ≤ R.frames ∧ 8 + (nl + 11) + rm.locals ≤ R.locals) {t : Nat} (d : decode cc pc = .ok (.invokespecial index, 3)) : kx_Snd (kx_W p l e R s m args below meth c Q D C4 A cnt0 ad0 nL P) P pc (ki_ci t nl mc ms Sp (pc + 3)) := by
  intro K hK L st S h ad H locs ls ha hc ho hst hL hP hD hS hl
  match st, h, hst with
  | .inr (.inr (some (t1, o))) :: r9, g9, hst =>
    unfold ki_ci at g9
    dsimp only at g9
    cases hq : (Nat.beq t1 t && Nat.ble (kx_catl r9) 8 && Nat.ble 1 nl) with
    | false => rw [hq] at g9; exact g9.elim
    | true =>
      rw [hq] at g9
      simp only [Bool.and_eq_true] at hq
      obtain ⟨S', hsp, hmc, hms, hc', g9⟩ := g9
      obtain rfl := Nat.eq_of_beq_eq_true hq.1.1
      have hcat : kx_catl r9 ≤ 8 := Nat.le_of_ble_eq_true hq.1.2
      have hcn : 1 ≤ nl := Nat.le_of_ble_eq_true hq.2
      have hmet := hM D C4 ad H.size [.inr (.inr (some (t1, o)))] S none S' hsp hcn ⟨hst.1, trivial⟩ ho (Nat.le_trans hc' X.2.2.2.2.2.2) hmc hms
      exact kx_after (r := none) X hK (va_runIN (b := ad (kx_ix t1 o)) (As := []) (rest := r9.map (kx_cv ad)) X.1 hmet ⟨va_cnB 0 X.1.2.2.2.2 (kx_goodIn (by intro w hw; simp only [List.mem_cons] at hw; rcases hw with rfl | hw <;> assumption)) rfl hrm.1 hrm.2 (X.2.2.1.1 _ hlk) (X.1.2.2.2.2 _ hini) hd hR, hy1, X.1.2.2.2.2 _ hins⟩ (kx_pre (av := [.inr (.inr (some (t1, o)))]) X.2.1 X.2.2.1 hP hD) rfl rfl hl.1 rfl (lv_room (by rw [kx_catl_eq]; exact hcat)) d (kx_rm1 X hc.1 hc' hmc hms)) ha hc.1 hc' hmc hms hst.2 hL hD hS hl g9
def kx_Rt (below : List Frame) (args : Array Value) (s : State) (meth : Method) (Q : State → Prop) (D : va_G) (C4 : kx_C) (A : Nat → Prop) (cnt0 : Nat) (ad0 : Nat → Nat) (P : kx_P) : Prop := ∃ (S0 : kx_S) (r0 : Option kx_V) (S1 : kx_S), Q = MQ below (kx_Q D C4 ad0 S0 r0 S1 A) args s (kx_cnt S1 - cnt0) (kx_sz (kx_cnt S1) - kx_sz cnt0) A ∧ P = (kx_cnt S1, fun r S => r = r0 ∧ S = S1) ∧ cnt0 = kx_cnt S0 ∧ meth.locks = false
def ki_iret : kx_T := fun P _ _ st S => match st with
  | [.inl x] => P.2 (some (.inl x)) S
  | _ => False
def ki_zret : kx_T := fun P _ _ st S => match st with
  | [.inl x] => (x = 0 ∨ x = 1) ∧ P.2 (some (.inl x)) S
  | _ => False
def ki_lret : kx_T := fun P _ _ st S => match st with
  | [.inr (.inl x)] => P.2 (some (.inr (.inl x))) S
  | _ => False
def ki_aret : kx_T := fun P _ _ st S => match st with
  | [.inr (.inr z)] => P.2 (some (.inr (.inr z))) S
  | _ => False
def ki_vret : kx_T := fun P _ _ st S => match st with
  | [] => P.2 none S
  | _ => False
theorem ks_iret (Z : kx_Rt below args s meth Q D C4 A cnt0 ad0 P) (hx : p.tables.exec = Jvm.exec) (hb : c.code = cc) (hr : meth.sig.returnType = some .int) (d : decode cc pc = .ok (.ireturn, 1)) : kx_Snd (kx_W p l e R s m args below meth c Q D C4 A cnt0 ad0 nL P) P pc ki_iret := by
  obtain ⟨S0, r0, S1, rfl, rfl, rfl, hlocks⟩ := Z
  intro K hK L st S h ad H locs ls ha hc ho hst hL hP hD hS hl
  match st, h, hst with
  | [.inl x], h, hst =>
    obtain ⟨rfl, rfl⟩ := h
    exact W.iret (v := x) hx hb hr (fun t ht hW => ⟨⟨ad, ha, rfl, trivial, ho, by rw [ht]; exact hP, hD⟩, hS.F ht⟩) hS.2.2 d
theorem ks_lret (Z : kx_Rt below args s meth Q D C4 A cnt0 ad0 P) (hx : p.tables.exec = Jvm.exec) (hb : c.code = cc) (hr : meth.sig.returnType = some .long) (d : decode cc pc = .ok (.lreturn, 1)) : kx_Snd (kx_W p l e R s m args below meth c Q D C4 A cnt0 ad0 nL P) P pc ki_lret := by
  obtain ⟨S0, r0, S1, rfl, rfl, rfl, hlocks⟩ := Z
  intro K hK L st S h ad H locs ls ha hc ho hst hL hP hD hS hl
  match st, h, hst with
  | [.inr (.inl x)], h, hst =>
    obtain ⟨rfl, rfl⟩ := h
    exact W.lret (v := x) hx hb hr (fun t ht hW => ⟨⟨ad, ha, rfl, trivial, ho, by rw [ht]; exact hP, hD⟩, hS.F ht⟩) hS.2.2 d
theorem ks_vret (Z : kx_Rt below args s meth Q D C4 A cnt0 ad0 P) (hx : p.tables.exec = Jvm.exec) (hb : c.code = cc) (hr : meth.sig.returnType = none) (d : decode cc pc = .ok (.return_, 1)) : kx_Snd (kx_W p l e R s m args below meth c Q D C4 A cnt0 ad0 nL P) P pc ki_vret := by
  obtain ⟨S0, r0, S1, rfl, rfl, rfl, hlocks⟩ := Z
  intro K hK L st S h ad H locs ls ha hc ho hst hL hP hD hS hl
  match st, h, hst with
  | [], h, hst =>
    obtain ⟨rfl, rfl⟩ := h
    exact W.vret hx hb hr (fun t ht hW => ⟨⟨ad, ha, rfl, trivial, ho, by rw [ht]; exact hP, hD⟩, hS.F ht⟩) hS.2.2 d
theorem ks_zret (Z : kx_Rt below args s meth Q D C4 A cnt0 ad0 P) (hx : p.tables.exec = Jvm.exec) (hb : c.code = cc) (hr : meth.sig.returnType = some .boolean) (d : decode cc pc = .ok (.ireturn, 1)) : kx_Snd (kx_W p l e R s m args below meth c Q D C4 A cnt0 ad0 nL P) P pc ki_zret := by
  obtain ⟨S0, r0, S1, rfl, rfl, rfl, hlocks⟩ := Z
  intro K hK L st S h ad H locs ls ha hc ho hst hL hP hD hS hl
  match st, h, hst with
  | [.inl x], h, hst =>
    obtain ⟨rfl, rfl⟩ := h.2
    exact W.zret (v := x) hx hb hr (by rcases h.1 with rfl | rfl <;> rfl) (fun t ht hW => ⟨⟨ad, ha, rfl, trivial, ho, by rw [ht]; exact hP, hD⟩, hS.F ht⟩) hS.2.2 d
theorem ks_aret {C : String} (Z : kx_Rt below args s meth Q D C4 A cnt0 ad0 P) (hx : p.tables.exec = Jvm.exec) (hb : c.code = cc) (hr : meth.sig.returnType = some (.object C)) (d : decode cc pc = .ok (.areturn, 1)) : kx_Snd (kx_W p l e R s m args below meth c Q D C4 A cnt0 ad0 nL P) P pc ki_aret := by
  obtain ⟨S0, r0, S1, rfl, rfl, rfl, hlocks⟩ := Z
  intro K hK L st S h ad H locs ls ha hc ho hst hL hP hD hS hl
  match st, h, hst with
  | [.inr (.inr z)], h, hst =>
    obtain ⟨rfl, rfl⟩ := h
    exact W.aret (v := kx_cv ad (.inr (.inr z))) hx hb hr (Or.inl ⟨_, rfl⟩) (by
      rcases z with _ | q
      · exact Or.inl rfl
      · exact Or.inr ⟨_, rfl⟩) (fun t ht hW => ⟨⟨ad, ha, rfl, hst.1, ho, by rw [ht]; exact hP, hD⟩, hS.F ht⟩) hS.2.2 d
theorem kx_met {y : MethodName} {b : ByteArray} {nl mc ms : Nat} {ret : Option FieldType} {rm : Room} {tb : Nat → kx_T} (hy : plainName y.cls = true) (hrm : rm.cells = mc ∧ rm.slots = ms)
    (h : ∀ (p : Program) (e : Env) (s : State) (m : MethodId) (args : Array Value) (below : List Frame) (meth : Method) (c : Code) (Q : State → Prop) (D : va_G) (C4 : kx_C) (A : Nat → Prop) (cnt0 : Nat) (ad0 : Nat → Nat) (P : kx_P), kx_Ctx p rm s m args c b y.cls nl D C4 A cnt0 P → kx_Rt below args s meth Q D C4 A cnt0 ad0 P → meth.sig.returnType = ret → meth.name = y.name → ∀ pc, kx_Snd (kx_W p l e rm s m args below meth c Q D C4 A cnt0 ad0 nl P) P pc (tb pc)) : kx_ok1 l y (kx_wd y b nl ret) rm (kx_sp tb nl) nl mc ms := by
  intro D C4 ad sz av S r S' hsp hcl hok hv hNC hmc hms
  refine Met.ofW (cc := b) (maxL := nl) (ret := ret) hy rfl ?_
  intro p e s m args below meth c s₁ B hml hvv
  obtain ⟨rfl, hsz, hP, hK, hD0, hN⟩ := hvv
  subst hsz
  have hts := atoms_spec (ws := kx_wd y b nl ret) B.pre
  have hin : meth.name = y.name := (name_of_methodNamed B.named B.method).1
  have hD := hD0.self (sz := s.heap.size)
  have hmc2 : kx_cnt S' - kx_cnt S = mc := by omega
  have hms2 : kx_sz (kx_cnt S') - kx_sz (kx_cnt S) = ms := by omega
  subst hmc2
  subst hms2
  have X : kx_Ctx p rm s m ((av.map (kx_cv ad)).toArray) c b y.cls nl D C4 (va_A (kx_ws C4 ad S) s.heap.size) (kx_cnt S) (kx_cnt S', fun r' S'' => r' = r ∧ S'' = S') := ⟨⟨B.exec, B.bytes, hml, findClass_of_methodNamed B.named, fun w hw => hts w (List.mem_cons_of_mem _ hw)⟩, hK, hN, fun q hq => Or.inr hq, Nat.le_of_eq hrm.1.symm, Nat.le_of_eq hrm.2.symm, hNC⟩
  have Z : kx_Rt below ((av.map (kx_cv ad)).toArray) s meth (MQ below (kx_Q D C4 ad S r S' (va_A (kx_ws C4 ad S) s.heap.size)) ((av.map (kx_cv ad)).toArray) s (kx_cnt S' - kx_cnt S) (kx_sz (kx_cnt S') - kx_sz (kx_cnt S)) (va_A (kx_ws C4 ad S) s.heap.size)) D C4 (va_A (kx_ws C4 ad S) s.heap.size) (kx_cnt S) ad (kx_cnt S', fun r' S'' => r' = r ∧ S'' = S') := ⟨S, r, S', rfl, rfl, rfl, B.notSynchronized⟩
  have hw := kx_sound (h p e s m _ below meth c _ D C4 _ _ ad _ X Z B.returns hin) hsp
  have hl := lv_entry (av.map (kx_cv ad)) (n := nl) (by rw [kx_catl_sl]; exact hcl)
  rw [lg_entry_eq]
  have hw2 := hw ad s.heap [] _ kx_agree.rf ⟨Nat.le_refl _, by show kx_cnt S ≤ kx_cnt S'; omega⟩ hv trivial (fun i v hi => kx_okl_mem hok v (kx_l0_get ad av nl i i v (by simpa using hi)).2) hP hD va_S.rf ⟨hl.1, hl.2.1, fun i v hi => hl.2.2 _ (by have := (kx_l0_get ad av nl 0 i v hi).1; simpa using this)⟩
  rw [Nat.sub_self, Nat.sub_self] at hw2
  exact hw2
end KXC
end
section
theorem kx_m {w : Cond} (i : Nat) (h : lw_tbl[i]? = some w) (hg : goodWord w = true) : w ∈ kx_tbl := List.mem_filter.mpr ⟨List.mem_of_getElem? h, hg⟩
def kx_br (k : Nat) (a b : Nat → kx_T) : Nat → kx_T := fun pc => bif Nat.blt pc k then a pc else b pc
def kx_lf (p0 : Nat) (t : kx_T) : Nat → kx_T := fun pc => bif Nat.beq pc p0 then t else kx_no
theorem kx_sB {W : kx_K} {P : kx_P} {k : Nat} {a b : Nat → kx_T} (ha : ∀ pc, kx_Snd W P pc (a pc)) (hb : ∀ pc, kx_Snd W P pc (b pc)) : ∀ pc, kx_Snd W P pc (kx_br k a b pc) := kx_sb ha hb
theorem kx_sL {W : kx_K} {P : kx_P} {p0 : Nat} {t : kx_T} (h : kx_Snd W P p0 t) : ∀ pc, kx_Snd W P pc (kx_lf p0 t pc) := kx_sl h
theorem ks_tab {p : Program} {l : Launch} {e : Env} {R : Room} {s : State} {m : MethodId} {args : Array Value} {below : List Frame} {meth : Method} {c : Code} {Q : State → Prop} {D : va_G} {C4 : kx_C} {A : Nat → Prop} {cnt0 : Nat} {ad0 : Nat → Nat} {nL : Nat} {P : kx_P} {cc : ByteArray} {pc : Nat} (hx : p.tables.exec = Jvm.exec) (hb : c.code = cc) {dflt lo hi : Int} {offs : Array Int} {len : Nat} {ts : List (Int32 × Nat)} {df : Nat} (hd : (pc : Int) + dflt = (df : Int))
    (hts : ts.all (fun q => decide (¬ q.1.toInt < lo) && decide (¬ hi < q.1.toInt) && decide (offs[(q.1.toInt - lo).toNat]? = some ((q.2 : Int) - (pc : Int)))) = true) (hall : (List.range (hi - lo + 1).toNat).all (fun (k : Nat) => ts.any (fun q => q.1.toInt == lo + (k : Int))) = true) (d : decode cc pc = .ok (.tableswitch dflt lo hi offs, len)) : kx_Snd (kx_W p l e R s m args below meth c Q D C4 A cnt0 ad0 nL P) P pc (ki_sw ts df) := by
  refine ks_table hx hb hd (fun q hq => ?_) hall d
  have h := List.all_eq_true.mp hts q hq
  simp only [Bool.and_eq_true, decide_eq_true_eq] at h
  exact ⟨h.1.1, h.1.2, _, h.2, by omega⟩
theorem kf_0 : kx_cf 0 RX0 TX0 5 tyX0 := ⟨rfl, rfl, by decide +kernel, tyX0_ok, nmX0, rfl, by decide +kernel⟩
theorem kf_1 : kx_cf 1 RX1 TX1 6 tyX1 := ⟨rfl, rfl, by decide +kernel, tyX1_ok, nmX1, rfl, by decide +kernel⟩
theorem kf_2 : kx_cf 2 RX2 TX2 6 tyX2 := ⟨rfl, rfl, by decide +kernel, tyX2_ok, nmX2, rfl, by decide +kernel⟩
theorem kf_3 : kx_cf 3 RX3 TX3 5 tyX3 := ⟨rfl, rfl, by decide +kernel, tyX3_ok, nmX3, rfl, by decide +kernel⟩
theorem kf_4 : kx_cf 4 RX4 TX4 3 tyX4 := ⟨rfl, rfl, by decide +kernel, tyX4_ok, nmX4, rfl, by decide +kernel⟩
theorem kf_5 : kx_cf 5 RX5 TX5 4 tyX5 := ⟨rfl, rfl, by decide +kernel, tyX5_ok, nmX5, rfl, by decide +kernel⟩
theorem kf_6 : kx_cf 6 RX6 TX6 17 tyX6 := ⟨rfl, rfl, by decide +kernel, tyX6_ok, nmX6, rfl, by decide +kernel⟩
theorem kf_7 : kx_cf 7 RX7 TX7 2 tyX7 := ⟨rfl, rfl, by decide +kernel, tyX7_ok, nmX7, rfl, by decide +kernel⟩
theorem kf_8 : kx_cf 8 RX8 TX8 6 tyX8 := ⟨rfl, rfl, by decide +kernel, tyX8_ok, nmX8, rfl, by decide +kernel⟩
theorem kf_9 : kx_cf 9 RX9 TX9 6 tyX9 := ⟨rfl, rfl, by decide +kernel, tyX9_ok, nmX9, rfl, by decide +kernel⟩
theorem kf_10 : kx_cf 10 RX10 TX10 8 tyX10 := ⟨rfl, rfl, by decide +kernel, tyX10_ok, nmX10, rfl, by decide +kernel⟩
theorem kf_11 : kx_cf 11 RX11 TX11 21 tyX11 := ⟨rfl, rfl, by decide +kernel, tyX11_ok, nmX11, rfl, by decide +kernel⟩
theorem kx_nsel : (k2_sels lw_privs).length = 50 := by decide +kernel
theorem kw_0 : (Jvm.Cond.initialized "KeptLightLaw") ∈ kx_tbl := kx_m 50 (by decide +kernel) (by decide +kernel)
theorem kw_1 : (Jvm.Cond.initialized "KeptLight") ∈ kx_tbl := kx_m 51 (by decide +kernel) (by decide +kernel)
theorem kw_2 : (Jvm.Cond.initialized "KeptLight$World") ∈ kx_tbl := kx_m 52 (by decide +kernel) (by decide +kernel)
theorem kw_3 : (Jvm.Cond.initialized "KeptLight$Station") ∈ kx_tbl := kx_m 53 (by decide +kernel) (by decide +kernel)
theorem kw_4 : (Jvm.Cond.initialized "KeptLight$Sky") ∈ kx_tbl := kx_m 54 (by decide +kernel) (by decide +kernel)
theorem kw_5 : (Jvm.Cond.initialized "KeptLight$Crew") ∈ kx_tbl := kx_m 55 (by decide +kernel) (by decide +kernel)
theorem kw_6 : (Jvm.Cond.initialized "KeptLight$Boat") ∈ kx_tbl := kx_m 56 (by decide +kernel) (by decide +kernel)
theorem kw_7 : (Jvm.Cond.initialized "java/util/Arrays") ∈ kx_tbl := kx_m 57 (by decide +kernel) (by decide +kernel)
theorem kw_8 : (Jvm.Cond.initialized "KeptLight$Fleet") ∈ kx_tbl := kx_m 58 (by decide +kernel) (by decide +kernel)
theorem kw_9 : (Jvm.Cond.initialized "KeptLight$LogBook") ∈ kx_tbl := kx_m 59 (by decide +kernel) (by decide +kernel)
theorem kw_10 : (Jvm.Cond.initialized "KeptLight$Thought") ∈ kx_tbl := kx_m 60 (by decide +kernel) (by decide +kernel)
theorem kw_11 : (Jvm.Cond.initialized "KeptLight$Tape") ∈ kx_tbl := kx_m 61 (by decide +kernel) (by decide +kernel)
theorem kw_12 : (Jvm.Cond.initialized "KeptLight$Shelf") ∈ kx_tbl := kx_m 62 (by decide +kernel) (by decide +kernel)
theorem kw_13 : (Jvm.Cond.initialized "KeptLightModel") ∈ kx_tbl := kx_m 63 (by decide +kernel) (by decide +kernel)
theorem kw_14 : (Jvm.Cond.initialized "java/lang/System") ∈ kx_tbl := kx_m 64 (by decide +kernel) (by decide +kernel)
theorem kw_15 : (Jvm.Cond.initialized "java/lang/Math") ∈ kx_tbl := kx_m 65 (by decide +kernel) (by decide +kernel)
theorem kw_16 : (Jvm.Cond.classLink "KeptLightLaw" (7 : Nat) "KeptLight") ∈ kx_tbl := kx_m 66 (by decide +kernel) (by decide +kernel)
theorem kw_17 : (Jvm.Cond.instantiable "KeptLight" (8 : Nat)) ∈ kx_tbl := kx_m 67 (by decide +kernel) (by decide +kernel)
theorem kw_18 : (Jvm.Cond.methodLink "KeptLightLaw" (9 : Nat) ({ cls := "KeptLight", name := "<init>", desc := "()V" } : Jvm.MethodName)) ∈ kx_tbl := kx_m 68 (by decide +kernel) (by decide +kernel)
theorem kw_19 : (Jvm.Cond.instanceMethod ({ cls := "KeptLight", name := "<init>", desc := "()V" } : Jvm.MethodName)) ∈ kx_tbl := kx_m 69 (by decide +kernel) (by decide +kernel)
theorem kw_20 : (Jvm.Cond.code ({ cls := "KeptLight", name := "<init>", desc := "()V" } : Jvm.MethodName) prog_1_method_1_code (2 : Nat) (Option.none : Option Jvm.ClassFile.FieldType)) ∈ kx_tbl := kx_m 70 (by decide +kernel) (by decide +kernel)
theorem kw_21 : (Jvm.Cond.methodLink "KeptLight" (1 : Nat) ({ cls := "java/lang/Object", name := "<init>", desc := "()V" } : Jvm.MethodName)) ∈ kx_tbl := kx_m 71 (by decide +kernel) (by decide +kernel)
theorem kw_22 : (Jvm.Cond.instanceMethod ({ cls := "java/lang/Object", name := "<init>", desc := "()V" } : Jvm.MethodName)) ∈ kx_tbl := kx_m 72 (by decide +kernel) (by decide +kernel)
theorem kw_23 : (Jvm.Cond.code ({ cls := "java/lang/Object", name := "<init>", desc := "()V" } : Jvm.MethodName) object_method_1_code (1 : Nat) (Option.none : Option Jvm.ClassFile.FieldType)) ∈ kx_tbl := kx_m 73 (by decide +kernel) (by decide +kernel)
theorem kw_24 : (Jvm.Cond.classLink "KeptLight" (7 : Nat) "KeptLight$World") ∈ kx_tbl := kx_m 74 (by decide +kernel) (by decide +kernel)
theorem kw_25 : (Jvm.Cond.instantiable "KeptLight$World" (6 : Nat)) ∈ kx_tbl := kx_m 75 (by decide +kernel) (by decide +kernel)
theorem kw_27 : (Jvm.Cond.instanceMethod ({ cls := "KeptLight$World", name := "<init>", desc := "()V" } : Jvm.MethodName)) ∈ kx_tbl := kx_m 77 (by decide +kernel) (by decide +kernel)
theorem kw_28 : (Jvm.Cond.code ({ cls := "KeptLight$World", name := "<init>", desc := "()V" } : Jvm.MethodName) prog_11_method_1_code (1 : Nat) (Option.none : Option Jvm.ClassFile.FieldType)) ∈ kx_tbl := kx_m 78 (by decide +kernel) (by decide +kernel)
theorem kw_29 : (Jvm.Cond.methodLink "KeptLight$World" (3 : Nat) ({ cls := "java/lang/Object", name := "<init>", desc := "()V" } : Jvm.MethodName)) ∈ kx_tbl := kx_m 79 (by decide +kernel) (by decide +kernel)
theorem kw_30 : (Jvm.Cond.classLink "KeptLight$World" (9 : Nat) "KeptLight$Station") ∈ kx_tbl := kx_m 80 (by decide +kernel) (by decide +kernel)
theorem kw_31 : (Jvm.Cond.instantiable "KeptLight$Station" (17 : Nat)) ∈ kx_tbl := kx_m 81 (by decide +kernel) (by decide +kernel)
theorem kw_32 : (Jvm.Cond.methodLink "KeptLight$World" (11 : Nat) ({ cls := "KeptLight$Station", name := "<init>", desc := "()V" } : Jvm.MethodName)) ∈ kx_tbl := kx_m 82 (by decide +kernel) (by decide +kernel)
theorem kw_33 : (Jvm.Cond.instanceMethod ({ cls := "KeptLight$Station", name := "<init>", desc := "()V" } : Jvm.MethodName)) ∈ kx_tbl := kx_m 83 (by decide +kernel) (by decide +kernel)
theorem kw_34 : (Jvm.Cond.code ({ cls := "KeptLight$Station", name := "<init>", desc := "()V" } : Jvm.MethodName) prog_8_method_1_code (1 : Nat) (Option.none : Option Jvm.ClassFile.FieldType)) ∈ kx_tbl := kx_m 84 (by decide +kernel) (by decide +kernel)
theorem kw_35 : (Jvm.Cond.methodLink "KeptLight$Station" (3 : Nat) ({ cls := "java/lang/Object", name := "<init>", desc := "()V" } : Jvm.MethodName)) ∈ kx_tbl := kx_m 85 (by decide +kernel) (by decide +kernel)
theorem kw_36 : (Jvm.Cond.classLink "KeptLight$Station" (9 : Nat) "KeptLight$Sky") ∈ kx_tbl := kx_m 86 (by decide +kernel) (by decide +kernel)
theorem kw_37 : (Jvm.Cond.instantiable "KeptLight$Sky" (4 : Nat)) ∈ kx_tbl := kx_m 87 (by decide +kernel) (by decide +kernel)
theorem kw_39 : (Jvm.Cond.instanceMethod ({ cls := "KeptLight$Sky", name := "<init>", desc := "()V" } : Jvm.MethodName)) ∈ kx_tbl := kx_m 89 (by decide +kernel) (by decide +kernel)
theorem kw_40 : (Jvm.Cond.code ({ cls := "KeptLight$Sky", name := "<init>", desc := "()V" } : Jvm.MethodName) prog_7_method_1_code (1 : Nat) (Option.none : Option Jvm.ClassFile.FieldType)) ∈ kx_tbl := kx_m 90 (by decide +kernel) (by decide +kernel)
theorem kw_41 : (Jvm.Cond.methodLink "KeptLight$Sky" (3 : Nat) ({ cls := "java/lang/Object", name := "<init>", desc := "()V" } : Jvm.MethodName)) ∈ kx_tbl := kx_m 91 (by decide +kernel) (by decide +kernel)
theorem kw_42 : (Jvm.Cond.fieldLink "KeptLight$Sky" (11 : Nat) "KeptLight$Sky" "weathers" "[I") ∈ kx_tbl := kx_m 92 (by decide +kernel) (by decide +kernel)
theorem kw_43 : (Jvm.Cond.fieldLink "KeptLight$Sky" (15 : Nat) "KeptLight$Sky" "lengths" "[I") ∈ kx_tbl := kx_m 93 (by decide +kernel) (by decide +kernel)
theorem kw_44 : (Jvm.Cond.fieldLink "KeptLight$Sky" (18 : Nat) "KeptLight$Sky" "runs" "I") ∈ kx_tbl := kx_m 94 (by decide +kernel) (by decide +kernel)
theorem kw_45 : (Jvm.Cond.fieldLink "KeptLight" (181 : Nat) "KeptLight$Sky" "runs" "I") ∈ kx_tbl := kx_m 95 (by decide +kernel) (by decide +kernel)
theorem kw_46 : (Jvm.Cond.fieldLink "KeptLight$Sky" (22 : Nat) "KeptLight$Sky" "allHours" "I") ∈ kx_tbl := kx_m 96 (by decide +kernel) (by decide +kernel)
theorem kw_56 : (Jvm.Cond.arrayClass Jvm.ClassFile.FieldType.int) ∈ kx_tbl := kx_m 106 (by decide +kernel) (by decide +kernel)
theorem kw_57 : (Jvm.Cond.classLink "KeptLight$Station" (18 : Nat) "KeptLight$Crew") ∈ kx_tbl := kx_m 107 (by decide +kernel) (by decide +kernel)
theorem kw_58 : (Jvm.Cond.instantiable "KeptLight$Crew" (6 : Nat)) ∈ kx_tbl := kx_m 108 (by decide +kernel) (by decide +kernel)
theorem kw_60 : (Jvm.Cond.instanceMethod ({ cls := "KeptLight$Crew", name := "<init>", desc := "()V" } : Jvm.MethodName)) ∈ kx_tbl := kx_m 110 (by decide +kernel) (by decide +kernel)
theorem kw_61 : (Jvm.Cond.code ({ cls := "KeptLight$Crew", name := "<init>", desc := "()V" } : Jvm.MethodName) prog_3_method_1_code (1 : Nat) (Option.none : Option Jvm.ClassFile.FieldType)) ∈ kx_tbl := kx_m 111 (by decide +kernel) (by decide +kernel)
theorem kw_62 : (Jvm.Cond.methodLink "KeptLight$Crew" (3 : Nat) ({ cls := "java/lang/Object", name := "<init>", desc := "()V" } : Jvm.MethodName)) ∈ kx_tbl := kx_m 112 (by decide +kernel) (by decide +kernel)
theorem kw_63 : (Jvm.Cond.fieldLink "KeptLight$Crew" (11 : Nat) "KeptLight$Crew" "ranks" "[I") ∈ kx_tbl := kx_m 113 (by decide +kernel) (by decide +kernel)
theorem kw_64 : (Jvm.Cond.fieldLink "KeptLight$Crew" (15 : Nat) "KeptLight$Crew" "lasts" "[I") ∈ kx_tbl := kx_m 114 (by decide +kernel) (by decide +kernel)
theorem kw_65 : (Jvm.Cond.fieldLink "KeptLight$Crew" (18 : Nat) "KeptLight$Crew" "tired" "[I") ∈ kx_tbl := kx_m 115 (by decide +kernel) (by decide +kernel)
theorem kw_66 : (Jvm.Cond.fieldLink "KeptLight$Crew" (21 : Nat) "KeptLight$Crew" "tended" "[I") ∈ kx_tbl := kx_m 116 (by decide +kernel) (by decide +kernel)
theorem kw_67 : (Jvm.Cond.fieldLink "KeptLight$Crew" (24 : Nat) "KeptLight$Crew" "slept" "[I") ∈ kx_tbl := kx_m 117 (by decide +kernel) (by decide +kernel)
theorem kw_68 : (Jvm.Cond.fieldLink "KeptLight$Crew" (27 : Nat) "KeptLight$Crew" "count" "I") ∈ kx_tbl := kx_m 118 (by decide +kernel) (by decide +kernel)
theorem kw_69 : (Jvm.Cond.fieldLink "KeptLight" (374 : Nat) "KeptLight$Crew" "count" "I") ∈ kx_tbl := kx_m 119 (by decide +kernel) (by decide +kernel)
theorem kw_83 : (Jvm.Cond.classLink "KeptLight$Station" (25 : Nat) "KeptLight$Boat") ∈ kx_tbl := kx_m 133 (by decide +kernel) (by decide +kernel)
theorem kw_84 : (Jvm.Cond.instantiable "KeptLight$Boat" (5 : Nat)) ∈ kx_tbl := kx_m 134 (by decide +kernel) (by decide +kernel)
theorem kw_86 : (Jvm.Cond.instanceMethod ({ cls := "KeptLight$Boat", name := "<init>", desc := "()V" } : Jvm.MethodName)) ∈ kx_tbl := kx_m 136 (by decide +kernel) (by decide +kernel)
theorem kw_87 : (Jvm.Cond.code ({ cls := "KeptLight$Boat", name := "<init>", desc := "()V" } : Jvm.MethodName) prog_2_method_1_code (1 : Nat) (Option.none : Option Jvm.ClassFile.FieldType)) ∈ kx_tbl := kx_m 137 (by decide +kernel) (by decide +kernel)
theorem kw_88 : (Jvm.Cond.methodLink "KeptLight$Boat" (3 : Nat) ({ cls := "java/lang/Object", name := "<init>", desc := "()V" } : Jvm.MethodName)) ∈ kx_tbl := kx_m 138 (by decide +kernel) (by decide +kernel)
theorem kw_89 : (Jvm.Cond.fieldLink "KeptLight$Boat" (9 : Nat) "KeptLight$Boat" "due" "I") ∈ kx_tbl := kx_m 139 (by decide +kernel) (by decide +kernel)
theorem kw_90 : (Jvm.Cond.fieldLink "KeptLight$Station" (130 : Nat) "KeptLight$Boat" "due" "I") ∈ kx_tbl := kx_m 140 (by decide +kernel) (by decide +kernel)
theorem kw_91 : (Jvm.Cond.fieldLink "KeptLight" (244 : Nat) "KeptLight$Boat" "due" "I") ∈ kx_tbl := kx_m 141 (by decide +kernel) (by decide +kernel)
theorem kw_92 : (Jvm.Cond.fieldLink "KeptLight$Boat" (15 : Nat) "KeptLight$Boat" "every" "I") ∈ kx_tbl := kx_m 142 (by decide +kernel) (by decide +kernel)
theorem kw_93 : (Jvm.Cond.fieldLink "KeptLight$Station" (127 : Nat) "KeptLight$Boat" "every" "I") ∈ kx_tbl := kx_m 143 (by decide +kernel) (by decide +kernel)
theorem kw_94 : (Jvm.Cond.fieldLink "KeptLight" (249 : Nat) "KeptLight$Boat" "every" "I") ∈ kx_tbl := kx_m 144 (by decide +kernel) (by decide +kernel)
theorem kw_95 : (Jvm.Cond.fieldLink "KeptLight$Boat" (18 : Nat) "KeptLight$Boat" "oil" "I") ∈ kx_tbl := kx_m 145 (by decide +kernel) (by decide +kernel)
theorem kw_96 : (Jvm.Cond.fieldLink "KeptLight$Station" (119 : Nat) "KeptLight$Boat" "oil" "I") ∈ kx_tbl := kx_m 146 (by decide +kernel) (by decide +kernel)
theorem kw_97 : (Jvm.Cond.fieldLink "KeptLight" (252 : Nat) "KeptLight$Boat" "oil" "I") ∈ kx_tbl := kx_m 147 (by decide +kernel) (by decide +kernel)
theorem kw_98 : (Jvm.Cond.fieldLink "KeptLight$Boat" (21 : Nat) "KeptLight$Boat" "coal" "I") ∈ kx_tbl := kx_m 148 (by decide +kernel) (by decide +kernel)
theorem kw_99 : (Jvm.Cond.fieldLink "KeptLight$Station" (123 : Nat) "KeptLight$Boat" "coal" "I") ∈ kx_tbl := kx_m 149 (by decide +kernel) (by decide +kernel)
theorem kw_100 : (Jvm.Cond.fieldLink "KeptLight" (253 : Nat) "KeptLight$Boat" "coal" "I") ∈ kx_tbl := kx_m 150 (by decide +kernel) (by decide +kernel)
theorem kw_101 : (Jvm.Cond.fieldLink "KeptLight$Boat" (24 : Nat) "KeptLight$Boat" "came" "I") ∈ kx_tbl := kx_m 151 (by decide +kernel) (by decide +kernel)
theorem kw_102 : (Jvm.Cond.fieldLink "KeptLight$Station" (133 : Nat) "KeptLight$Boat" "came" "I") ∈ kx_tbl := kx_m 152 (by decide +kernel) (by decide +kernel)
theorem kw_103 : (Jvm.Cond.fieldLink "KeptLight" (368 : Nat) "KeptLight$Boat" "came" "I") ∈ kx_tbl := kx_m 153 (by decide +kernel) (by decide +kernel)
theorem kw_115 : (Jvm.Cond.methodLink "KeptLight$Station" (77 : Nat) ({ cls := "java/util/Arrays", name := "fill", desc := "([II)V" } : Jvm.MethodName)) ∈ kx_tbl := kx_m 165 (by decide +kernel) (by decide +kernel)
theorem kw_116 : (Jvm.Cond.static ({ cls := "java/util/Arrays", name := "fill", desc := "([II)V" } : Jvm.MethodName)) ∈ kx_tbl := kx_m 166 (by decide +kernel) (by decide +kernel)
theorem kw_117 : (Jvm.Cond.code ({ cls := "java/util/Arrays", name := "fill", desc := "([II)V" } : Jvm.MethodName) prog_16_method_103_code (4 : Nat) (Option.none : Option Jvm.ClassFile.FieldType)) ∈ kx_tbl := kx_m 167 (by decide +kernel) (by decide +kernel)
theorem kw_118 : (Jvm.Cond.fieldLink "KeptLight$Station" (12 : Nat) "KeptLight$Station" "sky" "LKeptLight$Sky;") ∈ kx_tbl := kx_m 168 (by decide +kernel) (by decide +kernel)
theorem kw_119 : (Jvm.Cond.fieldLink "KeptLight" (172 : Nat) "KeptLight$Station" "sky" "LKeptLight$Sky;") ∈ kx_tbl := kx_m 169 (by decide +kernel) (by decide +kernel)
theorem kw_120 : (Jvm.Cond.fieldLink "KeptLight$Station" (21 : Nat) "KeptLight$Station" "crew" "LKeptLight$Crew;") ∈ kx_tbl := kx_m 170 (by decide +kernel) (by decide +kernel)
theorem kw_121 : (Jvm.Cond.fieldLink "KeptLight" (190 : Nat) "KeptLight$Station" "crew" "LKeptLight$Crew;") ∈ kx_tbl := kx_m 171 (by decide +kernel) (by decide +kernel)
theorem kw_122 : (Jvm.Cond.fieldLink "KeptLight$Station" (28 : Nat) "KeptLight$Station" "boat" "LKeptLight$Boat;") ∈ kx_tbl := kx_m 172 (by decide +kernel) (by decide +kernel)
theorem kw_123 : (Jvm.Cond.fieldLink "KeptLight" (240 : Nat) "KeptLight$Station" "boat" "LKeptLight$Boat;") ∈ kx_tbl := kx_m 173 (by decide +kernel) (by decide +kernel)
theorem kw_124 : (Jvm.Cond.fieldLink "KeptLight$Station" (32 : Nat) "KeptLight$Station" "watches" "[I") ∈ kx_tbl := kx_m 174 (by decide +kernel) (by decide +kernel)
theorem kw_125 : (Jvm.Cond.fieldLink "KeptLight$Station" (36 : Nat) "KeptLight$Station" "hour" "I") ∈ kx_tbl := kx_m 175 (by decide +kernel) (by decide +kernel)
theorem kw_126 : (Jvm.Cond.fieldLink "KeptLight$World" (45 : Nat) "KeptLight$Station" "hour" "I") ∈ kx_tbl := kx_m 176 (by decide +kernel) (by decide +kernel)
theorem kw_127 : (Jvm.Cond.fieldLink "KeptLight$Thought" (45 : Nat) "KeptLight$Station" "hour" "I") ∈ kx_tbl := kx_m 177 (by decide +kernel) (by decide +kernel)
theorem kw_128 : (Jvm.Cond.fieldLink "KeptLight" (254 : Nat) "KeptLight$Station" "hour" "I") ∈ kx_tbl := kx_m 178 (by decide +kernel) (by decide +kernel)
theorem kw_129 : (Jvm.Cond.fieldLink "KeptLight$Station" (40 : Nat) "KeptLight$Station" "dawn" "I") ∈ kx_tbl := kx_m 179 (by decide +kernel) (by decide +kernel)
theorem kw_130 : (Jvm.Cond.fieldLink "KeptLight" (222 : Nat) "KeptLight$Station" "dawn" "I") ∈ kx_tbl := kx_m 180 (by decide +kernel) (by decide +kernel)
theorem kw_131 : (Jvm.Cond.fieldLink "KeptLight$Station" (43 : Nat) "KeptLight$Station" "dusk" "I") ∈ kx_tbl := kx_m 181 (by decide +kernel) (by decide +kernel)
theorem kw_132 : (Jvm.Cond.fieldLink "KeptLight" (225 : Nat) "KeptLight$Station" "dusk" "I") ∈ kx_tbl := kx_m 182 (by decide +kernel) (by decide +kernel)
theorem kw_133 : (Jvm.Cond.fieldLink "KeptLight$Station" (46 : Nat) "KeptLight$Station" "wick" "I") ∈ kx_tbl := kx_m 183 (by decide +kernel) (by decide +kernel)
theorem kw_134 : (Jvm.Cond.fieldLink "KeptLight" (228 : Nat) "KeptLight$Station" "wick" "I") ∈ kx_tbl := kx_m 184 (by decide +kernel) (by decide +kernel)
theorem kw_135 : (Jvm.Cond.fieldLink "KeptLight$Station" (49 : Nat) "KeptLight$Station" "oil" "I") ∈ kx_tbl := kx_m 185 (by decide +kernel) (by decide +kernel)
theorem kw_136 : (Jvm.Cond.fieldLink "KeptLight" (231 : Nat) "KeptLight$Station" "oil" "I") ∈ kx_tbl := kx_m 186 (by decide +kernel) (by decide +kernel)
theorem kw_137 : (Jvm.Cond.fieldLink "KeptLight$Station" (52 : Nat) "KeptLight$Station" "coal" "I") ∈ kx_tbl := kx_m 187 (by decide +kernel) (by decide +kernel)
theorem kw_138 : (Jvm.Cond.fieldLink "KeptLight" (234 : Nat) "KeptLight$Station" "coal" "I") ∈ kx_tbl := kx_m 188 (by decide +kernel) (by decide +kernel)
theorem kw_139 : (Jvm.Cond.fieldLink "KeptLight$Station" (55 : Nat) "KeptLight$Station" "lit" "Z") ∈ kx_tbl := kx_m 189 (by decide +kernel) (by decide +kernel)
theorem kw_140 : (Jvm.Cond.fieldLink "KeptLight$World" (72 : Nat) "KeptLight$Station" "lit" "Z") ∈ kx_tbl := kx_m 190 (by decide +kernel) (by decide +kernel)
theorem kw_141 : (Jvm.Cond.fieldLink "KeptLight" (383 : Nat) "KeptLight$Station" "lit" "Z") ∈ kx_tbl := kx_m 191 (by decide +kernel) (by decide +kernel)
theorem kw_142 : (Jvm.Cond.fieldLink "KeptLight$Station" (59 : Nat) "KeptLight$Station" "untended" "I") ∈ kx_tbl := kx_m 192 (by decide +kernel) (by decide +kernel)
theorem kw_143 : (Jvm.Cond.fieldLink "KeptLight" (386 : Nat) "KeptLight$Station" "untended" "I") ∈ kx_tbl := kx_m 193 (by decide +kernel) (by decide +kernel)
theorem kw_144 : (Jvm.Cond.fieldLink "KeptLight$Station" (62 : Nat) "KeptLight$Station" "weather" "I") ∈ kx_tbl := kx_m 194 (by decide +kernel) (by decide +kernel)
theorem kw_145 : (Jvm.Cond.fieldLink "KeptLight" (401 : Nat) "KeptLight$Station" "weather" "I") ∈ kx_tbl := kx_m 195 (by decide +kernel) (by decide +kernel)
theorem kw_146 : (Jvm.Cond.fieldLink "KeptLight$Station" (65 : Nat) "KeptLight$Station" "dark" "Z") ∈ kx_tbl := kx_m 196 (by decide +kernel) (by decide +kernel)
theorem kw_147 : (Jvm.Cond.fieldLink "KeptLight$World" (103 : Nat) "KeptLight$Station" "dark" "Z") ∈ kx_tbl := kx_m 197 (by decide +kernel) (by decide +kernel)
theorem kw_148 : (Jvm.Cond.fieldLink "KeptLight" (398 : Nat) "KeptLight$Station" "dark" "Z") ∈ kx_tbl := kx_m 198 (by decide +kernel) (by decide +kernel)
theorem kw_149 : (Jvm.Cond.fieldLink "KeptLight$Station" (68 : Nat) "KeptLight$Station" "watch" "I") ∈ kx_tbl := kx_m 199 (by decide +kernel) (by decide +kernel)
theorem kw_150 : (Jvm.Cond.fieldLink "KeptLight$World" (116 : Nat) "KeptLight$Station" "watch" "I") ∈ kx_tbl := kx_m 200 (by decide +kernel) (by decide +kernel)
theorem kw_151 : (Jvm.Cond.fieldLink "KeptLight$Station" (71 : Nat) "KeptLight$Station" "tended" "Z") ∈ kx_tbl := kx_m 201 (by decide +kernel) (by decide +kernel)
theorem kw_152 : (Jvm.Cond.fieldLink "KeptLight$World" (110 : Nat) "KeptLight$Station" "tended" "Z") ∈ kx_tbl := kx_m 202 (by decide +kernel) (by decide +kernel)
theorem kw_153 : (Jvm.Cond.fieldLink "KeptLight$Station" (74 : Nat) "KeptLight$Station" "signal" "Z") ∈ kx_tbl := kx_m 203 (by decide +kernel) (by decide +kernel)
theorem kw_154 : (Jvm.Cond.fieldLink "KeptLight$World" (76 : Nat) "KeptLight$Station" "signal" "Z") ∈ kx_tbl := kx_m 204 (by decide +kernel) (by decide +kernel)
theorem kw_155 : (Jvm.Cond.fieldLink "KeptLight" (404 : Nat) "KeptLight$Station" "signal" "Z") ∈ kx_tbl := kx_m 205 (by decide +kernel) (by decide +kernel)
theorem kw_191 : (Jvm.Cond.classLink "KeptLight$World" (18 : Nat) "KeptLight$Fleet") ∈ kx_tbl := kx_m 241 (by decide +kernel) (by decide +kernel)
theorem kw_192 : (Jvm.Cond.instantiable "KeptLight$Fleet" (6 : Nat)) ∈ kx_tbl := kx_m 242 (by decide +kernel) (by decide +kernel)
theorem kw_194 : (Jvm.Cond.instanceMethod ({ cls := "KeptLight$Fleet", name := "<init>", desc := "()V" } : Jvm.MethodName)) ∈ kx_tbl := kx_m 244 (by decide +kernel) (by decide +kernel)
theorem kw_195 : (Jvm.Cond.code ({ cls := "KeptLight$Fleet", name := "<init>", desc := "()V" } : Jvm.MethodName) prog_4_method_1_code (1 : Nat) (Option.none : Option Jvm.ClassFile.FieldType)) ∈ kx_tbl := kx_m 245 (by decide +kernel) (by decide +kernel)
theorem kw_196 : (Jvm.Cond.methodLink "KeptLight$Fleet" (3 : Nat) ({ cls := "java/lang/Object", name := "<init>", desc := "()V" } : Jvm.MethodName)) ∈ kx_tbl := kx_m 246 (by decide +kernel) (by decide +kernel)
theorem kw_197 : (Jvm.Cond.fieldLink "KeptLight$Fleet" (9 : Nat) "KeptLight$Fleet" "kinds" "[I") ∈ kx_tbl := kx_m 247 (by decide +kernel) (by decide +kernel)
theorem kw_198 : (Jvm.Cond.fieldLink "KeptLight$Fleet" (15 : Nat) "KeptLight$Fleet" "hours" "[I") ∈ kx_tbl := kx_m 248 (by decide +kernel) (by decide +kernel)
theorem kw_199 : (Jvm.Cond.fieldLink "KeptLight$Fleet" (18 : Nat) "KeptLight$Fleet" "fates" "[I") ∈ kx_tbl := kx_m 249 (by decide +kernel) (by decide +kernel)
theorem kw_200 : (Jvm.Cond.fieldLink "KeptLight$Fleet" (21 : Nat) "KeptLight$Fleet" "mets" "[I") ∈ kx_tbl := kx_m 250 (by decide +kernel) (by decide +kernel)
theorem kw_201 : (Jvm.Cond.fieldLink "KeptLight$Fleet" (24 : Nat) "KeptLight$Fleet" "places" "[I") ∈ kx_tbl := kx_m 251 (by decide +kernel) (by decide +kernel)
theorem kw_202 : (Jvm.Cond.fieldLink "KeptLight$Fleet" (27 : Nat) "KeptLight$Fleet" "count" "I") ∈ kx_tbl := kx_m 252 (by decide +kernel) (by decide +kernel)
theorem kw_203 : (Jvm.Cond.fieldLink "KeptLight$World" (79 : Nat) "KeptLight$Fleet" "count" "I") ∈ kx_tbl := kx_m 253 (by decide +kernel) (by decide +kernel)
theorem kw_204 : (Jvm.Cond.fieldLink "KeptLight$Thought" (68 : Nat) "KeptLight$Fleet" "count" "I") ∈ kx_tbl := kx_m 254 (by decide +kernel) (by decide +kernel)
theorem kw_205 : (Jvm.Cond.fieldLink "KeptLight" (389 : Nat) "KeptLight$Fleet" "count" "I") ∈ kx_tbl := kx_m 255 (by decide +kernel) (by decide +kernel)
theorem kw_219 : (Jvm.Cond.classLink "KeptLight$World" (25 : Nat) "KeptLight$LogBook") ∈ kx_tbl := kx_m 269 (by decide +kernel) (by decide +kernel)
theorem kw_220 : (Jvm.Cond.instantiable "KeptLight$LogBook" (5 : Nat)) ∈ kx_tbl := kx_m 270 (by decide +kernel) (by decide +kernel)
theorem kw_222 : (Jvm.Cond.instanceMethod ({ cls := "KeptLight$LogBook", name := "<init>", desc := "()V" } : Jvm.MethodName)) ∈ kx_tbl := kx_m 272 (by decide +kernel) (by decide +kernel)
theorem kw_223 : (Jvm.Cond.code ({ cls := "KeptLight$LogBook", name := "<init>", desc := "()V" } : Jvm.MethodName) prog_5_method_1_code (1 : Nat) (Option.none : Option Jvm.ClassFile.FieldType)) ∈ kx_tbl := kx_m 273 (by decide +kernel) (by decide +kernel)
theorem kw_224 : (Jvm.Cond.methodLink "KeptLight$LogBook" (3 : Nat) ({ cls := "java/lang/Object", name := "<init>", desc := "()V" } : Jvm.MethodName)) ∈ kx_tbl := kx_m 274 (by decide +kernel) (by decide +kernel)
theorem kw_225 : (Jvm.Cond.fieldLink "KeptLight$LogBook" (11 : Nat) "KeptLight$LogBook" "hours" "[I") ∈ kx_tbl := kx_m 275 (by decide +kernel) (by decide +kernel)
theorem kw_226 : (Jvm.Cond.fieldLink "KeptLight$LogBook" (15 : Nat) "KeptLight$LogBook" "sorts" "[I") ∈ kx_tbl := kx_m 276 (by decide +kernel) (by decide +kernel)
theorem kw_227 : (Jvm.Cond.fieldLink "KeptLight$LogBook" (18 : Nat) "KeptLight$LogBook" "ships" "[I") ∈ kx_tbl := kx_m 277 (by decide +kernel) (by decide +kernel)
theorem kw_228 : (Jvm.Cond.fieldLink "KeptLight$LogBook" (21 : Nat) "KeptLight$LogBook" "writers" "[I") ∈ kx_tbl := kx_m 278 (by decide +kernel) (by decide +kernel)
theorem kw_229 : (Jvm.Cond.fieldLink "KeptLight$LogBook" (24 : Nat) "KeptLight$LogBook" "count" "I") ∈ kx_tbl := kx_m 279 (by decide +kernel) (by decide +kernel)
theorem kw_230 : (Jvm.Cond.fieldLink "KeptLight$World" (145 : Nat) "KeptLight$LogBook" "count" "I") ∈ kx_tbl := kx_m 280 (by decide +kernel) (by decide +kernel)
theorem kw_231 : (Jvm.Cond.fieldLink "KeptLight" (324 : Nat) "KeptLight$LogBook" "count" "I") ∈ kx_tbl := kx_m 281 (by decide +kernel) (by decide +kernel)
theorem kw_243 : (Jvm.Cond.fieldLink "KeptLight$World" (12 : Nat) "KeptLight$World" "station" "LKeptLight$Station;") ∈ kx_tbl := kx_m 293 (by decide +kernel) (by decide +kernel)
theorem kw_244 : (Jvm.Cond.fieldLink "KeptLight$Thought" (34 : Nat) "KeptLight$World" "station" "LKeptLight$Station;") ∈ kx_tbl := kx_m 294 (by decide +kernel) (by decide +kernel)
theorem kw_245 : (Jvm.Cond.fieldLink "KeptLight" (168 : Nat) "KeptLight$World" "station" "LKeptLight$Station;") ∈ kx_tbl := kx_m 295 (by decide +kernel) (by decide +kernel)
theorem kw_246 : (Jvm.Cond.fieldLink "KeptLight$World" (21 : Nat) "KeptLight$World" "fleet" "LKeptLight$Fleet;") ∈ kx_tbl := kx_m 296 (by decide +kernel) (by decide +kernel)
theorem kw_247 : (Jvm.Cond.fieldLink "KeptLight$Thought" (41 : Nat) "KeptLight$World" "fleet" "LKeptLight$Fleet;") ∈ kx_tbl := kx_m 297 (by decide +kernel) (by decide +kernel)
theorem kw_248 : (Jvm.Cond.fieldLink "KeptLight" (109 : Nat) "KeptLight$World" "fleet" "LKeptLight$Fleet;") ∈ kx_tbl := kx_m 298 (by decide +kernel) (by decide +kernel)
theorem kw_249 : (Jvm.Cond.fieldLink "KeptLight$World" (28 : Nat) "KeptLight$World" "book" "LKeptLight$LogBook;") ∈ kx_tbl := kx_m 299 (by decide +kernel) (by decide +kernel)
theorem kw_250 : (Jvm.Cond.fieldLink "KeptLight" (307 : Nat) "KeptLight$World" "book" "LKeptLight$LogBook;") ∈ kx_tbl := kx_m 300 (by decide +kernel) (by decide +kernel)
theorem kw_251 : (Jvm.Cond.fieldLink "KeptLight$World" (32 : Nat) "KeptLight$World" "unlit" "I") ∈ kx_tbl := kx_m 301 (by decide +kernel) (by decide +kernel)
theorem kw_252 : (Jvm.Cond.fieldLink "KeptLight" (295 : Nat) "KeptLight$World" "unlit" "I") ∈ kx_tbl := kx_m 302 (by decide +kernel) (by decide +kernel)
theorem kw_253 : (Jvm.Cond.fieldLink "KeptLight$World" (36 : Nat) "KeptLight$World" "unlitHours" "I") ∈ kx_tbl := kx_m 303 (by decide +kernel) (by decide +kernel)
theorem kw_254 : (Jvm.Cond.fieldLink "KeptLight" (339 : Nat) "KeptLight$World" "unlitHours" "I") ∈ kx_tbl := kx_m 304 (by decide +kernel) (by decide +kernel)
theorem kw_255 : (Jvm.Cond.fieldLink "KeptLight$World" (39 : Nat) "KeptLight$World" "seed" "I") ∈ kx_tbl := kx_m 305 (by decide +kernel) (by decide +kernel)
theorem kw_256 : (Jvm.Cond.fieldLink "KeptLight" (304 : Nat) "KeptLight$World" "seed" "I") ∈ kx_tbl := kx_m 306 (by decide +kernel) (by decide +kernel)
theorem kw_270 : (Jvm.Cond.classLink "KeptLight" (19 : Nat) "KeptLight$Thought") ∈ kx_tbl := kx_m 320 (by decide +kernel) (by decide +kernel)
theorem kw_271 : (Jvm.Cond.instantiable "KeptLight$Thought" (6 : Nat)) ∈ kx_tbl := kx_m 321 (by decide +kernel) (by decide +kernel)
theorem kw_273 : (Jvm.Cond.instanceMethod ({ cls := "KeptLight$Thought", name := "<init>", desc := "()V" } : Jvm.MethodName)) ∈ kx_tbl := kx_m 323 (by decide +kernel) (by decide +kernel)
theorem kw_274 : (Jvm.Cond.code ({ cls := "KeptLight$Thought", name := "<init>", desc := "()V" } : Jvm.MethodName) prog_10_method_1_code (1 : Nat) (Option.none : Option Jvm.ClassFile.FieldType)) ∈ kx_tbl := kx_m 324 (by decide +kernel) (by decide +kernel)
theorem kw_275 : (Jvm.Cond.methodLink "KeptLight$Thought" (3 : Nat) ({ cls := "java/lang/Object", name := "<init>", desc := "()V" } : Jvm.MethodName)) ∈ kx_tbl := kx_m 325 (by decide +kernel) (by decide +kernel)
theorem kw_276 : (Jvm.Cond.classLink "KeptLight$Thought" (9 : Nat) "KeptLight$Station") ∈ kx_tbl := kx_m 326 (by decide +kernel) (by decide +kernel)
theorem kw_277 : (Jvm.Cond.methodLink "KeptLight$Thought" (11 : Nat) ({ cls := "KeptLight$Station", name := "<init>", desc := "()V" } : Jvm.MethodName)) ∈ kx_tbl := kx_m 327 (by decide +kernel) (by decide +kernel)
theorem kw_278 : (Jvm.Cond.fieldLink "KeptLight$Thought" (12 : Nat) "KeptLight$Thought" "station" "LKeptLight$Station;") ∈ kx_tbl := kx_m 328 (by decide +kernel) (by decide +kernel)
theorem kw_279 : (Jvm.Cond.fieldLink "KeptLight" (355 : Nat) "KeptLight$Thought" "station" "LKeptLight$Station;") ∈ kx_tbl := kx_m 329 (by decide +kernel) (by decide +kernel)
theorem kw_280 : (Jvm.Cond.fieldLink "KeptLight$Thought" (18 : Nat) "KeptLight$Thought" "unlit" "I") ∈ kx_tbl := kx_m 330 (by decide +kernel) (by decide +kernel)
theorem kw_281 : (Jvm.Cond.fieldLink "KeptLight" (354 : Nat) "KeptLight$Thought" "unlit" "I") ∈ kx_tbl := kx_m 331 (by decide +kernel) (by decide +kernel)
theorem kw_282 : (Jvm.Cond.fieldLink "KeptLight$Thought" (22 : Nat) "KeptLight$Thought" "misses" "I") ∈ kx_tbl := kx_m 332 (by decide +kernel) (by decide +kernel)
theorem kw_283 : (Jvm.Cond.fieldLink "KeptLight" (356 : Nat) "KeptLight$Thought" "misses" "I") ∈ kx_tbl := kx_m 333 (by decide +kernel) (by decide +kernel)
theorem kw_284 : (Jvm.Cond.fieldLink "KeptLight$Thought" (25 : Nat) "KeptLight$Thought" "wrecks" "I") ∈ kx_tbl := kx_m 334 (by decide +kernel) (by decide +kernel)
theorem kw_285 : (Jvm.Cond.fieldLink "KeptLight" (359 : Nat) "KeptLight$Thought" "wrecks" "I") ∈ kx_tbl := kx_m 335 (by decide +kernel) (by decide +kernel)
theorem kw_286 : (Jvm.Cond.fieldLink "KeptLight$Thought" (28 : Nat) "KeptLight$Thought" "asleep" "I") ∈ kx_tbl := kx_m 336 (by decide +kernel) (by decide +kernel)
theorem kw_287 : (Jvm.Cond.fieldLink "KeptLight" (362 : Nat) "KeptLight$Thought" "asleep" "I") ∈ kx_tbl := kx_m 337 (by decide +kernel) (by decide +kernel)
theorem kw_288 : (Jvm.Cond.fieldLink "KeptLight$Thought" (31 : Nat) "KeptLight$Thought" "nextPlace" "I") ∈ kx_tbl := kx_m 338 (by decide +kernel) (by decide +kernel)
theorem kw_302 : (Jvm.Cond.classLink "KeptLight" (26 : Nat) "KeptLight$Tape") ∈ kx_tbl := kx_m 352 (by decide +kernel) (by decide +kernel)
theorem kw_303 : (Jvm.Cond.instantiable "KeptLight$Tape" (2 : Nat)) ∈ kx_tbl := kx_m 353 (by decide +kernel) (by decide +kernel)
theorem kw_305 : (Jvm.Cond.instanceMethod ({ cls := "KeptLight$Tape", name := "<init>", desc := "()V" } : Jvm.MethodName)) ∈ kx_tbl := kx_m 355 (by decide +kernel) (by decide +kernel)
theorem kw_306 : (Jvm.Cond.code ({ cls := "KeptLight$Tape", name := "<init>", desc := "()V" } : Jvm.MethodName) prog_9_method_1_code (1 : Nat) (Option.none : Option Jvm.ClassFile.FieldType)) ∈ kx_tbl := kx_m 356 (by decide +kernel) (by decide +kernel)
theorem kw_307 : (Jvm.Cond.methodLink "KeptLight$Tape" (3 : Nat) ({ cls := "java/lang/Object", name := "<init>", desc := "()V" } : Jvm.MethodName)) ∈ kx_tbl := kx_m 357 (by decide +kernel) (by decide +kernel)
theorem kw_308 : (Jvm.Cond.fieldLink "KeptLight$Tape" (11 : Nat) "KeptLight$Tape" "bytes" "[I") ∈ kx_tbl := kx_m 358 (by decide +kernel) (by decide +kernel)
theorem kw_309 : (Jvm.Cond.fieldLink "KeptLight$Tape" (15 : Nat) "KeptLight$Tape" "size" "I") ∈ kx_tbl := kx_m 359 (by decide +kernel) (by decide +kernel)
theorem kw_310 : (Jvm.Cond.fieldLink "KeptLight" (160 : Nat) "KeptLight$Tape" "size" "I") ∈ kx_tbl := kx_m 360 (by decide +kernel) (by decide +kernel)
theorem kw_316 : (Jvm.Cond.classLink "KeptLight" (33 : Nat) "KeptLight$Sky") ∈ kx_tbl := kx_m 366 (by decide +kernel) (by decide +kernel)
theorem kw_318 : (Jvm.Cond.classLink "KeptLight" (40 : Nat) "KeptLight$Shelf") ∈ kx_tbl := kx_m 368 (by decide +kernel) (by decide +kernel)
theorem kw_320 : (Jvm.Cond.instantiable "KeptLight$Shelf" (3 : Nat)) ∈ kx_tbl := kx_m 370 (by decide +kernel) (by decide +kernel)
theorem kw_322 : (Jvm.Cond.instanceMethod ({ cls := "KeptLight$Shelf", name := "<init>", desc := "()V" } : Jvm.MethodName)) ∈ kx_tbl := kx_m 372 (by decide +kernel) (by decide +kernel)
theorem kw_323 : (Jvm.Cond.code ({ cls := "KeptLight$Shelf", name := "<init>", desc := "()V" } : Jvm.MethodName) prog_6_method_1_code (1 : Nat) (Option.none : Option Jvm.ClassFile.FieldType)) ∈ kx_tbl := kx_m 373 (by decide +kernel) (by decide +kernel)
theorem kw_324 : (Jvm.Cond.methodLink "KeptLight$Shelf" (3 : Nat) ({ cls := "java/lang/Object", name := "<init>", desc := "()V" } : Jvm.MethodName)) ∈ kx_tbl := kx_m 374 (by decide +kernel) (by decide +kernel)
theorem kw_325 : (Jvm.Cond.fieldLink "KeptLight$Shelf" (11 : Nat) "KeptLight$Shelf" "elements" "[J") ∈ kx_tbl := kx_m 375 (by decide +kernel) (by decide +kernel)
theorem kw_326 : (Jvm.Cond.fieldLink "KeptLight$Shelf" (15 : Nat) "KeptLight$Shelf" "size" "I") ∈ kx_tbl := kx_m 376 (by decide +kernel) (by decide +kernel)
theorem kw_327 : (Jvm.Cond.fieldLink "KeptLight$Shelf" (19 : Nat) "KeptLight$Shelf" "held" "I") ∈ kx_tbl := kx_m 377 (by decide +kernel) (by decide +kernel)
theorem kw_335 : (Jvm.Cond.arrayClass Jvm.ClassFile.FieldType.long) ∈ kx_tbl := kx_m 385 (by decide +kernel) (by decide +kernel)
theorem kw_336 : (Jvm.Cond.fieldLink "KeptLight" (10 : Nat) "KeptLight" "now" "LKeptLight$World;") ∈ kx_tbl := kx_m 386 (by decide +kernel) (by decide +kernel)
theorem kw_337 : (Jvm.Cond.fieldLink "KeptLight" (16 : Nat) "KeptLight" "kept" "LKeptLight$World;") ∈ kx_tbl := kx_m 387 (by decide +kernel) (by decide +kernel)
theorem kw_338 : (Jvm.Cond.fieldLink "KeptLight" (22 : Nat) "KeptLight" "thought" "LKeptLight$Thought;") ∈ kx_tbl := kx_m 388 (by decide +kernel) (by decide +kernel)
theorem kw_339 : (Jvm.Cond.fieldLink "KeptLight" (29 : Nat) "KeptLight" "tape" "LKeptLight$Tape;") ∈ kx_tbl := kx_m 389 (by decide +kernel) (by decide +kernel)
theorem kw_340 : (Jvm.Cond.fieldLink "KeptLight" (36 : Nat) "KeptLight" "draft" "LKeptLight$Sky;") ∈ kx_tbl := kx_m 390 (by decide +kernel) (by decide +kernel)
theorem kw_341 : (Jvm.Cond.fieldLink "KeptLight" (42 : Nat) "KeptLight" "shelves" "[LKeptLight$Shelf;") ∈ kx_tbl := kx_m 391 (by decide +kernel) (by decide +kernel)
theorem kw_342 : (Jvm.Cond.fieldLink "KeptLight" (46 : Nat) "KeptLight" "refusals" "[I") ∈ kx_tbl := kx_m 392 (by decide +kernel) (by decide +kernel)
theorem kw_343 : (Jvm.Cond.fieldLink "KeptLight" (50 : Nat) "KeptLight" "hasImage" "Z") ∈ kx_tbl := kx_m 393 (by decide +kernel) (by decide +kernel)
theorem kw_361 : (Jvm.Cond.methodLink "KeptLightLaw" (13 : Nat) ({ cls := "KeptLight", name := "row", desc := "(III)I" } : Jvm.MethodName)) ∈ kx_tbl := kx_m 411 (by decide +kernel) (by decide +kernel)
theorem kw_362 : (Jvm.Cond.instanceMethod ({ cls := "KeptLight", name := "row", desc := "(III)I" } : Jvm.MethodName)) ∈ kx_tbl := kx_m 412 (by decide +kernel) (by decide +kernel)
theorem kw_363 : (Jvm.Cond.selects "KeptLight" ({ cls := "KeptLight", name := "row", desc := "(III)I" } : Jvm.MethodName) ({ cls := "KeptLight", name := "row", desc := "(III)I" } : Jvm.MethodName)) ∈ kx_tbl := kx_m 413 (by decide +kernel) (by decide +kernel)
theorem kw_364 : (Jvm.Cond.code ({ cls := "KeptLight", name := "row", desc := "(III)I" } : Jvm.MethodName) prog_1_method_2_code (5 : Nat) (Option.some Jvm.ClassFile.FieldType.int)) ∈ kx_tbl := kx_m 414 (by decide +kernel) (by decide +kernel)
theorem kw_365 : (Jvm.Cond.methodLink "KeptLight" (55 : Nat) ({ cls := "KeptLight", name := "shelfAt", desc := "(I)LKeptLight$Shelf;" } : Jvm.MethodName)) ∈ kx_tbl := kx_m 415 (by decide +kernel) (by decide +kernel)
theorem kw_367 : (Jvm.Cond.instanceMethod ({ cls := "KeptLight", name := "shelfAt", desc := "(I)LKeptLight$Shelf;" } : Jvm.MethodName)) ∈ kx_tbl := kx_m 417 (by decide +kernel) (by decide +kernel)
theorem kw_368 : (Jvm.Cond.code ({ cls := "KeptLight", name := "shelfAt", desc := "(I)LKeptLight$Shelf;" } : Jvm.MethodName) prog_1_method_54_code (2 : Nat) (Option.some (Jvm.ClassFile.FieldType.object "KeptLight$Shelf"))) ∈ kx_tbl := kx_m 418 (by decide +kernel) (by decide +kernel)
theorem kw_369 : (Jvm.Cond.methodLink "KeptLight" (59 : Nat) ({ cls := "KeptLight", name := "isWithin", desc := "(III)Z" } : Jvm.MethodName)) ∈ kx_tbl := kx_m 419 (by decide +kernel) (by decide +kernel)
theorem kw_370 : (Jvm.Cond.static ({ cls := "KeptLight", name := "isWithin", desc := "(III)Z" } : Jvm.MethodName)) ∈ kx_tbl := kx_m 420 (by decide +kernel) (by decide +kernel)
theorem kw_371 : (Jvm.Cond.code ({ cls := "KeptLight", name := "isWithin", desc := "(III)Z" } : Jvm.MethodName) prog_1_method_59_code (3 : Nat) (Option.some Jvm.ClassFile.FieldType.boolean)) ∈ kx_tbl := kx_m 421 (by decide +kernel) (by decide +kernel)
theorem kw_372 : (Jvm.Cond.methodLink "KeptLight" (63 : Nat) ({ cls := "KeptLight", name := "refuse", desc := "(I)I" } : Jvm.MethodName)) ∈ kx_tbl := kx_m 422 (by decide +kernel) (by decide +kernel)
theorem kw_374 : (Jvm.Cond.instanceMethod ({ cls := "KeptLight", name := "refuse", desc := "(I)I" } : Jvm.MethodName)) ∈ kx_tbl := kx_m 424 (by decide +kernel) (by decide +kernel)
theorem kw_375 : (Jvm.Cond.code ({ cls := "KeptLight", name := "refuse", desc := "(I)I" } : Jvm.MethodName) prog_1_method_50_code (3 : Nat) (Option.some Jvm.ClassFile.FieldType.int)) ∈ kx_tbl := kx_m 425 (by decide +kernel) (by decide +kernel)
theorem kw_376 : (Jvm.Cond.methodLink "KeptLight" (67 : Nat) ({ cls := "KeptLight$Shelf", name := "takeRow", desc := "(II)V" } : Jvm.MethodName)) ∈ kx_tbl := kx_m 426 (by decide +kernel) (by decide +kernel)
theorem kw_377 : (Jvm.Cond.instanceMethod ({ cls := "KeptLight$Shelf", name := "takeRow", desc := "(II)V" } : Jvm.MethodName)) ∈ kx_tbl := kx_m 427 (by decide +kernel) (by decide +kernel)
theorem kw_378 : (Jvm.Cond.selects "KeptLight$Shelf" ({ cls := "KeptLight$Shelf", name := "takeRow", desc := "(II)V" } : Jvm.MethodName) ({ cls := "KeptLight$Shelf", name := "takeRow", desc := "(II)V" } : Jvm.MethodName)) ∈ kx_tbl := kx_m 428 (by decide +kernel) (by decide +kernel)
theorem kw_379 : (Jvm.Cond.code ({ cls := "KeptLight$Shelf", name := "takeRow", desc := "(II)V" } : Jvm.MethodName) prog_6_method_9_code (3 : Nat) (Option.none : Option Jvm.ClassFile.FieldType)) ∈ kx_tbl := kx_m 429 (by decide +kernel) (by decide +kernel)
theorem kw_380 : (Jvm.Cond.methodLink "KeptLight$Shelf" (26 : Nat) ({ cls := "java/util/Arrays", name := "fill", desc := "([JJ)V" } : Jvm.MethodName)) ∈ kx_tbl := kx_m 430 (by decide +kernel) (by decide +kernel)
theorem kw_381 : (Jvm.Cond.static ({ cls := "java/util/Arrays", name := "fill", desc := "([JJ)V" } : Jvm.MethodName)) ∈ kx_tbl := kx_m 431 (by decide +kernel) (by decide +kernel)
theorem kw_382 : (Jvm.Cond.code ({ cls := "java/util/Arrays", name := "fill", desc := "([JJ)V" } : Jvm.MethodName) prog_16_method_101_code (5 : Nat) (Option.none : Option Jvm.ClassFile.FieldType)) ∈ kx_tbl := kx_m 432 (by decide +kernel) (by decide +kernel)
theorem kw_383 : (Jvm.Cond.methodLink "KeptLightLaw" (20 : Nat) ({ cls := "KeptLight", name := "set", desc := "(IIJ)I" } : Jvm.MethodName)) ∈ kx_tbl := kx_m 433 (by decide +kernel) (by decide +kernel)
theorem kw_384 : (Jvm.Cond.instanceMethod ({ cls := "KeptLight", name := "set", desc := "(IIJ)I" } : Jvm.MethodName)) ∈ kx_tbl := kx_m 434 (by decide +kernel) (by decide +kernel)
theorem kw_385 : (Jvm.Cond.selects "KeptLight" ({ cls := "KeptLight", name := "set", desc := "(IIJ)I" } : Jvm.MethodName) ({ cls := "KeptLight", name := "set", desc := "(IIJ)I" } : Jvm.MethodName)) ∈ kx_tbl := kx_m 435 (by decide +kernel) (by decide +kernel)
theorem kw_386 : (Jvm.Cond.code ({ cls := "KeptLight", name := "set", desc := "(IIJ)I" } : Jvm.MethodName) prog_1_method_3_code (7 : Nat) (Option.some Jvm.ClassFile.FieldType.int)) ∈ kx_tbl := kx_m 436 (by decide +kernel) (by decide +kernel)
theorem kw_387 : (Jvm.Cond.methodLink "KeptLight" (71 : Nat) ({ cls := "KeptLight", name := "againstRowIn", desc := "(I)I" } : Jvm.MethodName)) ∈ kx_tbl := kx_m 437 (by decide +kernel) (by decide +kernel)
theorem kw_389 : (Jvm.Cond.instanceMethod ({ cls := "KeptLight", name := "againstRowIn", desc := "(I)I" } : Jvm.MethodName)) ∈ kx_tbl := kx_m 439 (by decide +kernel) (by decide +kernel)
theorem kw_390 : (Jvm.Cond.code ({ cls := "KeptLight", name := "againstRowIn", desc := "(I)I" } : Jvm.MethodName) prog_1_method_51_code (3 : Nat) (Option.some Jvm.ClassFile.FieldType.int)) ∈ kx_tbl := kx_m 440 (by decide +kernel) (by decide +kernel)
theorem kw_391 : (Jvm.Cond.methodLink "KeptLight" (86 : Nat) ({ cls := "KeptLight$Shelf", name := "isShip", desc := "()Z" } : Jvm.MethodName)) ∈ kx_tbl := kx_m 441 (by decide +kernel) (by decide +kernel)
theorem kw_392 : (Jvm.Cond.instanceMethod ({ cls := "KeptLight$Shelf", name := "isShip", desc := "()Z" } : Jvm.MethodName)) ∈ kx_tbl := kx_m 442 (by decide +kernel) (by decide +kernel)
theorem kw_393 : (Jvm.Cond.selects "KeptLight$Shelf" ({ cls := "KeptLight$Shelf", name := "isShip", desc := "()Z" } : Jvm.MethodName) ({ cls := "KeptLight$Shelf", name := "isShip", desc := "()Z" } : Jvm.MethodName)) ∈ kx_tbl := kx_m 443 (by decide +kernel) (by decide +kernel)
theorem kw_394 : (Jvm.Cond.code ({ cls := "KeptLight$Shelf", name := "isShip", desc := "()Z" } : Jvm.MethodName) prog_6_method_4_code (1 : Nat) (Option.some Jvm.ClassFile.FieldType.boolean)) ∈ kx_tbl := kx_m 444 (by decide +kernel) (by decide +kernel)
theorem kw_395 : (Jvm.Cond.methodLink "KeptLight" (82 : Nat) ({ cls := "KeptLight$Shelf", name := "isEmpty", desc := "()Z" } : Jvm.MethodName)) ∈ kx_tbl := kx_m 445 (by decide +kernel) (by decide +kernel)
theorem kw_396 : (Jvm.Cond.instanceMethod ({ cls := "KeptLight$Shelf", name := "isEmpty", desc := "()Z" } : Jvm.MethodName)) ∈ kx_tbl := kx_m 446 (by decide +kernel) (by decide +kernel)
theorem kw_397 : (Jvm.Cond.selects "KeptLight$Shelf" ({ cls := "KeptLight$Shelf", name := "isEmpty", desc := "()Z" } : Jvm.MethodName) ({ cls := "KeptLight$Shelf", name := "isEmpty", desc := "()Z" } : Jvm.MethodName)) ∈ kx_tbl := kx_m 447 (by decide +kernel) (by decide +kernel)
theorem kw_398 : (Jvm.Cond.code ({ cls := "KeptLight$Shelf", name := "isEmpty", desc := "()Z" } : Jvm.MethodName) prog_6_method_3_code (1 : Nat) (Option.some Jvm.ClassFile.FieldType.boolean)) ∈ kx_tbl := kx_m 448 (by decide +kernel) (by decide +kernel)
theorem kw_399 : (Jvm.Cond.methodLink "KeptLight" (74 : Nat) ({ cls := "KeptLight$Shelf", name := "hasElement", desc := "(I)Z" } : Jvm.MethodName)) ∈ kx_tbl := kx_m 449 (by decide +kernel) (by decide +kernel)
theorem kw_400 : (Jvm.Cond.instanceMethod ({ cls := "KeptLight$Shelf", name := "hasElement", desc := "(I)Z" } : Jvm.MethodName)) ∈ kx_tbl := kx_m 450 (by decide +kernel) (by decide +kernel)
theorem kw_401 : (Jvm.Cond.selects "KeptLight$Shelf" ({ cls := "KeptLight$Shelf", name := "hasElement", desc := "(I)Z" } : Jvm.MethodName) ({ cls := "KeptLight$Shelf", name := "hasElement", desc := "(I)Z" } : Jvm.MethodName)) ∈ kx_tbl := kx_m 451 (by decide +kernel) (by decide +kernel)
theorem kw_402 : (Jvm.Cond.code ({ cls := "KeptLight$Shelf", name := "hasElement", desc := "(I)Z" } : Jvm.MethodName) prog_6_method_10_code (2 : Nat) (Option.some Jvm.ClassFile.FieldType.boolean)) ∈ kx_tbl := kx_m 452 (by decide +kernel) (by decide +kernel)
theorem kw_404 : (Jvm.Cond.methodLink "KeptLight" (78 : Nat) ({ cls := "KeptLight$Shelf", name := "put", desc := "(IJ)V" } : Jvm.MethodName)) ∈ kx_tbl := kx_m 454 (by decide +kernel) (by decide +kernel)
theorem kw_405 : (Jvm.Cond.instanceMethod ({ cls := "KeptLight$Shelf", name := "put", desc := "(IJ)V" } : Jvm.MethodName)) ∈ kx_tbl := kx_m 455 (by decide +kernel) (by decide +kernel)
theorem kw_406 : (Jvm.Cond.selects "KeptLight$Shelf" ({ cls := "KeptLight$Shelf", name := "put", desc := "(IJ)V" } : Jvm.MethodName) ({ cls := "KeptLight$Shelf", name := "put", desc := "(IJ)V" } : Jvm.MethodName)) ∈ kx_tbl := kx_m 456 (by decide +kernel) (by decide +kernel)
theorem kw_407 : (Jvm.Cond.code ({ cls := "KeptLight$Shelf", name := "put", desc := "(IJ)V" } : Jvm.MethodName) prog_6_method_13_code (4 : Nat) (Option.none : Option Jvm.ClassFile.FieldType)) ∈ kx_tbl := kx_m 457 (by decide +kernel) (by decide +kernel)
theorem kw_408 : (Jvm.Cond.methodLink "KeptLight$Shelf" (36 : Nat) ({ cls := "KeptLight$Shelf", name := "hasElement", desc := "(I)Z" } : Jvm.MethodName)) ∈ kx_tbl := kx_m 458 (by decide +kernel) (by decide +kernel)
theorem kw_409 : (Jvm.Cond.methodLink "KeptLight$Shelf" (40 : Nat) ({ cls := "KeptLight$Shelf", name := "fitted", desc := "(J)J" } : Jvm.MethodName)) ∈ kx_tbl := kx_m 459 (by decide +kernel) (by decide +kernel)
theorem kw_411 : (Jvm.Cond.instanceMethod ({ cls := "KeptLight$Shelf", name := "fitted", desc := "(J)J" } : Jvm.MethodName)) ∈ kx_tbl := kx_m 461 (by decide +kernel) (by decide +kernel)
theorem kw_412 : (Jvm.Cond.code ({ cls := "KeptLight$Shelf", name := "fitted", desc := "(J)J" } : Jvm.MethodName) prog_6_method_14_code (3 : Nat) (Option.some Jvm.ClassFile.FieldType.long)) ∈ kx_tbl := kx_m 462 (by decide +kernel) (by decide +kernel)
theorem kw_413 : (Jvm.Cond.methodLink "KeptLightLaw" (25 : Nat) ({ cls := "KeptLight", name := "copy", desc := "(IIIII)I" } : Jvm.MethodName)) ∈ kx_tbl := kx_m 463 (by decide +kernel) (by decide +kernel)
theorem kw_414 : (Jvm.Cond.instanceMethod ({ cls := "KeptLight", name := "copy", desc := "(IIIII)I" } : Jvm.MethodName)) ∈ kx_tbl := kx_m 464 (by decide +kernel) (by decide +kernel)
theorem kw_415 : (Jvm.Cond.selects "KeptLight" ({ cls := "KeptLight", name := "copy", desc := "(IIIII)I" } : Jvm.MethodName) ({ cls := "KeptLight", name := "copy", desc := "(IIIII)I" } : Jvm.MethodName)) ∈ kx_tbl := kx_m 465 (by decide +kernel) (by decide +kernel)
theorem kw_416 : (Jvm.Cond.code ({ cls := "KeptLight", name := "copy", desc := "(IIIII)I" } : Jvm.MethodName) prog_1_method_4_code (9 : Nat) (Option.some Jvm.ClassFile.FieldType.int)) ∈ kx_tbl := kx_m 466 (by decide +kernel) (by decide +kernel)
theorem kw_417 : (Jvm.Cond.methodLink "KeptLight" (89 : Nat) ({ cls := "KeptLight$Shelf", name := "isOfSameSort", desc := "(LKeptLight$Shelf;)Z" } : Jvm.MethodName)) ∈ kx_tbl := kx_m 467 (by decide +kernel) (by decide +kernel)
theorem kw_418 : (Jvm.Cond.instanceMethod ({ cls := "KeptLight$Shelf", name := "isOfSameSort", desc := "(LKeptLight$Shelf;)Z" } : Jvm.MethodName)) ∈ kx_tbl := kx_m 468 (by decide +kernel) (by decide +kernel)
theorem kw_419 : (Jvm.Cond.selects "KeptLight$Shelf" ({ cls := "KeptLight$Shelf", name := "isOfSameSort", desc := "(LKeptLight$Shelf;)Z" } : Jvm.MethodName) ({ cls := "KeptLight$Shelf", name := "isOfSameSort", desc := "(LKeptLight$Shelf;)Z" } : Jvm.MethodName)) ∈ kx_tbl := kx_m 469 (by decide +kernel) (by decide +kernel)
theorem kw_420 : (Jvm.Cond.code ({ cls := "KeptLight$Shelf", name := "isOfSameSort", desc := "(LKeptLight$Shelf;)Z" } : Jvm.MethodName) prog_6_method_5_code (2 : Nat) (Option.some Jvm.ClassFile.FieldType.boolean)) ∈ kx_tbl := kx_m 470 (by decide +kernel) (by decide +kernel)
theorem kw_421 : (Jvm.Cond.methodLink "KeptLight" (93 : Nat) ({ cls := "KeptLight$Shelf", name := "hasElements", desc := "(II)Z" } : Jvm.MethodName)) ∈ kx_tbl := kx_m 471 (by decide +kernel) (by decide +kernel)
theorem kw_422 : (Jvm.Cond.instanceMethod ({ cls := "KeptLight$Shelf", name := "hasElements", desc := "(II)Z" } : Jvm.MethodName)) ∈ kx_tbl := kx_m 472 (by decide +kernel) (by decide +kernel)
theorem kw_423 : (Jvm.Cond.selects "KeptLight$Shelf" ({ cls := "KeptLight$Shelf", name := "hasElements", desc := "(II)Z" } : Jvm.MethodName) ({ cls := "KeptLight$Shelf", name := "hasElements", desc := "(II)Z" } : Jvm.MethodName)) ∈ kx_tbl := kx_m 473 (by decide +kernel) (by decide +kernel)
theorem kw_424 : (Jvm.Cond.code ({ cls := "KeptLight$Shelf", name := "hasElements", desc := "(II)Z" } : Jvm.MethodName) prog_6_method_11_code (3 : Nat) (Option.some Jvm.ClassFile.FieldType.boolean)) ∈ kx_tbl := kx_m 474 (by decide +kernel) (by decide +kernel)
theorem kw_425 : (Jvm.Cond.methodLink "KeptLight" (97 : Nat) ({ cls := "KeptLight$Shelf", name := "takeElements", desc := "(ILKeptLight$Shelf;II)V" } : Jvm.MethodName)) ∈ kx_tbl := kx_m 475 (by decide +kernel) (by decide +kernel)
theorem kw_426 : (Jvm.Cond.instanceMethod ({ cls := "KeptLight$Shelf", name := "takeElements", desc := "(ILKeptLight$Shelf;II)V" } : Jvm.MethodName)) ∈ kx_tbl := kx_m 476 (by decide +kernel) (by decide +kernel)
theorem kw_427 : (Jvm.Cond.selects "KeptLight$Shelf" ({ cls := "KeptLight$Shelf", name := "takeElements", desc := "(ILKeptLight$Shelf;II)V" } : Jvm.MethodName) ({ cls := "KeptLight$Shelf", name := "takeElements", desc := "(ILKeptLight$Shelf;II)V" } : Jvm.MethodName)) ∈ kx_tbl := kx_m 477 (by decide +kernel) (by decide +kernel)
theorem kw_428 : (Jvm.Cond.code ({ cls := "KeptLight$Shelf", name := "takeElements", desc := "(ILKeptLight$Shelf;II)V" } : Jvm.MethodName) prog_6_method_15_code (5 : Nat) (Option.none : Option Jvm.ClassFile.FieldType)) ∈ kx_tbl := kx_m 478 (by decide +kernel) (by decide +kernel)
theorem kw_429 : (Jvm.Cond.methodLink "KeptLight$Shelf" (44 : Nat) ({ cls := "KeptLight$Shelf", name := "hasElements", desc := "(II)Z" } : Jvm.MethodName)) ∈ kx_tbl := kx_m 479 (by decide +kernel) (by decide +kernel)
theorem kw_430 : (Jvm.Cond.methodLink "KeptLight$Shelf" (48 : Nat) ({ cls := "java/lang/System", name := "arraycopy", desc := "(Ljava/lang/Object;ILjava/lang/Object;II)V" } : Jvm.MethodName)) ∈ kx_tbl := kx_m 480 (by decide +kernel) (by decide +kernel)
theorem kw_431 : (Jvm.Cond.static ({ cls := "java/lang/System", name := "arraycopy", desc := "(Ljava/lang/Object;ILjava/lang/Object;II)V" } : Jvm.MethodName)) ∈ kx_tbl := kx_m 481 (by decide +kernel) (by decide +kernel)
theorem kw_432 : (Jvm.Cond.native ({ cls := "java/lang/System", name := "arraycopy", desc := "(Ljava/lang/Object;ILjava/lang/Object;II)V" } : Jvm.MethodName)) ∈ kx_tbl := kx_m 482 (by decide +kernel) (by decide +kernel)
theorem kw_433 : (Jvm.Cond.methodLink "KeptLightLaw" (30 : Nat) ({ cls := "KeptLight", name := "element", desc := "(II)J" } : Jvm.MethodName)) ∈ kx_tbl := kx_m 483 (by decide +kernel) (by decide +kernel)
theorem kw_434 : (Jvm.Cond.instanceMethod ({ cls := "KeptLight", name := "element", desc := "(II)J" } : Jvm.MethodName)) ∈ kx_tbl := kx_m 484 (by decide +kernel) (by decide +kernel)
theorem kw_435 : (Jvm.Cond.selects "KeptLight" ({ cls := "KeptLight", name := "element", desc := "(II)J" } : Jvm.MethodName) ({ cls := "KeptLight", name := "element", desc := "(II)J" } : Jvm.MethodName)) ∈ kx_tbl := kx_m 485 (by decide +kernel) (by decide +kernel)
theorem kw_436 : (Jvm.Cond.code ({ cls := "KeptLight", name := "element", desc := "(II)J" } : Jvm.MethodName) prog_1_method_5_code (4 : Nat) (Option.some Jvm.ClassFile.FieldType.long)) ∈ kx_tbl := kx_m 486 (by decide +kernel) (by decide +kernel)
theorem kw_437 : (Jvm.Cond.methodLink "KeptLight" (101 : Nat) ({ cls := "KeptLight$Shelf", name := "valueAt", desc := "(I)J" } : Jvm.MethodName)) ∈ kx_tbl := kx_m 487 (by decide +kernel) (by decide +kernel)
theorem kw_438 : (Jvm.Cond.instanceMethod ({ cls := "KeptLight$Shelf", name := "valueAt", desc := "(I)J" } : Jvm.MethodName)) ∈ kx_tbl := kx_m 488 (by decide +kernel) (by decide +kernel)
theorem kw_439 : (Jvm.Cond.selects "KeptLight$Shelf" ({ cls := "KeptLight$Shelf", name := "valueAt", desc := "(I)J" } : Jvm.MethodName) ({ cls := "KeptLight$Shelf", name := "valueAt", desc := "(I)J" } : Jvm.MethodName)) ∈ kx_tbl := kx_m 489 (by decide +kernel) (by decide +kernel)
theorem kw_440 : (Jvm.Cond.code ({ cls := "KeptLight$Shelf", name := "valueAt", desc := "(I)J" } : Jvm.MethodName) prog_6_method_12_code (2 : Nat) (Option.some Jvm.ClassFile.FieldType.long)) ∈ kx_tbl := kx_m 490 (by decide +kernel) (by decide +kernel)
theorem kw_441 : (Jvm.Cond.methodLink "KeptLightLaw" (35 : Nat) ({ cls := "KeptLight", name := "holds", desc := "(I)I" } : Jvm.MethodName)) ∈ kx_tbl := kx_m 491 (by decide +kernel) (by decide +kernel)
theorem kw_442 : (Jvm.Cond.instanceMethod ({ cls := "KeptLight", name := "holds", desc := "(I)I" } : Jvm.MethodName)) ∈ kx_tbl := kx_m 492 (by decide +kernel) (by decide +kernel)
theorem kw_443 : (Jvm.Cond.selects "KeptLight" ({ cls := "KeptLight", name := "holds", desc := "(I)I" } : Jvm.MethodName) ({ cls := "KeptLight", name := "holds", desc := "(I)I" } : Jvm.MethodName)) ∈ kx_tbl := kx_m 493 (by decide +kernel) (by decide +kernel)
theorem kw_444 : (Jvm.Cond.code ({ cls := "KeptLight", name := "holds", desc := "(I)I" } : Jvm.MethodName) prog_1_method_6_code (3 : Nat) (Option.some Jvm.ClassFile.FieldType.int)) ∈ kx_tbl := kx_m 494 (by decide +kernel) (by decide +kernel)
theorem kw_445 : (Jvm.Cond.methodLink "KeptLight" (105 : Nat) ({ cls := "KeptLight$Shelf", name := "content", desc := "()I" } : Jvm.MethodName)) ∈ kx_tbl := kx_m 495 (by decide +kernel) (by decide +kernel)
theorem kw_446 : (Jvm.Cond.instanceMethod ({ cls := "KeptLight$Shelf", name := "content", desc := "()I" } : Jvm.MethodName)) ∈ kx_tbl := kx_m 496 (by decide +kernel) (by decide +kernel)
theorem kw_447 : (Jvm.Cond.selects "KeptLight$Shelf" ({ cls := "KeptLight$Shelf", name := "content", desc := "()I" } : Jvm.MethodName) ({ cls := "KeptLight$Shelf", name := "content", desc := "()I" } : Jvm.MethodName)) ∈ kx_tbl := kx_m 497 (by decide +kernel) (by decide +kernel)
theorem kw_448 : (Jvm.Cond.code ({ cls := "KeptLight$Shelf", name := "content", desc := "()I" } : Jvm.MethodName) prog_6_method_2_code (1 : Nat) (Option.some Jvm.ClassFile.FieldType.int)) ∈ kx_tbl := kx_m 498 (by decide +kernel) (by decide +kernel)
theorem kw_449 : (Jvm.Cond.methodLink "KeptLightLaw" (40 : Nat) ({ cls := "KeptLight", name := "show", desc := "(II)I" } : Jvm.MethodName)) ∈ kx_tbl := kx_m 499 (by decide +kernel) (by decide +kernel)
theorem kw_450 : (Jvm.Cond.instanceMethod ({ cls := "KeptLight", name := "show", desc := "(II)I" } : Jvm.MethodName)) ∈ kx_tbl := kx_m 500 (by decide +kernel) (by decide +kernel)
theorem kw_451 : (Jvm.Cond.selects "KeptLight" ({ cls := "KeptLight", name := "show", desc := "(II)I" } : Jvm.MethodName) ({ cls := "KeptLight", name := "show", desc := "(II)I" } : Jvm.MethodName)) ∈ kx_tbl := kx_m 501 (by decide +kernel) (by decide +kernel)
theorem kw_452 : (Jvm.Cond.code ({ cls := "KeptLight", name := "show", desc := "(II)I" } : Jvm.MethodName) prog_1_method_7_code (4 : Nat) (Option.some Jvm.ClassFile.FieldType.int)) ∈ kx_tbl := kx_m 502 (by decide +kernel) (by decide +kernel)
theorem kw_453 : (Jvm.Cond.methodLink "KeptLight" (113 : Nat) ({ cls := "KeptLight$Fleet", name := "has", desc := "(I)Z" } : Jvm.MethodName)) ∈ kx_tbl := kx_m 503 (by decide +kernel) (by decide +kernel)
theorem kw_454 : (Jvm.Cond.instanceMethod ({ cls := "KeptLight$Fleet", name := "has", desc := "(I)Z" } : Jvm.MethodName)) ∈ kx_tbl := kx_m 504 (by decide +kernel) (by decide +kernel)
theorem kw_455 : (Jvm.Cond.selects "KeptLight$Fleet" ({ cls := "KeptLight$Fleet", name := "has", desc := "(I)Z" } : Jvm.MethodName) ({ cls := "KeptLight$Fleet", name := "has", desc := "(I)Z" } : Jvm.MethodName)) ∈ kx_tbl := kx_m 505 (by decide +kernel) (by decide +kernel)
theorem kw_456 : (Jvm.Cond.code ({ cls := "KeptLight$Fleet", name := "has", desc := "(I)Z" } : Jvm.MethodName) prog_4_method_2_code (2 : Nat) (Option.some Jvm.ClassFile.FieldType.boolean)) ∈ kx_tbl := kx_m 506 (by decide +kernel) (by decide +kernel)
theorem kw_457 : (Jvm.Cond.methodLink "KeptLight" (118 : Nat) ({ cls := "KeptLight$Shelf", name := "takeNothing", desc := "()V" } : Jvm.MethodName)) ∈ kx_tbl := kx_m 507 (by decide +kernel) (by decide +kernel)
theorem kw_458 : (Jvm.Cond.instanceMethod ({ cls := "KeptLight$Shelf", name := "takeNothing", desc := "()V" } : Jvm.MethodName)) ∈ kx_tbl := kx_m 508 (by decide +kernel) (by decide +kernel)
theorem kw_459 : (Jvm.Cond.selects "KeptLight$Shelf" ({ cls := "KeptLight$Shelf", name := "takeNothing", desc := "()V" } : Jvm.MethodName) ({ cls := "KeptLight$Shelf", name := "takeNothing", desc := "()V" } : Jvm.MethodName)) ∈ kx_tbl := kx_m 509 (by decide +kernel) (by decide +kernel)
theorem kw_460 : (Jvm.Cond.code ({ cls := "KeptLight$Shelf", name := "takeNothing", desc := "()V" } : Jvm.MethodName) prog_6_method_7_code (1 : Nat) (Option.none : Option Jvm.ClassFile.FieldType)) ∈ kx_tbl := kx_m 510 (by decide +kernel) (by decide +kernel)
theorem kw_461 : (Jvm.Cond.methodLink "KeptLight" (121 : Nat) ({ cls := "KeptLight$Shelf", name := "takeShip", desc := "(I)V" } : Jvm.MethodName)) ∈ kx_tbl := kx_m 511 (by decide +kernel) (by decide +kernel)
theorem kw_462 : (Jvm.Cond.instanceMethod ({ cls := "KeptLight$Shelf", name := "takeShip", desc := "(I)V" } : Jvm.MethodName)) ∈ kx_tbl := kx_m 512 (by decide +kernel) (by decide +kernel)
theorem kw_463 : (Jvm.Cond.selects "KeptLight$Shelf" ({ cls := "KeptLight$Shelf", name := "takeShip", desc := "(I)V" } : Jvm.MethodName) ({ cls := "KeptLight$Shelf", name := "takeShip", desc := "(I)V" } : Jvm.MethodName)) ∈ kx_tbl := kx_m 513 (by decide +kernel) (by decide +kernel)
theorem kw_464 : (Jvm.Cond.code ({ cls := "KeptLight$Shelf", name := "takeShip", desc := "(I)V" } : Jvm.MethodName) prog_6_method_8_code (2 : Nat) (Option.none : Option Jvm.ClassFile.FieldType)) ∈ kx_tbl := kx_m 514 (by decide +kernel) (by decide +kernel)
theorem kw_465 : (Jvm.Cond.methodLink "KeptLightLaw" (45 : Nat) ({ cls := "KeptLight", name := "says", desc := "(II)I" } : Jvm.MethodName)) ∈ kx_tbl := kx_m 515 (by decide +kernel) (by decide +kernel)
theorem kw_466 : (Jvm.Cond.instanceMethod ({ cls := "KeptLight", name := "says", desc := "(II)I" } : Jvm.MethodName)) ∈ kx_tbl := kx_m 516 (by decide +kernel) (by decide +kernel)
theorem kw_467 : (Jvm.Cond.selects "KeptLight" ({ cls := "KeptLight", name := "says", desc := "(II)I" } : Jvm.MethodName) ({ cls := "KeptLight", name := "says", desc := "(II)I" } : Jvm.MethodName)) ∈ kx_tbl := kx_m 517 (by decide +kernel) (by decide +kernel)
theorem kw_468 : (Jvm.Cond.code ({ cls := "KeptLight", name := "says", desc := "(II)I" } : Jvm.MethodName) prog_1_method_8_code (5 : Nat) (Option.some Jvm.ClassFile.FieldType.int)) ∈ kx_tbl := kx_m 518 (by decide +kernel) (by decide +kernel)
theorem kw_469 : (Jvm.Cond.methodLink "KeptLight" (125 : Nat) ({ cls := "KeptLight", name := "isKind", desc := "(I)Z" } : Jvm.MethodName)) ∈ kx_tbl := kx_m 519 (by decide +kernel) (by decide +kernel)
theorem kw_470 : (Jvm.Cond.static ({ cls := "KeptLight", name := "isKind", desc := "(I)Z" } : Jvm.MethodName)) ∈ kx_tbl := kx_m 520 (by decide +kernel) (by decide +kernel)
theorem kw_471 : (Jvm.Cond.code ({ cls := "KeptLight", name := "isKind", desc := "(I)Z" } : Jvm.MethodName) prog_1_method_58_code (1 : Nat) (Option.some Jvm.ClassFile.FieldType.boolean)) ∈ kx_tbl := kx_m 521 (by decide +kernel) (by decide +kernel)
theorem kw_472 : (Jvm.Cond.methodLink "KeptLight" (128 : Nat) ({ cls := "KeptLight$Shelf", name := "shipNumber", desc := "()I" } : Jvm.MethodName)) ∈ kx_tbl := kx_m 522 (by decide +kernel) (by decide +kernel)
theorem kw_473 : (Jvm.Cond.instanceMethod ({ cls := "KeptLight$Shelf", name := "shipNumber", desc := "()I" } : Jvm.MethodName)) ∈ kx_tbl := kx_m 523 (by decide +kernel) (by decide +kernel)
theorem kw_474 : (Jvm.Cond.selects "KeptLight$Shelf" ({ cls := "KeptLight$Shelf", name := "shipNumber", desc := "()I" } : Jvm.MethodName) ({ cls := "KeptLight$Shelf", name := "shipNumber", desc := "()I" } : Jvm.MethodName)) ∈ kx_tbl := kx_m 524 (by decide +kernel) (by decide +kernel)
theorem kw_475 : (Jvm.Cond.code ({ cls := "KeptLight$Shelf", name := "shipNumber", desc := "()I" } : Jvm.MethodName) prog_6_method_6_code (1 : Nat) (Option.some Jvm.ClassFile.FieldType.int)) ∈ kx_tbl := kx_m 525 (by decide +kernel) (by decide +kernel)
theorem kw_476 : (Jvm.Cond.methodLink "KeptLight$Shelf" (22 : Nat) ({ cls := "KeptLight$Shelf", name := "isShip", desc := "()Z" } : Jvm.MethodName)) ∈ kx_tbl := kx_m 526 (by decide +kernel) (by decide +kernel)
theorem kw_477 : (Jvm.Cond.methodLink "KeptLight" (131 : Nat) ({ cls := "KeptLight$Fleet", name := "kindOf", desc := "(I)I" } : Jvm.MethodName)) ∈ kx_tbl := kx_m 527 (by decide +kernel) (by decide +kernel)
theorem kw_478 : (Jvm.Cond.instanceMethod ({ cls := "KeptLight$Fleet", name := "kindOf", desc := "(I)I" } : Jvm.MethodName)) ∈ kx_tbl := kx_m 528 (by decide +kernel) (by decide +kernel)
theorem kw_479 : (Jvm.Cond.selects "KeptLight$Fleet" ({ cls := "KeptLight$Fleet", name := "kindOf", desc := "(I)I" } : Jvm.MethodName) ({ cls := "KeptLight$Fleet", name := "kindOf", desc := "(I)I" } : Jvm.MethodName)) ∈ kx_tbl := kx_m 529 (by decide +kernel) (by decide +kernel)
theorem kw_480 : (Jvm.Cond.code ({ cls := "KeptLight$Fleet", name := "kindOf", desc := "(I)I" } : Jvm.MethodName) prog_4_method_4_code (2 : Nat) (Option.some Jvm.ClassFile.FieldType.int)) ∈ kx_tbl := kx_m 530 (by decide +kernel) (by decide +kernel)
theorem kw_481 : (Jvm.Cond.methodLink "KeptLight$Fleet" (31 : Nat) ({ cls := "KeptLight$Fleet", name := "has", desc := "(I)Z" } : Jvm.MethodName)) ∈ kx_tbl := kx_m 531 (by decide +kernel) (by decide +kernel)
theorem kw_482 : (Jvm.Cond.methodLink "KeptLight" (134 : Nat) ({ cls := "KeptLight", name := "isUnder", desc := "(II)Z" } : Jvm.MethodName)) ∈ kx_tbl := kx_m 532 (by decide +kernel) (by decide +kernel)
theorem kw_483 : (Jvm.Cond.static ({ cls := "KeptLight", name := "isUnder", desc := "(II)Z" } : Jvm.MethodName)) ∈ kx_tbl := kx_m 533 (by decide +kernel) (by decide +kernel)
theorem kw_484 : (Jvm.Cond.code ({ cls := "KeptLight", name := "isUnder", desc := "(II)Z" } : Jvm.MethodName) prog_1_method_61_code (4 : Nat) (Option.some Jvm.ClassFile.FieldType.boolean)) ∈ kx_tbl := kx_m 534 (by decide +kernel) (by decide +kernel)
theorem kw_485 : (Jvm.Cond.methodLink "KeptLight" (395 : Nat) ({ cls := "KeptLight", name := "kindAbove", desc := "(I)I" } : Jvm.MethodName)) ∈ kx_tbl := kx_m 535 (by decide +kernel) (by decide +kernel)
theorem kw_486 : (Jvm.Cond.static ({ cls := "KeptLight", name := "kindAbove", desc := "(I)I" } : Jvm.MethodName)) ∈ kx_tbl := kx_m 536 (by decide +kernel) (by decide +kernel)
theorem kw_487 : (Jvm.Cond.code ({ cls := "KeptLight", name := "kindAbove", desc := "(I)I" } : Jvm.MethodName) prog_1_method_60_code (1 : Nat) (Option.some Jvm.ClassFile.FieldType.int)) ∈ kx_tbl := kx_m 537 (by decide +kernel) (by decide +kernel)
theorem kw_488 : (Jvm.Cond.methodLink "KeptLight" (137 : Nat) ({ cls := "KeptLight", name := "saidAs", desc := "(II)I" } : Jvm.MethodName)) ∈ kx_tbl := kx_m 538 (by decide +kernel) (by decide +kernel)
theorem kw_490 : (Jvm.Cond.instanceMethod ({ cls := "KeptLight", name := "saidAs", desc := "(II)I" } : Jvm.MethodName)) ∈ kx_tbl := kx_m 540 (by decide +kernel) (by decide +kernel)
theorem kw_491 : (Jvm.Cond.code ({ cls := "KeptLight", name := "saidAs", desc := "(II)I" } : Jvm.MethodName) prog_1_method_9_code (4 : Nat) (Option.some Jvm.ClassFile.FieldType.int)) ∈ kx_tbl := kx_m 541 (by decide +kernel) (by decide +kernel)
theorem kw_492 : (Jvm.Cond.methodLink "KeptLight" (141 : Nat) ({ cls := "KeptLight$Fleet", name := "hourOf", desc := "(I)I" } : Jvm.MethodName)) ∈ kx_tbl := kx_m 542 (by decide +kernel) (by decide +kernel)
theorem kw_493 : (Jvm.Cond.instanceMethod ({ cls := "KeptLight$Fleet", name := "hourOf", desc := "(I)I" } : Jvm.MethodName)) ∈ kx_tbl := kx_m 543 (by decide +kernel) (by decide +kernel)
theorem kw_494 : (Jvm.Cond.selects "KeptLight$Fleet" ({ cls := "KeptLight$Fleet", name := "hourOf", desc := "(I)I" } : Jvm.MethodName) ({ cls := "KeptLight$Fleet", name := "hourOf", desc := "(I)I" } : Jvm.MethodName)) ∈ kx_tbl := kx_m 544 (by decide +kernel) (by decide +kernel)
theorem kw_495 : (Jvm.Cond.code ({ cls := "KeptLight$Fleet", name := "hourOf", desc := "(I)I" } : Jvm.MethodName) prog_4_method_5_code (2 : Nat) (Option.some Jvm.ClassFile.FieldType.int)) ∈ kx_tbl := kx_m 545 (by decide +kernel) (by decide +kernel)
theorem kw_496 : (Jvm.Cond.methodLink "KeptLight" (144 : Nat) ({ cls := "KeptLight", name := "lacks", desc := "(IZZIZ)I" } : Jvm.MethodName)) ∈ kx_tbl := kx_m 546 (by decide +kernel) (by decide +kernel)
theorem kw_497 : (Jvm.Cond.static ({ cls := "KeptLight", name := "lacks", desc := "(IZZIZ)I" } : Jvm.MethodName)) ∈ kx_tbl := kx_m 547 (by decide +kernel) (by decide +kernel)
theorem kw_498 : (Jvm.Cond.code ({ cls := "KeptLight", name := "lacks", desc := "(IZZIZ)I" } : Jvm.MethodName) prog_1_method_62_code (8 : Nat) (Option.some Jvm.ClassFile.FieldType.int)) ∈ kx_tbl := kx_m 548 (by decide +kernel) (by decide +kernel)
theorem kw_499 : (Jvm.Cond.methodLink "KeptLight" (148 : Nat) ({ cls := "KeptLight$Fleet", name := "metOf", desc := "(I)I" } : Jvm.MethodName)) ∈ kx_tbl := kx_m 549 (by decide +kernel) (by decide +kernel)
theorem kw_500 : (Jvm.Cond.instanceMethod ({ cls := "KeptLight$Fleet", name := "metOf", desc := "(I)I" } : Jvm.MethodName)) ∈ kx_tbl := kx_m 550 (by decide +kernel) (by decide +kernel)
theorem kw_501 : (Jvm.Cond.selects "KeptLight$Fleet" ({ cls := "KeptLight$Fleet", name := "metOf", desc := "(I)I" } : Jvm.MethodName) ({ cls := "KeptLight$Fleet", name := "metOf", desc := "(I)I" } : Jvm.MethodName)) ∈ kx_tbl := kx_m 551 (by decide +kernel) (by decide +kernel)
theorem kw_502 : (Jvm.Cond.code ({ cls := "KeptLight$Fleet", name := "metOf", desc := "(I)I" } : Jvm.MethodName) prog_4_method_7_code (2 : Nat) (Option.some Jvm.ClassFile.FieldType.int)) ∈ kx_tbl := kx_m 552 (by decide +kernel) (by decide +kernel)
theorem kw_503 : (Jvm.Cond.methodLink "KeptLight" (151 : Nat) ({ cls := "KeptLight$Fleet", name := "fateOf", desc := "(I)I" } : Jvm.MethodName)) ∈ kx_tbl := kx_m 553 (by decide +kernel) (by decide +kernel)
theorem kw_504 : (Jvm.Cond.instanceMethod ({ cls := "KeptLight$Fleet", name := "fateOf", desc := "(I)I" } : Jvm.MethodName)) ∈ kx_tbl := kx_m 554 (by decide +kernel) (by decide +kernel)
theorem kw_505 : (Jvm.Cond.selects "KeptLight$Fleet" ({ cls := "KeptLight$Fleet", name := "fateOf", desc := "(I)I" } : Jvm.MethodName) ({ cls := "KeptLight$Fleet", name := "fateOf", desc := "(I)I" } : Jvm.MethodName)) ∈ kx_tbl := kx_m 555 (by decide +kernel) (by decide +kernel)
theorem kw_506 : (Jvm.Cond.code ({ cls := "KeptLight$Fleet", name := "fateOf", desc := "(I)I" } : Jvm.MethodName) prog_4_method_6_code (2 : Nat) (Option.some Jvm.ClassFile.FieldType.int)) ∈ kx_tbl := kx_m 556 (by decide +kernel) (by decide +kernel)
theorem kw_507 : (Jvm.Cond.methodLink "KeptLightLaw" (49 : Nat) ({ cls := "KeptLight", name := "feed", desc := "(I)I" } : Jvm.MethodName)) ∈ kx_tbl := kx_m 557 (by decide +kernel) (by decide +kernel)
theorem kw_508 : (Jvm.Cond.instanceMethod ({ cls := "KeptLight", name := "feed", desc := "(I)I" } : Jvm.MethodName)) ∈ kx_tbl := kx_m 558 (by decide +kernel) (by decide +kernel)
theorem kw_509 : (Jvm.Cond.selects "KeptLight" ({ cls := "KeptLight", name := "feed", desc := "(I)I" } : Jvm.MethodName) ({ cls := "KeptLight", name := "feed", desc := "(I)I" } : Jvm.MethodName)) ∈ kx_tbl := kx_m 559 (by decide +kernel) (by decide +kernel)
theorem kw_510 : (Jvm.Cond.code ({ cls := "KeptLight", name := "feed", desc := "(I)I" } : Jvm.MethodName) prog_1_method_10_code (2 : Nat) (Option.some Jvm.ClassFile.FieldType.int)) ∈ kx_tbl := kx_m 560 (by decide +kernel) (by decide +kernel)
theorem kw_511 : (Jvm.Cond.methodLink "KeptLight" (154 : Nat) ({ cls := "KeptLight$Tape", name := "isFull", desc := "()Z" } : Jvm.MethodName)) ∈ kx_tbl := kx_m 561 (by decide +kernel) (by decide +kernel)
theorem kw_512 : (Jvm.Cond.instanceMethod ({ cls := "KeptLight$Tape", name := "isFull", desc := "()Z" } : Jvm.MethodName)) ∈ kx_tbl := kx_m 562 (by decide +kernel) (by decide +kernel)
theorem kw_513 : (Jvm.Cond.selects "KeptLight$Tape" ({ cls := "KeptLight$Tape", name := "isFull", desc := "()Z" } : Jvm.MethodName) ({ cls := "KeptLight$Tape", name := "isFull", desc := "()Z" } : Jvm.MethodName)) ∈ kx_tbl := kx_m 563 (by decide +kernel) (by decide +kernel)
theorem kw_514 : (Jvm.Cond.code ({ cls := "KeptLight$Tape", name := "isFull", desc := "()Z" } : Jvm.MethodName) prog_9_method_2_code (1 : Nat) (Option.some Jvm.ClassFile.FieldType.boolean)) ∈ kx_tbl := kx_m 564 (by decide +kernel) (by decide +kernel)
theorem kw_515 : (Jvm.Cond.methodLink "KeptLight" (157 : Nat) ({ cls := "KeptLight$Tape", name := "append", desc := "(I)V" } : Jvm.MethodName)) ∈ kx_tbl := kx_m 565 (by decide +kernel) (by decide +kernel)
theorem kw_516 : (Jvm.Cond.instanceMethod ({ cls := "KeptLight$Tape", name := "append", desc := "(I)V" } : Jvm.MethodName)) ∈ kx_tbl := kx_m 566 (by decide +kernel) (by decide +kernel)
theorem kw_517 : (Jvm.Cond.selects "KeptLight$Tape" ({ cls := "KeptLight$Tape", name := "append", desc := "(I)V" } : Jvm.MethodName) ({ cls := "KeptLight$Tape", name := "append", desc := "(I)V" } : Jvm.MethodName)) ∈ kx_tbl := kx_m 567 (by decide +kernel) (by decide +kernel)
theorem kw_518 : (Jvm.Cond.code ({ cls := "KeptLight$Tape", name := "append", desc := "(I)V" } : Jvm.MethodName) prog_9_method_3_code (2 : Nat) (Option.none : Option Jvm.ClassFile.FieldType)) ∈ kx_tbl := kx_m 568 (by decide +kernel) (by decide +kernel)
theorem kw_519 : (Jvm.Cond.methodLink "KeptLight$Tape" (19 : Nat) ({ cls := "KeptLight$Tape", name := "isFull", desc := "()Z" } : Jvm.MethodName)) ∈ kx_tbl := kx_m 569 (by decide +kernel) (by decide +kernel)
theorem kw_520 : (Jvm.Cond.methodLink "KeptLightLaw" (53 : Nat) ({ cls := "KeptLight", name := "wipe", desc := "()I" } : Jvm.MethodName)) ∈ kx_tbl := kx_m 570 (by decide +kernel) (by decide +kernel)
theorem kw_521 : (Jvm.Cond.instanceMethod ({ cls := "KeptLight", name := "wipe", desc := "()I" } : Jvm.MethodName)) ∈ kx_tbl := kx_m 571 (by decide +kernel) (by decide +kernel)
theorem kw_522 : (Jvm.Cond.selects "KeptLight" ({ cls := "KeptLight", name := "wipe", desc := "()I" } : Jvm.MethodName) ({ cls := "KeptLight", name := "wipe", desc := "()I" } : Jvm.MethodName)) ∈ kx_tbl := kx_m 572 (by decide +kernel) (by decide +kernel)
theorem kw_523 : (Jvm.Cond.code ({ cls := "KeptLight", name := "wipe", desc := "()I" } : Jvm.MethodName) prog_1_method_11_code (2 : Nat) (Option.some Jvm.ClassFile.FieldType.int)) ∈ kx_tbl := kx_m 573 (by decide +kernel) (by decide +kernel)
theorem kw_524 : (Jvm.Cond.methodLink "KeptLightLaw" (58 : Nat) ({ cls := "KeptLight", name := "sky", desc := "()I" } : Jvm.MethodName)) ∈ kx_tbl := kx_m 574 (by decide +kernel) (by decide +kernel)
theorem kw_525 : (Jvm.Cond.instanceMethod ({ cls := "KeptLight", name := "sky", desc := "()I" } : Jvm.MethodName)) ∈ kx_tbl := kx_m 575 (by decide +kernel) (by decide +kernel)
theorem kw_526 : (Jvm.Cond.selects "KeptLight" ({ cls := "KeptLight", name := "sky", desc := "()I" } : Jvm.MethodName) ({ cls := "KeptLight", name := "sky", desc := "()I" } : Jvm.MethodName)) ∈ kx_tbl := kx_m 576 (by decide +kernel) (by decide +kernel)
theorem kw_527 : (Jvm.Cond.code ({ cls := "KeptLight", name := "sky", desc := "()I" } : Jvm.MethodName) prog_1_method_12_code (2 : Nat) (Option.some Jvm.ClassFile.FieldType.int)) ∈ kx_tbl := kx_m 577 (by decide +kernel) (by decide +kernel)
theorem kw_528 : (Jvm.Cond.methodLink "KeptLight" (164 : Nat) ({ cls := "KeptLight$Tape", name := "readInto", desc := "(LKeptLight$Sky;)I" } : Jvm.MethodName)) ∈ kx_tbl := kx_m 578 (by decide +kernel) (by decide +kernel)
theorem kw_529 : (Jvm.Cond.instanceMethod ({ cls := "KeptLight$Tape", name := "readInto", desc := "(LKeptLight$Sky;)I" } : Jvm.MethodName)) ∈ kx_tbl := kx_m 579 (by decide +kernel) (by decide +kernel)
theorem kw_530 : (Jvm.Cond.selects "KeptLight$Tape" ({ cls := "KeptLight$Tape", name := "readInto", desc := "(LKeptLight$Sky;)I" } : Jvm.MethodName) ({ cls := "KeptLight$Tape", name := "readInto", desc := "(LKeptLight$Sky;)I" } : Jvm.MethodName)) ∈ kx_tbl := kx_m 580 (by decide +kernel) (by decide +kernel)
theorem kw_531 : (Jvm.Cond.code ({ cls := "KeptLight$Tape", name := "readInto", desc := "(LKeptLight$Sky;)I" } : Jvm.MethodName) prog_9_method_4_code (7 : Nat) (Option.some Jvm.ClassFile.FieldType.int)) ∈ kx_tbl := kx_m 581 (by decide +kernel) (by decide +kernel)
theorem kw_532 : (Jvm.Cond.methodLink "KeptLight$Tape" (23 : Nat) ({ cls := "KeptLight$Sky", name := "clear", desc := "()V" } : Jvm.MethodName)) ∈ kx_tbl := kx_m 582 (by decide +kernel) (by decide +kernel)
theorem kw_533 : (Jvm.Cond.instanceMethod ({ cls := "KeptLight$Sky", name := "clear", desc := "()V" } : Jvm.MethodName)) ∈ kx_tbl := kx_m 583 (by decide +kernel) (by decide +kernel)
theorem kw_534 : (Jvm.Cond.selects "KeptLight$Sky" ({ cls := "KeptLight$Sky", name := "clear", desc := "()V" } : Jvm.MethodName) ({ cls := "KeptLight$Sky", name := "clear", desc := "()V" } : Jvm.MethodName)) ∈ kx_tbl := kx_m 584 (by decide +kernel) (by decide +kernel)
theorem kw_535 : (Jvm.Cond.code ({ cls := "KeptLight$Sky", name := "clear", desc := "()V" } : Jvm.MethodName) prog_7_method_3_code (1 : Nat) (Option.none : Option Jvm.ClassFile.FieldType)) ∈ kx_tbl := kx_m 585 (by decide +kernel) (by decide +kernel)
theorem kw_536 : (Jvm.Cond.methodLink "KeptLight$Tape" (28 : Nat) ({ cls := "KeptLight$Tape", name := "byteAt", desc := "(I)I" } : Jvm.MethodName)) ∈ kx_tbl := kx_m 586 (by decide +kernel) (by decide +kernel)
theorem kw_538 : (Jvm.Cond.instanceMethod ({ cls := "KeptLight$Tape", name := "byteAt", desc := "(I)I" } : Jvm.MethodName)) ∈ kx_tbl := kx_m 588 (by decide +kernel) (by decide +kernel)
theorem kw_539 : (Jvm.Cond.code ({ cls := "KeptLight$Tape", name := "byteAt", desc := "(I)I" } : Jvm.MethodName) prog_9_method_5_code (2 : Nat) (Option.some Jvm.ClassFile.FieldType.int)) ∈ kx_tbl := kx_m 589 (by decide +kernel) (by decide +kernel)
theorem kw_541 : (Jvm.Cond.methodLink "KeptLight$Tape" (32 : Nat) ({ cls := "KeptLight$Tape", name := "weatherOf", desc := "(I)I" } : Jvm.MethodName)) ∈ kx_tbl := kx_m 591 (by decide +kernel) (by decide +kernel)
theorem kw_542 : (Jvm.Cond.static ({ cls := "KeptLight$Tape", name := "weatherOf", desc := "(I)I" } : Jvm.MethodName)) ∈ kx_tbl := kx_m 592 (by decide +kernel) (by decide +kernel)
theorem kw_543 : (Jvm.Cond.code ({ cls := "KeptLight$Tape", name := "weatherOf", desc := "(I)I" } : Jvm.MethodName) prog_9_method_9_code (1 : Nat) (Option.some Jvm.ClassFile.FieldType.int)) ∈ kx_tbl := kx_m 593 (by decide +kernel) (by decide +kernel)
theorem kw_544 : (Jvm.Cond.methodLink "KeptLight$Tape" (35 : Nat) ({ cls := "KeptLight$Sky", name := "isFull", desc := "()Z" } : Jvm.MethodName)) ∈ kx_tbl := kx_m 594 (by decide +kernel) (by decide +kernel)
theorem kw_545 : (Jvm.Cond.instanceMethod ({ cls := "KeptLight$Sky", name := "isFull", desc := "()Z" } : Jvm.MethodName)) ∈ kx_tbl := kx_m 595 (by decide +kernel) (by decide +kernel)
theorem kw_546 : (Jvm.Cond.selects "KeptLight$Sky" ({ cls := "KeptLight$Sky", name := "isFull", desc := "()Z" } : Jvm.MethodName) ({ cls := "KeptLight$Sky", name := "isFull", desc := "()Z" } : Jvm.MethodName)) ∈ kx_tbl := kx_m 596 (by decide +kernel) (by decide +kernel)
theorem kw_547 : (Jvm.Cond.code ({ cls := "KeptLight$Sky", name := "isFull", desc := "()Z" } : Jvm.MethodName) prog_7_method_2_code (1 : Nat) (Option.some Jvm.ClassFile.FieldType.boolean)) ∈ kx_tbl := kx_m 597 (by decide +kernel) (by decide +kernel)
theorem kw_548 : (Jvm.Cond.methodLink "KeptLight$Tape" (36 : Nat) ({ cls := "KeptLight$Tape", name := "countDigits", desc := "(I)I" } : Jvm.MethodName)) ∈ kx_tbl := kx_m 598 (by decide +kernel) (by decide +kernel)
theorem kw_550 : (Jvm.Cond.instanceMethod ({ cls := "KeptLight$Tape", name := "countDigits", desc := "(I)I" } : Jvm.MethodName)) ∈ kx_tbl := kx_m 600 (by decide +kernel) (by decide +kernel)
theorem kw_551 : (Jvm.Cond.code ({ cls := "KeptLight$Tape", name := "countDigits", desc := "(I)I" } : Jvm.MethodName) prog_9_method_6_code (2 : Nat) (Option.some Jvm.ClassFile.FieldType.int)) ∈ kx_tbl := kx_m 601 (by decide +kernel) (by decide +kernel)
theorem kw_552 : (Jvm.Cond.methodLink "KeptLight$Tape" (51 : Nat) ({ cls := "KeptLight$Tape", name := "isDigit", desc := "(I)Z" } : Jvm.MethodName)) ∈ kx_tbl := kx_m 602 (by decide +kernel) (by decide +kernel)
theorem kw_553 : (Jvm.Cond.static ({ cls := "KeptLight$Tape", name := "isDigit", desc := "(I)Z" } : Jvm.MethodName)) ∈ kx_tbl := kx_m 603 (by decide +kernel) (by decide +kernel)
theorem kw_554 : (Jvm.Cond.code ({ cls := "KeptLight$Tape", name := "isDigit", desc := "(I)Z" } : Jvm.MethodName) prog_9_method_8_code (1 : Nat) (Option.some Jvm.ClassFile.FieldType.boolean)) ∈ kx_tbl := kx_m 604 (by decide +kernel) (by decide +kernel)
theorem kw_555 : (Jvm.Cond.methodLink "KeptLight$Tape" (39 : Nat) ({ cls := "KeptLight$Tape", name := "numberAt", desc := "(II)I" } : Jvm.MethodName)) ∈ kx_tbl := kx_m 605 (by decide +kernel) (by decide +kernel)
theorem kw_557 : (Jvm.Cond.instanceMethod ({ cls := "KeptLight$Tape", name := "numberAt", desc := "(II)I" } : Jvm.MethodName)) ∈ kx_tbl := kx_m 607 (by decide +kernel) (by decide +kernel)
theorem kw_558 : (Jvm.Cond.code ({ cls := "KeptLight$Tape", name := "numberAt", desc := "(II)I" } : Jvm.MethodName) prog_9_method_7_code (5 : Nat) (Option.some Jvm.ClassFile.FieldType.int)) ∈ kx_tbl := kx_m 608 (by decide +kernel) (by decide +kernel)
theorem kw_559 : (Jvm.Cond.methodLink "KeptLight$Tape" (43 : Nat) ({ cls := "KeptLight$Sky", name := "append", desc := "(II)V" } : Jvm.MethodName)) ∈ kx_tbl := kx_m 609 (by decide +kernel) (by decide +kernel)
theorem kw_560 : (Jvm.Cond.instanceMethod ({ cls := "KeptLight$Sky", name := "append", desc := "(II)V" } : Jvm.MethodName)) ∈ kx_tbl := kx_m 610 (by decide +kernel) (by decide +kernel)
theorem kw_561 : (Jvm.Cond.selects "KeptLight$Sky" ({ cls := "KeptLight$Sky", name := "append", desc := "(II)V" } : Jvm.MethodName) ({ cls := "KeptLight$Sky", name := "append", desc := "(II)V" } : Jvm.MethodName)) ∈ kx_tbl := kx_m 611 (by decide +kernel) (by decide +kernel)
theorem kw_562 : (Jvm.Cond.code ({ cls := "KeptLight$Sky", name := "append", desc := "(II)V" } : Jvm.MethodName) prog_7_method_4_code (3 : Nat) (Option.none : Option Jvm.ClassFile.FieldType)) ∈ kx_tbl := kx_m 612 (by decide +kernel) (by decide +kernel)
theorem kw_563 : (Jvm.Cond.methodLink "KeptLight$Sky" (25 : Nat) ({ cls := "KeptLight$Sky", name := "isFull", desc := "()Z" } : Jvm.MethodName)) ∈ kx_tbl := kx_m 613 (by decide +kernel) (by decide +kernel)
theorem kw_564 : (Jvm.Cond.methodLink "KeptLight" (177 : Nat) ({ cls := "KeptLight$Sky", name := "become", desc := "(LKeptLight$Sky;)V" } : Jvm.MethodName)) ∈ kx_tbl := kx_m 614 (by decide +kernel) (by decide +kernel)
theorem kw_565 : (Jvm.Cond.instanceMethod ({ cls := "KeptLight$Sky", name := "become", desc := "(LKeptLight$Sky;)V" } : Jvm.MethodName)) ∈ kx_tbl := kx_m 615 (by decide +kernel) (by decide +kernel)
theorem kw_566 : (Jvm.Cond.selects "KeptLight$Sky" ({ cls := "KeptLight$Sky", name := "become", desc := "(LKeptLight$Sky;)V" } : Jvm.MethodName) ({ cls := "KeptLight$Sky", name := "become", desc := "(LKeptLight$Sky;)V" } : Jvm.MethodName)) ∈ kx_tbl := kx_m 616 (by decide +kernel) (by decide +kernel)
theorem kw_567 : (Jvm.Cond.code ({ cls := "KeptLight$Sky", name := "become", desc := "(LKeptLight$Sky;)V" } : Jvm.MethodName) prog_7_method_6_code (2 : Nat) (Option.none : Option Jvm.ClassFile.FieldType)) ∈ kx_tbl := kx_m 617 (by decide +kernel) (by decide +kernel)
theorem kw_568 : (Jvm.Cond.methodLink "KeptLight$Sky" (35 : Nat) ({ cls := "java/lang/System", name := "arraycopy", desc := "(Ljava/lang/Object;ILjava/lang/Object;II)V" } : Jvm.MethodName)) ∈ kx_tbl := kx_m 618 (by decide +kernel) (by decide +kernel)
theorem kw_569 : (Jvm.Cond.methodLink "KeptLightLaw" (90 : Nat) ({ cls := "KeptLight", name := "weather", desc := "(I)I" } : Jvm.MethodName)) ∈ kx_tbl := kx_m 619 (by decide +kernel) (by decide +kernel)
theorem kw_570 : (Jvm.Cond.instanceMethod ({ cls := "KeptLight", name := "weather", desc := "(I)I" } : Jvm.MethodName)) ∈ kx_tbl := kx_m 620 (by decide +kernel) (by decide +kernel)
theorem kw_571 : (Jvm.Cond.selects "KeptLight" ({ cls := "KeptLight", name := "weather", desc := "(I)I" } : Jvm.MethodName) ({ cls := "KeptLight", name := "weather", desc := "(I)I" } : Jvm.MethodName)) ∈ kx_tbl := kx_m 621 (by decide +kernel) (by decide +kernel)
theorem kw_572 : (Jvm.Cond.code ({ cls := "KeptLight", name := "weather", desc := "(I)I" } : Jvm.MethodName) prog_1_method_13_code (2 : Nat) (Option.some Jvm.ClassFile.FieldType.int)) ∈ kx_tbl := kx_m 622 (by decide +kernel) (by decide +kernel)
theorem kw_573 : (Jvm.Cond.methodLink "KeptLight" (184 : Nat) ({ cls := "KeptLight$Sky", name := "weatherAt", desc := "(I)I" } : Jvm.MethodName)) ∈ kx_tbl := kx_m 623 (by decide +kernel) (by decide +kernel)
theorem kw_574 : (Jvm.Cond.instanceMethod ({ cls := "KeptLight$Sky", name := "weatherAt", desc := "(I)I" } : Jvm.MethodName)) ∈ kx_tbl := kx_m 624 (by decide +kernel) (by decide +kernel)
theorem kw_575 : (Jvm.Cond.selects "KeptLight$Sky" ({ cls := "KeptLight$Sky", name := "weatherAt", desc := "(I)I" } : Jvm.MethodName) ({ cls := "KeptLight$Sky", name := "weatherAt", desc := "(I)I" } : Jvm.MethodName)) ∈ kx_tbl := kx_m 625 (by decide +kernel) (by decide +kernel)
theorem kw_576 : (Jvm.Cond.code ({ cls := "KeptLight$Sky", name := "weatherAt", desc := "(I)I" } : Jvm.MethodName) prog_7_method_5_code (4 : Nat) (Option.some Jvm.ClassFile.FieldType.int)) ∈ kx_tbl := kx_m 626 (by decide +kernel) (by decide +kernel)
theorem kw_577 : (Jvm.Cond.methodLink "KeptLight$Sky" (29 : Nat) ({ cls := "java/lang/Math", name := "floorMod", desc := "(II)I" } : Jvm.MethodName)) ∈ kx_tbl := kx_m 627 (by decide +kernel) (by decide +kernel)
theorem kw_578 : (Jvm.Cond.static ({ cls := "java/lang/Math", name := "floorMod", desc := "(II)I" } : Jvm.MethodName)) ∈ kx_tbl := kx_m 628 (by decide +kernel) (by decide +kernel)
theorem kw_579 : (Jvm.Cond.code ({ cls := "java/lang/Math", name := "floorMod", desc := "(II)I" } : Jvm.MethodName) prog_14_method_50_code (3 : Nat) (Option.some Jvm.ClassFile.FieldType.int)) ∈ kx_tbl := kx_m 629 (by decide +kernel) (by decide +kernel)
theorem kw_580 : (Jvm.Cond.methodLink "KeptLightLaw" (94 : Nat) ({ cls := "KeptLight", name := "dark", desc := "(I)I" } : Jvm.MethodName)) ∈ kx_tbl := kx_m 630 (by decide +kernel) (by decide +kernel)
theorem kw_581 : (Jvm.Cond.instanceMethod ({ cls := "KeptLight", name := "dark", desc := "(I)I" } : Jvm.MethodName)) ∈ kx_tbl := kx_m 631 (by decide +kernel) (by decide +kernel)
theorem kw_582 : (Jvm.Cond.selects "KeptLight" ({ cls := "KeptLight", name := "dark", desc := "(I)I" } : Jvm.MethodName) ({ cls := "KeptLight", name := "dark", desc := "(I)I" } : Jvm.MethodName)) ∈ kx_tbl := kx_m 632 (by decide +kernel) (by decide +kernel)
theorem kw_583 : (Jvm.Cond.code ({ cls := "KeptLight", name := "dark", desc := "(I)I" } : Jvm.MethodName) prog_1_method_14_code (2 : Nat) (Option.some Jvm.ClassFile.FieldType.int)) ∈ kx_tbl := kx_m 633 (by decide +kernel) (by decide +kernel)
theorem kw_584 : (Jvm.Cond.methodLink "KeptLight" (187 : Nat) ({ cls := "KeptLight$Station", name := "isDarkAt", desc := "(I)Z" } : Jvm.MethodName)) ∈ kx_tbl := kx_m 634 (by decide +kernel) (by decide +kernel)
theorem kw_585 : (Jvm.Cond.instanceMethod ({ cls := "KeptLight$Station", name := "isDarkAt", desc := "(I)Z" } : Jvm.MethodName)) ∈ kx_tbl := kx_m 635 (by decide +kernel) (by decide +kernel)
theorem kw_586 : (Jvm.Cond.selects "KeptLight$Station" ({ cls := "KeptLight$Station", name := "isDarkAt", desc := "(I)Z" } : Jvm.MethodName) ({ cls := "KeptLight$Station", name := "isDarkAt", desc := "(I)Z" } : Jvm.MethodName)) ∈ kx_tbl := kx_m 636 (by decide +kernel) (by decide +kernel)
theorem kw_587 : (Jvm.Cond.code ({ cls := "KeptLight$Station", name := "isDarkAt", desc := "(I)Z" } : Jvm.MethodName) prog_8_method_2_code (3 : Nat) (Option.some Jvm.ClassFile.FieldType.boolean)) ∈ kx_tbl := kx_m 637 (by decide +kernel) (by decide +kernel)
theorem kw_588 : (Jvm.Cond.methodLink "KeptLight$Station" (83 : Nat) ({ cls := "java/lang/Math", name := "floorMod", desc := "(II)I" } : Jvm.MethodName)) ∈ kx_tbl := kx_m 638 (by decide +kernel) (by decide +kernel)
theorem kw_589 : (Jvm.Cond.methodLink "KeptLightLaw" (62 : Nat) ({ cls := "KeptLight", name := "keeper", desc := "(I)I" } : Jvm.MethodName)) ∈ kx_tbl := kx_m 639 (by decide +kernel) (by decide +kernel)
theorem kw_590 : (Jvm.Cond.instanceMethod ({ cls := "KeptLight", name := "keeper", desc := "(I)I" } : Jvm.MethodName)) ∈ kx_tbl := kx_m 640 (by decide +kernel) (by decide +kernel)
theorem kw_591 : (Jvm.Cond.selects "KeptLight" ({ cls := "KeptLight", name := "keeper", desc := "(I)I" } : Jvm.MethodName) ({ cls := "KeptLight", name := "keeper", desc := "(I)I" } : Jvm.MethodName)) ∈ kx_tbl := kx_m 641 (by decide +kernel) (by decide +kernel)
theorem kw_592 : (Jvm.Cond.code ({ cls := "KeptLight", name := "keeper", desc := "(I)I" } : Jvm.MethodName) prog_1_method_15_code (2 : Nat) (Option.some Jvm.ClassFile.FieldType.int)) ∈ kx_tbl := kx_m 642 (by decide +kernel) (by decide +kernel)
theorem kw_593 : (Jvm.Cond.methodLink "KeptLight" (194 : Nat) ({ cls := "KeptLight$Crew", name := "isFull", desc := "()Z" } : Jvm.MethodName)) ∈ kx_tbl := kx_m 643 (by decide +kernel) (by decide +kernel)
theorem kw_594 : (Jvm.Cond.instanceMethod ({ cls := "KeptLight$Crew", name := "isFull", desc := "()Z" } : Jvm.MethodName)) ∈ kx_tbl := kx_m 644 (by decide +kernel) (by decide +kernel)
theorem kw_595 : (Jvm.Cond.selects "KeptLight$Crew" ({ cls := "KeptLight$Crew", name := "isFull", desc := "()Z" } : Jvm.MethodName) ({ cls := "KeptLight$Crew", name := "isFull", desc := "()Z" } : Jvm.MethodName)) ∈ kx_tbl := kx_m 645 (by decide +kernel) (by decide +kernel)
theorem kw_596 : (Jvm.Cond.code ({ cls := "KeptLight$Crew", name := "isFull", desc := "()Z" } : Jvm.MethodName) prog_3_method_3_code (1 : Nat) (Option.some Jvm.ClassFile.FieldType.boolean)) ∈ kx_tbl := kx_m 646 (by decide +kernel) (by decide +kernel)
theorem kw_597 : (Jvm.Cond.methodLink "KeptLight" (197 : Nat) ({ cls := "KeptLight$Crew", name := "hire", desc := "(I)I" } : Jvm.MethodName)) ∈ kx_tbl := kx_m 647 (by decide +kernel) (by decide +kernel)
theorem kw_598 : (Jvm.Cond.instanceMethod ({ cls := "KeptLight$Crew", name := "hire", desc := "(I)I" } : Jvm.MethodName)) ∈ kx_tbl := kx_m 648 (by decide +kernel) (by decide +kernel)
theorem kw_599 : (Jvm.Cond.selects "KeptLight$Crew" ({ cls := "KeptLight$Crew", name := "hire", desc := "(I)I" } : Jvm.MethodName) ({ cls := "KeptLight$Crew", name := "hire", desc := "(I)I" } : Jvm.MethodName)) ∈ kx_tbl := kx_m 649 (by decide +kernel) (by decide +kernel)
theorem kw_600 : (Jvm.Cond.code ({ cls := "KeptLight$Crew", name := "hire", desc := "(I)I" } : Jvm.MethodName) prog_3_method_4_code (2 : Nat) (Option.some Jvm.ClassFile.FieldType.int)) ∈ kx_tbl := kx_m 650 (by decide +kernel) (by decide +kernel)
theorem kw_601 : (Jvm.Cond.methodLink "KeptLight$Crew" (31 : Nat) ({ cls := "KeptLight$Crew", name := "isFull", desc := "()Z" } : Jvm.MethodName)) ∈ kx_tbl := kx_m 651 (by decide +kernel) (by decide +kernel)
theorem kw_602 : (Jvm.Cond.methodLink "KeptLight$Crew" (35 : Nat) ({ cls := "KeptLight$Crew", name := "lastsIn", desc := "(I)I" } : Jvm.MethodName)) ∈ kx_tbl := kx_m 652 (by decide +kernel) (by decide +kernel)
theorem kw_603 : (Jvm.Cond.static ({ cls := "KeptLight$Crew", name := "lastsIn", desc := "(I)I" } : Jvm.MethodName)) ∈ kx_tbl := kx_m 653 (by decide +kernel) (by decide +kernel)
theorem kw_604 : (Jvm.Cond.code ({ cls := "KeptLight$Crew", name := "lastsIn", desc := "(I)I" } : Jvm.MethodName) prog_3_method_10_code (1 : Nat) (Option.some Jvm.ClassFile.FieldType.int)) ∈ kx_tbl := kx_m 654 (by decide +kernel) (by decide +kernel)
theorem kw_605 : (Jvm.Cond.methodLink "KeptLightLaw" (66 : Nat) ({ cls := "KeptLight", name := "plan", desc := "(II)I" } : Jvm.MethodName)) ∈ kx_tbl := kx_m 655 (by decide +kernel) (by decide +kernel)
theorem kw_606 : (Jvm.Cond.instanceMethod ({ cls := "KeptLight", name := "plan", desc := "(II)I" } : Jvm.MethodName)) ∈ kx_tbl := kx_m 656 (by decide +kernel) (by decide +kernel)
theorem kw_607 : (Jvm.Cond.selects "KeptLight" ({ cls := "KeptLight", name := "plan", desc := "(II)I" } : Jvm.MethodName) ({ cls := "KeptLight", name := "plan", desc := "(II)I" } : Jvm.MethodName)) ∈ kx_tbl := kx_m 657 (by decide +kernel) (by decide +kernel)
theorem kw_608 : (Jvm.Cond.code ({ cls := "KeptLight", name := "plan", desc := "(II)I" } : Jvm.MethodName) prog_1_method_16_code (4 : Nat) (Option.some Jvm.ClassFile.FieldType.int)) ∈ kx_tbl := kx_m 658 (by decide +kernel) (by decide +kernel)
theorem kw_609 : (Jvm.Cond.methodLink "KeptLight" (200 : Nat) ({ cls := "KeptLight", name := "isHourOfDay", desc := "(I)Z" } : Jvm.MethodName)) ∈ kx_tbl := kx_m 659 (by decide +kernel) (by decide +kernel)
theorem kw_610 : (Jvm.Cond.static ({ cls := "KeptLight", name := "isHourOfDay", desc := "(I)Z" } : Jvm.MethodName)) ∈ kx_tbl := kx_m 660 (by decide +kernel) (by decide +kernel)
theorem kw_611 : (Jvm.Cond.code ({ cls := "KeptLight", name := "isHourOfDay", desc := "(I)Z" } : Jvm.MethodName) prog_1_method_56_code (1 : Nat) (Option.some Jvm.ClassFile.FieldType.boolean)) ∈ kx_tbl := kx_m 661 (by decide +kernel) (by decide +kernel)
theorem kw_612 : (Jvm.Cond.methodLink "KeptLight" (203 : Nat) ({ cls := "KeptLight", name := "isKeeperOrNone", desc := "(I)Z" } : Jvm.MethodName)) ∈ kx_tbl := kx_m 662 (by decide +kernel) (by decide +kernel)
theorem kw_614 : (Jvm.Cond.instanceMethod ({ cls := "KeptLight", name := "isKeeperOrNone", desc := "(I)Z" } : Jvm.MethodName)) ∈ kx_tbl := kx_m 664 (by decide +kernel) (by decide +kernel)
theorem kw_615 : (Jvm.Cond.code ({ cls := "KeptLight", name := "isKeeperOrNone", desc := "(I)Z" } : Jvm.MethodName) prog_1_method_55_code (2 : Nat) (Option.some Jvm.ClassFile.FieldType.boolean)) ∈ kx_tbl := kx_m 665 (by decide +kernel) (by decide +kernel)
theorem kw_616 : (Jvm.Cond.methodLink "KeptLight" (257 : Nat) ({ cls := "KeptLight$Crew", name := "has", desc := "(I)Z" } : Jvm.MethodName)) ∈ kx_tbl := kx_m 666 (by decide +kernel) (by decide +kernel)
theorem kw_617 : (Jvm.Cond.instanceMethod ({ cls := "KeptLight$Crew", name := "has", desc := "(I)Z" } : Jvm.MethodName)) ∈ kx_tbl := kx_m 667 (by decide +kernel) (by decide +kernel)
theorem kw_618 : (Jvm.Cond.selects "KeptLight$Crew" ({ cls := "KeptLight$Crew", name := "has", desc := "(I)Z" } : Jvm.MethodName) ({ cls := "KeptLight$Crew", name := "has", desc := "(I)Z" } : Jvm.MethodName)) ∈ kx_tbl := kx_m 668 (by decide +kernel) (by decide +kernel)
theorem kw_619 : (Jvm.Cond.code ({ cls := "KeptLight$Crew", name := "has", desc := "(I)Z" } : Jvm.MethodName) prog_3_method_2_code (2 : Nat) (Option.some Jvm.ClassFile.FieldType.boolean)) ∈ kx_tbl := kx_m 669 (by decide +kernel) (by decide +kernel)
theorem kw_620 : (Jvm.Cond.methodLink "KeptLight" (206 : Nat) ({ cls := "KeptLight$Station", name := "planned", desc := "(I)I" } : Jvm.MethodName)) ∈ kx_tbl := kx_m 670 (by decide +kernel) (by decide +kernel)
theorem kw_621 : (Jvm.Cond.instanceMethod ({ cls := "KeptLight$Station", name := "planned", desc := "(I)I" } : Jvm.MethodName)) ∈ kx_tbl := kx_m 671 (by decide +kernel) (by decide +kernel)
theorem kw_622 : (Jvm.Cond.selects "KeptLight$Station" ({ cls := "KeptLight$Station", name := "planned", desc := "(I)I" } : Jvm.MethodName) ({ cls := "KeptLight$Station", name := "planned", desc := "(I)I" } : Jvm.MethodName)) ∈ kx_tbl := kx_m 672 (by decide +kernel) (by decide +kernel)
theorem kw_623 : (Jvm.Cond.code ({ cls := "KeptLight$Station", name := "planned", desc := "(I)I" } : Jvm.MethodName) prog_8_method_3_code (2 : Nat) (Option.some Jvm.ClassFile.FieldType.int)) ∈ kx_tbl := kx_m 673 (by decide +kernel) (by decide +kernel)
theorem kw_625 : (Jvm.Cond.methodLink "KeptLight" (209 : Nat) ({ cls := "KeptLight$Station", name := "assign", desc := "(II)V" } : Jvm.MethodName)) ∈ kx_tbl := kx_m 675 (by decide +kernel) (by decide +kernel)
theorem kw_626 : (Jvm.Cond.instanceMethod ({ cls := "KeptLight$Station", name := "assign", desc := "(II)V" } : Jvm.MethodName)) ∈ kx_tbl := kx_m 676 (by decide +kernel) (by decide +kernel)
theorem kw_627 : (Jvm.Cond.selects "KeptLight$Station" ({ cls := "KeptLight$Station", name := "assign", desc := "(II)V" } : Jvm.MethodName) ({ cls := "KeptLight$Station", name := "assign", desc := "(II)V" } : Jvm.MethodName)) ∈ kx_tbl := kx_m 677 (by decide +kernel) (by decide +kernel)
theorem kw_628 : (Jvm.Cond.code ({ cls := "KeptLight$Station", name := "assign", desc := "(II)V" } : Jvm.MethodName) prog_8_method_4_code (3 : Nat) (Option.none : Option Jvm.ClassFile.FieldType)) ∈ kx_tbl := kx_m 678 (by decide +kernel) (by decide +kernel)
theorem kw_629 : (Jvm.Cond.methodLink "KeptLightLaw" (70 : Nat) ({ cls := "KeptLight", name := "plans", desc := "(I)I" } : Jvm.MethodName)) ∈ kx_tbl := kx_m 679 (by decide +kernel) (by decide +kernel)
theorem kw_630 : (Jvm.Cond.instanceMethod ({ cls := "KeptLight", name := "plans", desc := "(I)I" } : Jvm.MethodName)) ∈ kx_tbl := kx_m 680 (by decide +kernel) (by decide +kernel)
theorem kw_631 : (Jvm.Cond.selects "KeptLight" ({ cls := "KeptLight", name := "plans", desc := "(I)I" } : Jvm.MethodName) ({ cls := "KeptLight", name := "plans", desc := "(I)I" } : Jvm.MethodName)) ∈ kx_tbl := kx_m 681 (by decide +kernel) (by decide +kernel)
theorem kw_632 : (Jvm.Cond.code ({ cls := "KeptLight", name := "plans", desc := "(I)I" } : Jvm.MethodName) prog_1_method_17_code (3 : Nat) (Option.some Jvm.ClassFile.FieldType.int)) ∈ kx_tbl := kx_m 682 (by decide +kernel) (by decide +kernel)
theorem kw_633 : (Jvm.Cond.methodLink "KeptLight" (212 : Nat) ({ cls := "KeptLight", name := "againstPlanIn", desc := "(I)I" } : Jvm.MethodName)) ∈ kx_tbl := kx_m 683 (by decide +kernel) (by decide +kernel)
theorem kw_635 : (Jvm.Cond.instanceMethod ({ cls := "KeptLight", name := "againstPlanIn", desc := "(I)I" } : Jvm.MethodName)) ∈ kx_tbl := kx_m 685 (by decide +kernel) (by decide +kernel)
theorem kw_636 : (Jvm.Cond.code ({ cls := "KeptLight", name := "againstPlanIn", desc := "(I)I" } : Jvm.MethodName) prog_1_method_52_code (7 : Nat) (Option.some Jvm.ClassFile.FieldType.int)) ∈ kx_tbl := kx_m 686 (by decide +kernel) (by decide +kernel)
theorem kw_637 : (Jvm.Cond.constantLong "KeptLight" (393 : Nat) (-1 : Int64)) ∈ kx_tbl := kx_m 687 (by decide +kernel) (by decide +kernel)
theorem kw_638 : (Jvm.Cond.methodLink "KeptLight" (215 : Nat) ({ cls := "KeptLight", name := "assignAll", desc := "(LKeptLight$Station;LKeptLight$Shelf;)V" } : Jvm.MethodName)) ∈ kx_tbl := kx_m 688 (by decide +kernel) (by decide +kernel)
theorem kw_639 : (Jvm.Cond.static ({ cls := "KeptLight", name := "assignAll", desc := "(LKeptLight$Station;LKeptLight$Shelf;)V" } : Jvm.MethodName)) ∈ kx_tbl := kx_m 689 (by decide +kernel) (by decide +kernel)
theorem kw_640 : (Jvm.Cond.code ({ cls := "KeptLight", name := "assignAll", desc := "(LKeptLight$Station;LKeptLight$Shelf;)V" } : Jvm.MethodName) prog_1_method_53_code (3 : Nat) (Option.none : Option Jvm.ClassFile.FieldType)) ∈ kx_tbl := kx_m 690 (by decide +kernel) (by decide +kernel)
theorem kw_641 : (Jvm.Cond.methodLink "KeptLightLaw" (74 : Nat) ({ cls := "KeptLight", name := "tell", desc := "(II)I" } : Jvm.MethodName)) ∈ kx_tbl := kx_m 691 (by decide +kernel) (by decide +kernel)
theorem kw_642 : (Jvm.Cond.instanceMethod ({ cls := "KeptLight", name := "tell", desc := "(II)I" } : Jvm.MethodName)) ∈ kx_tbl := kx_m 692 (by decide +kernel) (by decide +kernel)
theorem kw_643 : (Jvm.Cond.selects "KeptLight" ({ cls := "KeptLight", name := "tell", desc := "(II)I" } : Jvm.MethodName) ({ cls := "KeptLight", name := "tell", desc := "(II)I" } : Jvm.MethodName)) ∈ kx_tbl := kx_m 693 (by decide +kernel) (by decide +kernel)
theorem kw_644 : (Jvm.Cond.code ({ cls := "KeptLight", name := "tell", desc := "(II)I" } : Jvm.MethodName) prog_1_method_18_code (5 : Nat) (Option.some Jvm.ClassFile.FieldType.int)) ∈ kx_tbl := kx_m 694 (by decide +kernel) (by decide +kernel)
theorem kw_645 : (Jvm.Cond.methodLink "KeptLight" (219 : Nat) ({ cls := "KeptLight", name := "mayBeTold", desc := "(II)Z" } : Jvm.MethodName)) ∈ kx_tbl := kx_m 695 (by decide +kernel) (by decide +kernel)
theorem kw_646 : (Jvm.Cond.static ({ cls := "KeptLight", name := "mayBeTold", desc := "(II)Z" } : Jvm.MethodName)) ∈ kx_tbl := kx_m 696 (by decide +kernel) (by decide +kernel)
theorem kw_647 : (Jvm.Cond.code ({ cls := "KeptLight", name := "mayBeTold", desc := "(II)Z" } : Jvm.MethodName) prog_1_method_19_code (2 : Nat) (Option.some Jvm.ClassFile.FieldType.boolean)) ∈ kx_tbl := kx_m 697 (by decide +kernel) (by decide +kernel)
theorem kw_648 : (Jvm.Cond.methodLink "KeptLightLaw" (78 : Nat) ({ cls := "KeptLight", name := "boat", desc := "(II)I" } : Jvm.MethodName)) ∈ kx_tbl := kx_m 698 (by decide +kernel) (by decide +kernel)
theorem kw_649 : (Jvm.Cond.instanceMethod ({ cls := "KeptLight", name := "boat", desc := "(II)I" } : Jvm.MethodName)) ∈ kx_tbl := kx_m 699 (by decide +kernel) (by decide +kernel)
theorem kw_650 : (Jvm.Cond.selects "KeptLight" ({ cls := "KeptLight", name := "boat", desc := "(II)I" } : Jvm.MethodName) ({ cls := "KeptLight", name := "boat", desc := "(II)I" } : Jvm.MethodName)) ∈ kx_tbl := kx_m 700 (by decide +kernel) (by decide +kernel)
theorem kw_651 : (Jvm.Cond.code ({ cls := "KeptLight", name := "boat", desc := "(II)I" } : Jvm.MethodName) prog_1_method_20_code (5 : Nat) (Option.some Jvm.ClassFile.FieldType.int)) ∈ kx_tbl := kx_m 701 (by decide +kernel) (by decide +kernel)
theorem kw_652 : (Jvm.Cond.methodLink "KeptLight" (237 : Nat) ({ cls := "KeptLight", name := "mayBeOfBoat", desc := "(II)Z" } : Jvm.MethodName)) ∈ kx_tbl := kx_m 702 (by decide +kernel) (by decide +kernel)
theorem kw_654 : (Jvm.Cond.instanceMethod ({ cls := "KeptLight", name := "mayBeOfBoat", desc := "(II)Z" } : Jvm.MethodName)) ∈ kx_tbl := kx_m 704 (by decide +kernel) (by decide +kernel)
theorem kw_655 : (Jvm.Cond.code ({ cls := "KeptLight", name := "mayBeOfBoat", desc := "(II)Z" } : Jvm.MethodName) prog_1_method_21_code (4 : Nat) (Option.some Jvm.ClassFile.FieldType.boolean)) ∈ kx_tbl := kx_m 705 (by decide +kernel) (by decide +kernel)
theorem kw_656 : (Jvm.Cond.methodLink "KeptLightLaw" (98 : Nat) ({ cls := "KeptLight", name := "keeperOf", desc := "(II)I" } : Jvm.MethodName)) ∈ kx_tbl := kx_m 706 (by decide +kernel) (by decide +kernel)
theorem kw_657 : (Jvm.Cond.instanceMethod ({ cls := "KeptLight", name := "keeperOf", desc := "(II)I" } : Jvm.MethodName)) ∈ kx_tbl := kx_m 707 (by decide +kernel) (by decide +kernel)
theorem kw_658 : (Jvm.Cond.selects "KeptLight" ({ cls := "KeptLight", name := "keeperOf", desc := "(II)I" } : Jvm.MethodName) ({ cls := "KeptLight", name := "keeperOf", desc := "(II)I" } : Jvm.MethodName)) ∈ kx_tbl := kx_m 708 (by decide +kernel) (by decide +kernel)
theorem kw_659 : (Jvm.Cond.code ({ cls := "KeptLight", name := "keeperOf", desc := "(II)I" } : Jvm.MethodName) prog_1_method_22_code (4 : Nat) (Option.some Jvm.ClassFile.FieldType.int)) ∈ kx_tbl := kx_m 709 (by decide +kernel) (by decide +kernel)
theorem kw_660 : (Jvm.Cond.methodLink "KeptLight" (258 : Nat) ({ cls := "KeptLight$Crew", name := "rankOf", desc := "(I)I" } : Jvm.MethodName)) ∈ kx_tbl := kx_m 710 (by decide +kernel) (by decide +kernel)
theorem kw_661 : (Jvm.Cond.instanceMethod ({ cls := "KeptLight$Crew", name := "rankOf", desc := "(I)I" } : Jvm.MethodName)) ∈ kx_tbl := kx_m 711 (by decide +kernel) (by decide +kernel)
theorem kw_662 : (Jvm.Cond.selects "KeptLight$Crew" ({ cls := "KeptLight$Crew", name := "rankOf", desc := "(I)I" } : Jvm.MethodName) ({ cls := "KeptLight$Crew", name := "rankOf", desc := "(I)I" } : Jvm.MethodName)) ∈ kx_tbl := kx_m 712 (by decide +kernel) (by decide +kernel)
theorem kw_663 : (Jvm.Cond.code ({ cls := "KeptLight$Crew", name := "rankOf", desc := "(I)I" } : Jvm.MethodName) prog_3_method_5_code (2 : Nat) (Option.some Jvm.ClassFile.FieldType.int)) ∈ kx_tbl := kx_m 713 (by decide +kernel) (by decide +kernel)
theorem kw_664 : (Jvm.Cond.methodLink "KeptLight$Crew" (39 : Nat) ({ cls := "KeptLight$Crew", name := "has", desc := "(I)Z" } : Jvm.MethodName)) ∈ kx_tbl := kx_m 714 (by decide +kernel) (by decide +kernel)
theorem kw_665 : (Jvm.Cond.methodLink "KeptLight" (261 : Nat) ({ cls := "KeptLight$Crew", name := "tiredOf", desc := "(I)I" } : Jvm.MethodName)) ∈ kx_tbl := kx_m 715 (by decide +kernel) (by decide +kernel)
theorem kw_666 : (Jvm.Cond.instanceMethod ({ cls := "KeptLight$Crew", name := "tiredOf", desc := "(I)I" } : Jvm.MethodName)) ∈ kx_tbl := kx_m 716 (by decide +kernel) (by decide +kernel)
theorem kw_667 : (Jvm.Cond.selects "KeptLight$Crew" ({ cls := "KeptLight$Crew", name := "tiredOf", desc := "(I)I" } : Jvm.MethodName) ({ cls := "KeptLight$Crew", name := "tiredOf", desc := "(I)I" } : Jvm.MethodName)) ∈ kx_tbl := kx_m 717 (by decide +kernel) (by decide +kernel)
theorem kw_668 : (Jvm.Cond.code ({ cls := "KeptLight$Crew", name := "tiredOf", desc := "(I)I" } : Jvm.MethodName) prog_3_method_6_code (2 : Nat) (Option.some Jvm.ClassFile.FieldType.int)) ∈ kx_tbl := kx_m 718 (by decide +kernel) (by decide +kernel)
theorem kw_669 : (Jvm.Cond.methodLink "KeptLight" (264 : Nat) ({ cls := "KeptLight$Crew", name := "lastsOf", desc := "(I)I" } : Jvm.MethodName)) ∈ kx_tbl := kx_m 719 (by decide +kernel) (by decide +kernel)
theorem kw_670 : (Jvm.Cond.instanceMethod ({ cls := "KeptLight$Crew", name := "lastsOf", desc := "(I)I" } : Jvm.MethodName)) ∈ kx_tbl := kx_m 720 (by decide +kernel) (by decide +kernel)
theorem kw_671 : (Jvm.Cond.selects "KeptLight$Crew" ({ cls := "KeptLight$Crew", name := "lastsOf", desc := "(I)I" } : Jvm.MethodName) ({ cls := "KeptLight$Crew", name := "lastsOf", desc := "(I)I" } : Jvm.MethodName)) ∈ kx_tbl := kx_m 721 (by decide +kernel) (by decide +kernel)
theorem kw_672 : (Jvm.Cond.code ({ cls := "KeptLight$Crew", name := "lastsOf", desc := "(I)I" } : Jvm.MethodName) prog_3_method_9_code (2 : Nat) (Option.some Jvm.ClassFile.FieldType.int)) ∈ kx_tbl := kx_m 722 (by decide +kernel) (by decide +kernel)
theorem kw_673 : (Jvm.Cond.methodLink "KeptLight" (267 : Nat) ({ cls := "KeptLight$Station", name := "hoursPlannedFor", desc := "(I)I" } : Jvm.MethodName)) ∈ kx_tbl := kx_m 723 (by decide +kernel) (by decide +kernel)
theorem kw_674 : (Jvm.Cond.instanceMethod ({ cls := "KeptLight$Station", name := "hoursPlannedFor", desc := "(I)I" } : Jvm.MethodName)) ∈ kx_tbl := kx_m 724 (by decide +kernel) (by decide +kernel)
theorem kw_675 : (Jvm.Cond.selects "KeptLight$Station" ({ cls := "KeptLight$Station", name := "hoursPlannedFor", desc := "(I)I" } : Jvm.MethodName) ({ cls := "KeptLight$Station", name := "hoursPlannedFor", desc := "(I)I" } : Jvm.MethodName)) ∈ kx_tbl := kx_m 725 (by decide +kernel) (by decide +kernel)
theorem kw_676 : (Jvm.Cond.code ({ cls := "KeptLight$Station", name := "hoursPlannedFor", desc := "(I)I" } : Jvm.MethodName) prog_8_method_6_code (4 : Nat) (Option.some Jvm.ClassFile.FieldType.int)) ∈ kx_tbl := kx_m 726 (by decide +kernel) (by decide +kernel)
theorem kw_677 : (Jvm.Cond.methodLink "KeptLight" (270 : Nat) ({ cls := "KeptLight$Crew", name := "tendedBy", desc := "(I)I" } : Jvm.MethodName)) ∈ kx_tbl := kx_m 727 (by decide +kernel) (by decide +kernel)
theorem kw_678 : (Jvm.Cond.instanceMethod ({ cls := "KeptLight$Crew", name := "tendedBy", desc := "(I)I" } : Jvm.MethodName)) ∈ kx_tbl := kx_m 728 (by decide +kernel) (by decide +kernel)
theorem kw_679 : (Jvm.Cond.selects "KeptLight$Crew" ({ cls := "KeptLight$Crew", name := "tendedBy", desc := "(I)I" } : Jvm.MethodName) ({ cls := "KeptLight$Crew", name := "tendedBy", desc := "(I)I" } : Jvm.MethodName)) ∈ kx_tbl := kx_m 729 (by decide +kernel) (by decide +kernel)
theorem kw_680 : (Jvm.Cond.code ({ cls := "KeptLight$Crew", name := "tendedBy", desc := "(I)I" } : Jvm.MethodName) prog_3_method_7_code (2 : Nat) (Option.some Jvm.ClassFile.FieldType.int)) ∈ kx_tbl := kx_m 730 (by decide +kernel) (by decide +kernel)
theorem kw_681 : (Jvm.Cond.methodLink "KeptLight" (273 : Nat) ({ cls := "KeptLight$Crew", name := "sleptBy", desc := "(I)I" } : Jvm.MethodName)) ∈ kx_tbl := kx_m 731 (by decide +kernel) (by decide +kernel)
theorem kw_682 : (Jvm.Cond.instanceMethod ({ cls := "KeptLight$Crew", name := "sleptBy", desc := "(I)I" } : Jvm.MethodName)) ∈ kx_tbl := kx_m 732 (by decide +kernel) (by decide +kernel)
theorem kw_683 : (Jvm.Cond.selects "KeptLight$Crew" ({ cls := "KeptLight$Crew", name := "sleptBy", desc := "(I)I" } : Jvm.MethodName) ({ cls := "KeptLight$Crew", name := "sleptBy", desc := "(I)I" } : Jvm.MethodName)) ∈ kx_tbl := kx_m 733 (by decide +kernel) (by decide +kernel)
theorem kw_684 : (Jvm.Cond.code ({ cls := "KeptLight$Crew", name := "sleptBy", desc := "(I)I" } : Jvm.MethodName) prog_3_method_8_code (2 : Nat) (Option.some Jvm.ClassFile.FieldType.int)) ∈ kx_tbl := kx_m 734 (by decide +kernel) (by decide +kernel)
theorem kw_685 : (Jvm.Cond.methodLink "KeptLightLaw" (82 : Nat) ({ cls := "KeptLight", name := "ship", desc := "(II)I" } : Jvm.MethodName)) ∈ kx_tbl := kx_m 735 (by decide +kernel) (by decide +kernel)
theorem kw_686 : (Jvm.Cond.instanceMethod ({ cls := "KeptLight", name := "ship", desc := "(II)I" } : Jvm.MethodName)) ∈ kx_tbl := kx_m 736 (by decide +kernel) (by decide +kernel)
theorem kw_687 : (Jvm.Cond.selects "KeptLight" ({ cls := "KeptLight", name := "ship", desc := "(II)I" } : Jvm.MethodName) ({ cls := "KeptLight", name := "ship", desc := "(II)I" } : Jvm.MethodName)) ∈ kx_tbl := kx_m 737 (by decide +kernel) (by decide +kernel)
theorem kw_688 : (Jvm.Cond.code ({ cls := "KeptLight", name := "ship", desc := "(II)I" } : Jvm.MethodName) prog_1_method_23_code (4 : Nat) (Option.some Jvm.ClassFile.FieldType.int)) ∈ kx_tbl := kx_m 738 (by decide +kernel) (by decide +kernel)
theorem kw_689 : (Jvm.Cond.methodLink "KeptLight" (276 : Nat) ({ cls := "KeptLight$Fleet", name := "isFull", desc := "()Z" } : Jvm.MethodName)) ∈ kx_tbl := kx_m 739 (by decide +kernel) (by decide +kernel)
theorem kw_690 : (Jvm.Cond.instanceMethod ({ cls := "KeptLight$Fleet", name := "isFull", desc := "()Z" } : Jvm.MethodName)) ∈ kx_tbl := kx_m 740 (by decide +kernel) (by decide +kernel)
theorem kw_691 : (Jvm.Cond.selects "KeptLight$Fleet" ({ cls := "KeptLight$Fleet", name := "isFull", desc := "()Z" } : Jvm.MethodName) ({ cls := "KeptLight$Fleet", name := "isFull", desc := "()Z" } : Jvm.MethodName)) ∈ kx_tbl := kx_m 741 (by decide +kernel) (by decide +kernel)
theorem kw_692 : (Jvm.Cond.code ({ cls := "KeptLight$Fleet", name := "isFull", desc := "()Z" } : Jvm.MethodName) prog_4_method_3_code (1 : Nat) (Option.some Jvm.ClassFile.FieldType.boolean)) ∈ kx_tbl := kx_m 742 (by decide +kernel) (by decide +kernel)
theorem kw_693 : (Jvm.Cond.methodLink "KeptLight" (277 : Nat) ({ cls := "KeptLight$Fleet", name := "expect", desc := "(II)I" } : Jvm.MethodName)) ∈ kx_tbl := kx_m 743 (by decide +kernel) (by decide +kernel)
theorem kw_694 : (Jvm.Cond.instanceMethod ({ cls := "KeptLight$Fleet", name := "expect", desc := "(II)I" } : Jvm.MethodName)) ∈ kx_tbl := kx_m 744 (by decide +kernel) (by decide +kernel)
theorem kw_695 : (Jvm.Cond.selects "KeptLight$Fleet" ({ cls := "KeptLight$Fleet", name := "expect", desc := "(II)I" } : Jvm.MethodName) ({ cls := "KeptLight$Fleet", name := "expect", desc := "(II)I" } : Jvm.MethodName)) ∈ kx_tbl := kx_m 745 (by decide +kernel) (by decide +kernel)
theorem kw_696 : (Jvm.Cond.code ({ cls := "KeptLight$Fleet", name := "expect", desc := "(II)I" } : Jvm.MethodName) prog_4_method_8_code (4 : Nat) (Option.some Jvm.ClassFile.FieldType.int)) ∈ kx_tbl := kx_m 746 (by decide +kernel) (by decide +kernel)
theorem kw_697 : (Jvm.Cond.methodLink "KeptLight$Fleet" (35 : Nat) ({ cls := "KeptLight$Fleet", name := "isFull", desc := "()Z" } : Jvm.MethodName)) ∈ kx_tbl := kx_m 747 (by decide +kernel) (by decide +kernel)
theorem kw_698 : (Jvm.Cond.methodLink "KeptLight$Fleet" (39 : Nat) ({ cls := "KeptLight$Fleet", name := "shipInPlace", desc := "(I)I" } : Jvm.MethodName)) ∈ kx_tbl := kx_m 748 (by decide +kernel) (by decide +kernel)
theorem kw_699 : (Jvm.Cond.instanceMethod ({ cls := "KeptLight$Fleet", name := "shipInPlace", desc := "(I)I" } : Jvm.MethodName)) ∈ kx_tbl := kx_m 749 (by decide +kernel) (by decide +kernel)
theorem kw_700 : (Jvm.Cond.selects "KeptLight$Fleet" ({ cls := "KeptLight$Fleet", name := "shipInPlace", desc := "(I)I" } : Jvm.MethodName) ({ cls := "KeptLight$Fleet", name := "shipInPlace", desc := "(I)I" } : Jvm.MethodName)) ∈ kx_tbl := kx_m 750 (by decide +kernel) (by decide +kernel)
theorem kw_701 : (Jvm.Cond.code ({ cls := "KeptLight$Fleet", name := "shipInPlace", desc := "(I)I" } : Jvm.MethodName) prog_4_method_10_code (2 : Nat) (Option.some Jvm.ClassFile.FieldType.int)) ∈ kx_tbl := kx_m 751 (by decide +kernel) (by decide +kernel)
theorem kw_703 : (Jvm.Cond.methodLink "KeptLight$Fleet" (43 : Nat) ({ cls := "KeptLight$Fleet", name := "isBehind", desc := "(III)Z" } : Jvm.MethodName)) ∈ kx_tbl := kx_m 753 (by decide +kernel) (by decide +kernel)
theorem kw_705 : (Jvm.Cond.instanceMethod ({ cls := "KeptLight$Fleet", name := "isBehind", desc := "(III)Z" } : Jvm.MethodName)) ∈ kx_tbl := kx_m 755 (by decide +kernel) (by decide +kernel)
theorem kw_706 : (Jvm.Cond.code ({ cls := "KeptLight$Fleet", name := "isBehind", desc := "(III)Z" } : Jvm.MethodName) prog_4_method_9_code (4 : Nat) (Option.some Jvm.ClassFile.FieldType.boolean)) ∈ kx_tbl := kx_m 756 (by decide +kernel) (by decide +kernel)
theorem kw_707 : (Jvm.Cond.methodLink "KeptLight$Fleet" (47 : Nat) ({ cls := "KeptLight$Fleet", name := "hourOf", desc := "(I)I" } : Jvm.MethodName)) ∈ kx_tbl := kx_m 757 (by decide +kernel) (by decide +kernel)
theorem kw_708 : (Jvm.Cond.methodLink "KeptLight$Fleet" (50 : Nat) ({ cls := "KeptLight$Fleet", name := "kindOf", desc := "(I)I" } : Jvm.MethodName)) ∈ kx_tbl := kx_m 758 (by decide +kernel) (by decide +kernel)
theorem kw_709 : (Jvm.Cond.methodLink "KeptLightLaw" (102 : Nat) ({ cls := "KeptLight", name := "shipOf", desc := "(II)I" } : Jvm.MethodName)) ∈ kx_tbl := kx_m 759 (by decide +kernel) (by decide +kernel)
theorem kw_710 : (Jvm.Cond.instanceMethod ({ cls := "KeptLight", name := "shipOf", desc := "(II)I" } : Jvm.MethodName)) ∈ kx_tbl := kx_m 760 (by decide +kernel) (by decide +kernel)
theorem kw_711 : (Jvm.Cond.selects "KeptLight" ({ cls := "KeptLight", name := "shipOf", desc := "(II)I" } : Jvm.MethodName) ({ cls := "KeptLight", name := "shipOf", desc := "(II)I" } : Jvm.MethodName)) ∈ kx_tbl := kx_m 761 (by decide +kernel) (by decide +kernel)
theorem kw_712 : (Jvm.Cond.code ({ cls := "KeptLight", name := "shipOf", desc := "(II)I" } : Jvm.MethodName) prog_1_method_24_code (4 : Nat) (Option.some Jvm.ClassFile.FieldType.int)) ∈ kx_tbl := kx_m 762 (by decide +kernel) (by decide +kernel)
theorem kw_713 : (Jvm.Cond.methodLink "KeptLightLaw" (106 : Nat) ({ cls := "KeptLight", name := "shipAt", desc := "(II)I" } : Jvm.MethodName)) ∈ kx_tbl := kx_m 763 (by decide +kernel) (by decide +kernel)
theorem kw_714 : (Jvm.Cond.instanceMethod ({ cls := "KeptLight", name := "shipAt", desc := "(II)I" } : Jvm.MethodName)) ∈ kx_tbl := kx_m 764 (by decide +kernel) (by decide +kernel)
theorem kw_715 : (Jvm.Cond.selects "KeptLight" ({ cls := "KeptLight", name := "shipAt", desc := "(II)I" } : Jvm.MethodName) ({ cls := "KeptLight", name := "shipAt", desc := "(II)I" } : Jvm.MethodName)) ∈ kx_tbl := kx_m 765 (by decide +kernel) (by decide +kernel)
theorem kw_716 : (Jvm.Cond.code ({ cls := "KeptLight", name := "shipAt", desc := "(II)I" } : Jvm.MethodName) prog_1_method_25_code (5 : Nat) (Option.some Jvm.ClassFile.FieldType.int)) ∈ kx_tbl := kx_m 766 (by decide +kernel) (by decide +kernel)
theorem kw_717 : (Jvm.Cond.methodLink "KeptLight" (280 : Nat) ({ cls := "KeptLight$Fleet", name := "firstPlaceOf", desc := "(I)I" } : Jvm.MethodName)) ∈ kx_tbl := kx_m 767 (by decide +kernel) (by decide +kernel)
theorem kw_718 : (Jvm.Cond.instanceMethod ({ cls := "KeptLight$Fleet", name := "firstPlaceOf", desc := "(I)I" } : Jvm.MethodName)) ∈ kx_tbl := kx_m 768 (by decide +kernel) (by decide +kernel)
theorem kw_719 : (Jvm.Cond.selects "KeptLight$Fleet" ({ cls := "KeptLight$Fleet", name := "firstPlaceOf", desc := "(I)I" } : Jvm.MethodName) ({ cls := "KeptLight$Fleet", name := "firstPlaceOf", desc := "(I)I" } : Jvm.MethodName)) ∈ kx_tbl := kx_m 769 (by decide +kernel) (by decide +kernel)
theorem kw_720 : (Jvm.Cond.code ({ cls := "KeptLight$Fleet", name := "firstPlaceOf", desc := "(I)I" } : Jvm.MethodName) prog_4_method_11_code (6 : Nat) (Option.some Jvm.ClassFile.FieldType.int)) ∈ kx_tbl := kx_m 770 (by decide +kernel) (by decide +kernel)
theorem kw_721 : (Jvm.Cond.methodLink "KeptLight" (283 : Nat) ({ cls := "KeptLight$Fleet", name := "isPlaceOf", desc := "(II)Z" } : Jvm.MethodName)) ∈ kx_tbl := kx_m 771 (by decide +kernel) (by decide +kernel)
theorem kw_722 : (Jvm.Cond.instanceMethod ({ cls := "KeptLight$Fleet", name := "isPlaceOf", desc := "(II)Z" } : Jvm.MethodName)) ∈ kx_tbl := kx_m 772 (by decide +kernel) (by decide +kernel)
theorem kw_723 : (Jvm.Cond.selects "KeptLight$Fleet" ({ cls := "KeptLight$Fleet", name := "isPlaceOf", desc := "(II)Z" } : Jvm.MethodName) ({ cls := "KeptLight$Fleet", name := "isPlaceOf", desc := "(II)Z" } : Jvm.MethodName)) ∈ kx_tbl := kx_m 773 (by decide +kernel) (by decide +kernel)
theorem kw_724 : (Jvm.Cond.code ({ cls := "KeptLight$Fleet", name := "isPlaceOf", desc := "(II)Z" } : Jvm.MethodName) prog_4_method_12_code (3 : Nat) (Option.some Jvm.ClassFile.FieldType.boolean)) ∈ kx_tbl := kx_m 774 (by decide +kernel) (by decide +kernel)
theorem kw_725 : (Jvm.Cond.methodLink "KeptLight" (286 : Nat) ({ cls := "KeptLight$Fleet", name := "shipInPlace", desc := "(I)I" } : Jvm.MethodName)) ∈ kx_tbl := kx_m 775 (by decide +kernel) (by decide +kernel)
theorem kw_726 : (Jvm.Cond.methodLink "KeptLightLaw" (110 : Nat) ({ cls := "KeptLight", name := "many", desc := "(II)I" } : Jvm.MethodName)) ∈ kx_tbl := kx_m 776 (by decide +kernel) (by decide +kernel)
theorem kw_727 : (Jvm.Cond.instanceMethod ({ cls := "KeptLight", name := "many", desc := "(II)I" } : Jvm.MethodName)) ∈ kx_tbl := kx_m 777 (by decide +kernel) (by decide +kernel)
theorem kw_728 : (Jvm.Cond.selects "KeptLight" ({ cls := "KeptLight", name := "many", desc := "(II)I" } : Jvm.MethodName) ({ cls := "KeptLight", name := "many", desc := "(II)I" } : Jvm.MethodName)) ∈ kx_tbl := kx_m 778 (by decide +kernel) (by decide +kernel)
theorem kw_729 : (Jvm.Cond.code ({ cls := "KeptLight", name := "many", desc := "(II)I" } : Jvm.MethodName) prog_1_method_26_code (3 : Nat) (Option.some Jvm.ClassFile.FieldType.int)) ∈ kx_tbl := kx_m 779 (by decide +kernel) (by decide +kernel)
theorem kw_730 : (Jvm.Cond.methodLink "KeptLight" (289 : Nat) ({ cls := "KeptLight$Fleet", name := "countFates", desc := "(II)I" } : Jvm.MethodName)) ∈ kx_tbl := kx_m 780 (by decide +kernel) (by decide +kernel)
theorem kw_731 : (Jvm.Cond.instanceMethod ({ cls := "KeptLight$Fleet", name := "countFates", desc := "(II)I" } : Jvm.MethodName)) ∈ kx_tbl := kx_m 781 (by decide +kernel) (by decide +kernel)
theorem kw_732 : (Jvm.Cond.selects "KeptLight$Fleet" ({ cls := "KeptLight$Fleet", name := "countFates", desc := "(II)I" } : Jvm.MethodName) ({ cls := "KeptLight$Fleet", name := "countFates", desc := "(II)I" } : Jvm.MethodName)) ∈ kx_tbl := kx_m 782 (by decide +kernel) (by decide +kernel)
theorem kw_733 : (Jvm.Cond.code ({ cls := "KeptLight$Fleet", name := "countFates", desc := "(II)I" } : Jvm.MethodName) prog_4_method_14_code (5 : Nat) (Option.some Jvm.ClassFile.FieldType.int)) ∈ kx_tbl := kx_m 783 (by decide +kernel) (by decide +kernel)
theorem kw_735 : (Jvm.Cond.methodLink "KeptLightLaw" (86 : Nat) ({ cls := "KeptLight", name := "pass", desc := "(I)I" } : Jvm.MethodName)) ∈ kx_tbl := kx_m 785 (by decide +kernel) (by decide +kernel)
theorem kw_736 : (Jvm.Cond.instanceMethod ({ cls := "KeptLight", name := "pass", desc := "(I)I" } : Jvm.MethodName)) ∈ kx_tbl := kx_m 786 (by decide +kernel) (by decide +kernel)
theorem kw_737 : (Jvm.Cond.selects "KeptLight" ({ cls := "KeptLight", name := "pass", desc := "(I)I" } : Jvm.MethodName) ({ cls := "KeptLight", name := "pass", desc := "(I)I" } : Jvm.MethodName)) ∈ kx_tbl := kx_m 787 (by decide +kernel) (by decide +kernel)
theorem kw_738 : (Jvm.Cond.code ({ cls := "KeptLight", name := "pass", desc := "(I)I" } : Jvm.MethodName) prog_1_method_27_code (4 : Nat) (Option.some Jvm.ClassFile.FieldType.int)) ∈ kx_tbl := kx_m 788 (by decide +kernel) (by decide +kernel)
theorem kw_739 : (Jvm.Cond.methodLink "KeptLight" (292 : Nat) ({ cls := "KeptLight", name := "areHours", desc := "(I)Z" } : Jvm.MethodName)) ∈ kx_tbl := kx_m 789 (by decide +kernel) (by decide +kernel)
theorem kw_740 : (Jvm.Cond.static ({ cls := "KeptLight", name := "areHours", desc := "(I)Z" } : Jvm.MethodName)) ∈ kx_tbl := kx_m 790 (by decide +kernel) (by decide +kernel)
theorem kw_741 : (Jvm.Cond.code ({ cls := "KeptLight", name := "areHours", desc := "(I)Z" } : Jvm.MethodName) prog_1_method_57_code (1 : Nat) (Option.some Jvm.ClassFile.FieldType.boolean)) ∈ kx_tbl := kx_m 791 (by decide +kernel) (by decide +kernel)
theorem kw_742 : (Jvm.Cond.methodLink "KeptLight" (298 : Nat) ({ cls := "KeptLight$World", name := "passHour", desc := "()V" } : Jvm.MethodName)) ∈ kx_tbl := kx_m 792 (by decide +kernel) (by decide +kernel)
theorem kw_743 : (Jvm.Cond.instanceMethod ({ cls := "KeptLight$World", name := "passHour", desc := "()V" } : Jvm.MethodName)) ∈ kx_tbl := kx_m 793 (by decide +kernel) (by decide +kernel)
theorem kw_744 : (Jvm.Cond.selects "KeptLight$World" ({ cls := "KeptLight$World", name := "passHour", desc := "()V" } : Jvm.MethodName) ({ cls := "KeptLight$World", name := "passHour", desc := "()V" } : Jvm.MethodName)) ∈ kx_tbl := kx_m 794 (by decide +kernel) (by decide +kernel)
theorem kw_745 : (Jvm.Cond.code ({ cls := "KeptLight$World", name := "passHour", desc := "()V" } : Jvm.MethodName) prog_11_method_2_code (2 : Nat) (Option.none : Option Jvm.ClassFile.FieldType)) ∈ kx_tbl := kx_m 795 (by decide +kernel) (by decide +kernel)
theorem kw_746 : (Jvm.Cond.methodLink "KeptLight$World" (42 : Nat) ({ cls := "KeptLight$Station", name := "keepWatch", desc := "()V" } : Jvm.MethodName)) ∈ kx_tbl := kx_m 796 (by decide +kernel) (by decide +kernel)
theorem kw_747 : (Jvm.Cond.instanceMethod ({ cls := "KeptLight$Station", name := "keepWatch", desc := "()V" } : Jvm.MethodName)) ∈ kx_tbl := kx_m 797 (by decide +kernel) (by decide +kernel)
theorem kw_748 : (Jvm.Cond.selects "KeptLight$Station" ({ cls := "KeptLight$Station", name := "keepWatch", desc := "()V" } : Jvm.MethodName) ({ cls := "KeptLight$Station", name := "keepWatch", desc := "()V" } : Jvm.MethodName)) ∈ kx_tbl := kx_m 798 (by decide +kernel) (by decide +kernel)
theorem kw_749 : (Jvm.Cond.code ({ cls := "KeptLight$Station", name := "keepWatch", desc := "()V" } : Jvm.MethodName) prog_8_method_7_code (1 : Nat) (Option.none : Option Jvm.ClassFile.FieldType)) ∈ kx_tbl := kx_m 799 (by decide +kernel) (by decide +kernel)
theorem kw_750 : (Jvm.Cond.methodLink "KeptLight$Station" (93 : Nat) ({ cls := "KeptLight$Sky", name := "weatherAt", desc := "(I)I" } : Jvm.MethodName)) ∈ kx_tbl := kx_m 800 (by decide +kernel) (by decide +kernel)
theorem kw_751 : (Jvm.Cond.methodLink "KeptLight$Station" (97 : Nat) ({ cls := "KeptLight$Station", name := "isDarkAt", desc := "(I)Z" } : Jvm.MethodName)) ∈ kx_tbl := kx_m 801 (by decide +kernel) (by decide +kernel)
theorem kw_752 : (Jvm.Cond.methodLink "KeptLight$Station" (100 : Nat) ({ cls := "KeptLight$Station", name := "planned", desc := "(I)I" } : Jvm.MethodName)) ∈ kx_tbl := kx_m 802 (by decide +kernel) (by decide +kernel)
theorem kw_753 : (Jvm.Cond.methodLink "KeptLight$Station" (103 : Nat) ({ cls := "KeptLight$Crew", name := "isAwake", desc := "(I)Z" } : Jvm.MethodName)) ∈ kx_tbl := kx_m 803 (by decide +kernel) (by decide +kernel)
theorem kw_754 : (Jvm.Cond.instanceMethod ({ cls := "KeptLight$Crew", name := "isAwake", desc := "(I)Z" } : Jvm.MethodName)) ∈ kx_tbl := kx_m 804 (by decide +kernel) (by decide +kernel)
theorem kw_755 : (Jvm.Cond.selects "KeptLight$Crew" ({ cls := "KeptLight$Crew", name := "isAwake", desc := "(I)Z" } : Jvm.MethodName) ({ cls := "KeptLight$Crew", name := "isAwake", desc := "(I)Z" } : Jvm.MethodName)) ∈ kx_tbl := kx_m 805 (by decide +kernel) (by decide +kernel)
theorem kw_756 : (Jvm.Cond.code ({ cls := "KeptLight$Crew", name := "isAwake", desc := "(I)Z" } : Jvm.MethodName) prog_3_method_11_code (2 : Nat) (Option.some Jvm.ClassFile.FieldType.boolean)) ∈ kx_tbl := kx_m 806 (by decide +kernel) (by decide +kernel)
theorem kw_757 : (Jvm.Cond.methodLink "KeptLight$Station" (106 : Nat) ({ cls := "KeptLight$Station", name := "tendLamp", desc := "()V" } : Jvm.MethodName)) ∈ kx_tbl := kx_m 807 (by decide +kernel) (by decide +kernel)
theorem kw_759 : (Jvm.Cond.instanceMethod ({ cls := "KeptLight$Station", name := "tendLamp", desc := "()V" } : Jvm.MethodName)) ∈ kx_tbl := kx_m 809 (by decide +kernel) (by decide +kernel)
theorem kw_760 : (Jvm.Cond.code ({ cls := "KeptLight$Station", name := "tendLamp", desc := "()V" } : Jvm.MethodName) prog_8_method_8_code (2 : Nat) (Option.none : Option Jvm.ClassFile.FieldType)) ∈ kx_tbl := kx_m 810 (by decide +kernel) (by decide +kernel)
theorem kw_761 : (Jvm.Cond.methodLink "KeptLight$World" (48 : Nat) ({ cls := "KeptLight$Fleet", name := "firstPlaceOf", desc := "(I)I" } : Jvm.MethodName)) ∈ kx_tbl := kx_m 811 (by decide +kernel) (by decide +kernel)
theorem kw_762 : (Jvm.Cond.methodLink "KeptLight$World" (52 : Nat) ({ cls := "KeptLight$World", name := "meetShips", desc := "(I)V" } : Jvm.MethodName)) ∈ kx_tbl := kx_m 812 (by decide +kernel) (by decide +kernel)
theorem kw_764 : (Jvm.Cond.instanceMethod ({ cls := "KeptLight$World", name := "meetShips", desc := "(I)V" } : Jvm.MethodName)) ∈ kx_tbl := kx_m 814 (by decide +kernel) (by decide +kernel)
theorem kw_765 : (Jvm.Cond.code ({ cls := "KeptLight$World", name := "meetShips", desc := "(I)V" } : Jvm.MethodName) prog_11_method_3_code (5 : Nat) (Option.none : Option Jvm.ClassFile.FieldType)) ∈ kx_tbl := kx_m 815 (by decide +kernel) (by decide +kernel)
theorem kw_766 : (Jvm.Cond.methodLink "KeptLight$World" (82 : Nat) ({ cls := "KeptLight$Fleet", name := "isPlaceOf", desc := "(II)Z" } : Jvm.MethodName)) ∈ kx_tbl := kx_m 816 (by decide +kernel) (by decide +kernel)
theorem kw_767 : (Jvm.Cond.methodLink "KeptLight$World" (86 : Nat) ({ cls := "KeptLight$Fleet", name := "shipInPlace", desc := "(I)I" } : Jvm.MethodName)) ∈ kx_tbl := kx_m 817 (by decide +kernel) (by decide +kernel)
theorem kw_768 : (Jvm.Cond.methodLink "KeptLight$World" (89 : Nat) ({ cls := "KeptLight$Fleet", name := "kindOf", desc := "(I)I" } : Jvm.MethodName)) ∈ kx_tbl := kx_m 818 (by decide +kernel) (by decide +kernel)
theorem kw_770 : (Jvm.Cond.static ({ cls := "KeptLight", name := "fateIn", desc := "(LKeptLight$Station;I)I" } : Jvm.MethodName)) ∈ kx_tbl := kx_m 820 (by decide +kernel) (by decide +kernel)
theorem kw_771 : (Jvm.Cond.code ({ cls := "KeptLight", name := "fateIn", desc := "(LKeptLight$Station;I)I" } : Jvm.MethodName) prog_1_method_63_code (4 : Nat) (Option.some Jvm.ClassFile.FieldType.int)) ∈ kx_tbl := kx_m 821 (by decide +kernel) (by decide +kernel)
theorem kw_772 : (Jvm.Cond.methodLink "KeptLight$World" (96 : Nat) ({ cls := "KeptLight$Fleet", name := "becameOf", desc := "(III)V" } : Jvm.MethodName)) ∈ kx_tbl := kx_m 822 (by decide +kernel) (by decide +kernel)
theorem kw_773 : (Jvm.Cond.instanceMethod ({ cls := "KeptLight$Fleet", name := "becameOf", desc := "(III)V" } : Jvm.MethodName)) ∈ kx_tbl := kx_m 823 (by decide +kernel) (by decide +kernel)
theorem kw_774 : (Jvm.Cond.selects "KeptLight$Fleet" ({ cls := "KeptLight$Fleet", name := "becameOf", desc := "(III)V" } : Jvm.MethodName) ({ cls := "KeptLight$Fleet", name := "becameOf", desc := "(III)V" } : Jvm.MethodName)) ∈ kx_tbl := kx_m 824 (by decide +kernel) (by decide +kernel)
theorem kw_775 : (Jvm.Cond.code ({ cls := "KeptLight$Fleet", name := "becameOf", desc := "(III)V" } : Jvm.MethodName) prog_4_method_13_code (4 : Nat) (Option.none : Option Jvm.ClassFile.FieldType)) ∈ kx_tbl := kx_m 825 (by decide +kernel) (by decide +kernel)
theorem kw_776 : (Jvm.Cond.methodLink "KeptLight$World" (56 : Nat) ({ cls := "KeptLight$World", name := "writeLog", desc := "(I)V" } : Jvm.MethodName)) ∈ kx_tbl := kx_m 826 (by decide +kernel) (by decide +kernel)
theorem kw_778 : (Jvm.Cond.instanceMethod ({ cls := "KeptLight$World", name := "writeLog", desc := "(I)V" } : Jvm.MethodName)) ∈ kx_tbl := kx_m 828 (by decide +kernel) (by decide +kernel)
theorem kw_779 : (Jvm.Cond.code ({ cls := "KeptLight$World", name := "writeLog", desc := "(I)V" } : Jvm.MethodName) prog_11_method_4_code (4 : Nat) (Option.none : Option Jvm.ClassFile.FieldType)) ∈ kx_tbl := kx_m 829 (by decide +kernel) (by decide +kernel)
theorem kw_780 : (Jvm.Cond.methodLink "KeptLight$World" (100 : Nat) ({ cls := "KeptLight$Station", name := "isBoyAsleepOnWatch", desc := "()Z" } : Jvm.MethodName)) ∈ kx_tbl := kx_m 830 (by decide +kernel) (by decide +kernel)
theorem kw_781 : (Jvm.Cond.instanceMethod ({ cls := "KeptLight$Station", name := "isBoyAsleepOnWatch", desc := "()Z" } : Jvm.MethodName)) ∈ kx_tbl := kx_m 831 (by decide +kernel) (by decide +kernel)
theorem kw_782 : (Jvm.Cond.selects "KeptLight$Station" ({ cls := "KeptLight$Station", name := "isBoyAsleepOnWatch", desc := "()Z" } : Jvm.MethodName) ({ cls := "KeptLight$Station", name := "isBoyAsleepOnWatch", desc := "()Z" } : Jvm.MethodName)) ∈ kx_tbl := kx_m 832 (by decide +kernel) (by decide +kernel)
theorem kw_783 : (Jvm.Cond.code ({ cls := "KeptLight$Station", name := "isBoyAsleepOnWatch", desc := "()Z" } : Jvm.MethodName) prog_8_method_13_code (1 : Nat) (Option.some Jvm.ClassFile.FieldType.boolean)) ∈ kx_tbl := kx_m 833 (by decide +kernel) (by decide +kernel)
theorem kw_784 : (Jvm.Cond.methodLink "KeptLight$Station" (139 : Nat) ({ cls := "KeptLight$Station", name := "isAsleepOnWatch", desc := "()Z" } : Jvm.MethodName)) ∈ kx_tbl := kx_m 834 (by decide +kernel) (by decide +kernel)
theorem kw_785 : (Jvm.Cond.instanceMethod ({ cls := "KeptLight$Station", name := "isAsleepOnWatch", desc := "()Z" } : Jvm.MethodName)) ∈ kx_tbl := kx_m 835 (by decide +kernel) (by decide +kernel)
theorem kw_786 : (Jvm.Cond.selects "KeptLight$Station" ({ cls := "KeptLight$Station", name := "isAsleepOnWatch", desc := "()Z" } : Jvm.MethodName) ({ cls := "KeptLight$Station", name := "isAsleepOnWatch", desc := "()Z" } : Jvm.MethodName)) ∈ kx_tbl := kx_m 836 (by decide +kernel) (by decide +kernel)
theorem kw_787 : (Jvm.Cond.code ({ cls := "KeptLight$Station", name := "isAsleepOnWatch", desc := "()Z" } : Jvm.MethodName) prog_8_method_12_code (1 : Nat) (Option.some Jvm.ClassFile.FieldType.boolean)) ∈ kx_tbl := kx_m 837 (by decide +kernel) (by decide +kernel)
theorem kw_788 : (Jvm.Cond.methodLink "KeptLight$Station" (136 : Nat) ({ cls := "KeptLight$Crew", name := "has", desc := "(I)Z" } : Jvm.MethodName)) ∈ kx_tbl := kx_m 838 (by decide +kernel) (by decide +kernel)
theorem kw_789 : (Jvm.Cond.methodLink "KeptLight$Station" (143 : Nat) ({ cls := "KeptLight$Crew", name := "rankOf", desc := "(I)I" } : Jvm.MethodName)) ∈ kx_tbl := kx_m 839 (by decide +kernel) (by decide +kernel)
theorem kw_790 : (Jvm.Cond.methodLink "KeptLight$World" (106 : Nat) ({ cls := "KeptLight$World", name := "enter", desc := "(II)V" } : Jvm.MethodName)) ∈ kx_tbl := kx_m 840 (by decide +kernel) (by decide +kernel)
theorem kw_792 : (Jvm.Cond.instanceMethod ({ cls := "KeptLight$World", name := "enter", desc := "(II)V" } : Jvm.MethodName)) ∈ kx_tbl := kx_m 842 (by decide +kernel) (by decide +kernel)
theorem kw_793 : (Jvm.Cond.code ({ cls := "KeptLight$World", name := "enter", desc := "(II)V" } : Jvm.MethodName) prog_11_method_5_code (3 : Nat) (Option.none : Option Jvm.ClassFile.FieldType)) ∈ kx_tbl := kx_m 843 (by decide +kernel) (by decide +kernel)
theorem kw_794 : (Jvm.Cond.methodLink "KeptLight$World" (119 : Nat) ({ cls := "KeptLight$LogBook", name := "write", desc := "(IIII)V" } : Jvm.MethodName)) ∈ kx_tbl := kx_m 844 (by decide +kernel) (by decide +kernel)
theorem kw_795 : (Jvm.Cond.instanceMethod ({ cls := "KeptLight$LogBook", name := "write", desc := "(IIII)V" } : Jvm.MethodName)) ∈ kx_tbl := kx_m 845 (by decide +kernel) (by decide +kernel)
theorem kw_796 : (Jvm.Cond.selects "KeptLight$LogBook" ({ cls := "KeptLight$LogBook", name := "write", desc := "(IIII)V" } : Jvm.MethodName) ({ cls := "KeptLight$LogBook", name := "write", desc := "(IIII)V" } : Jvm.MethodName)) ∈ kx_tbl := kx_m 846 (by decide +kernel) (by decide +kernel)
theorem kw_797 : (Jvm.Cond.code ({ cls := "KeptLight$LogBook", name := "write", desc := "(IIII)V" } : Jvm.MethodName) prog_5_method_3_code (5 : Nat) (Option.none : Option Jvm.ClassFile.FieldType)) ∈ kx_tbl := kx_m 847 (by decide +kernel) (by decide +kernel)
theorem kw_798 : (Jvm.Cond.methodLink "KeptLight$World" (113 : Nat) ({ cls := "KeptLight$Fleet", name := "fateOf", desc := "(I)I" } : Jvm.MethodName)) ∈ kx_tbl := kx_m 848 (by decide +kernel) (by decide +kernel)
theorem kw_799 : (Jvm.Cond.methodLink "KeptLight$World" (59 : Nat) ({ cls := "KeptLight$Station", name := "isUnlit", desc := "()Z" } : Jvm.MethodName)) ∈ kx_tbl := kx_m 849 (by decide +kernel) (by decide +kernel)
theorem kw_800 : (Jvm.Cond.instanceMethod ({ cls := "KeptLight$Station", name := "isUnlit", desc := "()Z" } : Jvm.MethodName)) ∈ kx_tbl := kx_m 850 (by decide +kernel) (by decide +kernel)
theorem kw_801 : (Jvm.Cond.selects "KeptLight$Station" ({ cls := "KeptLight$Station", name := "isUnlit", desc := "()Z" } : Jvm.MethodName) ({ cls := "KeptLight$Station", name := "isUnlit", desc := "()Z" } : Jvm.MethodName)) ∈ kx_tbl := kx_m 851 (by decide +kernel) (by decide +kernel)
theorem kw_802 : (Jvm.Cond.code ({ cls := "KeptLight$Station", name := "isUnlit", desc := "()Z" } : Jvm.MethodName) prog_8_method_11_code (1 : Nat) (Option.some Jvm.ClassFile.FieldType.boolean)) ∈ kx_tbl := kx_m 852 (by decide +kernel) (by decide +kernel)
theorem kw_803 : (Jvm.Cond.methodLink "KeptLight$World" (63 : Nat) ({ cls := "java/lang/Math", name := "floorMod", desc := "(II)I" } : Jvm.MethodName)) ∈ kx_tbl := kx_m 853 (by decide +kernel) (by decide +kernel)
theorem kw_804 : (Jvm.Cond.methodLink "KeptLight$World" (69 : Nat) ({ cls := "KeptLight$Station", name := "endHour", desc := "()V" } : Jvm.MethodName)) ∈ kx_tbl := kx_m 854 (by decide +kernel) (by decide +kernel)
theorem kw_805 : (Jvm.Cond.instanceMethod ({ cls := "KeptLight$Station", name := "endHour", desc := "()V" } : Jvm.MethodName)) ∈ kx_tbl := kx_m 855 (by decide +kernel) (by decide +kernel)
theorem kw_806 : (Jvm.Cond.selects "KeptLight$Station" ({ cls := "KeptLight$Station", name := "endHour", desc := "()V" } : Jvm.MethodName) ({ cls := "KeptLight$Station", name := "endHour", desc := "()V" } : Jvm.MethodName)) ∈ kx_tbl := kx_m 856 (by decide +kernel) (by decide +kernel)
theorem kw_807 : (Jvm.Cond.code ({ cls := "KeptLight$Station", name := "endHour", desc := "()V" } : Jvm.MethodName) prog_8_method_9_code (1 : Nat) (Option.none : Option Jvm.ClassFile.FieldType)) ∈ kx_tbl := kx_m 857 (by decide +kernel) (by decide +kernel)
theorem kw_808 : (Jvm.Cond.methodLink "KeptLight$Station" (109 : Nat) ({ cls := "KeptLight$Crew", name := "spendHour", desc := "(IZI)V" } : Jvm.MethodName)) ∈ kx_tbl := kx_m 858 (by decide +kernel) (by decide +kernel)
theorem kw_809 : (Jvm.Cond.instanceMethod ({ cls := "KeptLight$Crew", name := "spendHour", desc := "(IZI)V" } : Jvm.MethodName)) ∈ kx_tbl := kx_m 859 (by decide +kernel) (by decide +kernel)
theorem kw_810 : (Jvm.Cond.selects "KeptLight$Crew" ({ cls := "KeptLight$Crew", name := "spendHour", desc := "(IZI)V" } : Jvm.MethodName) ({ cls := "KeptLight$Crew", name := "spendHour", desc := "(IZI)V" } : Jvm.MethodName)) ∈ kx_tbl := kx_m 860 (by decide +kernel) (by decide +kernel)
theorem kw_811 : (Jvm.Cond.code ({ cls := "KeptLight$Crew", name := "spendHour", desc := "(IZI)V" } : Jvm.MethodName) prog_3_method_12_code (5 : Nat) (Option.none : Option Jvm.ClassFile.FieldType)) ∈ kx_tbl := kx_m 861 (by decide +kernel) (by decide +kernel)
theorem kw_812 : (Jvm.Cond.methodLink "KeptLight$Crew" (43 : Nat) ({ cls := "java/lang/Math", name := "max", desc := "(II)I" } : Jvm.MethodName)) ∈ kx_tbl := kx_m 862 (by decide +kernel) (by decide +kernel)
theorem kw_813 : (Jvm.Cond.static ({ cls := "java/lang/Math", name := "max", desc := "(II)I" } : Jvm.MethodName)) ∈ kx_tbl := kx_m 863 (by decide +kernel) (by decide +kernel)
theorem kw_814 : (Jvm.Cond.code ({ cls := "java/lang/Math", name := "max", desc := "(II)I" } : Jvm.MethodName) prog_14_method_65_code (2 : Nat) (Option.some Jvm.ClassFile.FieldType.int)) ∈ kx_tbl := kx_m 864 (by decide +kernel) (by decide +kernel)
theorem kw_815 : (Jvm.Cond.methodLink "KeptLight$Station" (113 : Nat) ({ cls := "KeptLight$Boat", name := "isDueAt", desc := "(I)Z" } : Jvm.MethodName)) ∈ kx_tbl := kx_m 865 (by decide +kernel) (by decide +kernel)
theorem kw_816 : (Jvm.Cond.instanceMethod ({ cls := "KeptLight$Boat", name := "isDueAt", desc := "(I)Z" } : Jvm.MethodName)) ∈ kx_tbl := kx_m 866 (by decide +kernel) (by decide +kernel)
theorem kw_817 : (Jvm.Cond.selects "KeptLight$Boat" ({ cls := "KeptLight$Boat", name := "isDueAt", desc := "(I)Z" } : Jvm.MethodName) ({ cls := "KeptLight$Boat", name := "isDueAt", desc := "(I)Z" } : Jvm.MethodName)) ∈ kx_tbl := kx_m 867 (by decide +kernel) (by decide +kernel)
theorem kw_818 : (Jvm.Cond.code ({ cls := "KeptLight$Boat", name := "isDueAt", desc := "(I)Z" } : Jvm.MethodName) prog_2_method_2_code (2 : Nat) (Option.some Jvm.ClassFile.FieldType.boolean)) ∈ kx_tbl := kx_m 868 (by decide +kernel) (by decide +kernel)
theorem kw_819 : (Jvm.Cond.methodLink "KeptLight$Station" (116 : Nat) ({ cls := "KeptLight$Station", name := "meetBoat", desc := "()V" } : Jvm.MethodName)) ∈ kx_tbl := kx_m 869 (by decide +kernel) (by decide +kernel)
theorem kw_821 : (Jvm.Cond.instanceMethod ({ cls := "KeptLight$Station", name := "meetBoat", desc := "()V" } : Jvm.MethodName)) ∈ kx_tbl := kx_m 871 (by decide +kernel) (by decide +kernel)
theorem kw_822 : (Jvm.Cond.code ({ cls := "KeptLight$Station", name := "meetBoat", desc := "()V" } : Jvm.MethodName) prog_8_method_10_code (1 : Nat) (Option.none : Option Jvm.ClassFile.FieldType)) ∈ kx_tbl := kx_m 872 (by decide +kernel) (by decide +kernel)
theorem kw_823 : (Jvm.Cond.methodLink "KeptLight$Station" (120 : Nat) ({ cls := "java/lang/Math", name := "min", desc := "(II)I" } : Jvm.MethodName)) ∈ kx_tbl := kx_m 873 (by decide +kernel) (by decide +kernel)
theorem kw_824 : (Jvm.Cond.static ({ cls := "java/lang/Math", name := "min", desc := "(II)I" } : Jvm.MethodName)) ∈ kx_tbl := kx_m 874 (by decide +kernel) (by decide +kernel)
theorem kw_825 : (Jvm.Cond.code ({ cls := "java/lang/Math", name := "min", desc := "(II)I" } : Jvm.MethodName) prog_14_method_69_code (2 : Nat) (Option.some Jvm.ClassFile.FieldType.int)) ∈ kx_tbl := kx_m 875 (by decide +kernel) (by decide +kernel)
theorem kw_826 : (Jvm.Cond.methodLink "KeptLight$Station" (124 : Nat) ({ cls := "KeptLight$Crew", name := "restAll", desc := "()V" } : Jvm.MethodName)) ∈ kx_tbl := kx_m 876 (by decide +kernel) (by decide +kernel)
theorem kw_827 : (Jvm.Cond.instanceMethod ({ cls := "KeptLight$Crew", name := "restAll", desc := "()V" } : Jvm.MethodName)) ∈ kx_tbl := kx_m 877 (by decide +kernel) (by decide +kernel)
theorem kw_828 : (Jvm.Cond.selects "KeptLight$Crew" ({ cls := "KeptLight$Crew", name := "restAll", desc := "()V" } : Jvm.MethodName) ({ cls := "KeptLight$Crew", name := "restAll", desc := "()V" } : Jvm.MethodName)) ∈ kx_tbl := kx_m 878 (by decide +kernel) (by decide +kernel)
theorem kw_829 : (Jvm.Cond.code ({ cls := "KeptLight$Crew", name := "restAll", desc := "()V" } : Jvm.MethodName) prog_3_method_13_code (2 : Nat) (Option.none : Option Jvm.ClassFile.FieldType)) ∈ kx_tbl := kx_m 879 (by decide +kernel) (by decide +kernel)
theorem kw_830 : (Jvm.Cond.methodLink "KeptLightLaw" (166 : Nat) ({ cls := "KeptLight", name := "days", desc := "(I)I" } : Jvm.MethodName)) ∈ kx_tbl := kx_m 880 (by decide +kernel) (by decide +kernel)
theorem kw_831 : (Jvm.Cond.instanceMethod ({ cls := "KeptLight", name := "days", desc := "(I)I" } : Jvm.MethodName)) ∈ kx_tbl := kx_m 881 (by decide +kernel) (by decide +kernel)
theorem kw_832 : (Jvm.Cond.selects "KeptLight" ({ cls := "KeptLight", name := "days", desc := "(I)I" } : Jvm.MethodName) ({ cls := "KeptLight", name := "days", desc := "(I)I" } : Jvm.MethodName)) ∈ kx_tbl := kx_m 882 (by decide +kernel) (by decide +kernel)
theorem kw_833 : (Jvm.Cond.code ({ cls := "KeptLight", name := "days", desc := "(I)I" } : Jvm.MethodName) prog_1_method_28_code (4 : Nat) (Option.some Jvm.ClassFile.FieldType.int)) ∈ kx_tbl := kx_m 883 (by decide +kernel) (by decide +kernel)
theorem kw_834 : (Jvm.Cond.methodLink "KeptLight" (301 : Nat) ({ cls := "KeptLight$World", name := "passDay", desc := "()V" } : Jvm.MethodName)) ∈ kx_tbl := kx_m 884 (by decide +kernel) (by decide +kernel)
theorem kw_835 : (Jvm.Cond.instanceMethod ({ cls := "KeptLight$World", name := "passDay", desc := "()V" } : Jvm.MethodName)) ∈ kx_tbl := kx_m 885 (by decide +kernel) (by decide +kernel)
theorem kw_836 : (Jvm.Cond.selects "KeptLight$World" ({ cls := "KeptLight$World", name := "passDay", desc := "()V" } : Jvm.MethodName) ({ cls := "KeptLight$World", name := "passDay", desc := "()V" } : Jvm.MethodName)) ∈ kx_tbl := kx_m 886 (by decide +kernel) (by decide +kernel)
theorem kw_837 : (Jvm.Cond.code ({ cls := "KeptLight$World", name := "passDay", desc := "()V" } : Jvm.MethodName) prog_11_method_6_code (2 : Nat) (Option.none : Option Jvm.ClassFile.FieldType)) ∈ kx_tbl := kx_m 887 (by decide +kernel) (by decide +kernel)
theorem kw_838 : (Jvm.Cond.methodLink "KeptLight$World" (123 : Nat) ({ cls := "KeptLight$World", name := "draw", desc := "(I)I" } : Jvm.MethodName)) ∈ kx_tbl := kx_m 888 (by decide +kernel) (by decide +kernel)
theorem kw_840 : (Jvm.Cond.instanceMethod ({ cls := "KeptLight$World", name := "draw", desc := "(I)I" } : Jvm.MethodName)) ∈ kx_tbl := kx_m 890 (by decide +kernel) (by decide +kernel)
theorem kw_841 : (Jvm.Cond.code ({ cls := "KeptLight$World", name := "draw", desc := "(I)I" } : Jvm.MethodName) prog_11_method_7_code (2 : Nat) (Option.some Jvm.ClassFile.FieldType.int)) ∈ kx_tbl := kx_m 891 (by decide +kernel) (by decide +kernel)
theorem kw_842 : (Jvm.Cond.constant "KeptLight$World" (135 : Nat) (1103515245 : Int32)) ∈ kx_tbl := kx_m 892 (by decide +kernel) (by decide +kernel)
theorem kw_843 : (Jvm.Cond.methodLink "KeptLight$World" (126 : Nat) ({ cls := "KeptLight$Fleet", name := "isFull", desc := "()Z" } : Jvm.MethodName)) ∈ kx_tbl := kx_m 893 (by decide +kernel) (by decide +kernel)
theorem kw_844 : (Jvm.Cond.methodLink "KeptLight$World" (129 : Nat) ({ cls := "KeptLight$Fleet", name := "expect", desc := "(II)I" } : Jvm.MethodName)) ∈ kx_tbl := kx_m 894 (by decide +kernel) (by decide +kernel)
theorem kw_845 : (Jvm.Cond.methodLink "KeptLight$World" (132 : Nat) ({ cls := "KeptLight$World", name := "passHour", desc := "()V" } : Jvm.MethodName)) ∈ kx_tbl := kx_m 895 (by decide +kernel) (by decide +kernel)
theorem kw_846 : (Jvm.Cond.methodLink "KeptLightLaw" (170 : Nat) ({ cls := "KeptLight", name := "seed", desc := "(I)I" } : Jvm.MethodName)) ∈ kx_tbl := kx_m 896 (by decide +kernel) (by decide +kernel)
theorem kw_847 : (Jvm.Cond.instanceMethod ({ cls := "KeptLight", name := "seed", desc := "(I)I" } : Jvm.MethodName)) ∈ kx_tbl := kx_m 897 (by decide +kernel) (by decide +kernel)
theorem kw_848 : (Jvm.Cond.selects "KeptLight" ({ cls := "KeptLight", name := "seed", desc := "(I)I" } : Jvm.MethodName) ({ cls := "KeptLight", name := "seed", desc := "(I)I" } : Jvm.MethodName)) ∈ kx_tbl := kx_m 898 (by decide +kernel) (by decide +kernel)
theorem kw_849 : (Jvm.Cond.code ({ cls := "KeptLight", name := "seed", desc := "(I)I" } : Jvm.MethodName) prog_1_method_29_code (3 : Nat) (Option.some Jvm.ClassFile.FieldType.int)) ∈ kx_tbl := kx_m 899 (by decide +kernel) (by decide +kernel)
theorem kw_850 : (Jvm.Cond.methodLink "KeptLightLaw" (114 : Nat) ({ cls := "KeptLight", name := "log", desc := "(II)I" } : Jvm.MethodName)) ∈ kx_tbl := kx_m 900 (by decide +kernel) (by decide +kernel)
theorem kw_851 : (Jvm.Cond.instanceMethod ({ cls := "KeptLight", name := "log", desc := "(II)I" } : Jvm.MethodName)) ∈ kx_tbl := kx_m 901 (by decide +kernel) (by decide +kernel)
theorem kw_852 : (Jvm.Cond.selects "KeptLight" ({ cls := "KeptLight", name := "log", desc := "(II)I" } : Jvm.MethodName) ({ cls := "KeptLight", name := "log", desc := "(II)I" } : Jvm.MethodName)) ∈ kx_tbl := kx_m 902 (by decide +kernel) (by decide +kernel)
theorem kw_853 : (Jvm.Cond.code ({ cls := "KeptLight", name := "log", desc := "(II)I" } : Jvm.MethodName) prog_1_method_30_code (4 : Nat) (Option.some Jvm.ClassFile.FieldType.int)) ∈ kx_tbl := kx_m 903 (by decide +kernel) (by decide +kernel)
theorem kw_854 : (Jvm.Cond.methodLink "KeptLight" (311 : Nat) ({ cls := "KeptLight$LogBook", name := "has", desc := "(I)Z" } : Jvm.MethodName)) ∈ kx_tbl := kx_m 904 (by decide +kernel) (by decide +kernel)
theorem kw_855 : (Jvm.Cond.instanceMethod ({ cls := "KeptLight$LogBook", name := "has", desc := "(I)Z" } : Jvm.MethodName)) ∈ kx_tbl := kx_m 905 (by decide +kernel) (by decide +kernel)
theorem kw_856 : (Jvm.Cond.selects "KeptLight$LogBook" ({ cls := "KeptLight$LogBook", name := "has", desc := "(I)Z" } : Jvm.MethodName) ({ cls := "KeptLight$LogBook", name := "has", desc := "(I)Z" } : Jvm.MethodName)) ∈ kx_tbl := kx_m 906 (by decide +kernel) (by decide +kernel)
theorem kw_857 : (Jvm.Cond.code ({ cls := "KeptLight$LogBook", name := "has", desc := "(I)Z" } : Jvm.MethodName) prog_5_method_2_code (2 : Nat) (Option.some Jvm.ClassFile.FieldType.boolean)) ∈ kx_tbl := kx_m 907 (by decide +kernel) (by decide +kernel)
theorem kw_858 : (Jvm.Cond.methodLink "KeptLight" (314 : Nat) ({ cls := "KeptLight$LogBook", name := "hourOf", desc := "(I)I" } : Jvm.MethodName)) ∈ kx_tbl := kx_m 908 (by decide +kernel) (by decide +kernel)
theorem kw_859 : (Jvm.Cond.instanceMethod ({ cls := "KeptLight$LogBook", name := "hourOf", desc := "(I)I" } : Jvm.MethodName)) ∈ kx_tbl := kx_m 909 (by decide +kernel) (by decide +kernel)
theorem kw_860 : (Jvm.Cond.selects "KeptLight$LogBook" ({ cls := "KeptLight$LogBook", name := "hourOf", desc := "(I)I" } : Jvm.MethodName) ({ cls := "KeptLight$LogBook", name := "hourOf", desc := "(I)I" } : Jvm.MethodName)) ∈ kx_tbl := kx_m 910 (by decide +kernel) (by decide +kernel)
theorem kw_861 : (Jvm.Cond.code ({ cls := "KeptLight$LogBook", name := "hourOf", desc := "(I)I" } : Jvm.MethodName) prog_5_method_4_code (2 : Nat) (Option.some Jvm.ClassFile.FieldType.int)) ∈ kx_tbl := kx_m 911 (by decide +kernel) (by decide +kernel)
theorem kw_862 : (Jvm.Cond.methodLink "KeptLight$LogBook" (28 : Nat) ({ cls := "KeptLight$LogBook", name := "has", desc := "(I)Z" } : Jvm.MethodName)) ∈ kx_tbl := kx_m 912 (by decide +kernel) (by decide +kernel)
theorem kw_863 : (Jvm.Cond.methodLink "KeptLight" (315 : Nat) ({ cls := "KeptLight$LogBook", name := "sortOf", desc := "(I)I" } : Jvm.MethodName)) ∈ kx_tbl := kx_m 913 (by decide +kernel) (by decide +kernel)
theorem kw_864 : (Jvm.Cond.instanceMethod ({ cls := "KeptLight$LogBook", name := "sortOf", desc := "(I)I" } : Jvm.MethodName)) ∈ kx_tbl := kx_m 914 (by decide +kernel) (by decide +kernel)
theorem kw_865 : (Jvm.Cond.selects "KeptLight$LogBook" ({ cls := "KeptLight$LogBook", name := "sortOf", desc := "(I)I" } : Jvm.MethodName) ({ cls := "KeptLight$LogBook", name := "sortOf", desc := "(I)I" } : Jvm.MethodName)) ∈ kx_tbl := kx_m 915 (by decide +kernel) (by decide +kernel)
theorem kw_866 : (Jvm.Cond.code ({ cls := "KeptLight$LogBook", name := "sortOf", desc := "(I)I" } : Jvm.MethodName) prog_5_method_5_code (2 : Nat) (Option.some Jvm.ClassFile.FieldType.int)) ∈ kx_tbl := kx_m 916 (by decide +kernel) (by decide +kernel)
theorem kw_867 : (Jvm.Cond.methodLink "KeptLight" (318 : Nat) ({ cls := "KeptLight$LogBook", name := "shipOfEntry", desc := "(I)I" } : Jvm.MethodName)) ∈ kx_tbl := kx_m 917 (by decide +kernel) (by decide +kernel)
theorem kw_868 : (Jvm.Cond.instanceMethod ({ cls := "KeptLight$LogBook", name := "shipOfEntry", desc := "(I)I" } : Jvm.MethodName)) ∈ kx_tbl := kx_m 918 (by decide +kernel) (by decide +kernel)
theorem kw_869 : (Jvm.Cond.selects "KeptLight$LogBook" ({ cls := "KeptLight$LogBook", name := "shipOfEntry", desc := "(I)I" } : Jvm.MethodName) ({ cls := "KeptLight$LogBook", name := "shipOfEntry", desc := "(I)I" } : Jvm.MethodName)) ∈ kx_tbl := kx_m 919 (by decide +kernel) (by decide +kernel)
theorem kw_870 : (Jvm.Cond.code ({ cls := "KeptLight$LogBook", name := "shipOfEntry", desc := "(I)I" } : Jvm.MethodName) prog_5_method_6_code (2 : Nat) (Option.some Jvm.ClassFile.FieldType.int)) ∈ kx_tbl := kx_m 920 (by decide +kernel) (by decide +kernel)
theorem kw_871 : (Jvm.Cond.methodLink "KeptLight" (321 : Nat) ({ cls := "KeptLight$LogBook", name := "writerOf", desc := "(I)I" } : Jvm.MethodName)) ∈ kx_tbl := kx_m 921 (by decide +kernel) (by decide +kernel)
theorem kw_872 : (Jvm.Cond.instanceMethod ({ cls := "KeptLight$LogBook", name := "writerOf", desc := "(I)I" } : Jvm.MethodName)) ∈ kx_tbl := kx_m 922 (by decide +kernel) (by decide +kernel)
theorem kw_873 : (Jvm.Cond.selects "KeptLight$LogBook" ({ cls := "KeptLight$LogBook", name := "writerOf", desc := "(I)I" } : Jvm.MethodName) ({ cls := "KeptLight$LogBook", name := "writerOf", desc := "(I)I" } : Jvm.MethodName)) ∈ kx_tbl := kx_m 923 (by decide +kernel) (by decide +kernel)
theorem kw_874 : (Jvm.Cond.code ({ cls := "KeptLight$LogBook", name := "writerOf", desc := "(I)I" } : Jvm.MethodName) prog_5_method_7_code (2 : Nat) (Option.some Jvm.ClassFile.FieldType.int)) ∈ kx_tbl := kx_m 924 (by decide +kernel) (by decide +kernel)
theorem kw_875 : (Jvm.Cond.methodLink "KeptLightLaw" (118 : Nat) ({ cls := "KeptLight", name := "logged", desc := "(I)I" } : Jvm.MethodName)) ∈ kx_tbl := kx_m 925 (by decide +kernel) (by decide +kernel)
theorem kw_876 : (Jvm.Cond.instanceMethod ({ cls := "KeptLight", name := "logged", desc := "(I)I" } : Jvm.MethodName)) ∈ kx_tbl := kx_m 926 (by decide +kernel) (by decide +kernel)
theorem kw_877 : (Jvm.Cond.selects "KeptLight" ({ cls := "KeptLight", name := "logged", desc := "(I)I" } : Jvm.MethodName) ({ cls := "KeptLight", name := "logged", desc := "(I)I" } : Jvm.MethodName)) ∈ kx_tbl := kx_m 927 (by decide +kernel) (by decide +kernel)
theorem kw_878 : (Jvm.Cond.code ({ cls := "KeptLight", name := "logged", desc := "(I)I" } : Jvm.MethodName) prog_1_method_31_code (2 : Nat) (Option.some Jvm.ClassFile.FieldType.int)) ∈ kx_tbl := kx_m 928 (by decide +kernel) (by decide +kernel)
theorem kw_879 : (Jvm.Cond.methodLink "KeptLight" (327 : Nat) ({ cls := "KeptLight$LogBook", name := "countOf", desc := "(I)I" } : Jvm.MethodName)) ∈ kx_tbl := kx_m 929 (by decide +kernel) (by decide +kernel)
theorem kw_880 : (Jvm.Cond.instanceMethod ({ cls := "KeptLight$LogBook", name := "countOf", desc := "(I)I" } : Jvm.MethodName)) ∈ kx_tbl := kx_m 930 (by decide +kernel) (by decide +kernel)
theorem kw_881 : (Jvm.Cond.selects "KeptLight$LogBook" ({ cls := "KeptLight$LogBook", name := "countOf", desc := "(I)I" } : Jvm.MethodName) ({ cls := "KeptLight$LogBook", name := "countOf", desc := "(I)I" } : Jvm.MethodName)) ∈ kx_tbl := kx_m 931 (by decide +kernel) (by decide +kernel)
theorem kw_882 : (Jvm.Cond.code ({ cls := "KeptLight$LogBook", name := "countOf", desc := "(I)I" } : Jvm.MethodName) prog_5_method_8_code (4 : Nat) (Option.some Jvm.ClassFile.FieldType.int)) ∈ kx_tbl := kx_m 932 (by decide +kernel) (by decide +kernel)
theorem kw_883 : (Jvm.Cond.methodLink "KeptLightLaw" (122 : Nat) ({ cls := "KeptLight", name := "difference", desc := "(II)I" } : Jvm.MethodName)) ∈ kx_tbl := kx_m 933 (by decide +kernel) (by decide +kernel)
theorem kw_884 : (Jvm.Cond.instanceMethod ({ cls := "KeptLight", name := "difference", desc := "(II)I" } : Jvm.MethodName)) ∈ kx_tbl := kx_m 934 (by decide +kernel) (by decide +kernel)
theorem kw_885 : (Jvm.Cond.selects "KeptLight" ({ cls := "KeptLight", name := "difference", desc := "(II)I" } : Jvm.MethodName) ({ cls := "KeptLight", name := "difference", desc := "(II)I" } : Jvm.MethodName)) ∈ kx_tbl := kx_m 935 (by decide +kernel) (by decide +kernel)
theorem kw_886 : (Jvm.Cond.code ({ cls := "KeptLight", name := "difference", desc := "(II)I" } : Jvm.MethodName) prog_1_method_32_code (4 : Nat) (Option.some Jvm.ClassFile.FieldType.int)) ∈ kx_tbl := kx_m 936 (by decide +kernel) (by decide +kernel)
theorem kw_887 : (Jvm.Cond.methodLink "KeptLight" (330 : Nat) ({ cls := "KeptLight$World", name := "entryOfDifference", desc := "(I)I" } : Jvm.MethodName)) ∈ kx_tbl := kx_m 937 (by decide +kernel) (by decide +kernel)
theorem kw_888 : (Jvm.Cond.instanceMethod ({ cls := "KeptLight$World", name := "entryOfDifference", desc := "(I)I" } : Jvm.MethodName)) ∈ kx_tbl := kx_m 938 (by decide +kernel) (by decide +kernel)
theorem kw_889 : (Jvm.Cond.selects "KeptLight$World" ({ cls := "KeptLight$World", name := "entryOfDifference", desc := "(I)I" } : Jvm.MethodName) ({ cls := "KeptLight$World", name := "entryOfDifference", desc := "(I)I" } : Jvm.MethodName)) ∈ kx_tbl := kx_m 939 (by decide +kernel) (by decide +kernel)
theorem kw_890 : (Jvm.Cond.code ({ cls := "KeptLight$World", name := "entryOfDifference", desc := "(I)I" } : Jvm.MethodName) prog_11_method_9_code (4 : Nat) (Option.some Jvm.ClassFile.FieldType.int)) ∈ kx_tbl := kx_m 940 (by decide +kernel) (by decide +kernel)
theorem kw_891 : (Jvm.Cond.methodLink "KeptLight$World" (146 : Nat) ({ cls := "KeptLight$World", name := "shipAgainst", desc := "(I)I" } : Jvm.MethodName)) ∈ kx_tbl := kx_m 941 (by decide +kernel) (by decide +kernel)
theorem kw_892 : (Jvm.Cond.instanceMethod ({ cls := "KeptLight$World", name := "shipAgainst", desc := "(I)I" } : Jvm.MethodName)) ∈ kx_tbl := kx_m 942 (by decide +kernel) (by decide +kernel)
theorem kw_893 : (Jvm.Cond.selects "KeptLight$World" ({ cls := "KeptLight$World", name := "shipAgainst", desc := "(I)I" } : Jvm.MethodName) ({ cls := "KeptLight$World", name := "shipAgainst", desc := "(I)I" } : Jvm.MethodName)) ∈ kx_tbl := kx_m 943 (by decide +kernel) (by decide +kernel)
theorem kw_894 : (Jvm.Cond.code ({ cls := "KeptLight$World", name := "shipAgainst", desc := "(I)I" } : Jvm.MethodName) prog_11_method_8_code (8 : Nat) (Option.some Jvm.ClassFile.FieldType.int)) ∈ kx_tbl := kx_m 944 (by decide +kernel) (by decide +kernel)
theorem kw_895 : (Jvm.Cond.methodLink "KeptLight$World" (136 : Nat) ({ cls := "KeptLight$LogBook", name := "sortOf", desc := "(I)I" } : Jvm.MethodName)) ∈ kx_tbl := kx_m 945 (by decide +kernel) (by decide +kernel)
theorem kw_896 : (Jvm.Cond.methodLink "KeptLight$World" (139 : Nat) ({ cls := "KeptLight$LogBook", name := "hourOf", desc := "(I)I" } : Jvm.MethodName)) ∈ kx_tbl := kx_m 946 (by decide +kernel) (by decide +kernel)
theorem kw_897 : (Jvm.Cond.methodLink "KeptLight$World" (142 : Nat) ({ cls := "KeptLight$Fleet", name := "metOf", desc := "(I)I" } : Jvm.MethodName)) ∈ kx_tbl := kx_m 947 (by decide +kernel) (by decide +kernel)
theorem kw_898 : (Jvm.Cond.methodLink "KeptLight" (333 : Nat) ({ cls := "KeptLight$World", name := "shipAgainst", desc := "(I)I" } : Jvm.MethodName)) ∈ kx_tbl := kx_m 948 (by decide +kernel) (by decide +kernel)
theorem kw_899 : (Jvm.Cond.methodLink "KeptLightLaw" (126 : Nat) ({ cls := "KeptLight", name := "differences", desc := "(I)I" } : Jvm.MethodName)) ∈ kx_tbl := kx_m 949 (by decide +kernel) (by decide +kernel)
theorem kw_900 : (Jvm.Cond.instanceMethod ({ cls := "KeptLight", name := "differences", desc := "(I)I" } : Jvm.MethodName)) ∈ kx_tbl := kx_m 950 (by decide +kernel) (by decide +kernel)
theorem kw_901 : (Jvm.Cond.selects "KeptLight" ({ cls := "KeptLight", name := "differences", desc := "(I)I" } : Jvm.MethodName) ({ cls := "KeptLight", name := "differences", desc := "(I)I" } : Jvm.MethodName)) ∈ kx_tbl := kx_m 951 (by decide +kernel) (by decide +kernel)
theorem kw_902 : (Jvm.Cond.code ({ cls := "KeptLight", name := "differences", desc := "(I)I" } : Jvm.MethodName) prog_1_method_33_code (2 : Nat) (Option.some Jvm.ClassFile.FieldType.int)) ∈ kx_tbl := kx_m 952 (by decide +kernel) (by decide +kernel)
theorem kw_903 : (Jvm.Cond.methodLink "KeptLight" (336 : Nat) ({ cls := "KeptLight$World", name := "countDifferences", desc := "(I)I" } : Jvm.MethodName)) ∈ kx_tbl := kx_m 953 (by decide +kernel) (by decide +kernel)
theorem kw_904 : (Jvm.Cond.instanceMethod ({ cls := "KeptLight$World", name := "countDifferences", desc := "(I)I" } : Jvm.MethodName)) ∈ kx_tbl := kx_m 954 (by decide +kernel) (by decide +kernel)
theorem kw_905 : (Jvm.Cond.selects "KeptLight$World" ({ cls := "KeptLight$World", name := "countDifferences", desc := "(I)I" } : Jvm.MethodName) ({ cls := "KeptLight$World", name := "countDifferences", desc := "(I)I" } : Jvm.MethodName)) ∈ kx_tbl := kx_m 955 (by decide +kernel) (by decide +kernel)
theorem kw_906 : (Jvm.Cond.code ({ cls := "KeptLight$World", name := "countDifferences", desc := "(I)I" } : Jvm.MethodName) prog_11_method_10_code (5 : Nat) (Option.some Jvm.ClassFile.FieldType.int)) ∈ kx_tbl := kx_m 956 (by decide +kernel) (by decide +kernel)
theorem kw_907 : (Jvm.Cond.methodLink "KeptLight$World" (149 : Nat) ({ cls := "KeptLight$LogBook", name := "writerOf", desc := "(I)I" } : Jvm.MethodName)) ∈ kx_tbl := kx_m 957 (by decide +kernel) (by decide +kernel)
theorem kw_908 : (Jvm.Cond.methodLink "KeptLightLaw" (130 : Nat) ({ cls := "KeptLight", name := "unlit", desc := "()I" } : Jvm.MethodName)) ∈ kx_tbl := kx_m 958 (by decide +kernel) (by decide +kernel)
theorem kw_909 : (Jvm.Cond.instanceMethod ({ cls := "KeptLight", name := "unlit", desc := "()I" } : Jvm.MethodName)) ∈ kx_tbl := kx_m 959 (by decide +kernel) (by decide +kernel)
theorem kw_910 : (Jvm.Cond.selects "KeptLight" ({ cls := "KeptLight", name := "unlit", desc := "()I" } : Jvm.MethodName) ({ cls := "KeptLight", name := "unlit", desc := "()I" } : Jvm.MethodName)) ∈ kx_tbl := kx_m 960 (by decide +kernel) (by decide +kernel)
theorem kw_911 : (Jvm.Cond.code ({ cls := "KeptLight", name := "unlit", desc := "()I" } : Jvm.MethodName) prog_1_method_34_code (1 : Nat) (Option.some Jvm.ClassFile.FieldType.int)) ∈ kx_tbl := kx_m 961 (by decide +kernel) (by decide +kernel)
theorem kw_912 : (Jvm.Cond.methodLink "KeptLightLaw" (162 : Nat) ({ cls := "KeptLight", name := "judge", desc := "(III)I" } : Jvm.MethodName)) ∈ kx_tbl := kx_m 962 (by decide +kernel) (by decide +kernel)
theorem kw_913 : (Jvm.Cond.instanceMethod ({ cls := "KeptLight", name := "judge", desc := "(III)I" } : Jvm.MethodName)) ∈ kx_tbl := kx_m 963 (by decide +kernel) (by decide +kernel)
theorem kw_914 : (Jvm.Cond.selects "KeptLight" ({ cls := "KeptLight", name := "judge", desc := "(III)I" } : Jvm.MethodName) ({ cls := "KeptLight", name := "judge", desc := "(III)I" } : Jvm.MethodName)) ∈ kx_tbl := kx_m 964 (by decide +kernel) (by decide +kernel)
theorem kw_915 : (Jvm.Cond.code ({ cls := "KeptLight", name := "judge", desc := "(III)I" } : Jvm.MethodName) prog_1_method_35_code (7 : Nat) (Option.some Jvm.ClassFile.FieldType.int)) ∈ kx_tbl := kx_m 965 (by decide +kernel) (by decide +kernel)
theorem kw_916 : (Jvm.Cond.methodLink "KeptLight" (342 : Nat) ({ cls := "KeptLight", name := "isAsTold", desc := "(IILKeptLight$Shelf;)Z" } : Jvm.MethodName)) ∈ kx_tbl := kx_m 966 (by decide +kernel) (by decide +kernel)
theorem kw_918 : (Jvm.Cond.instanceMethod ({ cls := "KeptLight", name := "isAsTold", desc := "(IILKeptLight$Shelf;)Z" } : Jvm.MethodName)) ∈ kx_tbl := kx_m 968 (by decide +kernel) (by decide +kernel)
theorem kw_919 : (Jvm.Cond.code ({ cls := "KeptLight", name := "isAsTold", desc := "(IILKeptLight$Shelf;)Z" } : Jvm.MethodName) prog_1_method_36_code (5 : Nat) (Option.some Jvm.ClassFile.FieldType.boolean)) ∈ kx_tbl := kx_m 969 (by decide +kernel) (by decide +kernel)
theorem kw_920 : (Jvm.Cond.methodLink "KeptLightLaw" (134 : Nat) ({ cls := "KeptLight", name := "would", desc := "(II)I" } : Jvm.MethodName)) ∈ kx_tbl := kx_m 970 (by decide +kernel) (by decide +kernel)
theorem kw_921 : (Jvm.Cond.instanceMethod ({ cls := "KeptLight", name := "would", desc := "(II)I" } : Jvm.MethodName)) ∈ kx_tbl := kx_m 971 (by decide +kernel) (by decide +kernel)
theorem kw_922 : (Jvm.Cond.selects "KeptLight" ({ cls := "KeptLight", name := "would", desc := "(II)I" } : Jvm.MethodName) ({ cls := "KeptLight", name := "would", desc := "(II)I" } : Jvm.MethodName)) ∈ kx_tbl := kx_m 972 (by decide +kernel) (by decide +kernel)
theorem kw_923 : (Jvm.Cond.code ({ cls := "KeptLight", name := "would", desc := "(II)I" } : Jvm.MethodName) prog_1_method_37_code (3 : Nat) (Option.some Jvm.ClassFile.FieldType.int)) ∈ kx_tbl := kx_m 973 (by decide +kernel) (by decide +kernel)
theorem kw_924 : (Jvm.Cond.methodLink "KeptLight" (346 : Nat) ({ cls := "KeptLight$Thought", name := "begin", desc := "(LKeptLight$World;)V" } : Jvm.MethodName)) ∈ kx_tbl := kx_m 974 (by decide +kernel) (by decide +kernel)
theorem kw_925 : (Jvm.Cond.instanceMethod ({ cls := "KeptLight$Thought", name := "begin", desc := "(LKeptLight$World;)V" } : Jvm.MethodName)) ∈ kx_tbl := kx_m 975 (by decide +kernel) (by decide +kernel)
theorem kw_926 : (Jvm.Cond.selects "KeptLight$Thought" ({ cls := "KeptLight$Thought", name := "begin", desc := "(LKeptLight$World;)V" } : Jvm.MethodName) ({ cls := "KeptLight$Thought", name := "begin", desc := "(LKeptLight$World;)V" } : Jvm.MethodName)) ∈ kx_tbl := kx_m 976 (by decide +kernel) (by decide +kernel)
theorem kw_927 : (Jvm.Cond.code ({ cls := "KeptLight$Thought", name := "begin", desc := "(LKeptLight$World;)V" } : Jvm.MethodName) prog_10_method_2_code (2 : Nat) (Option.none : Option Jvm.ClassFile.FieldType)) ∈ kx_tbl := kx_m 977 (by decide +kernel) (by decide +kernel)
theorem kw_928 : (Jvm.Cond.methodLink "KeptLight$Thought" (37 : Nat) ({ cls := "KeptLight$Station", name := "become", desc := "(LKeptLight$Station;)V" } : Jvm.MethodName)) ∈ kx_tbl := kx_m 978 (by decide +kernel) (by decide +kernel)
theorem kw_929 : (Jvm.Cond.instanceMethod ({ cls := "KeptLight$Station", name := "become", desc := "(LKeptLight$Station;)V" } : Jvm.MethodName)) ∈ kx_tbl := kx_m 979 (by decide +kernel) (by decide +kernel)
theorem kw_930 : (Jvm.Cond.selects "KeptLight$Station" ({ cls := "KeptLight$Station", name := "become", desc := "(LKeptLight$Station;)V" } : Jvm.MethodName) ({ cls := "KeptLight$Station", name := "become", desc := "(LKeptLight$Station;)V" } : Jvm.MethodName)) ∈ kx_tbl := kx_m 980 (by decide +kernel) (by decide +kernel)
theorem kw_931 : (Jvm.Cond.code ({ cls := "KeptLight$Station", name := "become", desc := "(LKeptLight$Station;)V" } : Jvm.MethodName) prog_8_method_14_code (2 : Nat) (Option.none : Option Jvm.ClassFile.FieldType)) ∈ kx_tbl := kx_m 981 (by decide +kernel) (by decide +kernel)
theorem kw_932 : (Jvm.Cond.methodLink "KeptLight$Station" (146 : Nat) ({ cls := "KeptLight$Sky", name := "become", desc := "(LKeptLight$Sky;)V" } : Jvm.MethodName)) ∈ kx_tbl := kx_m 982 (by decide +kernel) (by decide +kernel)
theorem kw_933 : (Jvm.Cond.methodLink "KeptLight$Station" (150 : Nat) ({ cls := "KeptLight$Crew", name := "become", desc := "(LKeptLight$Crew;)V" } : Jvm.MethodName)) ∈ kx_tbl := kx_m 983 (by decide +kernel) (by decide +kernel)
theorem kw_934 : (Jvm.Cond.instanceMethod ({ cls := "KeptLight$Crew", name := "become", desc := "(LKeptLight$Crew;)V" } : Jvm.MethodName)) ∈ kx_tbl := kx_m 984 (by decide +kernel) (by decide +kernel)
theorem kw_935 : (Jvm.Cond.selects "KeptLight$Crew" ({ cls := "KeptLight$Crew", name := "become", desc := "(LKeptLight$Crew;)V" } : Jvm.MethodName) ({ cls := "KeptLight$Crew", name := "become", desc := "(LKeptLight$Crew;)V" } : Jvm.MethodName)) ∈ kx_tbl := kx_m 985 (by decide +kernel) (by decide +kernel)
theorem kw_936 : (Jvm.Cond.code ({ cls := "KeptLight$Crew", name := "become", desc := "(LKeptLight$Crew;)V" } : Jvm.MethodName) prog_3_method_14_code (2 : Nat) (Option.none : Option Jvm.ClassFile.FieldType)) ∈ kx_tbl := kx_m 986 (by decide +kernel) (by decide +kernel)
theorem kw_937 : (Jvm.Cond.methodLink "KeptLight$Crew" (49 : Nat) ({ cls := "java/lang/System", name := "arraycopy", desc := "(Ljava/lang/Object;ILjava/lang/Object;II)V" } : Jvm.MethodName)) ∈ kx_tbl := kx_m 987 (by decide +kernel) (by decide +kernel)
theorem kw_938 : (Jvm.Cond.methodLink "KeptLight$Station" (153 : Nat) ({ cls := "KeptLight$Boat", name := "become", desc := "(LKeptLight$Boat;)V" } : Jvm.MethodName)) ∈ kx_tbl := kx_m 988 (by decide +kernel) (by decide +kernel)
theorem kw_939 : (Jvm.Cond.instanceMethod ({ cls := "KeptLight$Boat", name := "become", desc := "(LKeptLight$Boat;)V" } : Jvm.MethodName)) ∈ kx_tbl := kx_m 989 (by decide +kernel) (by decide +kernel)
theorem kw_940 : (Jvm.Cond.selects "KeptLight$Boat" ({ cls := "KeptLight$Boat", name := "become", desc := "(LKeptLight$Boat;)V" } : Jvm.MethodName) ({ cls := "KeptLight$Boat", name := "become", desc := "(LKeptLight$Boat;)V" } : Jvm.MethodName)) ∈ kx_tbl := kx_m 990 (by decide +kernel) (by decide +kernel)
theorem kw_941 : (Jvm.Cond.code ({ cls := "KeptLight$Boat", name := "become", desc := "(LKeptLight$Boat;)V" } : Jvm.MethodName) prog_2_method_3_code (2 : Nat) (Option.none : Option Jvm.ClassFile.FieldType)) ∈ kx_tbl := kx_m 991 (by decide +kernel) (by decide +kernel)
theorem kw_942 : (Jvm.Cond.methodLink "KeptLight$Station" (156 : Nat) ({ cls := "java/lang/System", name := "arraycopy", desc := "(Ljava/lang/Object;ILjava/lang/Object;II)V" } : Jvm.MethodName)) ∈ kx_tbl := kx_m 992 (by decide +kernel) (by decide +kernel)
theorem kw_943 : (Jvm.Cond.methodLink "KeptLight$Thought" (48 : Nat) ({ cls := "KeptLight$Fleet", name := "firstPlaceOf", desc := "(I)I" } : Jvm.MethodName)) ∈ kx_tbl := kx_m 993 (by decide +kernel) (by decide +kernel)
theorem kw_944 : (Jvm.Cond.methodLink "KeptLight" (350 : Nat) ({ cls := "KeptLight$Thought", name := "passHours", desc := "(LKeptLight$Fleet;I)I" } : Jvm.MethodName)) ∈ kx_tbl := kx_m 994 (by decide +kernel) (by decide +kernel)
theorem kw_945 : (Jvm.Cond.instanceMethod ({ cls := "KeptLight$Thought", name := "passHours", desc := "(LKeptLight$Fleet;I)I" } : Jvm.MethodName)) ∈ kx_tbl := kx_m 995 (by decide +kernel) (by decide +kernel)
theorem kw_946 : (Jvm.Cond.selects "KeptLight$Thought" ({ cls := "KeptLight$Thought", name := "passHours", desc := "(LKeptLight$Fleet;I)I" } : Jvm.MethodName) ({ cls := "KeptLight$Thought", name := "passHours", desc := "(LKeptLight$Fleet;I)I" } : Jvm.MethodName)) ∈ kx_tbl := kx_m 996 (by decide +kernel) (by decide +kernel)
theorem kw_947 : (Jvm.Cond.code ({ cls := "KeptLight$Thought", name := "passHours", desc := "(LKeptLight$Fleet;I)I" } : Jvm.MethodName) prog_10_method_3_code (4 : Nat) (Option.some Jvm.ClassFile.FieldType.int)) ∈ kx_tbl := kx_m 997 (by decide +kernel) (by decide +kernel)
theorem kw_948 : (Jvm.Cond.methodLink "KeptLight$Thought" (54 : Nat) ({ cls := "KeptLight$Thought", name := "passHour", desc := "(LKeptLight$Fleet;)V" } : Jvm.MethodName)) ∈ kx_tbl := kx_m 998 (by decide +kernel) (by decide +kernel)
theorem kw_949 : (Jvm.Cond.instanceMethod ({ cls := "KeptLight$Thought", name := "passHour", desc := "(LKeptLight$Fleet;)V" } : Jvm.MethodName)) ∈ kx_tbl := kx_m 999 (by decide +kernel) (by decide +kernel)
theorem kw_950 : (Jvm.Cond.selects "KeptLight$Thought" ({ cls := "KeptLight$Thought", name := "passHour", desc := "(LKeptLight$Fleet;)V" } : Jvm.MethodName) ({ cls := "KeptLight$Thought", name := "passHour", desc := "(LKeptLight$Fleet;)V" } : Jvm.MethodName)) ∈ kx_tbl := kx_m 1000 (by decide +kernel) (by decide +kernel)
theorem kw_951 : (Jvm.Cond.code ({ cls := "KeptLight$Thought", name := "passHour", desc := "(LKeptLight$Fleet;)V" } : Jvm.MethodName) prog_10_method_4_code (3 : Nat) (Option.none : Option Jvm.ClassFile.FieldType)) ∈ kx_tbl := kx_m 1001 (by decide +kernel) (by decide +kernel)
theorem kw_952 : (Jvm.Cond.methodLink "KeptLight$Thought" (58 : Nat) ({ cls := "KeptLight$Station", name := "keepWatch", desc := "()V" } : Jvm.MethodName)) ∈ kx_tbl := kx_m 1002 (by decide +kernel) (by decide +kernel)
theorem kw_953 : (Jvm.Cond.methodLink "KeptLight$Thought" (61 : Nat) ({ cls := "KeptLight$Station", name := "isUnlit", desc := "()Z" } : Jvm.MethodName)) ∈ kx_tbl := kx_m 1003 (by decide +kernel) (by decide +kernel)
theorem kw_954 : (Jvm.Cond.methodLink "KeptLight$Thought" (65 : Nat) ({ cls := "KeptLight$Station", name := "isAsleepOnWatch", desc := "()Z" } : Jvm.MethodName)) ∈ kx_tbl := kx_m 1004 (by decide +kernel) (by decide +kernel)
theorem kw_955 : (Jvm.Cond.methodLink "KeptLight$Thought" (71 : Nat) ({ cls := "KeptLight$Fleet", name := "isPlaceOf", desc := "(II)Z" } : Jvm.MethodName)) ∈ kx_tbl := kx_m 1005 (by decide +kernel) (by decide +kernel)
theorem kw_956 : (Jvm.Cond.methodLink "KeptLight$Thought" (75 : Nat) ({ cls := "KeptLight$Fleet", name := "shipInPlace", desc := "(I)I" } : Jvm.MethodName)) ∈ kx_tbl := kx_m 1006 (by decide +kernel) (by decide +kernel)
theorem kw_957 : (Jvm.Cond.methodLink "KeptLight$Thought" (78 : Nat) ({ cls := "KeptLight$Fleet", name := "kindOf", desc := "(I)I" } : Jvm.MethodName)) ∈ kx_tbl := kx_m 1007 (by decide +kernel) (by decide +kernel)
theorem kw_959 : (Jvm.Cond.methodLink "KeptLight$Thought" (85 : Nat) ({ cls := "KeptLight$Station", name := "endHour", desc := "()V" } : Jvm.MethodName)) ∈ kx_tbl := kx_m 1009 (by decide +kernel) (by decide +kernel)
theorem kw_960 : (Jvm.Cond.methodLink "KeptLightLaw" (138 : Nat) ({ cls := "KeptLight", name := "fails", desc := "()I" } : Jvm.MethodName)) ∈ kx_tbl := kx_m 1010 (by decide +kernel) (by decide +kernel)
theorem kw_961 : (Jvm.Cond.instanceMethod ({ cls := "KeptLight", name := "fails", desc := "()I" } : Jvm.MethodName)) ∈ kx_tbl := kx_m 1011 (by decide +kernel) (by decide +kernel)
theorem kw_962 : (Jvm.Cond.selects "KeptLight" ({ cls := "KeptLight", name := "fails", desc := "()I" } : Jvm.MethodName) ({ cls := "KeptLight", name := "fails", desc := "()I" } : Jvm.MethodName)) ∈ kx_tbl := kx_m 1012 (by decide +kernel) (by decide +kernel)
theorem kw_963 : (Jvm.Cond.code ({ cls := "KeptLight", name := "fails", desc := "()I" } : Jvm.MethodName) prog_1_method_38_code (3 : Nat) (Option.some Jvm.ClassFile.FieldType.int)) ∈ kx_tbl := kx_m 1013 (by decide +kernel) (by decide +kernel)
theorem kw_964 : (Jvm.Cond.methodLink "KeptLight" (365 : Nat) ({ cls := "KeptLight$Thought", name := "passHour", desc := "(LKeptLight$Fleet;)V" } : Jvm.MethodName)) ∈ kx_tbl := kx_m 1014 (by decide +kernel) (by decide +kernel)
theorem kw_965 : (Jvm.Cond.methodLink "KeptLightLaw" (142 : Nat) ({ cls := "KeptLight", name := "comes", desc := "()I" } : Jvm.MethodName)) ∈ kx_tbl := kx_m 1015 (by decide +kernel) (by decide +kernel)
theorem kw_966 : (Jvm.Cond.instanceMethod ({ cls := "KeptLight", name := "comes", desc := "()I" } : Jvm.MethodName)) ∈ kx_tbl := kx_m 1016 (by decide +kernel) (by decide +kernel)
theorem kw_967 : (Jvm.Cond.selects "KeptLight" ({ cls := "KeptLight", name := "comes", desc := "()I" } : Jvm.MethodName) ({ cls := "KeptLight", name := "comes", desc := "()I" } : Jvm.MethodName)) ∈ kx_tbl := kx_m 1017 (by decide +kernel) (by decide +kernel)
theorem kw_968 : (Jvm.Cond.code ({ cls := "KeptLight", name := "comes", desc := "()I" } : Jvm.MethodName) prog_1_method_39_code (4 : Nat) (Option.some Jvm.ClassFile.FieldType.int)) ∈ kx_tbl := kx_m 1018 (by decide +kernel) (by decide +kernel)
theorem kw_969 : (Jvm.Cond.methodLink "KeptLightLaw" (146 : Nat) ({ cls := "KeptLight", name := "oil", desc := "(I)I" } : Jvm.MethodName)) ∈ kx_tbl := kx_m 1019 (by decide +kernel) (by decide +kernel)
theorem kw_970 : (Jvm.Cond.instanceMethod ({ cls := "KeptLight", name := "oil", desc := "(I)I" } : Jvm.MethodName)) ∈ kx_tbl := kx_m 1020 (by decide +kernel) (by decide +kernel)
theorem kw_971 : (Jvm.Cond.selects "KeptLight" ({ cls := "KeptLight", name := "oil", desc := "(I)I" } : Jvm.MethodName) ({ cls := "KeptLight", name := "oil", desc := "(I)I" } : Jvm.MethodName)) ∈ kx_tbl := kx_m 1021 (by decide +kernel) (by decide +kernel)
theorem kw_972 : (Jvm.Cond.code ({ cls := "KeptLight", name := "oil", desc := "(I)I" } : Jvm.MethodName) prog_1_method_40_code (7 : Nat) (Option.some Jvm.ClassFile.FieldType.int)) ∈ kx_tbl := kx_m 1022 (by decide +kernel) (by decide +kernel)
theorem kw_973 : (Jvm.Cond.methodLink "KeptLight" (371 : Nat) ({ cls := "KeptLight", name := "unlitWithOil", desc := "(II)I" } : Jvm.MethodName)) ∈ kx_tbl := kx_m 1023 (by decide +kernel) (by decide +kernel)
theorem kw_975 : (Jvm.Cond.instanceMethod ({ cls := "KeptLight", name := "unlitWithOil", desc := "(II)I" } : Jvm.MethodName)) ∈ kx_tbl := kx_m 1025 (by decide +kernel) (by decide +kernel)
theorem kw_976 : (Jvm.Cond.code ({ cls := "KeptLight", name := "unlitWithOil", desc := "(II)I" } : Jvm.MethodName) prog_1_method_41_code (3 : Nat) (Option.some Jvm.ClassFile.FieldType.int)) ∈ kx_tbl := kx_m 1026 (by decide +kernel) (by decide +kernel)
theorem kw_977 : (Jvm.Cond.methodLink "KeptLightLaw" (150 : Nat) ({ cls := "KeptLight", name := "better", desc := "(II)I" } : Jvm.MethodName)) ∈ kx_tbl := kx_m 1027 (by decide +kernel) (by decide +kernel)
theorem kw_978 : (Jvm.Cond.instanceMethod ({ cls := "KeptLight", name := "better", desc := "(II)I" } : Jvm.MethodName)) ∈ kx_tbl := kx_m 1028 (by decide +kernel) (by decide +kernel)
theorem kw_979 : (Jvm.Cond.selects "KeptLight" ({ cls := "KeptLight", name := "better", desc := "(II)I" } : Jvm.MethodName) ({ cls := "KeptLight", name := "better", desc := "(II)I" } : Jvm.MethodName)) ∈ kx_tbl := kx_m 1029 (by decide +kernel) (by decide +kernel)
theorem kw_980 : (Jvm.Cond.code ({ cls := "KeptLight", name := "better", desc := "(II)I" } : Jvm.MethodName) prog_1_method_42_code (7 : Nat) (Option.some Jvm.ClassFile.FieldType.int)) ∈ kx_tbl := kx_m 1030 (by decide +kernel) (by decide +kernel)
theorem kw_981 : (Jvm.Cond.methodLink "KeptLight" (375 : Nat) ({ cls := "KeptLight", name := "unlitAsPlanned", desc := "(I)I" } : Jvm.MethodName)) ∈ kx_tbl := kx_m 1031 (by decide +kernel) (by decide +kernel)
theorem kw_983 : (Jvm.Cond.instanceMethod ({ cls := "KeptLight", name := "unlitAsPlanned", desc := "(I)I" } : Jvm.MethodName)) ∈ kx_tbl := kx_m 1033 (by decide +kernel) (by decide +kernel)
theorem kw_984 : (Jvm.Cond.code ({ cls := "KeptLight", name := "unlitAsPlanned", desc := "(I)I" } : Jvm.MethodName) prog_1_method_45_code (2 : Nat) (Option.some Jvm.ClassFile.FieldType.int)) ∈ kx_tbl := kx_m 1034 (by decide +kernel) (by decide +kernel)
theorem kw_985 : (Jvm.Cond.methodLink "KeptLightLaw" (154 : Nat) ({ cls := "KeptLight", name := "other", desc := "(II)I" } : Jvm.MethodName)) ∈ kx_tbl := kx_m 1035 (by decide +kernel) (by decide +kernel)
theorem kw_986 : (Jvm.Cond.instanceMethod ({ cls := "KeptLight", name := "other", desc := "(II)I" } : Jvm.MethodName)) ∈ kx_tbl := kx_m 1036 (by decide +kernel) (by decide +kernel)
theorem kw_987 : (Jvm.Cond.selects "KeptLight" ({ cls := "KeptLight", name := "other", desc := "(II)I" } : Jvm.MethodName) ({ cls := "KeptLight", name := "other", desc := "(II)I" } : Jvm.MethodName)) ∈ kx_tbl := kx_m 1037 (by decide +kernel) (by decide +kernel)
theorem kw_988 : (Jvm.Cond.code ({ cls := "KeptLight", name := "other", desc := "(II)I" } : Jvm.MethodName) prog_1_method_43_code (5 : Nat) (Option.some Jvm.ClassFile.FieldType.int)) ∈ kx_tbl := kx_m 1038 (by decide +kernel) (by decide +kernel)
theorem kw_989 : (Jvm.Cond.methodLink "KeptLightLaw" (158 : Nat) ({ cls := "KeptLight", name := "idle", desc := "(I)I" } : Jvm.MethodName)) ∈ kx_tbl := kx_m 1039 (by decide +kernel) (by decide +kernel)
theorem kw_990 : (Jvm.Cond.instanceMethod ({ cls := "KeptLight", name := "idle", desc := "(I)I" } : Jvm.MethodName)) ∈ kx_tbl := kx_m 1040 (by decide +kernel) (by decide +kernel)
theorem kw_991 : (Jvm.Cond.selects "KeptLight" ({ cls := "KeptLight", name := "idle", desc := "(I)I" } : Jvm.MethodName) ({ cls := "KeptLight", name := "idle", desc := "(I)I" } : Jvm.MethodName)) ∈ kx_tbl := kx_m 1041 (by decide +kernel) (by decide +kernel)
theorem kw_992 : (Jvm.Cond.code ({ cls := "KeptLight", name := "idle", desc := "(I)I" } : Jvm.MethodName) prog_1_method_44_code (5 : Nat) (Option.some Jvm.ClassFile.FieldType.int)) ∈ kx_tbl := kx_m 1042 (by decide +kernel) (by decide +kernel)
theorem kw_993 : (Jvm.Cond.methodLink "KeptLight" (378 : Nat) ({ cls := "KeptLight$Station", name := "relieve", desc := "(I)V" } : Jvm.MethodName)) ∈ kx_tbl := kx_m 1043 (by decide +kernel) (by decide +kernel)
theorem kw_994 : (Jvm.Cond.instanceMethod ({ cls := "KeptLight$Station", name := "relieve", desc := "(I)V" } : Jvm.MethodName)) ∈ kx_tbl := kx_m 1044 (by decide +kernel) (by decide +kernel)
theorem kw_995 : (Jvm.Cond.selects "KeptLight$Station" ({ cls := "KeptLight$Station", name := "relieve", desc := "(I)V" } : Jvm.MethodName) ({ cls := "KeptLight$Station", name := "relieve", desc := "(I)V" } : Jvm.MethodName)) ∈ kx_tbl := kx_m 1045 (by decide +kernel) (by decide +kernel)
theorem kw_996 : (Jvm.Cond.code ({ cls := "KeptLight$Station", name := "relieve", desc := "(I)V" } : Jvm.MethodName) prog_8_method_5_code (3 : Nat) (Option.none : Option Jvm.ClassFile.FieldType)) ∈ kx_tbl := kx_m 1046 (by decide +kernel) (by decide +kernel)
theorem kw_997 : (Jvm.Cond.methodLink "KeptLightLaw" (174 : Nat) ({ cls := "KeptLight", name := "image", desc := "()I" } : Jvm.MethodName)) ∈ kx_tbl := kx_m 1047 (by decide +kernel) (by decide +kernel)
theorem kw_998 : (Jvm.Cond.instanceMethod ({ cls := "KeptLight", name := "image", desc := "()I" } : Jvm.MethodName)) ∈ kx_tbl := kx_m 1048 (by decide +kernel) (by decide +kernel)
theorem kw_999 : (Jvm.Cond.selects "KeptLight" ({ cls := "KeptLight", name := "image", desc := "()I" } : Jvm.MethodName) ({ cls := "KeptLight", name := "image", desc := "()I" } : Jvm.MethodName)) ∈ kx_tbl := kx_m 1049 (by decide +kernel) (by decide +kernel)
theorem kw_1000 : (Jvm.Cond.code ({ cls := "KeptLight", name := "image", desc := "()I" } : Jvm.MethodName) prog_1_method_46_code (1 : Nat) (Option.some Jvm.ClassFile.FieldType.int)) ∈ kx_tbl := kx_m 1050 (by decide +kernel) (by decide +kernel)
theorem kw_1001 : (Jvm.Cond.methodLink "KeptLight" (381 : Nat) ({ cls := "KeptLight$World", name := "become", desc := "(LKeptLight$World;)V" } : Jvm.MethodName)) ∈ kx_tbl := kx_m 1051 (by decide +kernel) (by decide +kernel)
theorem kw_1002 : (Jvm.Cond.instanceMethod ({ cls := "KeptLight$World", name := "become", desc := "(LKeptLight$World;)V" } : Jvm.MethodName)) ∈ kx_tbl := kx_m 1052 (by decide +kernel) (by decide +kernel)
theorem kw_1003 : (Jvm.Cond.selects "KeptLight$World" ({ cls := "KeptLight$World", name := "become", desc := "(LKeptLight$World;)V" } : Jvm.MethodName) ({ cls := "KeptLight$World", name := "become", desc := "(LKeptLight$World;)V" } : Jvm.MethodName)) ∈ kx_tbl := kx_m 1053 (by decide +kernel) (by decide +kernel)
theorem kw_1004 : (Jvm.Cond.code ({ cls := "KeptLight$World", name := "become", desc := "(LKeptLight$World;)V" } : Jvm.MethodName) prog_11_method_11_code (2 : Nat) (Option.none : Option Jvm.ClassFile.FieldType)) ∈ kx_tbl := kx_m 1054 (by decide +kernel) (by decide +kernel)
theorem kw_1005 : (Jvm.Cond.methodLink "KeptLight$World" (152 : Nat) ({ cls := "KeptLight$Station", name := "become", desc := "(LKeptLight$Station;)V" } : Jvm.MethodName)) ∈ kx_tbl := kx_m 1055 (by decide +kernel) (by decide +kernel)
theorem kw_1006 : (Jvm.Cond.methodLink "KeptLight$World" (156 : Nat) ({ cls := "KeptLight$Fleet", name := "become", desc := "(LKeptLight$Fleet;)V" } : Jvm.MethodName)) ∈ kx_tbl := kx_m 1056 (by decide +kernel) (by decide +kernel)
theorem kw_1007 : (Jvm.Cond.instanceMethod ({ cls := "KeptLight$Fleet", name := "become", desc := "(LKeptLight$Fleet;)V" } : Jvm.MethodName)) ∈ kx_tbl := kx_m 1057 (by decide +kernel) (by decide +kernel)
theorem kw_1008 : (Jvm.Cond.selects "KeptLight$Fleet" ({ cls := "KeptLight$Fleet", name := "become", desc := "(LKeptLight$Fleet;)V" } : Jvm.MethodName) ({ cls := "KeptLight$Fleet", name := "become", desc := "(LKeptLight$Fleet;)V" } : Jvm.MethodName)) ∈ kx_tbl := kx_m 1058 (by decide +kernel) (by decide +kernel)
theorem kw_1009 : (Jvm.Cond.code ({ cls := "KeptLight$Fleet", name := "become", desc := "(LKeptLight$Fleet;)V" } : Jvm.MethodName) prog_4_method_15_code (2 : Nat) (Option.none : Option Jvm.ClassFile.FieldType)) ∈ kx_tbl := kx_m 1059 (by decide +kernel) (by decide +kernel)
theorem kw_1010 : (Jvm.Cond.methodLink "KeptLight$Fleet" (60 : Nat) ({ cls := "java/lang/System", name := "arraycopy", desc := "(Ljava/lang/Object;ILjava/lang/Object;II)V" } : Jvm.MethodName)) ∈ kx_tbl := kx_m 1060 (by decide +kernel) (by decide +kernel)
theorem kw_1011 : (Jvm.Cond.methodLink "KeptLight$World" (159 : Nat) ({ cls := "KeptLight$LogBook", name := "become", desc := "(LKeptLight$LogBook;)V" } : Jvm.MethodName)) ∈ kx_tbl := kx_m 1061 (by decide +kernel) (by decide +kernel)
theorem kw_1012 : (Jvm.Cond.instanceMethod ({ cls := "KeptLight$LogBook", name := "become", desc := "(LKeptLight$LogBook;)V" } : Jvm.MethodName)) ∈ kx_tbl := kx_m 1062 (by decide +kernel) (by decide +kernel)
theorem kw_1013 : (Jvm.Cond.selects "KeptLight$LogBook" ({ cls := "KeptLight$LogBook", name := "become", desc := "(LKeptLight$LogBook;)V" } : Jvm.MethodName) ({ cls := "KeptLight$LogBook", name := "become", desc := "(LKeptLight$LogBook;)V" } : Jvm.MethodName)) ∈ kx_tbl := kx_m 1063 (by decide +kernel) (by decide +kernel)
theorem kw_1014 : (Jvm.Cond.code ({ cls := "KeptLight$LogBook", name := "become", desc := "(LKeptLight$LogBook;)V" } : Jvm.MethodName) prog_5_method_9_code (2 : Nat) (Option.none : Option Jvm.ClassFile.FieldType)) ∈ kx_tbl := kx_m 1064 (by decide +kernel) (by decide +kernel)
theorem kw_1015 : (Jvm.Cond.methodLink "KeptLight$LogBook" (32 : Nat) ({ cls := "java/lang/System", name := "arraycopy", desc := "(Ljava/lang/Object;ILjava/lang/Object;II)V" } : Jvm.MethodName)) ∈ kx_tbl := kx_m 1065 (by decide +kernel) (by decide +kernel)
theorem kw_1016 : (Jvm.Cond.methodLink "KeptLightLaw" (178 : Nat) ({ cls := "KeptLight", name := "back", desc := "()I" } : Jvm.MethodName)) ∈ kx_tbl := kx_m 1066 (by decide +kernel) (by decide +kernel)
theorem kw_1017 : (Jvm.Cond.instanceMethod ({ cls := "KeptLight", name := "back", desc := "()I" } : Jvm.MethodName)) ∈ kx_tbl := kx_m 1067 (by decide +kernel) (by decide +kernel)
theorem kw_1018 : (Jvm.Cond.selects "KeptLight" ({ cls := "KeptLight", name := "back", desc := "()I" } : Jvm.MethodName) ({ cls := "KeptLight", name := "back", desc := "()I" } : Jvm.MethodName)) ∈ kx_tbl := kx_m 1068 (by decide +kernel) (by decide +kernel)
theorem kw_1019 : (Jvm.Cond.code ({ cls := "KeptLight", name := "back", desc := "()I" } : Jvm.MethodName) prog_1_method_47_code (3 : Nat) (Option.some Jvm.ClassFile.FieldType.int)) ∈ kx_tbl := kx_m 1069 (by decide +kernel) (by decide +kernel)
theorem kw_1020 : (Jvm.Cond.methodLink "KeptLightLaw" (182 : Nat) ({ cls := "KeptLight", name := "status", desc := "(I)I" } : Jvm.MethodName)) ∈ kx_tbl := kx_m 1070 (by decide +kernel) (by decide +kernel)
theorem kw_1021 : (Jvm.Cond.instanceMethod ({ cls := "KeptLight", name := "status", desc := "(I)I" } : Jvm.MethodName)) ∈ kx_tbl := kx_m 1071 (by decide +kernel) (by decide +kernel)
theorem kw_1022 : (Jvm.Cond.selects "KeptLight" ({ cls := "KeptLight", name := "status", desc := "(I)I" } : Jvm.MethodName) ({ cls := "KeptLight", name := "status", desc := "(I)I" } : Jvm.MethodName)) ∈ kx_tbl := kx_m 1072 (by decide +kernel) (by decide +kernel)
theorem kw_1023 : (Jvm.Cond.code ({ cls := "KeptLight", name := "status", desc := "(I)I" } : Jvm.MethodName) prog_1_method_48_code (3 : Nat) (Option.some Jvm.ClassFile.FieldType.int)) ∈ kx_tbl := kx_m 1073 (by decide +kernel) (by decide +kernel)
theorem kw_1024 : (Jvm.Cond.methodLink "KeptLight" (390 : Nat) ({ cls := "KeptLight", name := "countFullShelves", desc := "()I" } : Jvm.MethodName)) ∈ kx_tbl := kx_m 1074 (by decide +kernel) (by decide +kernel)
theorem kw_1026 : (Jvm.Cond.instanceMethod ({ cls := "KeptLight", name := "countFullShelves", desc := "()I" } : Jvm.MethodName)) ∈ kx_tbl := kx_m 1076 (by decide +kernel) (by decide +kernel)
theorem kw_1027 : (Jvm.Cond.code ({ cls := "KeptLight", name := "countFullShelves", desc := "()I" } : Jvm.MethodName) prog_1_method_49_code (4 : Nat) (Option.some Jvm.ClassFile.FieldType.int)) ∈ kx_tbl := kx_m 1077 (by decide +kernel) (by decide +kernel)
theorem kw_1028 : (Jvm.Cond.classLink "KeptLightLaw" (10 : Nat) "KeptLightModel") ∈ kx_tbl := kx_m 1078 (by decide +kernel) (by decide +kernel)
theorem kw_1029 : (Jvm.Cond.instantiable "KeptLightModel" (21 : Nat)) ∈ kx_tbl := kx_m 1079 (by decide +kernel) (by decide +kernel)
theorem kw_1030 : (Jvm.Cond.methodLink "KeptLightLaw" (12 : Nat) ({ cls := "KeptLightModel", name := "<init>", desc := "()V" } : Jvm.MethodName)) ∈ kx_tbl := kx_m 1080 (by decide +kernel) (by decide +kernel)
theorem kw_1031 : (Jvm.Cond.instanceMethod ({ cls := "KeptLightModel", name := "<init>", desc := "()V" } : Jvm.MethodName)) ∈ kx_tbl := kx_m 1081 (by decide +kernel) (by decide +kernel)
theorem kw_1032 : (Jvm.Cond.code ({ cls := "KeptLightModel", name := "<init>", desc := "()V" } : Jvm.MethodName) prog_13_method_1_code (2 : Nat) (Option.none : Option Jvm.ClassFile.FieldType)) ∈ kx_tbl := kx_m 1082 (by decide +kernel) (by decide +kernel)
theorem kw_1033 : (Jvm.Cond.methodLink "KeptLightModel" (1 : Nat) ({ cls := "java/lang/Object", name := "<init>", desc := "()V" } : Jvm.MethodName)) ∈ kx_tbl := kx_m 1083 (by decide +kernel) (by decide +kernel)
theorem kw_1034 : (Jvm.Cond.fieldLink "KeptLightModel" (9 : Nat) "KeptLightModel" "g" "[I") ∈ kx_tbl := kx_m 1084 (by decide +kernel) (by decide +kernel)
theorem kw_1035 : (Jvm.Cond.fieldLink "KeptLightModel" (13 : Nat) "KeptLightModel" "was" "[I") ∈ kx_tbl := kx_m 1085 (by decide +kernel) (by decide +kernel)
theorem kw_1036 : (Jvm.Cond.fieldLink "KeptLightModel" (16 : Nat) "KeptLightModel" "kept" "[I") ∈ kx_tbl := kx_m 1086 (by decide +kernel) (by decide +kernel)
theorem kw_1037 : (Jvm.Cond.fieldLink "KeptLightModel" (240 : Nat) "KeptLightModel" "hasImage" "Z") ∈ kx_tbl := kx_m 1087 (by decide +kernel) (by decide +kernel)
theorem kw_1038 : (Jvm.Cond.fieldLink "KeptLightModel" (19 : Nat) "KeptLightModel" "refusals" "[I") ∈ kx_tbl := kx_m 1088 (by decide +kernel) (by decide +kernel)
theorem kw_1039 : (Jvm.Cond.fieldLink "KeptLightModel" (114 : Nat) "KeptLightModel" "wasDark" "Z") ∈ kx_tbl := kx_m 1089 (by decide +kernel) (by decide +kernel)
theorem kw_1040 : (Jvm.Cond.fieldLink "KeptLightModel" (117 : Nat) "KeptLightModel" "wasTended" "Z") ∈ kx_tbl := kx_m 1090 (by decide +kernel) (by decide +kernel)
theorem kw_1041 : (Jvm.Cond.fieldLink "KeptLightModel" (107 : Nat) "KeptLightModel" "boatCame" "Z") ∈ kx_tbl := kx_m 1091 (by decide +kernel) (by decide +kernel)
theorem kw_1042 : (Jvm.Cond.fieldLink "KeptLightModel" (22 : Nat) "KeptLightModel" "tape" "[I") ∈ kx_tbl := kx_m 1092 (by decide +kernel) (by decide +kernel)
theorem kw_1043 : (Jvm.Cond.fieldLink "KeptLightModel" (135 : Nat) "KeptLightModel" "taped" "I") ∈ kx_tbl := kx_m 1093 (by decide +kernel) (by decide +kernel)
theorem kw_1044 : (Jvm.Cond.fieldLink "KeptLightModel" (139 : Nat) "KeptLightModel" "place" "I") ∈ kx_tbl := kx_m 1094 (by decide +kernel) (by decide +kernel)
theorem kw_1045 : (Jvm.Cond.fieldLink "KeptLightModel" (25 : Nat) "KeptLightModel" "read" "[I") ∈ kx_tbl := kx_m 1095 (by decide +kernel) (by decide +kernel)
theorem kw_1046 : (Jvm.Cond.fieldLink "KeptLightModel" (145 : Nat) "KeptLightModel" "readMany" "I") ∈ kx_tbl := kx_m 1096 (by decide +kernel) (by decide +kernel)
theorem kw_1047 : (Jvm.Cond.fieldLink "KeptLightModel" (28 : Nat) "KeptLightModel" "darkAt" "[Z") ∈ kx_tbl := kx_m 1097 (by decide +kernel) (by decide +kernel)
theorem kw_1048 : (Jvm.Cond.fieldLink "KeptLightModel" (32 : Nat) "KeptLightModel" "tendedAt" "[Z") ∈ kx_tbl := kx_m 1098 (by decide +kernel) (by decide +kernel)
theorem kw_1049 : (Jvm.Cond.fieldLink "KeptLightModel" (35 : Nat) "KeptLightModel" "boatAt" "[Z") ∈ kx_tbl := kx_m 1099 (by decide +kernel) (by decide +kernel)
theorem kw_1050 : (Jvm.Cond.fieldLink "KeptLightModel" (38 : Nat) "KeptLightModel" "hadPlan" "[I") ∈ kx_tbl := kx_m 1100 (by decide +kernel) (by decide +kernel)
theorem kw_1051 : (Jvm.Cond.fieldLink "KeptLightModel" (41 : Nat) "KeptLightModel" "sorts" "[I") ∈ kx_tbl := kx_m 1101 (by decide +kernel) (by decide +kernel)
theorem kw_1052 : (Jvm.Cond.fieldLink "KeptLightModel" (44 : Nat) "KeptLightModel" "sizes" "[I") ∈ kx_tbl := kx_m 1102 (by decide +kernel) (by decide +kernel)
theorem kw_1053 : (Jvm.Cond.fieldLink "KeptLightModel" (47 : Nat) "KeptLightModel" "elements" "[J") ∈ kx_tbl := kx_m 1103 (by decide +kernel) (by decide +kernel)
theorem kw_1054 : (Jvm.Cond.fieldLink "KeptLightModel" (51 : Nat) "KeptLightModel" "told" "[I") ∈ kx_tbl := kx_m 1104 (by decide +kernel) (by decide +kernel)
theorem kw_1098 : (Jvm.Cond.arrayClass Jvm.ClassFile.FieldType.boolean) ∈ kx_tbl := kx_m 1148 (by decide +kernel) (by decide +kernel)
theorem kw_1099 : (Jvm.Cond.methodLink "KeptLightLaw" (52 : Nat) ({ cls := "KeptLightModel", name := "feed", desc := "(I)I" } : Jvm.MethodName)) ∈ kx_tbl := kx_m 1149 (by decide +kernel) (by decide +kernel)
theorem kw_1100 : (Jvm.Cond.instanceMethod ({ cls := "KeptLightModel", name := "feed", desc := "(I)I" } : Jvm.MethodName)) ∈ kx_tbl := kx_m 1150 (by decide +kernel) (by decide +kernel)
theorem kw_1101 : (Jvm.Cond.selects "KeptLightModel" ({ cls := "KeptLightModel", name := "feed", desc := "(I)I" } : Jvm.MethodName) ({ cls := "KeptLightModel", name := "feed", desc := "(I)I" } : Jvm.MethodName)) ∈ kx_tbl := kx_m 1151 (by decide +kernel) (by decide +kernel)
theorem kw_1102 : (Jvm.Cond.code ({ cls := "KeptLightModel", name := "feed", desc := "(I)I" } : Jvm.MethodName) prog_13_method_22_code (2 : Nat) (Option.some Jvm.ClassFile.FieldType.int)) ∈ kx_tbl := kx_m 1152 (by decide +kernel) (by decide +kernel)
theorem kw_1103 : (Jvm.Cond.constantLong "KeptLightModel" (130 : Nat) (255 : Int64)) ∈ kx_tbl := kx_m 1153 (by decide +kernel) (by decide +kernel)
theorem kw_1104 : (Jvm.Cond.methodLink "KeptLightModel" (54 : Nat) ({ cls := "KeptLightModel", name := "in", desc := "(JJJ)Z" } : Jvm.MethodName)) ∈ kx_tbl := kx_m 1154 (by decide +kernel) (by decide +kernel)
theorem kw_1105 : (Jvm.Cond.static ({ cls := "KeptLightModel", name := "in", desc := "(JJJ)Z" } : Jvm.MethodName)) ∈ kx_tbl := kx_m 1155 (by decide +kernel) (by decide +kernel)
theorem kw_1106 : (Jvm.Cond.code ({ cls := "KeptLightModel", name := "in", desc := "(JJJ)Z" } : Jvm.MethodName) prog_13_method_2_code (6 : Nat) (Option.some Jvm.ClassFile.FieldType.boolean)) ∈ kx_tbl := kx_m 1156 (by decide +kernel) (by decide +kernel)
theorem kw_1107 : (Jvm.Cond.methodLink "KeptLightModel" (132 : Nat) ({ cls := "KeptLightModel", name := "refused", desc := "(I)I" } : Jvm.MethodName)) ∈ kx_tbl := kx_m 1157 (by decide +kernel) (by decide +kernel)
theorem kw_1109 : (Jvm.Cond.instanceMethod ({ cls := "KeptLightModel", name := "refused", desc := "(I)I" } : Jvm.MethodName)) ∈ kx_tbl := kx_m 1159 (by decide +kernel) (by decide +kernel)
theorem kw_1110 : (Jvm.Cond.code ({ cls := "KeptLightModel", name := "refused", desc := "(I)I" } : Jvm.MethodName) prog_13_method_3_code (2 : Nat) (Option.some Jvm.ClassFile.FieldType.int)) ∈ kx_tbl := kx_m 1160 (by decide +kernel) (by decide +kernel)
theorem kw_1111 : (Jvm.Cond.methodLink "KeptLightLaw" (57 : Nat) ({ cls := "KeptLightModel", name := "wipe", desc := "()I" } : Jvm.MethodName)) ∈ kx_tbl := kx_m 1161 (by decide +kernel) (by decide +kernel)
theorem kw_1112 : (Jvm.Cond.instanceMethod ({ cls := "KeptLightModel", name := "wipe", desc := "()I" } : Jvm.MethodName)) ∈ kx_tbl := kx_m 1162 (by decide +kernel) (by decide +kernel)
theorem kw_1113 : (Jvm.Cond.selects "KeptLightModel" ({ cls := "KeptLightModel", name := "wipe", desc := "()I" } : Jvm.MethodName) ({ cls := "KeptLightModel", name := "wipe", desc := "()I" } : Jvm.MethodName)) ∈ kx_tbl := kx_m 1163 (by decide +kernel) (by decide +kernel)
theorem kw_1114 : (Jvm.Cond.code ({ cls := "KeptLightModel", name := "wipe", desc := "()I" } : Jvm.MethodName) prog_13_method_23_code (2 : Nat) (Option.some Jvm.ClassFile.FieldType.int)) ∈ kx_tbl := kx_m 1164 (by decide +kernel) (by decide +kernel)
theorem kw_1115 : (Jvm.Cond.methodLink "KeptLightLaw" (61 : Nat) ({ cls := "KeptLightModel", name := "sky", desc := "()I" } : Jvm.MethodName)) ∈ kx_tbl := kx_m 1165 (by decide +kernel) (by decide +kernel)
theorem kw_1116 : (Jvm.Cond.instanceMethod ({ cls := "KeptLightModel", name := "sky", desc := "()I" } : Jvm.MethodName)) ∈ kx_tbl := kx_m 1166 (by decide +kernel) (by decide +kernel)
theorem kw_1117 : (Jvm.Cond.selects "KeptLightModel" ({ cls := "KeptLightModel", name := "sky", desc := "()I" } : Jvm.MethodName) ({ cls := "KeptLightModel", name := "sky", desc := "()I" } : Jvm.MethodName)) ∈ kx_tbl := kx_m 1167 (by decide +kernel) (by decide +kernel)
theorem kw_1118 : (Jvm.Cond.code ({ cls := "KeptLightModel", name := "sky", desc := "()I" } : Jvm.MethodName) prog_13_method_26_code (3 : Nat) (Option.some Jvm.ClassFile.FieldType.int)) ∈ kx_tbl := kx_m 1168 (by decide +kernel) (by decide +kernel)
theorem kw_1119 : (Jvm.Cond.methodLink "KeptLightModel" (152 : Nat) ({ cls := "KeptLightModel", name := "isRun", desc := "()Z" } : Jvm.MethodName)) ∈ kx_tbl := kx_m 1169 (by decide +kernel) (by decide +kernel)
theorem kw_1121 : (Jvm.Cond.instanceMethod ({ cls := "KeptLightModel", name := "isRun", desc := "()Z" } : Jvm.MethodName)) ∈ kx_tbl := kx_m 1171 (by decide +kernel) (by decide +kernel)
theorem kw_1122 : (Jvm.Cond.code ({ cls := "KeptLightModel", name := "isRun", desc := "()Z" } : Jvm.MethodName) prog_13_method_25_code (4 : Nat) (Option.some Jvm.ClassFile.FieldType.boolean)) ∈ kx_tbl := kx_m 1172 (by decide +kernel) (by decide +kernel)
theorem kw_1123 : (Jvm.Cond.methodLink "KeptLightModel" (142 : Nat) ({ cls := "KeptLightModel", name := "byteAt", desc := "(I)I" } : Jvm.MethodName)) ∈ kx_tbl := kx_m 1173 (by decide +kernel) (by decide +kernel)
theorem kw_1125 : (Jvm.Cond.instanceMethod ({ cls := "KeptLightModel", name := "byteAt", desc := "(I)I" } : Jvm.MethodName)) ∈ kx_tbl := kx_m 1175 (by decide +kernel) (by decide +kernel)
theorem kw_1126 : (Jvm.Cond.code ({ cls := "KeptLightModel", name := "byteAt", desc := "(I)I" } : Jvm.MethodName) prog_13_method_24_code (2 : Nat) (Option.some Jvm.ClassFile.FieldType.int)) ∈ kx_tbl := kx_m 1176 (by decide +kernel) (by decide +kernel)
theorem kw_1127 : (Jvm.Cond.constantLong "KeptLightModel" (148 : Nat) (48 : Int64)) ∈ kx_tbl := kx_m 1177 (by decide +kernel) (by decide +kernel)
theorem kw_1128 : (Jvm.Cond.constantLong "KeptLightModel" (150 : Nat) (57 : Int64)) ∈ kx_tbl := kx_m 1178 (by decide +kernel) (by decide +kernel)
theorem kw_1129 : (Jvm.Cond.methodLink "KeptLightLaw" (65 : Nat) ({ cls := "KeptLightModel", name := "keeper", desc := "(I)I" } : Jvm.MethodName)) ∈ kx_tbl := kx_m 1179 (by decide +kernel) (by decide +kernel)
theorem kw_1130 : (Jvm.Cond.instanceMethod ({ cls := "KeptLightModel", name := "keeper", desc := "(I)I" } : Jvm.MethodName)) ∈ kx_tbl := kx_m 1180 (by decide +kernel) (by decide +kernel)
theorem kw_1131 : (Jvm.Cond.selects "KeptLightModel" ({ cls := "KeptLightModel", name := "keeper", desc := "(I)I" } : Jvm.MethodName) ({ cls := "KeptLightModel", name := "keeper", desc := "(I)I" } : Jvm.MethodName)) ∈ kx_tbl := kx_m 1181 (by decide +kernel) (by decide +kernel)
theorem kw_1132 : (Jvm.Cond.code ({ cls := "KeptLightModel", name := "keeper", desc := "(I)I" } : Jvm.MethodName) prog_13_method_27_code (3 : Nat) (Option.some Jvm.ClassFile.FieldType.int)) ∈ kx_tbl := kx_m 1182 (by decide +kernel) (by decide +kernel)
theorem kw_1133 : (Jvm.Cond.constantLong "KeptLightModel" (156 : Nat) (2 : Int64)) ∈ kx_tbl := kx_m 1183 (by decide +kernel) (by decide +kernel)
theorem kw_1134 : (Jvm.Cond.methodLink "KeptLightLaw" (69 : Nat) ({ cls := "KeptLightModel", name := "plan", desc := "(II)I" } : Jvm.MethodName)) ∈ kx_tbl := kx_m 1184 (by decide +kernel) (by decide +kernel)
theorem kw_1135 : (Jvm.Cond.instanceMethod ({ cls := "KeptLightModel", name := "plan", desc := "(II)I" } : Jvm.MethodName)) ∈ kx_tbl := kx_m 1185 (by decide +kernel) (by decide +kernel)
theorem kw_1136 : (Jvm.Cond.selects "KeptLightModel" ({ cls := "KeptLightModel", name := "plan", desc := "(II)I" } : Jvm.MethodName) ({ cls := "KeptLightModel", name := "plan", desc := "(II)I" } : Jvm.MethodName)) ∈ kx_tbl := kx_m 1186 (by decide +kernel) (by decide +kernel)
theorem kw_1137 : (Jvm.Cond.code ({ cls := "KeptLightModel", name := "plan", desc := "(II)I" } : Jvm.MethodName) prog_13_method_28_code (4 : Nat) (Option.some Jvm.ClassFile.FieldType.int)) ∈ kx_tbl := kx_m 1187 (by decide +kernel) (by decide +kernel)
theorem kw_1138 : (Jvm.Cond.constantLong "KeptLightModel" (158 : Nat) (23 : Int64)) ∈ kx_tbl := kx_m 1188 (by decide +kernel) (by decide +kernel)
theorem kw_1139 : (Jvm.Cond.methodLink "KeptLightModel" (160 : Nat) ({ cls := "KeptLightModel", name := "isKeeper", desc := "(I)Z" } : Jvm.MethodName)) ∈ kx_tbl := kx_m 1189 (by decide +kernel) (by decide +kernel)
theorem kw_1141 : (Jvm.Cond.instanceMethod ({ cls := "KeptLightModel", name := "isKeeper", desc := "(I)Z" } : Jvm.MethodName)) ∈ kx_tbl := kx_m 1191 (by decide +kernel) (by decide +kernel)
theorem kw_1142 : (Jvm.Cond.code ({ cls := "KeptLightModel", name := "isKeeper", desc := "(I)Z" } : Jvm.MethodName) prog_13_method_5_code (2 : Nat) (Option.some Jvm.ClassFile.FieldType.boolean)) ∈ kx_tbl := kx_m 1192 (by decide +kernel) (by decide +kernel)
theorem kw_1143 : (Jvm.Cond.methodLink "KeptLightLaw" (73 : Nat) ({ cls := "KeptLightModel", name := "plans", desc := "(I)I" } : Jvm.MethodName)) ∈ kx_tbl := kx_m 1193 (by decide +kernel) (by decide +kernel)
theorem kw_1144 : (Jvm.Cond.instanceMethod ({ cls := "KeptLightModel", name := "plans", desc := "(I)I" } : Jvm.MethodName)) ∈ kx_tbl := kx_m 1194 (by decide +kernel) (by decide +kernel)
theorem kw_1145 : (Jvm.Cond.selects "KeptLightModel" ({ cls := "KeptLightModel", name := "plans", desc := "(I)I" } : Jvm.MethodName) ({ cls := "KeptLightModel", name := "plans", desc := "(I)I" } : Jvm.MethodName)) ∈ kx_tbl := kx_m 1195 (by decide +kernel) (by decide +kernel)
theorem kw_1146 : (Jvm.Cond.code ({ cls := "KeptLightModel", name := "plans", desc := "(I)I" } : Jvm.MethodName) prog_13_method_31_code (3 : Nat) (Option.some Jvm.ClassFile.FieldType.int)) ∈ kx_tbl := kx_m 1196 (by decide +kernel) (by decide +kernel)
theorem kw_1147 : (Jvm.Cond.methodLink "KeptLightModel" (165 : Nat) ({ cls := "KeptLightModel", name := "isShelf", desc := "(I)Z" } : Jvm.MethodName)) ∈ kx_tbl := kx_m 1197 (by decide +kernel) (by decide +kernel)
theorem kw_1148 : (Jvm.Cond.static ({ cls := "KeptLightModel", name := "isShelf", desc := "(I)Z" } : Jvm.MethodName)) ∈ kx_tbl := kx_m 1198 (by decide +kernel) (by decide +kernel)
theorem kw_1149 : (Jvm.Cond.code ({ cls := "KeptLightModel", name := "isShelf", desc := "(I)Z" } : Jvm.MethodName) prog_13_method_61_code (1 : Nat) (Option.some Jvm.ClassFile.FieldType.boolean)) ∈ kx_tbl := kx_m 1199 (by decide +kernel) (by decide +kernel)
theorem kw_1150 : (Jvm.Cond.constantLong "KeptLightModel" (189 : Nat) (7 : Int64)) ∈ kx_tbl := kx_m 1200 (by decide +kernel) (by decide +kernel)
theorem kw_1151 : (Jvm.Cond.methodLink "KeptLightModel" (168 : Nat) ({ cls := "KeptLightModel", name := "isPlan", desc := "(I)I" } : Jvm.MethodName)) ∈ kx_tbl := kx_m 1201 (by decide +kernel) (by decide +kernel)
theorem kw_1153 : (Jvm.Cond.instanceMethod ({ cls := "KeptLightModel", name := "isPlan", desc := "(I)I" } : Jvm.MethodName)) ∈ kx_tbl := kx_m 1203 (by decide +kernel) (by decide +kernel)
theorem kw_1154 : (Jvm.Cond.code ({ cls := "KeptLightModel", name := "isPlan", desc := "(I)I" } : Jvm.MethodName) prog_13_method_29_code (3 : Nat) (Option.some Jvm.ClassFile.FieldType.int)) ∈ kx_tbl := kx_m 1204 (by decide +kernel) (by decide +kernel)
theorem kw_1155 : (Jvm.Cond.constantLong "KeptLightModel" (163 : Nat) (-1 : Int64)) ∈ kx_tbl := kx_m 1205 (by decide +kernel) (by decide +kernel)
theorem kw_1156 : (Jvm.Cond.methodLink "KeptLightModel" (171 : Nat) ({ cls := "KeptLightModel", name := "takesPlan", desc := "(I)V" } : Jvm.MethodName)) ∈ kx_tbl := kx_m 1206 (by decide +kernel) (by decide +kernel)
theorem kw_1158 : (Jvm.Cond.instanceMethod ({ cls := "KeptLightModel", name := "takesPlan", desc := "(I)V" } : Jvm.MethodName)) ∈ kx_tbl := kx_m 1208 (by decide +kernel) (by decide +kernel)
theorem kw_1159 : (Jvm.Cond.code ({ cls := "KeptLightModel", name := "takesPlan", desc := "(I)V" } : Jvm.MethodName) prog_13_method_30_code (3 : Nat) (Option.none : Option Jvm.ClassFile.FieldType)) ∈ kx_tbl := kx_m 1209 (by decide +kernel) (by decide +kernel)
theorem kw_1160 : (Jvm.Cond.methodLink "KeptLightLaw" (77 : Nat) ({ cls := "KeptLightModel", name := "tell", desc := "(II)I" } : Jvm.MethodName)) ∈ kx_tbl := kx_m 1210 (by decide +kernel) (by decide +kernel)
theorem kw_1161 : (Jvm.Cond.instanceMethod ({ cls := "KeptLightModel", name := "tell", desc := "(II)I" } : Jvm.MethodName)) ∈ kx_tbl := kx_m 1211 (by decide +kernel) (by decide +kernel)
theorem kw_1162 : (Jvm.Cond.selects "KeptLightModel" ({ cls := "KeptLightModel", name := "tell", desc := "(II)I" } : Jvm.MethodName) ({ cls := "KeptLightModel", name := "tell", desc := "(II)I" } : Jvm.MethodName)) ∈ kx_tbl := kx_m 1212 (by decide +kernel) (by decide +kernel)
theorem kw_1163 : (Jvm.Cond.code ({ cls := "KeptLightModel", name := "tell", desc := "(II)I" } : Jvm.MethodName) prog_13_method_32_code (5 : Nat) (Option.some Jvm.ClassFile.FieldType.int)) ∈ kx_tbl := kx_m 1213 (by decide +kernel) (by decide +kernel)
theorem kw_1164 : (Jvm.Cond.constantLong "KeptLightModel" (175 : Nat) (12 : Int64)) ∈ kx_tbl := kx_m 1214 (by decide +kernel) (by decide +kernel)
theorem kw_1165 : (Jvm.Cond.constantLong "KeptLightModel" (177 : Nat) (13 : Int64)) ∈ kx_tbl := kx_m 1215 (by decide +kernel) (by decide +kernel)
theorem kw_1166 : (Jvm.Cond.constantLong "KeptLightModel" (179 : Nat) (24 : Int64)) ∈ kx_tbl := kx_m 1216 (by decide +kernel) (by decide +kernel)
theorem kw_1167 : (Jvm.Cond.constantLong "KeptLightModel" (181 : Nat) (4 : Int64)) ∈ kx_tbl := kx_m 1217 (by decide +kernel) (by decide +kernel)
theorem kw_1168 : (Jvm.Cond.constantLong "KeptLightModel" (183 : Nat) (3 : Int64)) ∈ kx_tbl := kx_m 1218 (by decide +kernel) (by decide +kernel)
theorem kw_1169 : (Jvm.Cond.constantLong "KeptLightModel" (185 : Nat) (9999 : Int64)) ∈ kx_tbl := kx_m 1219 (by decide +kernel) (by decide +kernel)
theorem kw_1170 : (Jvm.Cond.methodLink "KeptLightLaw" (81 : Nat) ({ cls := "KeptLightModel", name := "boat", desc := "(II)I" } : Jvm.MethodName)) ∈ kx_tbl := kx_m 1220 (by decide +kernel) (by decide +kernel)
theorem kw_1171 : (Jvm.Cond.instanceMethod ({ cls := "KeptLightModel", name := "boat", desc := "(II)I" } : Jvm.MethodName)) ∈ kx_tbl := kx_m 1221 (by decide +kernel) (by decide +kernel)
theorem kw_1172 : (Jvm.Cond.selects "KeptLightModel" ({ cls := "KeptLightModel", name := "boat", desc := "(II)I" } : Jvm.MethodName) ({ cls := "KeptLightModel", name := "boat", desc := "(II)I" } : Jvm.MethodName)) ∈ kx_tbl := kx_m 1222 (by decide +kernel) (by decide +kernel)
theorem kw_1173 : (Jvm.Cond.code ({ cls := "KeptLightModel", name := "boat", desc := "(II)I" } : Jvm.MethodName) prog_13_method_33_code (5 : Nat) (Option.some Jvm.ClassFile.FieldType.int)) ∈ kx_tbl := kx_m 1223 (by decide +kernel) (by decide +kernel)
theorem kw_1174 : (Jvm.Cond.constantLong "KeptLightModel" (187 : Nat) (999 : Int64)) ∈ kx_tbl := kx_m 1224 (by decide +kernel) (by decide +kernel)
theorem kw_1175 : (Jvm.Cond.methodLink "KeptLightLaw" (85 : Nat) ({ cls := "KeptLightModel", name := "ship", desc := "(II)I" } : Jvm.MethodName)) ∈ kx_tbl := kx_m 1225 (by decide +kernel) (by decide +kernel)
theorem kw_1176 : (Jvm.Cond.instanceMethod ({ cls := "KeptLightModel", name := "ship", desc := "(II)I" } : Jvm.MethodName)) ∈ kx_tbl := kx_m 1226 (by decide +kernel) (by decide +kernel)
theorem kw_1177 : (Jvm.Cond.selects "KeptLightModel" ({ cls := "KeptLightModel", name := "ship", desc := "(II)I" } : Jvm.MethodName) ({ cls := "KeptLightModel", name := "ship", desc := "(II)I" } : Jvm.MethodName)) ∈ kx_tbl := kx_m 1227 (by decide +kernel) (by decide +kernel)
theorem kw_1178 : (Jvm.Cond.code ({ cls := "KeptLightModel", name := "ship", desc := "(II)I" } : Jvm.MethodName) prog_13_method_35_code (3 : Nat) (Option.some Jvm.ClassFile.FieldType.int)) ∈ kx_tbl := kx_m 1228 (by decide +kernel) (by decide +kernel)
theorem kw_1179 : (Jvm.Cond.methodLink "KeptLightModel" (191 : Nat) ({ cls := "KeptLightModel", name := "comesShip", desc := "(II)I" } : Jvm.MethodName)) ∈ kx_tbl := kx_m 1229 (by decide +kernel) (by decide +kernel)
theorem kw_1181 : (Jvm.Cond.instanceMethod ({ cls := "KeptLightModel", name := "comesShip", desc := "(II)I" } : Jvm.MethodName)) ∈ kx_tbl := kx_m 1231 (by decide +kernel) (by decide +kernel)
theorem kw_1182 : (Jvm.Cond.code ({ cls := "KeptLightModel", name := "comesShip", desc := "(II)I" } : Jvm.MethodName) prog_13_method_34_code (4 : Nat) (Option.some Jvm.ClassFile.FieldType.int)) ∈ kx_tbl := kx_m 1232 (by decide +kernel) (by decide +kernel)
theorem kw_1183 : (Jvm.Cond.methodLink "KeptLightLaw" (89 : Nat) ({ cls := "KeptLightModel", name := "pass", desc := "(I)I" } : Jvm.MethodName)) ∈ kx_tbl := kx_m 1233 (by decide +kernel) (by decide +kernel)
theorem kw_1184 : (Jvm.Cond.instanceMethod ({ cls := "KeptLightModel", name := "pass", desc := "(I)I" } : Jvm.MethodName)) ∈ kx_tbl := kx_m 1234 (by decide +kernel) (by decide +kernel)
theorem kw_1185 : (Jvm.Cond.selects "KeptLightModel" ({ cls := "KeptLightModel", name := "pass", desc := "(I)I" } : Jvm.MethodName) ({ cls := "KeptLightModel", name := "pass", desc := "(I)I" } : Jvm.MethodName)) ∈ kx_tbl := kx_m 1235 (by decide +kernel) (by decide +kernel)
theorem kw_1186 : (Jvm.Cond.code ({ cls := "KeptLightModel", name := "pass", desc := "(I)I" } : Jvm.MethodName) prog_13_method_36_code (2 : Nat) (Option.some Jvm.ClassFile.FieldType.int)) ∈ kx_tbl := kx_m 1236 (by decide +kernel) (by decide +kernel)
theorem kw_1187 : (Jvm.Cond.constantLong "KeptLightModel" (194 : Nat) (200 : Int64)) ∈ kx_tbl := kx_m 1237 (by decide +kernel) (by decide +kernel)
theorem kw_1188 : (Jvm.Cond.methodLink "KeptLightModel" (127 : Nat) ({ cls := "KeptLightModel", name := "passes", desc := "(I)I" } : Jvm.MethodName)) ∈ kx_tbl := kx_m 1238 (by decide +kernel) (by decide +kernel)
theorem kw_1190 : (Jvm.Cond.instanceMethod ({ cls := "KeptLightModel", name := "passes", desc := "(I)I" } : Jvm.MethodName)) ∈ kx_tbl := kx_m 1240 (by decide +kernel) (by decide +kernel)
theorem kw_1191 : (Jvm.Cond.code ({ cls := "KeptLightModel", name := "passes", desc := "(I)I" } : Jvm.MethodName) prog_13_method_20_code (4 : Nat) (Option.some Jvm.ClassFile.FieldType.int)) ∈ kx_tbl := kx_m 1241 (by decide +kernel) (by decide +kernel)
theorem kw_1192 : (Jvm.Cond.methodLink "KeptLightModel" (120 : Nat) ({ cls := "KeptLightModel", name := "hourPasses", desc := "()V" } : Jvm.MethodName)) ∈ kx_tbl := kx_m 1242 (by decide +kernel) (by decide +kernel)
theorem kw_1194 : (Jvm.Cond.instanceMethod ({ cls := "KeptLightModel", name := "hourPasses", desc := "()V" } : Jvm.MethodName)) ∈ kx_tbl := kx_m 1244 (by decide +kernel) (by decide +kernel)
theorem kw_1195 : (Jvm.Cond.code ({ cls := "KeptLightModel", name := "hourPasses", desc := "()V" } : Jvm.MethodName) prog_13_method_19_code (10 : Nat) (Option.none : Option Jvm.ClassFile.FieldType)) ∈ kx_tbl := kx_m 1245 (by decide +kernel) (by decide +kernel)
theorem kw_1196 : (Jvm.Cond.methodLink "KeptLightModel" (85 : Nat) ({ cls := "KeptLightModel", name := "weatherOf", desc := "(I)I" } : Jvm.MethodName)) ∈ kx_tbl := kx_m 1246 (by decide +kernel) (by decide +kernel)
theorem kw_1198 : (Jvm.Cond.instanceMethod ({ cls := "KeptLightModel", name := "weatherOf", desc := "(I)I" } : Jvm.MethodName)) ∈ kx_tbl := kx_m 1248 (by decide +kernel) (by decide +kernel)
theorem kw_1199 : (Jvm.Cond.code ({ cls := "KeptLightModel", name := "weatherOf", desc := "(I)I" } : Jvm.MethodName) prog_13_method_10_code (5 : Nat) (Option.some Jvm.ClassFile.FieldType.int)) ∈ kx_tbl := kx_m 1249 (by decide +kernel) (by decide +kernel)
theorem kw_1200 : (Jvm.Cond.methodLink "KeptLightModel" (89 : Nat) ({ cls := "KeptLightModel", name := "isDark", desc := "(I)Z" } : Jvm.MethodName)) ∈ kx_tbl := kx_m 1250 (by decide +kernel) (by decide +kernel)
theorem kw_1202 : (Jvm.Cond.instanceMethod ({ cls := "KeptLightModel", name := "isDark", desc := "(I)Z" } : Jvm.MethodName)) ∈ kx_tbl := kx_m 1252 (by decide +kernel) (by decide +kernel)
theorem kw_1203 : (Jvm.Cond.code ({ cls := "KeptLightModel", name := "isDark", desc := "(I)Z" } : Jvm.MethodName) prog_13_method_11_code (2 : Nat) (Option.some Jvm.ClassFile.FieldType.boolean)) ∈ kx_tbl := kx_m 1253 (by decide +kernel) (by decide +kernel)
theorem kw_1204 : (Jvm.Cond.methodLink "KeptLightModel" (58 : Nat) ({ cls := "KeptLightModel", name := "ofKeeper", desc := "(II)I" } : Jvm.MethodName)) ∈ kx_tbl := kx_m 1254 (by decide +kernel) (by decide +kernel)
theorem kw_1206 : (Jvm.Cond.instanceMethod ({ cls := "KeptLightModel", name := "ofKeeper", desc := "(II)I" } : Jvm.MethodName)) ∈ kx_tbl := kx_m 1256 (by decide +kernel) (by decide +kernel)
theorem kw_1207 : (Jvm.Cond.code ({ cls := "KeptLightModel", name := "ofKeeper", desc := "(II)I" } : Jvm.MethodName) prog_13_method_7_code (3 : Nat) (Option.some Jvm.ClassFile.FieldType.int)) ∈ kx_tbl := kx_m 1257 (by decide +kernel) (by decide +kernel)
theorem kw_1208 : (Jvm.Cond.methodLink "KeptLightModel" (92 : Nat) ({ cls := "KeptLightModel", name := "lasts", desc := "(I)I" } : Jvm.MethodName)) ∈ kx_tbl := kx_m 1258 (by decide +kernel) (by decide +kernel)
theorem kw_1210 : (Jvm.Cond.instanceMethod ({ cls := "KeptLightModel", name := "lasts", desc := "(I)I" } : Jvm.MethodName)) ∈ kx_tbl := kx_m 1260 (by decide +kernel) (by decide +kernel)
theorem kw_1211 : (Jvm.Cond.code ({ cls := "KeptLightModel", name := "lasts", desc := "(I)I" } : Jvm.MethodName) prog_13_method_9_code (2 : Nat) (Option.some Jvm.ClassFile.FieldType.int)) ∈ kx_tbl := kx_m 1261 (by decide +kernel) (by decide +kernel)
theorem kw_1212 : (Jvm.Cond.methodLink "KeptLightModel" (95 : Nat) ({ cls := "KeptLightModel", name := "passesLamp", desc := "(ZZ)V" } : Jvm.MethodName)) ∈ kx_tbl := kx_m 1262 (by decide +kernel) (by decide +kernel)
theorem kw_1214 : (Jvm.Cond.instanceMethod ({ cls := "KeptLightModel", name := "passesLamp", desc := "(ZZ)V" } : Jvm.MethodName)) ∈ kx_tbl := kx_m 1264 (by decide +kernel) (by decide +kernel)
theorem kw_1215 : (Jvm.Cond.code ({ cls := "KeptLightModel", name := "passesLamp", desc := "(ZZ)V" } : Jvm.MethodName) prog_13_method_17_code (4 : Nat) (Option.none : Option Jvm.ClassFile.FieldType)) ∈ kx_tbl := kx_m 1265 (by decide +kernel) (by decide +kernel)
theorem kw_1216 : (Jvm.Cond.methodLink "KeptLightModel" (76 : Nat) ({ cls := "KeptLightModel", name := "logs", desc := "(III)V" } : Jvm.MethodName)) ∈ kx_tbl := kx_m 1266 (by decide +kernel) (by decide +kernel)
theorem kw_1218 : (Jvm.Cond.instanceMethod ({ cls := "KeptLightModel", name := "logs", desc := "(III)V" } : Jvm.MethodName)) ∈ kx_tbl := kx_m 1268 (by decide +kernel) (by decide +kernel)
theorem kw_1219 : (Jvm.Cond.code ({ cls := "KeptLightModel", name := "logs", desc := "(III)V" } : Jvm.MethodName) prog_13_method_12_code (5 : Nat) (Option.none : Option Jvm.ClassFile.FieldType)) ∈ kx_tbl := kx_m 1269 (by decide +kernel) (by decide +kernel)
theorem kw_1220 : (Jvm.Cond.methodLink "KeptLightModel" (99 : Nat) ({ cls := "KeptLightModel", name := "passesShips", desc := "(ZZII)V" } : Jvm.MethodName)) ∈ kx_tbl := kx_m 1270 (by decide +kernel) (by decide +kernel)
theorem kw_1222 : (Jvm.Cond.instanceMethod ({ cls := "KeptLightModel", name := "passesShips", desc := "(ZZII)V" } : Jvm.MethodName)) ∈ kx_tbl := kx_m 1272 (by decide +kernel) (by decide +kernel)
theorem kw_1223 : (Jvm.Cond.code ({ cls := "KeptLightModel", name := "passesShips", desc := "(ZZII)V" } : Jvm.MethodName) prog_13_method_16_code (11 : Nat) (Option.none : Option Jvm.ClassFile.FieldType)) ∈ kx_tbl := kx_m 1273 (by decide +kernel) (by decide +kernel)
theorem kw_1224 : (Jvm.Cond.methodLink "KeptLightModel" (69 : Nat) ({ cls := "KeptLightModel", name := "rankedAt", desc := "(II)I" } : Jvm.MethodName)) ∈ kx_tbl := kx_m 1274 (by decide +kernel) (by decide +kernel)
theorem kw_1226 : (Jvm.Cond.instanceMethod ({ cls := "KeptLightModel", name := "rankedAt", desc := "(II)I" } : Jvm.MethodName)) ∈ kx_tbl := kx_m 1276 (by decide +kernel) (by decide +kernel)
theorem kw_1227 : (Jvm.Cond.code ({ cls := "KeptLightModel", name := "rankedAt", desc := "(II)I" } : Jvm.MethodName) prog_13_method_15_code (6 : Nat) (Option.some Jvm.ClassFile.FieldType.int)) ∈ kx_tbl := kx_m 1277 (by decide +kernel) (by decide +kernel)
theorem kw_1228 : (Jvm.Cond.methodLink "KeptLightModel" (66 : Nat) ({ cls := "KeptLightModel", name := "ofShip", desc := "(II)I" } : Jvm.MethodName)) ∈ kx_tbl := kx_m 1278 (by decide +kernel) (by decide +kernel)
theorem kw_1230 : (Jvm.Cond.instanceMethod ({ cls := "KeptLightModel", name := "ofShip", desc := "(II)I" } : Jvm.MethodName)) ∈ kx_tbl := kx_m 1280 (by decide +kernel) (by decide +kernel)
theorem kw_1231 : (Jvm.Cond.code ({ cls := "KeptLightModel", name := "ofShip", desc := "(II)I" } : Jvm.MethodName) prog_13_method_8_code (3 : Nat) (Option.some Jvm.ClassFile.FieldType.int)) ∈ kx_tbl := kx_m 1281 (by decide +kernel) (by decide +kernel)
theorem kw_1232 : (Jvm.Cond.methodLink "KeptLightModel" (72 : Nat) ({ cls := "KeptLightModel", name := "lacks", desc := "(IZZZI)I" } : Jvm.MethodName)) ∈ kx_tbl := kx_m 1282 (by decide +kernel) (by decide +kernel)
theorem kw_1233 : (Jvm.Cond.static ({ cls := "KeptLightModel", name := "lacks", desc := "(IZZZI)I" } : Jvm.MethodName)) ∈ kx_tbl := kx_m 1283 (by decide +kernel) (by decide +kernel)
theorem kw_1234 : (Jvm.Cond.code ({ cls := "KeptLightModel", name := "lacks", desc := "(IZZZI)I" } : Jvm.MethodName) prog_13_method_14_code (8 : Nat) (Option.some Jvm.ClassFile.FieldType.int)) ∈ kx_tbl := kx_m 1284 (by decide +kernel) (by decide +kernel)
theorem kw_1235 : (Jvm.Cond.methodLink "KeptLightModel" (62 : Nat) ({ cls := "KeptLightModel", name := "isSmall", desc := "(I)Z" } : Jvm.MethodName)) ∈ kx_tbl := kx_m 1285 (by decide +kernel) (by decide +kernel)
theorem kw_1236 : (Jvm.Cond.static ({ cls := "KeptLightModel", name := "isSmall", desc := "(I)Z" } : Jvm.MethodName)) ∈ kx_tbl := kx_m 1286 (by decide +kernel) (by decide +kernel)
theorem kw_1237 : (Jvm.Cond.code ({ cls := "KeptLightModel", name := "isSmall", desc := "(I)Z" } : Jvm.MethodName) prog_13_method_13_code (1 : Nat) (Option.some Jvm.ClassFile.FieldType.boolean)) ∈ kx_tbl := kx_m 1287 (by decide +kernel) (by decide +kernel)
theorem kw_1238 : (Jvm.Cond.methodLink "KeptLightModel" (103 : Nat) ({ cls := "KeptLightModel", name := "tires", desc := "(II)V" } : Jvm.MethodName)) ∈ kx_tbl := kx_m 1288 (by decide +kernel) (by decide +kernel)
theorem kw_1240 : (Jvm.Cond.instanceMethod ({ cls := "KeptLightModel", name := "tires", desc := "(II)V" } : Jvm.MethodName)) ∈ kx_tbl := kx_m 1290 (by decide +kernel) (by decide +kernel)
theorem kw_1241 : (Jvm.Cond.code ({ cls := "KeptLightModel", name := "tires", desc := "(II)V" } : Jvm.MethodName) prog_13_method_18_code (5 : Nat) (Option.none : Option Jvm.ClassFile.FieldType)) ∈ kx_tbl := kx_m 1291 (by decide +kernel) (by decide +kernel)
theorem kw_1242 : (Jvm.Cond.methodLink "KeptLightModel" (80 : Nat) ({ cls := "java/lang/Math", name := "max", desc := "(II)I" } : Jvm.MethodName)) ∈ kx_tbl := kx_m 1292 (by decide +kernel) (by decide +kernel)
theorem kw_1243 : (Jvm.Cond.methodLink "KeptLightModel" (111 : Nat) ({ cls := "java/lang/Math", name := "min", desc := "(II)I" } : Jvm.MethodName)) ∈ kx_tbl := kx_m 1293 (by decide +kernel) (by decide +kernel)
theorem kw_1244 : (Jvm.Cond.methodLink "KeptLightLaw" (93 : Nat) ({ cls := "KeptLightModel", name := "weather", desc := "(I)I" } : Jvm.MethodName)) ∈ kx_tbl := kx_m 1294 (by decide +kernel) (by decide +kernel)
theorem kw_1245 : (Jvm.Cond.instanceMethod ({ cls := "KeptLightModel", name := "weather", desc := "(I)I" } : Jvm.MethodName)) ∈ kx_tbl := kx_m 1295 (by decide +kernel) (by decide +kernel)
theorem kw_1246 : (Jvm.Cond.selects "KeptLightModel" ({ cls := "KeptLightModel", name := "weather", desc := "(I)I" } : Jvm.MethodName) ({ cls := "KeptLightModel", name := "weather", desc := "(I)I" } : Jvm.MethodName)) ∈ kx_tbl := kx_m 1296 (by decide +kernel) (by decide +kernel)
theorem kw_1247 : (Jvm.Cond.code ({ cls := "KeptLightModel", name := "weather", desc := "(I)I" } : Jvm.MethodName) prog_13_method_37_code (2 : Nat) (Option.some Jvm.ClassFile.FieldType.int)) ∈ kx_tbl := kx_m 1297 (by decide +kernel) (by decide +kernel)
theorem kw_1248 : (Jvm.Cond.methodLink "KeptLightLaw" (97 : Nat) ({ cls := "KeptLightModel", name := "dark", desc := "(I)I" } : Jvm.MethodName)) ∈ kx_tbl := kx_m 1298 (by decide +kernel) (by decide +kernel)
theorem kw_1249 : (Jvm.Cond.instanceMethod ({ cls := "KeptLightModel", name := "dark", desc := "(I)I" } : Jvm.MethodName)) ∈ kx_tbl := kx_m 1299 (by decide +kernel) (by decide +kernel)
theorem kw_1250 : (Jvm.Cond.selects "KeptLightModel" ({ cls := "KeptLightModel", name := "dark", desc := "(I)I" } : Jvm.MethodName) ({ cls := "KeptLightModel", name := "dark", desc := "(I)I" } : Jvm.MethodName)) ∈ kx_tbl := kx_m 1300 (by decide +kernel) (by decide +kernel)
theorem kw_1251 : (Jvm.Cond.code ({ cls := "KeptLightModel", name := "dark", desc := "(I)I" } : Jvm.MethodName) prog_13_method_38_code (2 : Nat) (Option.some Jvm.ClassFile.FieldType.int)) ∈ kx_tbl := kx_m 1301 (by decide +kernel) (by decide +kernel)
theorem kw_1252 : (Jvm.Cond.methodLink "KeptLightLaw" (101 : Nat) ({ cls := "KeptLightModel", name := "keeperOf", desc := "(II)I" } : Jvm.MethodName)) ∈ kx_tbl := kx_m 1302 (by decide +kernel) (by decide +kernel)
theorem kw_1253 : (Jvm.Cond.instanceMethod ({ cls := "KeptLightModel", name := "keeperOf", desc := "(II)I" } : Jvm.MethodName)) ∈ kx_tbl := kx_m 1303 (by decide +kernel) (by decide +kernel)
theorem kw_1254 : (Jvm.Cond.selects "KeptLightModel" ({ cls := "KeptLightModel", name := "keeperOf", desc := "(II)I" } : Jvm.MethodName) ({ cls := "KeptLightModel", name := "keeperOf", desc := "(II)I" } : Jvm.MethodName)) ∈ kx_tbl := kx_m 1304 (by decide +kernel) (by decide +kernel)
theorem kw_1255 : (Jvm.Cond.code ({ cls := "KeptLightModel", name := "keeperOf", desc := "(II)I" } : Jvm.MethodName) prog_13_method_39_code (3 : Nat) (Option.some Jvm.ClassFile.FieldType.int)) ∈ kx_tbl := kx_m 1305 (by decide +kernel) (by decide +kernel)
theorem kw_1256 : (Jvm.Cond.constantLong "KeptLightModel" (196 : Nat) (5 : Int64)) ∈ kx_tbl := kx_m 1306 (by decide +kernel) (by decide +kernel)
theorem kw_1257 : (Jvm.Cond.methodLink "KeptLightModel" (198 : Nat) ({ cls := "KeptLightModel", name := "hoursOf", desc := "(I)I" } : Jvm.MethodName)) ∈ kx_tbl := kx_m 1307 (by decide +kernel) (by decide +kernel)
theorem kw_1259 : (Jvm.Cond.instanceMethod ({ cls := "KeptLightModel", name := "hoursOf", desc := "(I)I" } : Jvm.MethodName)) ∈ kx_tbl := kx_m 1309 (by decide +kernel) (by decide +kernel)
theorem kw_1260 : (Jvm.Cond.code ({ cls := "KeptLightModel", name := "hoursOf", desc := "(I)I" } : Jvm.MethodName) prog_13_method_40_code (4 : Nat) (Option.some Jvm.ClassFile.FieldType.int)) ∈ kx_tbl := kx_m 1310 (by decide +kernel) (by decide +kernel)
theorem kw_1261 : (Jvm.Cond.methodLink "KeptLightLaw" (105 : Nat) ({ cls := "KeptLightModel", name := "shipOf", desc := "(II)I" } : Jvm.MethodName)) ∈ kx_tbl := kx_m 1311 (by decide +kernel) (by decide +kernel)
theorem kw_1262 : (Jvm.Cond.instanceMethod ({ cls := "KeptLightModel", name := "shipOf", desc := "(II)I" } : Jvm.MethodName)) ∈ kx_tbl := kx_m 1312 (by decide +kernel) (by decide +kernel)
theorem kw_1263 : (Jvm.Cond.selects "KeptLightModel" ({ cls := "KeptLightModel", name := "shipOf", desc := "(II)I" } : Jvm.MethodName) ({ cls := "KeptLightModel", name := "shipOf", desc := "(II)I" } : Jvm.MethodName)) ∈ kx_tbl := kx_m 1313 (by decide +kernel) (by decide +kernel)
theorem kw_1264 : (Jvm.Cond.code ({ cls := "KeptLightModel", name := "shipOf", desc := "(II)I" } : Jvm.MethodName) prog_13_method_41_code (3 : Nat) (Option.some Jvm.ClassFile.FieldType.int)) ∈ kx_tbl := kx_m 1314 (by decide +kernel) (by decide +kernel)
theorem kw_1265 : (Jvm.Cond.methodLink "KeptLightModel" (201 : Nat) ({ cls := "KeptLightModel", name := "isShip", desc := "(I)Z" } : Jvm.MethodName)) ∈ kx_tbl := kx_m 1315 (by decide +kernel) (by decide +kernel)
theorem kw_1267 : (Jvm.Cond.instanceMethod ({ cls := "KeptLightModel", name := "isShip", desc := "(I)Z" } : Jvm.MethodName)) ∈ kx_tbl := kx_m 1317 (by decide +kernel) (by decide +kernel)
theorem kw_1268 : (Jvm.Cond.code ({ cls := "KeptLightModel", name := "isShip", desc := "(I)Z" } : Jvm.MethodName) prog_13_method_6_code (2 : Nat) (Option.some Jvm.ClassFile.FieldType.boolean)) ∈ kx_tbl := kx_m 1318 (by decide +kernel) (by decide +kernel)
theorem kw_1269 : (Jvm.Cond.methodLink "KeptLightLaw" (109 : Nat) ({ cls := "KeptLightModel", name := "shipAt", desc := "(II)I" } : Jvm.MethodName)) ∈ kx_tbl := kx_m 1319 (by decide +kernel) (by decide +kernel)
theorem kw_1270 : (Jvm.Cond.instanceMethod ({ cls := "KeptLightModel", name := "shipAt", desc := "(II)I" } : Jvm.MethodName)) ∈ kx_tbl := kx_m 1320 (by decide +kernel) (by decide +kernel)
theorem kw_1271 : (Jvm.Cond.selects "KeptLightModel" ({ cls := "KeptLightModel", name := "shipAt", desc := "(II)I" } : Jvm.MethodName) ({ cls := "KeptLightModel", name := "shipAt", desc := "(II)I" } : Jvm.MethodName)) ∈ kx_tbl := kx_m 1321 (by decide +kernel) (by decide +kernel)
theorem kw_1272 : (Jvm.Cond.code ({ cls := "KeptLightModel", name := "shipAt", desc := "(II)I" } : Jvm.MethodName) prog_13_method_42_code (3 : Nat) (Option.some Jvm.ClassFile.FieldType.int)) ∈ kx_tbl := kx_m 1322 (by decide +kernel) (by decide +kernel)
theorem kw_1273 : (Jvm.Cond.methodLink "KeptLightLaw" (113 : Nat) ({ cls := "KeptLightModel", name := "many", desc := "(II)I" } : Jvm.MethodName)) ∈ kx_tbl := kx_m 1323 (by decide +kernel) (by decide +kernel)
theorem kw_1274 : (Jvm.Cond.instanceMethod ({ cls := "KeptLightModel", name := "many", desc := "(II)I" } : Jvm.MethodName)) ∈ kx_tbl := kx_m 1324 (by decide +kernel) (by decide +kernel)
theorem kw_1275 : (Jvm.Cond.selects "KeptLightModel" ({ cls := "KeptLightModel", name := "many", desc := "(II)I" } : Jvm.MethodName) ({ cls := "KeptLightModel", name := "many", desc := "(II)I" } : Jvm.MethodName)) ∈ kx_tbl := kx_m 1325 (by decide +kernel) (by decide +kernel)
theorem kw_1276 : (Jvm.Cond.code ({ cls := "KeptLightModel", name := "many", desc := "(II)I" } : Jvm.MethodName) prog_13_method_44_code (5 : Nat) (Option.some Jvm.ClassFile.FieldType.int)) ∈ kx_tbl := kx_m 1326 (by decide +kernel) (by decide +kernel)
theorem kw_1277 : (Jvm.Cond.methodLink "KeptLightModel" (204 : Nat) ({ cls := "KeptLightModel", name := "isUnder", desc := "(II)Z" } : Jvm.MethodName)) ∈ kx_tbl := kx_m 1327 (by decide +kernel) (by decide +kernel)
theorem kw_1278 : (Jvm.Cond.static ({ cls := "KeptLightModel", name := "isUnder", desc := "(II)Z" } : Jvm.MethodName)) ∈ kx_tbl := kx_m 1328 (by decide +kernel) (by decide +kernel)
theorem kw_1279 : (Jvm.Cond.code ({ cls := "KeptLightModel", name := "isUnder", desc := "(II)Z" } : Jvm.MethodName) prog_13_method_43_code (2 : Nat) (Option.some Jvm.ClassFile.FieldType.boolean)) ∈ kx_tbl := kx_m 1329 (by decide +kernel) (by decide +kernel)
theorem kw_1280 : (Jvm.Cond.methodLink "KeptLightLaw" (117 : Nat) ({ cls := "KeptLightModel", name := "log", desc := "(II)I" } : Jvm.MethodName)) ∈ kx_tbl := kx_m 1330 (by decide +kernel) (by decide +kernel)
theorem kw_1281 : (Jvm.Cond.instanceMethod ({ cls := "KeptLightModel", name := "log", desc := "(II)I" } : Jvm.MethodName)) ∈ kx_tbl := kx_m 1331 (by decide +kernel) (by decide +kernel)
theorem kw_1282 : (Jvm.Cond.selects "KeptLightModel" ({ cls := "KeptLightModel", name := "log", desc := "(II)I" } : Jvm.MethodName) ({ cls := "KeptLightModel", name := "log", desc := "(II)I" } : Jvm.MethodName)) ∈ kx_tbl := kx_m 1332 (by decide +kernel) (by decide +kernel)
theorem kw_1283 : (Jvm.Cond.code ({ cls := "KeptLightModel", name := "log", desc := "(II)I" } : Jvm.MethodName) prog_13_method_45_code (3 : Nat) (Option.some Jvm.ClassFile.FieldType.int)) ∈ kx_tbl := kx_m 1333 (by decide +kernel) (by decide +kernel)
theorem kw_1284 : (Jvm.Cond.methodLink "KeptLightLaw" (121 : Nat) ({ cls := "KeptLightModel", name := "logged", desc := "(I)I" } : Jvm.MethodName)) ∈ kx_tbl := kx_m 1334 (by decide +kernel) (by decide +kernel)
theorem kw_1285 : (Jvm.Cond.instanceMethod ({ cls := "KeptLightModel", name := "logged", desc := "(I)I" } : Jvm.MethodName)) ∈ kx_tbl := kx_m 1335 (by decide +kernel) (by decide +kernel)
theorem kw_1286 : (Jvm.Cond.selects "KeptLightModel" ({ cls := "KeptLightModel", name := "logged", desc := "(I)I" } : Jvm.MethodName) ({ cls := "KeptLightModel", name := "logged", desc := "(I)I" } : Jvm.MethodName)) ∈ kx_tbl := kx_m 1336 (by decide +kernel) (by decide +kernel)
theorem kw_1287 : (Jvm.Cond.code ({ cls := "KeptLightModel", name := "logged", desc := "(I)I" } : Jvm.MethodName) prog_13_method_46_code (4 : Nat) (Option.some Jvm.ClassFile.FieldType.int)) ∈ kx_tbl := kx_m 1337 (by decide +kernel) (by decide +kernel)
theorem kw_1288 : (Jvm.Cond.constantLong "KeptLightModel" (208 : Nat) (6 : Int64)) ∈ kx_tbl := kx_m 1338 (by decide +kernel) (by decide +kernel)
theorem kw_1289 : (Jvm.Cond.methodLink "KeptLightLaw" (125 : Nat) ({ cls := "KeptLightModel", name := "difference", desc := "(II)I" } : Jvm.MethodName)) ∈ kx_tbl := kx_m 1339 (by decide +kernel) (by decide +kernel)
theorem kw_1290 : (Jvm.Cond.instanceMethod ({ cls := "KeptLightModel", name := "difference", desc := "(II)I" } : Jvm.MethodName)) ∈ kx_tbl := kx_m 1340 (by decide +kernel) (by decide +kernel)
theorem kw_1291 : (Jvm.Cond.selects "KeptLightModel" ({ cls := "KeptLightModel", name := "difference", desc := "(II)I" } : Jvm.MethodName) ({ cls := "KeptLightModel", name := "difference", desc := "(II)I" } : Jvm.MethodName)) ∈ kx_tbl := kx_m 1341 (by decide +kernel) (by decide +kernel)
theorem kw_1292 : (Jvm.Cond.code ({ cls := "KeptLightModel", name := "difference", desc := "(II)I" } : Jvm.MethodName) prog_13_method_48_code (6 : Nat) (Option.some Jvm.ClassFile.FieldType.int)) ∈ kx_tbl := kx_m 1342 (by decide +kernel) (by decide +kernel)
theorem kw_1293 : (Jvm.Cond.methodLink "KeptLightModel" (210 : Nat) ({ cls := "KeptLightModel", name := "shipAgainst", desc := "(I)I" } : Jvm.MethodName)) ∈ kx_tbl := kx_m 1343 (by decide +kernel) (by decide +kernel)
theorem kw_1295 : (Jvm.Cond.instanceMethod ({ cls := "KeptLightModel", name := "shipAgainst", desc := "(I)I" } : Jvm.MethodName)) ∈ kx_tbl := kx_m 1345 (by decide +kernel) (by decide +kernel)
theorem kw_1296 : (Jvm.Cond.code ({ cls := "KeptLightModel", name := "shipAgainst", desc := "(I)I" } : Jvm.MethodName) prog_13_method_47_code (7 : Nat) (Option.some Jvm.ClassFile.FieldType.int)) ∈ kx_tbl := kx_m 1346 (by decide +kernel) (by decide +kernel)
theorem kw_1297 : (Jvm.Cond.methodLink "KeptLightLaw" (129 : Nat) ({ cls := "KeptLightModel", name := "differences", desc := "(I)I" } : Jvm.MethodName)) ∈ kx_tbl := kx_m 1347 (by decide +kernel) (by decide +kernel)
theorem kw_1298 : (Jvm.Cond.instanceMethod ({ cls := "KeptLightModel", name := "differences", desc := "(I)I" } : Jvm.MethodName)) ∈ kx_tbl := kx_m 1348 (by decide +kernel) (by decide +kernel)
theorem kw_1299 : (Jvm.Cond.selects "KeptLightModel" ({ cls := "KeptLightModel", name := "differences", desc := "(I)I" } : Jvm.MethodName) ({ cls := "KeptLightModel", name := "differences", desc := "(I)I" } : Jvm.MethodName)) ∈ kx_tbl := kx_m 1349 (by decide +kernel) (by decide +kernel)
theorem kw_1300 : (Jvm.Cond.code ({ cls := "KeptLightModel", name := "differences", desc := "(I)I" } : Jvm.MethodName) prog_13_method_49_code (4 : Nat) (Option.some Jvm.ClassFile.FieldType.int)) ∈ kx_tbl := kx_m 1350 (by decide +kernel) (by decide +kernel)
theorem kw_1301 : (Jvm.Cond.methodLink "KeptLightLaw" (133 : Nat) ({ cls := "KeptLightModel", name := "unlit", desc := "()I" } : Jvm.MethodName)) ∈ kx_tbl := kx_m 1351 (by decide +kernel) (by decide +kernel)
theorem kw_1302 : (Jvm.Cond.instanceMethod ({ cls := "KeptLightModel", name := "unlit", desc := "()I" } : Jvm.MethodName)) ∈ kx_tbl := kx_m 1352 (by decide +kernel) (by decide +kernel)
theorem kw_1303 : (Jvm.Cond.selects "KeptLightModel" ({ cls := "KeptLightModel", name := "unlit", desc := "()I" } : Jvm.MethodName) ({ cls := "KeptLightModel", name := "unlit", desc := "()I" } : Jvm.MethodName)) ∈ kx_tbl := kx_m 1353 (by decide +kernel) (by decide +kernel)
theorem kw_1304 : (Jvm.Cond.code ({ cls := "KeptLightModel", name := "unlit", desc := "()I" } : Jvm.MethodName) prog_13_method_50_code (1 : Nat) (Option.some Jvm.ClassFile.FieldType.int)) ∈ kx_tbl := kx_m 1354 (by decide +kernel) (by decide +kernel)
theorem kw_1305 : (Jvm.Cond.methodLink "KeptLightLaw" (137 : Nat) ({ cls := "KeptLightModel", name := "would", desc := "(II)I" } : Jvm.MethodName)) ∈ kx_tbl := kx_m 1355 (by decide +kernel) (by decide +kernel)
theorem kw_1306 : (Jvm.Cond.instanceMethod ({ cls := "KeptLightModel", name := "would", desc := "(II)I" } : Jvm.MethodName)) ∈ kx_tbl := kx_m 1356 (by decide +kernel) (by decide +kernel)
theorem kw_1307 : (Jvm.Cond.selects "KeptLightModel" ({ cls := "KeptLightModel", name := "would", desc := "(II)I" } : Jvm.MethodName) ({ cls := "KeptLightModel", name := "would", desc := "(II)I" } : Jvm.MethodName)) ∈ kx_tbl := kx_m 1357 (by decide +kernel) (by decide +kernel)
theorem kw_1308 : (Jvm.Cond.code ({ cls := "KeptLightModel", name := "would", desc := "(II)I" } : Jvm.MethodName) prog_13_method_52_code (8 : Nat) (Option.some Jvm.ClassFile.FieldType.int)) ∈ kx_tbl := kx_m 1358 (by decide +kernel) (by decide +kernel)
theorem kw_1309 : (Jvm.Cond.methodLink "KeptLightModel" (123 : Nat) ({ cls := "KeptLightModel", name := "copies", desc := "([I[I)V" } : Jvm.MethodName)) ∈ kx_tbl := kx_m 1359 (by decide +kernel) (by decide +kernel)
theorem kw_1310 : (Jvm.Cond.static ({ cls := "KeptLightModel", name := "copies", desc := "([I[I)V" } : Jvm.MethodName)) ∈ kx_tbl := kx_m 1360 (by decide +kernel) (by decide +kernel)
theorem kw_1311 : (Jvm.Cond.code ({ cls := "KeptLightModel", name := "copies", desc := "([I[I)V" } : Jvm.MethodName) prog_13_method_4_code (3 : Nat) (Option.none : Option Jvm.ClassFile.FieldType)) ∈ kx_tbl := kx_m 1361 (by decide +kernel) (by decide +kernel)
theorem kw_1312 : (Jvm.Cond.methodLink "KeptLightModel" (213 : Nat) ({ cls := "KeptLightModel", name := "became", desc := "(I)I" } : Jvm.MethodName)) ∈ kx_tbl := kx_m 1362 (by decide +kernel) (by decide +kernel)
theorem kw_1314 : (Jvm.Cond.instanceMethod ({ cls := "KeptLightModel", name := "became", desc := "(I)I" } : Jvm.MethodName)) ∈ kx_tbl := kx_m 1364 (by decide +kernel) (by decide +kernel)
theorem kw_1315 : (Jvm.Cond.code ({ cls := "KeptLightModel", name := "became", desc := "(I)I" } : Jvm.MethodName) prog_13_method_51_code (4 : Nat) (Option.some Jvm.ClassFile.FieldType.int)) ∈ kx_tbl := kx_m 1365 (by decide +kernel) (by decide +kernel)
theorem kw_1316 : (Jvm.Cond.methodLink "KeptLightLaw" (141 : Nat) ({ cls := "KeptLightModel", name := "fails", desc := "()I" } : Jvm.MethodName)) ∈ kx_tbl := kx_m 1366 (by decide +kernel) (by decide +kernel)
theorem kw_1317 : (Jvm.Cond.instanceMethod ({ cls := "KeptLightModel", name := "fails", desc := "()I" } : Jvm.MethodName)) ∈ kx_tbl := kx_m 1367 (by decide +kernel) (by decide +kernel)
theorem kw_1318 : (Jvm.Cond.selects "KeptLightModel" ({ cls := "KeptLightModel", name := "fails", desc := "()I" } : Jvm.MethodName) ({ cls := "KeptLightModel", name := "fails", desc := "()I" } : Jvm.MethodName)) ∈ kx_tbl := kx_m 1368 (by decide +kernel) (by decide +kernel)
theorem kw_1319 : (Jvm.Cond.code ({ cls := "KeptLightModel", name := "fails", desc := "()I" } : Jvm.MethodName) prog_13_method_53_code (3 : Nat) (Option.some Jvm.ClassFile.FieldType.int)) ∈ kx_tbl := kx_m 1369 (by decide +kernel) (by decide +kernel)
theorem kw_1320 : (Jvm.Cond.methodLink "KeptLightLaw" (145 : Nat) ({ cls := "KeptLightModel", name := "comes", desc := "()I" } : Jvm.MethodName)) ∈ kx_tbl := kx_m 1370 (by decide +kernel) (by decide +kernel)
theorem kw_1321 : (Jvm.Cond.instanceMethod ({ cls := "KeptLightModel", name := "comes", desc := "()I" } : Jvm.MethodName)) ∈ kx_tbl := kx_m 1371 (by decide +kernel) (by decide +kernel)
theorem kw_1322 : (Jvm.Cond.selects "KeptLightModel" ({ cls := "KeptLightModel", name := "comes", desc := "()I" } : Jvm.MethodName) ({ cls := "KeptLightModel", name := "comes", desc := "()I" } : Jvm.MethodName)) ∈ kx_tbl := kx_m 1372 (by decide +kernel) (by decide +kernel)
theorem kw_1323 : (Jvm.Cond.code ({ cls := "KeptLightModel", name := "comes", desc := "()I" } : Jvm.MethodName) prog_13_method_54_code (3 : Nat) (Option.some Jvm.ClassFile.FieldType.int)) ∈ kx_tbl := kx_m 1373 (by decide +kernel) (by decide +kernel)
theorem kw_1324 : (Jvm.Cond.methodLink "KeptLightLaw" (149 : Nat) ({ cls := "KeptLightModel", name := "oil", desc := "(I)I" } : Jvm.MethodName)) ∈ kx_tbl := kx_m 1374 (by decide +kernel) (by decide +kernel)
theorem kw_1325 : (Jvm.Cond.instanceMethod ({ cls := "KeptLightModel", name := "oil", desc := "(I)I" } : Jvm.MethodName)) ∈ kx_tbl := kx_m 1375 (by decide +kernel) (by decide +kernel)
theorem kw_1326 : (Jvm.Cond.selects "KeptLightModel" ({ cls := "KeptLightModel", name := "oil", desc := "(I)I" } : Jvm.MethodName) ({ cls := "KeptLightModel", name := "oil", desc := "(I)I" } : Jvm.MethodName)) ∈ kx_tbl := kx_m 1376 (by decide +kernel) (by decide +kernel)
theorem kw_1327 : (Jvm.Cond.code ({ cls := "KeptLightModel", name := "oil", desc := "(I)I" } : Jvm.MethodName) prog_13_method_56_code (4 : Nat) (Option.some Jvm.ClassFile.FieldType.int)) ∈ kx_tbl := kx_m 1377 (by decide +kernel) (by decide +kernel)
theorem kw_1328 : (Jvm.Cond.methodLink "KeptLightModel" (216 : Nat) ({ cls := "KeptLightModel", name := "unlitBy", desc := "(II)I" } : Jvm.MethodName)) ∈ kx_tbl := kx_m 1378 (by decide +kernel) (by decide +kernel)
theorem kw_1330 : (Jvm.Cond.instanceMethod ({ cls := "KeptLightModel", name := "unlitBy", desc := "(II)I" } : Jvm.MethodName)) ∈ kx_tbl := kx_m 1380 (by decide +kernel) (by decide +kernel)
theorem kw_1331 : (Jvm.Cond.code ({ cls := "KeptLightModel", name := "unlitBy", desc := "(II)I" } : Jvm.MethodName) prog_13_method_55_code (9 : Nat) (Option.some Jvm.ClassFile.FieldType.int)) ∈ kx_tbl := kx_m 1381 (by decide +kernel) (by decide +kernel)
theorem kw_1332 : (Jvm.Cond.methodLink "KeptLightLaw" (153 : Nat) ({ cls := "KeptLightModel", name := "better", desc := "(II)I" } : Jvm.MethodName)) ∈ kx_tbl := kx_m 1382 (by decide +kernel) (by decide +kernel)
theorem kw_1333 : (Jvm.Cond.instanceMethod ({ cls := "KeptLightModel", name := "better", desc := "(II)I" } : Jvm.MethodName)) ∈ kx_tbl := kx_m 1383 (by decide +kernel) (by decide +kernel)
theorem kw_1334 : (Jvm.Cond.selects "KeptLightModel" ({ cls := "KeptLightModel", name := "better", desc := "(II)I" } : Jvm.MethodName) ({ cls := "KeptLightModel", name := "better", desc := "(II)I" } : Jvm.MethodName)) ∈ kx_tbl := kx_m 1384 (by decide +kernel) (by decide +kernel)
theorem kw_1335 : (Jvm.Cond.code ({ cls := "KeptLightModel", name := "better", desc := "(II)I" } : Jvm.MethodName) prog_13_method_57_code (8 : Nat) (Option.some Jvm.ClassFile.FieldType.int)) ∈ kx_tbl := kx_m 1385 (by decide +kernel) (by decide +kernel)
theorem kw_1336 : (Jvm.Cond.methodLink "KeptLightModel" (219 : Nat) ({ cls := "KeptLightModel", name := "unlitOf", desc := "(I)I" } : Jvm.MethodName)) ∈ kx_tbl := kx_m 1386 (by decide +kernel) (by decide +kernel)
theorem kw_1338 : (Jvm.Cond.instanceMethod ({ cls := "KeptLightModel", name := "unlitOf", desc := "(I)I" } : Jvm.MethodName)) ∈ kx_tbl := kx_m 1388 (by decide +kernel) (by decide +kernel)
theorem kw_1339 : (Jvm.Cond.code ({ cls := "KeptLightModel", name := "unlitOf", desc := "(I)I" } : Jvm.MethodName) prog_13_method_21_code (3 : Nat) (Option.some Jvm.ClassFile.FieldType.int)) ∈ kx_tbl := kx_m 1389 (by decide +kernel) (by decide +kernel)
theorem kw_1340 : (Jvm.Cond.methodLink "KeptLightLaw" (157 : Nat) ({ cls := "KeptLightModel", name := "other", desc := "(II)I" } : Jvm.MethodName)) ∈ kx_tbl := kx_m 1390 (by decide +kernel) (by decide +kernel)
theorem kw_1341 : (Jvm.Cond.instanceMethod ({ cls := "KeptLightModel", name := "other", desc := "(II)I" } : Jvm.MethodName)) ∈ kx_tbl := kx_m 1391 (by decide +kernel) (by decide +kernel)
theorem kw_1342 : (Jvm.Cond.selects "KeptLightModel" ({ cls := "KeptLightModel", name := "other", desc := "(II)I" } : Jvm.MethodName) ({ cls := "KeptLightModel", name := "other", desc := "(II)I" } : Jvm.MethodName)) ∈ kx_tbl := kx_m 1392 (by decide +kernel) (by decide +kernel)
theorem kw_1343 : (Jvm.Cond.code ({ cls := "KeptLightModel", name := "other", desc := "(II)I" } : Jvm.MethodName) prog_13_method_59_code (6 : Nat) (Option.some Jvm.ClassFile.FieldType.int)) ∈ kx_tbl := kx_m 1393 (by decide +kernel) (by decide +kernel)
theorem kw_1344 : (Jvm.Cond.methodLink "KeptLightModel" (222 : Nat) ({ cls := "KeptLightModel", name := "keepsPlan", desc := "(Z)V" } : Jvm.MethodName)) ∈ kx_tbl := kx_m 1394 (by decide +kernel) (by decide +kernel)
theorem kw_1346 : (Jvm.Cond.instanceMethod ({ cls := "KeptLightModel", name := "keepsPlan", desc := "(Z)V" } : Jvm.MethodName)) ∈ kx_tbl := kx_m 1396 (by decide +kernel) (by decide +kernel)
theorem kw_1347 : (Jvm.Cond.code ({ cls := "KeptLightModel", name := "keepsPlan", desc := "(Z)V" } : Jvm.MethodName) prog_13_method_58_code (3 : Nat) (Option.none : Option Jvm.ClassFile.FieldType)) ∈ kx_tbl := kx_m 1397 (by decide +kernel) (by decide +kernel)
theorem kw_1348 : (Jvm.Cond.methodLink "KeptLightLaw" (161 : Nat) ({ cls := "KeptLightModel", name := "idle", desc := "(I)I" } : Jvm.MethodName)) ∈ kx_tbl := kx_m 1398 (by decide +kernel) (by decide +kernel)
theorem kw_1349 : (Jvm.Cond.instanceMethod ({ cls := "KeptLightModel", name := "idle", desc := "(I)I" } : Jvm.MethodName)) ∈ kx_tbl := kx_m 1399 (by decide +kernel) (by decide +kernel)
theorem kw_1350 : (Jvm.Cond.selects "KeptLightModel" ({ cls := "KeptLightModel", name := "idle", desc := "(I)I" } : Jvm.MethodName) ({ cls := "KeptLightModel", name := "idle", desc := "(I)I" } : Jvm.MethodName)) ∈ kx_tbl := kx_m 1400 (by decide +kernel) (by decide +kernel)
theorem kw_1351 : (Jvm.Cond.code ({ cls := "KeptLightModel", name := "idle", desc := "(I)I" } : Jvm.MethodName) prog_13_method_60_code (6 : Nat) (Option.some Jvm.ClassFile.FieldType.int)) ∈ kx_tbl := kx_m 1401 (by decide +kernel) (by decide +kernel)
theorem kw_1352 : (Jvm.Cond.methodLink "KeptLightLaw" (17 : Nat) ({ cls := "KeptLightModel", name := "row", desc := "(III)I" } : Jvm.MethodName)) ∈ kx_tbl := kx_m 1402 (by decide +kernel) (by decide +kernel)
theorem kw_1353 : (Jvm.Cond.instanceMethod ({ cls := "KeptLightModel", name := "row", desc := "(III)I" } : Jvm.MethodName)) ∈ kx_tbl := kx_m 1403 (by decide +kernel) (by decide +kernel)
theorem kw_1354 : (Jvm.Cond.selects "KeptLightModel" ({ cls := "KeptLightModel", name := "row", desc := "(III)I" } : Jvm.MethodName) ({ cls := "KeptLightModel", name := "row", desc := "(III)I" } : Jvm.MethodName)) ∈ kx_tbl := kx_m 1404 (by decide +kernel) (by decide +kernel)
theorem kw_1355 : (Jvm.Cond.code ({ cls := "KeptLightModel", name := "row", desc := "(III)I" } : Jvm.MethodName) prog_13_method_62_code (5 : Nat) (Option.some Jvm.ClassFile.FieldType.int)) ∈ kx_tbl := kx_m 1405 (by decide +kernel) (by decide +kernel)
theorem kw_1356 : (Jvm.Cond.constantLong "KeptLightModel" (226 : Nat) (40 : Int64)) ∈ kx_tbl := kx_m 1406 (by decide +kernel) (by decide +kernel)
theorem kw_1357 : (Jvm.Cond.methodLink "KeptLightLaw" (24 : Nat) ({ cls := "KeptLightModel", name := "set", desc := "(IIJ)I" } : Jvm.MethodName)) ∈ kx_tbl := kx_m 1407 (by decide +kernel) (by decide +kernel)
theorem kw_1358 : (Jvm.Cond.instanceMethod ({ cls := "KeptLightModel", name := "set", desc := "(IIJ)I" } : Jvm.MethodName)) ∈ kx_tbl := kx_m 1408 (by decide +kernel) (by decide +kernel)
theorem kw_1359 : (Jvm.Cond.selects "KeptLightModel" ({ cls := "KeptLightModel", name := "set", desc := "(IIJ)I" } : Jvm.MethodName) ({ cls := "KeptLightModel", name := "set", desc := "(IIJ)I" } : Jvm.MethodName)) ∈ kx_tbl := kx_m 1409 (by decide +kernel) (by decide +kernel)
theorem kw_1360 : (Jvm.Cond.code ({ cls := "KeptLightModel", name := "set", desc := "(IIJ)I" } : Jvm.MethodName) prog_13_method_64_code (5 : Nat) (Option.some Jvm.ClassFile.FieldType.int)) ∈ kx_tbl := kx_m 1410 (by decide +kernel) (by decide +kernel)
theorem kw_1361 : (Jvm.Cond.methodLink "KeptLightModel" (228 : Nat) ({ cls := "KeptLightModel", name := "lowest", desc := "(IJ)J" } : Jvm.MethodName)) ∈ kx_tbl := kx_m 1411 (by decide +kernel) (by decide +kernel)
theorem kw_1362 : (Jvm.Cond.static ({ cls := "KeptLightModel", name := "lowest", desc := "(IJ)J" } : Jvm.MethodName)) ∈ kx_tbl := kx_m 1412 (by decide +kernel) (by decide +kernel)
theorem kw_1363 : (Jvm.Cond.code ({ cls := "KeptLightModel", name := "lowest", desc := "(IJ)J" } : Jvm.MethodName) prog_13_method_63_code (3 : Nat) (Option.some Jvm.ClassFile.FieldType.long)) ∈ kx_tbl := kx_m 1413 (by decide +kernel) (by decide +kernel)
theorem kw_1364 : (Jvm.Cond.methodLink "KeptLightLaw" (29 : Nat) ({ cls := "KeptLightModel", name := "copy", desc := "(IIIII)I" } : Jvm.MethodName)) ∈ kx_tbl := kx_m 1414 (by decide +kernel) (by decide +kernel)
theorem kw_1365 : (Jvm.Cond.instanceMethod ({ cls := "KeptLightModel", name := "copy", desc := "(IIIII)I" } : Jvm.MethodName)) ∈ kx_tbl := kx_m 1415 (by decide +kernel) (by decide +kernel)
theorem kw_1366 : (Jvm.Cond.selects "KeptLightModel" ({ cls := "KeptLightModel", name := "copy", desc := "(IIIII)I" } : Jvm.MethodName) ({ cls := "KeptLightModel", name := "copy", desc := "(IIIII)I" } : Jvm.MethodName)) ∈ kx_tbl := kx_m 1416 (by decide +kernel) (by decide +kernel)
theorem kw_1367 : (Jvm.Cond.code ({ cls := "KeptLightModel", name := "copy", desc := "(IIIII)I" } : Jvm.MethodName) prog_13_method_65_code (8 : Nat) (Option.some Jvm.ClassFile.FieldType.int)) ∈ kx_tbl := kx_m 1417 (by decide +kernel) (by decide +kernel)
theorem kw_1368 : (Jvm.Cond.methodLink "KeptLightLaw" (34 : Nat) ({ cls := "KeptLightModel", name := "element", desc := "(II)J" } : Jvm.MethodName)) ∈ kx_tbl := kx_m 1418 (by decide +kernel) (by decide +kernel)
theorem kw_1369 : (Jvm.Cond.instanceMethod ({ cls := "KeptLightModel", name := "element", desc := "(II)J" } : Jvm.MethodName)) ∈ kx_tbl := kx_m 1419 (by decide +kernel) (by decide +kernel)
theorem kw_1370 : (Jvm.Cond.selects "KeptLightModel" ({ cls := "KeptLightModel", name := "element", desc := "(II)J" } : Jvm.MethodName) ({ cls := "KeptLightModel", name := "element", desc := "(II)J" } : Jvm.MethodName)) ∈ kx_tbl := kx_m 1420 (by decide +kernel) (by decide +kernel)
theorem kw_1371 : (Jvm.Cond.code ({ cls := "KeptLightModel", name := "element", desc := "(II)J" } : Jvm.MethodName) prog_13_method_66_code (3 : Nat) (Option.some Jvm.ClassFile.FieldType.long)) ∈ kx_tbl := kx_m 1421 (by decide +kernel) (by decide +kernel)
theorem kw_1372 : (Jvm.Cond.methodLink "KeptLightLaw" (39 : Nat) ({ cls := "KeptLightModel", name := "holds", desc := "(I)I" } : Jvm.MethodName)) ∈ kx_tbl := kx_m 1422 (by decide +kernel) (by decide +kernel)
theorem kw_1373 : (Jvm.Cond.instanceMethod ({ cls := "KeptLightModel", name := "holds", desc := "(I)I" } : Jvm.MethodName)) ∈ kx_tbl := kx_m 1423 (by decide +kernel) (by decide +kernel)
theorem kw_1374 : (Jvm.Cond.selects "KeptLightModel" ({ cls := "KeptLightModel", name := "holds", desc := "(I)I" } : Jvm.MethodName) ({ cls := "KeptLightModel", name := "holds", desc := "(I)I" } : Jvm.MethodName)) ∈ kx_tbl := kx_m 1424 (by decide +kernel) (by decide +kernel)
theorem kw_1375 : (Jvm.Cond.code ({ cls := "KeptLightModel", name := "holds", desc := "(I)I" } : Jvm.MethodName) prog_13_method_67_code (2 : Nat) (Option.some Jvm.ClassFile.FieldType.int)) ∈ kx_tbl := kx_m 1425 (by decide +kernel) (by decide +kernel)
theorem kw_1376 : (Jvm.Cond.methodLink "KeptLightLaw" (44 : Nat) ({ cls := "KeptLightModel", name := "show", desc := "(II)I" } : Jvm.MethodName)) ∈ kx_tbl := kx_m 1426 (by decide +kernel) (by decide +kernel)
theorem kw_1377 : (Jvm.Cond.instanceMethod ({ cls := "KeptLightModel", name := "show", desc := "(II)I" } : Jvm.MethodName)) ∈ kx_tbl := kx_m 1427 (by decide +kernel) (by decide +kernel)
theorem kw_1378 : (Jvm.Cond.selects "KeptLightModel" ({ cls := "KeptLightModel", name := "show", desc := "(II)I" } : Jvm.MethodName) ({ cls := "KeptLightModel", name := "show", desc := "(II)I" } : Jvm.MethodName)) ∈ kx_tbl := kx_m 1428 (by decide +kernel) (by decide +kernel)
theorem kw_1379 : (Jvm.Cond.code ({ cls := "KeptLightModel", name := "show", desc := "(II)I" } : Jvm.MethodName) prog_13_method_68_code (3 : Nat) (Option.some Jvm.ClassFile.FieldType.int)) ∈ kx_tbl := kx_m 1429 (by decide +kernel) (by decide +kernel)
theorem kw_1380 : (Jvm.Cond.methodLink "KeptLightLaw" (48 : Nat) ({ cls := "KeptLightModel", name := "says", desc := "(II)I" } : Jvm.MethodName)) ∈ kx_tbl := kx_m 1430 (by decide +kernel) (by decide +kernel)
theorem kw_1381 : (Jvm.Cond.instanceMethod ({ cls := "KeptLightModel", name := "says", desc := "(II)I" } : Jvm.MethodName)) ∈ kx_tbl := kx_m 1431 (by decide +kernel) (by decide +kernel)
theorem kw_1382 : (Jvm.Cond.selects "KeptLightModel" ({ cls := "KeptLightModel", name := "says", desc := "(II)I" } : Jvm.MethodName) ({ cls := "KeptLightModel", name := "says", desc := "(II)I" } : Jvm.MethodName)) ∈ kx_tbl := kx_m 1432 (by decide +kernel) (by decide +kernel)
theorem kw_1383 : (Jvm.Cond.code ({ cls := "KeptLightModel", name := "says", desc := "(II)I" } : Jvm.MethodName) prog_13_method_69_code (5 : Nat) (Option.some Jvm.ClassFile.FieldType.int)) ∈ kx_tbl := kx_m 1433 (by decide +kernel) (by decide +kernel)
theorem kw_1384 : (Jvm.Cond.methodLink "KeptLightLaw" (165 : Nat) ({ cls := "KeptLightModel", name := "judge", desc := "(III)I" } : Jvm.MethodName)) ∈ kx_tbl := kx_m 1434 (by decide +kernel) (by decide +kernel)
theorem kw_1385 : (Jvm.Cond.instanceMethod ({ cls := "KeptLightModel", name := "judge", desc := "(III)I" } : Jvm.MethodName)) ∈ kx_tbl := kx_m 1435 (by decide +kernel) (by decide +kernel)
theorem kw_1386 : (Jvm.Cond.selects "KeptLightModel" ({ cls := "KeptLightModel", name := "judge", desc := "(III)I" } : Jvm.MethodName) ({ cls := "KeptLightModel", name := "judge", desc := "(III)I" } : Jvm.MethodName)) ∈ kx_tbl := kx_m 1436 (by decide +kernel) (by decide +kernel)
theorem kw_1387 : (Jvm.Cond.code ({ cls := "KeptLightModel", name := "judge", desc := "(III)I" } : Jvm.MethodName) prog_13_method_70_code (6 : Nat) (Option.some Jvm.ClassFile.FieldType.int)) ∈ kx_tbl := kx_m 1437 (by decide +kernel) (by decide +kernel)
theorem kw_1388 : (Jvm.Cond.constantLong "KeptLightModel" (232 : Nat) (20 : Int64)) ∈ kx_tbl := kx_m 1438 (by decide +kernel) (by decide +kernel)
theorem kw_1389 : (Jvm.Cond.methodLink "KeptLightLaw" (169 : Nat) ({ cls := "KeptLightModel", name := "days", desc := "(I)I" } : Jvm.MethodName)) ∈ kx_tbl := kx_m 1439 (by decide +kernel) (by decide +kernel)
theorem kw_1390 : (Jvm.Cond.instanceMethod ({ cls := "KeptLightModel", name := "days", desc := "(I)I" } : Jvm.MethodName)) ∈ kx_tbl := kx_m 1440 (by decide +kernel) (by decide +kernel)
theorem kw_1391 : (Jvm.Cond.selects "KeptLightModel" ({ cls := "KeptLightModel", name := "days", desc := "(I)I" } : Jvm.MethodName) ({ cls := "KeptLightModel", name := "days", desc := "(I)I" } : Jvm.MethodName)) ∈ kx_tbl := kx_m 1441 (by decide +kernel) (by decide +kernel)
theorem kw_1392 : (Jvm.Cond.code ({ cls := "KeptLightModel", name := "days", desc := "(I)I" } : Jvm.MethodName) prog_13_method_72_code (6 : Nat) (Option.some Jvm.ClassFile.FieldType.int)) ∈ kx_tbl := kx_m 1442 (by decide +kernel) (by decide +kernel)
theorem kw_1393 : (Jvm.Cond.constantLong "KeptLightModel" (235 : Nat) (60 : Int64)) ∈ kx_tbl := kx_m 1443 (by decide +kernel) (by decide +kernel)
theorem kw_1394 : (Jvm.Cond.methodLink "KeptLightModel" (237 : Nat) ({ cls := "KeptLightModel", name := "draw", desc := "(I)I" } : Jvm.MethodName)) ∈ kx_tbl := kx_m 1444 (by decide +kernel) (by decide +kernel)
theorem kw_1396 : (Jvm.Cond.instanceMethod ({ cls := "KeptLightModel", name := "draw", desc := "(I)I" } : Jvm.MethodName)) ∈ kx_tbl := kx_m 1446 (by decide +kernel) (by decide +kernel)
theorem kw_1397 : (Jvm.Cond.code ({ cls := "KeptLightModel", name := "draw", desc := "(I)I" } : Jvm.MethodName) prog_13_method_71_code (2 : Nat) (Option.some Jvm.ClassFile.FieldType.int)) ∈ kx_tbl := kx_m 1447 (by decide +kernel) (by decide +kernel)
theorem kw_1398 : (Jvm.Cond.constant "KeptLightModel" (234 : Nat) (1103515245 : Int32)) ∈ kx_tbl := kx_m 1448 (by decide +kernel) (by decide +kernel)
theorem kw_1399 : (Jvm.Cond.methodLink "KeptLightLaw" (173 : Nat) ({ cls := "KeptLightModel", name := "seed", desc := "(I)I" } : Jvm.MethodName)) ∈ kx_tbl := kx_m 1449 (by decide +kernel) (by decide +kernel)
theorem kw_1400 : (Jvm.Cond.instanceMethod ({ cls := "KeptLightModel", name := "seed", desc := "(I)I" } : Jvm.MethodName)) ∈ kx_tbl := kx_m 1450 (by decide +kernel) (by decide +kernel)
theorem kw_1401 : (Jvm.Cond.selects "KeptLightModel" ({ cls := "KeptLightModel", name := "seed", desc := "(I)I" } : Jvm.MethodName) ({ cls := "KeptLightModel", name := "seed", desc := "(I)I" } : Jvm.MethodName)) ∈ kx_tbl := kx_m 1451 (by decide +kernel) (by decide +kernel)
theorem kw_1402 : (Jvm.Cond.code ({ cls := "KeptLightModel", name := "seed", desc := "(I)I" } : Jvm.MethodName) prog_13_method_73_code (3 : Nat) (Option.some Jvm.ClassFile.FieldType.int)) ∈ kx_tbl := kx_m 1452 (by decide +kernel) (by decide +kernel)
theorem kw_1403 : (Jvm.Cond.methodLink "KeptLightLaw" (177 : Nat) ({ cls := "KeptLightModel", name := "image", desc := "()I" } : Jvm.MethodName)) ∈ kx_tbl := kx_m 1453 (by decide +kernel) (by decide +kernel)
theorem kw_1404 : (Jvm.Cond.instanceMethod ({ cls := "KeptLightModel", name := "image", desc := "()I" } : Jvm.MethodName)) ∈ kx_tbl := kx_m 1454 (by decide +kernel) (by decide +kernel)
theorem kw_1405 : (Jvm.Cond.selects "KeptLightModel" ({ cls := "KeptLightModel", name := "image", desc := "()I" } : Jvm.MethodName) ({ cls := "KeptLightModel", name := "image", desc := "()I" } : Jvm.MethodName)) ∈ kx_tbl := kx_m 1455 (by decide +kernel) (by decide +kernel)
theorem kw_1406 : (Jvm.Cond.code ({ cls := "KeptLightModel", name := "image", desc := "()I" } : Jvm.MethodName) prog_13_method_74_code (1 : Nat) (Option.some Jvm.ClassFile.FieldType.int)) ∈ kx_tbl := kx_m 1456 (by decide +kernel) (by decide +kernel)
theorem kw_1407 : (Jvm.Cond.methodLink "KeptLightLaw" (181 : Nat) ({ cls := "KeptLightModel", name := "back", desc := "()I" } : Jvm.MethodName)) ∈ kx_tbl := kx_m 1457 (by decide +kernel) (by decide +kernel)
theorem kw_1408 : (Jvm.Cond.instanceMethod ({ cls := "KeptLightModel", name := "back", desc := "()I" } : Jvm.MethodName)) ∈ kx_tbl := kx_m 1458 (by decide +kernel) (by decide +kernel)
theorem kw_1409 : (Jvm.Cond.selects "KeptLightModel" ({ cls := "KeptLightModel", name := "back", desc := "()I" } : Jvm.MethodName) ({ cls := "KeptLightModel", name := "back", desc := "()I" } : Jvm.MethodName)) ∈ kx_tbl := kx_m 1459 (by decide +kernel) (by decide +kernel)
theorem kw_1410 : (Jvm.Cond.code ({ cls := "KeptLightModel", name := "back", desc := "()I" } : Jvm.MethodName) prog_13_method_75_code (2 : Nat) (Option.some Jvm.ClassFile.FieldType.int)) ∈ kx_tbl := kx_m 1460 (by decide +kernel) (by decide +kernel)
theorem kw_1411 : (Jvm.Cond.methodLink "KeptLightLaw" (185 : Nat) ({ cls := "KeptLightModel", name := "status", desc := "(I)I" } : Jvm.MethodName)) ∈ kx_tbl := kx_m 1461 (by decide +kernel) (by decide +kernel)
theorem kw_1412 : (Jvm.Cond.instanceMethod ({ cls := "KeptLightModel", name := "status", desc := "(I)I" } : Jvm.MethodName)) ∈ kx_tbl := kx_m 1462 (by decide +kernel) (by decide +kernel)
theorem kw_1413 : (Jvm.Cond.selects "KeptLightModel" ({ cls := "KeptLightModel", name := "status", desc := "(I)I" } : Jvm.MethodName) ({ cls := "KeptLightModel", name := "status", desc := "(I)I" } : Jvm.MethodName)) ∈ kx_tbl := kx_m 1463 (by decide +kernel) (by decide +kernel)
theorem kw_1414 : (Jvm.Cond.code ({ cls := "KeptLightModel", name := "status", desc := "(I)I" } : Jvm.MethodName) prog_13_method_77_code (2 : Nat) (Option.some Jvm.ClassFile.FieldType.int)) ∈ kx_tbl := kx_m 1464 (by decide +kernel) (by decide +kernel)
theorem kw_1415 : (Jvm.Cond.constantLong "KeptLightModel" (243 : Nat) (11 : Int64)) ∈ kx_tbl := kx_m 1465 (by decide +kernel) (by decide +kernel)
theorem kw_1416 : (Jvm.Cond.constantLong "KeptLightModel" (245 : Nat) (16 : Int64)) ∈ kx_tbl := kx_m 1466 (by decide +kernel) (by decide +kernel)
theorem kw_1417 : (Jvm.Cond.methodLink "KeptLightModel" (247 : Nat) ({ cls := "KeptLightModel", name := "held", desc := "()I" } : Jvm.MethodName)) ∈ kx_tbl := kx_m 1467 (by decide +kernel) (by decide +kernel)
theorem kw_1419 : (Jvm.Cond.instanceMethod ({ cls := "KeptLightModel", name := "held", desc := "()I" } : Jvm.MethodName)) ∈ kx_tbl := kx_m 1469 (by decide +kernel) (by decide +kernel)
theorem kw_1420 : (Jvm.Cond.code ({ cls := "KeptLightModel", name := "held", desc := "()I" } : Jvm.MethodName) prog_13_method_76_code (3 : Nat) (Option.some Jvm.ClassFile.FieldType.int)) ∈ kx_tbl := kx_m 1470 (by decide +kernel) (by decide +kernel)
theorem kw_1421 : (Jvm.Cond.constantLong "KeptLightLaw" (18 : Nat) (4294967295 : Int64)) ∈ kx_tbl := kx_m 1471 (by decide +kernel) (by decide +kernel)
theorem kv_0 : (Jvm.Cond.selects "KeptLight" ({ cls := "KeptLight", name := "shelfAt", desc := "(I)LKeptLight$Shelf;" } : Jvm.MethodName) ({ cls := "KeptLight", name := "shelfAt", desc := "(I)LKeptLight$Shelf;" } : Jvm.MethodName)) ∈ kx_tbl := kx_m 0 (by decide +kernel) (by decide +kernel)
theorem kv_1 : (Jvm.Cond.selects "KeptLight" ({ cls := "KeptLight", name := "refuse", desc := "(I)I" } : Jvm.MethodName) ({ cls := "KeptLight", name := "refuse", desc := "(I)I" } : Jvm.MethodName)) ∈ kx_tbl := kx_m 1 (by decide +kernel) (by decide +kernel)
theorem kv_2 : (Jvm.Cond.selects "KeptLight" ({ cls := "KeptLight", name := "againstRowIn", desc := "(I)I" } : Jvm.MethodName) ({ cls := "KeptLight", name := "againstRowIn", desc := "(I)I" } : Jvm.MethodName)) ∈ kx_tbl := kx_m 2 (by decide +kernel) (by decide +kernel)
theorem kv_3 : (Jvm.Cond.selects "KeptLight$Shelf" ({ cls := "KeptLight$Shelf", name := "fitted", desc := "(J)J" } : Jvm.MethodName) ({ cls := "KeptLight$Shelf", name := "fitted", desc := "(J)J" } : Jvm.MethodName)) ∈ kx_tbl := kx_m 3 (by decide +kernel) (by decide +kernel)
theorem kv_4 : (Jvm.Cond.selects "KeptLight" ({ cls := "KeptLight", name := "saidAs", desc := "(II)I" } : Jvm.MethodName) ({ cls := "KeptLight", name := "saidAs", desc := "(II)I" } : Jvm.MethodName)) ∈ kx_tbl := kx_m 4 (by decide +kernel) (by decide +kernel)
theorem kv_5 : (Jvm.Cond.selects "KeptLight$Tape" ({ cls := "KeptLight$Tape", name := "byteAt", desc := "(I)I" } : Jvm.MethodName) ({ cls := "KeptLight$Tape", name := "byteAt", desc := "(I)I" } : Jvm.MethodName)) ∈ kx_tbl := kx_m 5 (by decide +kernel) (by decide +kernel)
theorem kv_6 : (Jvm.Cond.selects "KeptLight$Tape" ({ cls := "KeptLight$Tape", name := "countDigits", desc := "(I)I" } : Jvm.MethodName) ({ cls := "KeptLight$Tape", name := "countDigits", desc := "(I)I" } : Jvm.MethodName)) ∈ kx_tbl := kx_m 6 (by decide +kernel) (by decide +kernel)
theorem kv_7 : (Jvm.Cond.selects "KeptLight$Tape" ({ cls := "KeptLight$Tape", name := "numberAt", desc := "(II)I" } : Jvm.MethodName) ({ cls := "KeptLight$Tape", name := "numberAt", desc := "(II)I" } : Jvm.MethodName)) ∈ kx_tbl := kx_m 7 (by decide +kernel) (by decide +kernel)
theorem kv_8 : (Jvm.Cond.selects "KeptLight" ({ cls := "KeptLight", name := "isKeeperOrNone", desc := "(I)Z" } : Jvm.MethodName) ({ cls := "KeptLight", name := "isKeeperOrNone", desc := "(I)Z" } : Jvm.MethodName)) ∈ kx_tbl := kx_m 8 (by decide +kernel) (by decide +kernel)
theorem kv_9 : (Jvm.Cond.selects "KeptLight" ({ cls := "KeptLight", name := "againstPlanIn", desc := "(I)I" } : Jvm.MethodName) ({ cls := "KeptLight", name := "againstPlanIn", desc := "(I)I" } : Jvm.MethodName)) ∈ kx_tbl := kx_m 9 (by decide +kernel) (by decide +kernel)
theorem kv_10 : (Jvm.Cond.selects "KeptLight" ({ cls := "KeptLight", name := "mayBeOfBoat", desc := "(II)Z" } : Jvm.MethodName) ({ cls := "KeptLight", name := "mayBeOfBoat", desc := "(II)Z" } : Jvm.MethodName)) ∈ kx_tbl := kx_m 10 (by decide +kernel) (by decide +kernel)
theorem kv_11 : (Jvm.Cond.selects "KeptLight$Fleet" ({ cls := "KeptLight$Fleet", name := "isBehind", desc := "(III)Z" } : Jvm.MethodName) ({ cls := "KeptLight$Fleet", name := "isBehind", desc := "(III)Z" } : Jvm.MethodName)) ∈ kx_tbl := kx_m 11 (by decide +kernel) (by decide +kernel)
theorem kv_12 : (Jvm.Cond.selects "KeptLight$Station" ({ cls := "KeptLight$Station", name := "tendLamp", desc := "()V" } : Jvm.MethodName) ({ cls := "KeptLight$Station", name := "tendLamp", desc := "()V" } : Jvm.MethodName)) ∈ kx_tbl := kx_m 12 (by decide +kernel) (by decide +kernel)
theorem kv_13 : (Jvm.Cond.selects "KeptLight$World" ({ cls := "KeptLight$World", name := "meetShips", desc := "(I)V" } : Jvm.MethodName) ({ cls := "KeptLight$World", name := "meetShips", desc := "(I)V" } : Jvm.MethodName)) ∈ kx_tbl := kx_m 13 (by decide +kernel) (by decide +kernel)
theorem kv_14 : (Jvm.Cond.selects "KeptLight$World" ({ cls := "KeptLight$World", name := "writeLog", desc := "(I)V" } : Jvm.MethodName) ({ cls := "KeptLight$World", name := "writeLog", desc := "(I)V" } : Jvm.MethodName)) ∈ kx_tbl := kx_m 14 (by decide +kernel) (by decide +kernel)
theorem kv_15 : (Jvm.Cond.selects "KeptLight$World" ({ cls := "KeptLight$World", name := "enter", desc := "(II)V" } : Jvm.MethodName) ({ cls := "KeptLight$World", name := "enter", desc := "(II)V" } : Jvm.MethodName)) ∈ kx_tbl := kx_m 15 (by decide +kernel) (by decide +kernel)
theorem kv_16 : (Jvm.Cond.selects "KeptLight$Station" ({ cls := "KeptLight$Station", name := "meetBoat", desc := "()V" } : Jvm.MethodName) ({ cls := "KeptLight$Station", name := "meetBoat", desc := "()V" } : Jvm.MethodName)) ∈ kx_tbl := kx_m 16 (by decide +kernel) (by decide +kernel)
theorem kv_17 : (Jvm.Cond.selects "KeptLight$World" ({ cls := "KeptLight$World", name := "draw", desc := "(I)I" } : Jvm.MethodName) ({ cls := "KeptLight$World", name := "draw", desc := "(I)I" } : Jvm.MethodName)) ∈ kx_tbl := kx_m 17 (by decide +kernel) (by decide +kernel)
theorem kv_18 : (Jvm.Cond.selects "KeptLight" ({ cls := "KeptLight", name := "isAsTold", desc := "(IILKeptLight$Shelf;)Z" } : Jvm.MethodName) ({ cls := "KeptLight", name := "isAsTold", desc := "(IILKeptLight$Shelf;)Z" } : Jvm.MethodName)) ∈ kx_tbl := kx_m 18 (by decide +kernel) (by decide +kernel)
theorem kv_19 : (Jvm.Cond.selects "KeptLight" ({ cls := "KeptLight", name := "unlitWithOil", desc := "(II)I" } : Jvm.MethodName) ({ cls := "KeptLight", name := "unlitWithOil", desc := "(II)I" } : Jvm.MethodName)) ∈ kx_tbl := kx_m 19 (by decide +kernel) (by decide +kernel)
theorem kv_20 : (Jvm.Cond.selects "KeptLight" ({ cls := "KeptLight", name := "unlitAsPlanned", desc := "(I)I" } : Jvm.MethodName) ({ cls := "KeptLight", name := "unlitAsPlanned", desc := "(I)I" } : Jvm.MethodName)) ∈ kx_tbl := kx_m 20 (by decide +kernel) (by decide +kernel)
theorem kv_21 : (Jvm.Cond.selects "KeptLight" ({ cls := "KeptLight", name := "countFullShelves", desc := "()I" } : Jvm.MethodName) ({ cls := "KeptLight", name := "countFullShelves", desc := "()I" } : Jvm.MethodName)) ∈ kx_tbl := kx_m 21 (by decide +kernel) (by decide +kernel)
theorem kv_22 : (Jvm.Cond.selects "KeptLightModel" ({ cls := "KeptLightModel", name := "refused", desc := "(I)I" } : Jvm.MethodName) ({ cls := "KeptLightModel", name := "refused", desc := "(I)I" } : Jvm.MethodName)) ∈ kx_tbl := kx_m 22 (by decide +kernel) (by decide +kernel)
theorem kv_23 : (Jvm.Cond.selects "KeptLightModel" ({ cls := "KeptLightModel", name := "isRun", desc := "()Z" } : Jvm.MethodName) ({ cls := "KeptLightModel", name := "isRun", desc := "()Z" } : Jvm.MethodName)) ∈ kx_tbl := kx_m 23 (by decide +kernel) (by decide +kernel)
theorem kv_24 : (Jvm.Cond.selects "KeptLightModel" ({ cls := "KeptLightModel", name := "byteAt", desc := "(I)I" } : Jvm.MethodName) ({ cls := "KeptLightModel", name := "byteAt", desc := "(I)I" } : Jvm.MethodName)) ∈ kx_tbl := kx_m 24 (by decide +kernel) (by decide +kernel)
theorem kv_25 : (Jvm.Cond.selects "KeptLightModel" ({ cls := "KeptLightModel", name := "isKeeper", desc := "(I)Z" } : Jvm.MethodName) ({ cls := "KeptLightModel", name := "isKeeper", desc := "(I)Z" } : Jvm.MethodName)) ∈ kx_tbl := kx_m 25 (by decide +kernel) (by decide +kernel)
theorem kv_26 : (Jvm.Cond.selects "KeptLightModel" ({ cls := "KeptLightModel", name := "isPlan", desc := "(I)I" } : Jvm.MethodName) ({ cls := "KeptLightModel", name := "isPlan", desc := "(I)I" } : Jvm.MethodName)) ∈ kx_tbl := kx_m 26 (by decide +kernel) (by decide +kernel)
theorem kv_27 : (Jvm.Cond.selects "KeptLightModel" ({ cls := "KeptLightModel", name := "takesPlan", desc := "(I)V" } : Jvm.MethodName) ({ cls := "KeptLightModel", name := "takesPlan", desc := "(I)V" } : Jvm.MethodName)) ∈ kx_tbl := kx_m 27 (by decide +kernel) (by decide +kernel)
theorem kv_28 : (Jvm.Cond.selects "KeptLightModel" ({ cls := "KeptLightModel", name := "comesShip", desc := "(II)I" } : Jvm.MethodName) ({ cls := "KeptLightModel", name := "comesShip", desc := "(II)I" } : Jvm.MethodName)) ∈ kx_tbl := kx_m 28 (by decide +kernel) (by decide +kernel)
theorem kv_29 : (Jvm.Cond.selects "KeptLightModel" ({ cls := "KeptLightModel", name := "passes", desc := "(I)I" } : Jvm.MethodName) ({ cls := "KeptLightModel", name := "passes", desc := "(I)I" } : Jvm.MethodName)) ∈ kx_tbl := kx_m 29 (by decide +kernel) (by decide +kernel)
theorem kv_30 : (Jvm.Cond.selects "KeptLightModel" ({ cls := "KeptLightModel", name := "hourPasses", desc := "()V" } : Jvm.MethodName) ({ cls := "KeptLightModel", name := "hourPasses", desc := "()V" } : Jvm.MethodName)) ∈ kx_tbl := kx_m 30 (by decide +kernel) (by decide +kernel)
theorem kv_31 : (Jvm.Cond.selects "KeptLightModel" ({ cls := "KeptLightModel", name := "weatherOf", desc := "(I)I" } : Jvm.MethodName) ({ cls := "KeptLightModel", name := "weatherOf", desc := "(I)I" } : Jvm.MethodName)) ∈ kx_tbl := kx_m 31 (by decide +kernel) (by decide +kernel)
theorem kv_32 : (Jvm.Cond.selects "KeptLightModel" ({ cls := "KeptLightModel", name := "isDark", desc := "(I)Z" } : Jvm.MethodName) ({ cls := "KeptLightModel", name := "isDark", desc := "(I)Z" } : Jvm.MethodName)) ∈ kx_tbl := kx_m 32 (by decide +kernel) (by decide +kernel)
theorem kv_33 : (Jvm.Cond.selects "KeptLightModel" ({ cls := "KeptLightModel", name := "ofKeeper", desc := "(II)I" } : Jvm.MethodName) ({ cls := "KeptLightModel", name := "ofKeeper", desc := "(II)I" } : Jvm.MethodName)) ∈ kx_tbl := kx_m 33 (by decide +kernel) (by decide +kernel)
theorem kv_34 : (Jvm.Cond.selects "KeptLightModel" ({ cls := "KeptLightModel", name := "lasts", desc := "(I)I" } : Jvm.MethodName) ({ cls := "KeptLightModel", name := "lasts", desc := "(I)I" } : Jvm.MethodName)) ∈ kx_tbl := kx_m 34 (by decide +kernel) (by decide +kernel)
theorem kv_35 : (Jvm.Cond.selects "KeptLightModel" ({ cls := "KeptLightModel", name := "passesLamp", desc := "(ZZ)V" } : Jvm.MethodName) ({ cls := "KeptLightModel", name := "passesLamp", desc := "(ZZ)V" } : Jvm.MethodName)) ∈ kx_tbl := kx_m 35 (by decide +kernel) (by decide +kernel)
theorem kv_36 : (Jvm.Cond.selects "KeptLightModel" ({ cls := "KeptLightModel", name := "logs", desc := "(III)V" } : Jvm.MethodName) ({ cls := "KeptLightModel", name := "logs", desc := "(III)V" } : Jvm.MethodName)) ∈ kx_tbl := kx_m 36 (by decide +kernel) (by decide +kernel)
theorem kv_37 : (Jvm.Cond.selects "KeptLightModel" ({ cls := "KeptLightModel", name := "passesShips", desc := "(ZZII)V" } : Jvm.MethodName) ({ cls := "KeptLightModel", name := "passesShips", desc := "(ZZII)V" } : Jvm.MethodName)) ∈ kx_tbl := kx_m 37 (by decide +kernel) (by decide +kernel)
theorem kv_38 : (Jvm.Cond.selects "KeptLightModel" ({ cls := "KeptLightModel", name := "rankedAt", desc := "(II)I" } : Jvm.MethodName) ({ cls := "KeptLightModel", name := "rankedAt", desc := "(II)I" } : Jvm.MethodName)) ∈ kx_tbl := kx_m 38 (by decide +kernel) (by decide +kernel)
theorem kv_39 : (Jvm.Cond.selects "KeptLightModel" ({ cls := "KeptLightModel", name := "ofShip", desc := "(II)I" } : Jvm.MethodName) ({ cls := "KeptLightModel", name := "ofShip", desc := "(II)I" } : Jvm.MethodName)) ∈ kx_tbl := kx_m 39 (by decide +kernel) (by decide +kernel)
theorem kv_40 : (Jvm.Cond.selects "KeptLightModel" ({ cls := "KeptLightModel", name := "tires", desc := "(II)V" } : Jvm.MethodName) ({ cls := "KeptLightModel", name := "tires", desc := "(II)V" } : Jvm.MethodName)) ∈ kx_tbl := kx_m 40 (by decide +kernel) (by decide +kernel)
theorem kv_41 : (Jvm.Cond.selects "KeptLightModel" ({ cls := "KeptLightModel", name := "hoursOf", desc := "(I)I" } : Jvm.MethodName) ({ cls := "KeptLightModel", name := "hoursOf", desc := "(I)I" } : Jvm.MethodName)) ∈ kx_tbl := kx_m 41 (by decide +kernel) (by decide +kernel)
theorem kv_42 : (Jvm.Cond.selects "KeptLightModel" ({ cls := "KeptLightModel", name := "isShip", desc := "(I)Z" } : Jvm.MethodName) ({ cls := "KeptLightModel", name := "isShip", desc := "(I)Z" } : Jvm.MethodName)) ∈ kx_tbl := kx_m 42 (by decide +kernel) (by decide +kernel)
theorem kv_43 : (Jvm.Cond.selects "KeptLightModel" ({ cls := "KeptLightModel", name := "shipAgainst", desc := "(I)I" } : Jvm.MethodName) ({ cls := "KeptLightModel", name := "shipAgainst", desc := "(I)I" } : Jvm.MethodName)) ∈ kx_tbl := kx_m 43 (by decide +kernel) (by decide +kernel)
theorem kv_44 : (Jvm.Cond.selects "KeptLightModel" ({ cls := "KeptLightModel", name := "became", desc := "(I)I" } : Jvm.MethodName) ({ cls := "KeptLightModel", name := "became", desc := "(I)I" } : Jvm.MethodName)) ∈ kx_tbl := kx_m 44 (by decide +kernel) (by decide +kernel)
theorem kv_45 : (Jvm.Cond.selects "KeptLightModel" ({ cls := "KeptLightModel", name := "unlitBy", desc := "(II)I" } : Jvm.MethodName) ({ cls := "KeptLightModel", name := "unlitBy", desc := "(II)I" } : Jvm.MethodName)) ∈ kx_tbl := kx_m 45 (by decide +kernel) (by decide +kernel)
theorem kv_46 : (Jvm.Cond.selects "KeptLightModel" ({ cls := "KeptLightModel", name := "unlitOf", desc := "(I)I" } : Jvm.MethodName) ({ cls := "KeptLightModel", name := "unlitOf", desc := "(I)I" } : Jvm.MethodName)) ∈ kx_tbl := kx_m 46 (by decide +kernel) (by decide +kernel)
theorem kv_47 : (Jvm.Cond.selects "KeptLightModel" ({ cls := "KeptLightModel", name := "keepsPlan", desc := "(Z)V" } : Jvm.MethodName) ({ cls := "KeptLightModel", name := "keepsPlan", desc := "(Z)V" } : Jvm.MethodName)) ∈ kx_tbl := kx_m 47 (by decide +kernel) (by decide +kernel)
theorem kv_48 : (Jvm.Cond.selects "KeptLightModel" ({ cls := "KeptLightModel", name := "draw", desc := "(I)I" } : Jvm.MethodName) ({ cls := "KeptLightModel", name := "draw", desc := "(I)I" } : Jvm.MethodName)) ∈ kx_tbl := kx_m 48 (by decide +kernel) (by decide +kernel)
theorem kv_49 : (Jvm.Cond.selects "KeptLightModel" ({ cls := "KeptLightModel", name := "held", desc := "()I" } : Jvm.MethodName) ({ cls := "KeptLightModel", name := "held", desc := "()I" } : Jvm.MethodName)) ∈ kx_tbl := kx_m 49 (by decide +kernel) (by decide +kernel)
end
section
section KXJ
variable {l : Launch}
theorem kx_metF {y : MethodName} {b : ByteArray} {nl mc ms : Nat} {ret : Option FieldType} {rm : Room} {tb : Nat → kx_T} (hy : plainFor y = true) (hrm : rm.cells = mc ∧ rm.slots = ms)
    (h : ∀ (p : Program) (e : Env) (s : State) (m : MethodId) (args : Array Value) (below : List Frame) (meth : Method) (c : Code) (Q : State → Prop) (D : va_G) (C4 : kx_C) (A : Nat → Prop) (cnt0 : Nat) (ad0 : Nat → Nat) (P : kx_P), kx_Ctx p rm s m args c b y.cls nl D C4 A cnt0 P → kx_Rt below args s meth Q D C4 A cnt0 ad0 P → meth.sig.returnType = ret → meth.name = y.name → ∀ pc, kx_Snd (kx_W p l e rm s m args below meth c Q D C4 A cnt0 ad0 nl P) P pc (tb pc)) : kx_ok1 l y (kx_wd y b nl ret) rm (kx_sp tb nl) nl mc ms := by
  intro D C4 ad sz av S r S' hsp hcl hok hv hNC hmc hms
  refine va_MetF (cc := b) (maxL := nl) (ret := ret) hy rfl ?_
  intro p e s m args below meth c s₁ B hml hvv
  obtain ⟨rfl, hsz, hP, hK, hD0, hN⟩ := hvv
  subst hsz
  have hts := atoms_spec (ws := kx_wd y b nl ret) B.pre
  have hin : meth.name = y.name := (name_of_methodNamed B.named B.method).1
  have hD := hD0.self (sz := s.heap.size)
  have hmc2 : kx_cnt S' - kx_cnt S = mc := by omega
  have hms2 : kx_sz (kx_cnt S') - kx_sz (kx_cnt S) = ms := by omega
  subst hmc2
  subst hms2
  have X : kx_Ctx p rm s m ((av.map (kx_cv ad)).toArray) c b y.cls nl D C4 (va_A (kx_ws C4 ad S) s.heap.size) (kx_cnt S) (kx_cnt S', fun r' S'' => r' = r ∧ S'' = S') := ⟨⟨B.exec, B.bytes, hml, findClass_of_methodNamed B.named, fun w hw => hts w (List.mem_cons_of_mem _ hw)⟩, hK, hN, fun q hq => Or.inr hq, Nat.le_of_eq hrm.1.symm, Nat.le_of_eq hrm.2.symm, hNC⟩
  have Z : kx_Rt below ((av.map (kx_cv ad)).toArray) s meth (MQ below (kx_Q D C4 ad S r S' (va_A (kx_ws C4 ad S) s.heap.size)) ((av.map (kx_cv ad)).toArray) s (kx_cnt S' - kx_cnt S) (kx_sz (kx_cnt S') - kx_sz (kx_cnt S)) (va_A (kx_ws C4 ad S) s.heap.size)) D C4 (va_A (kx_ws C4 ad S) s.heap.size) (kx_cnt S) ad (kx_cnt S', fun r' S'' => r' = r ∧ S'' = S') := ⟨S, r, S', rfl, rfl, rfl, B.notSynchronized⟩
  have hw := kx_sound (h p e s m _ below meth c _ D C4 _ _ ad _ X Z B.returns hin) hsp
  have hl := lv_entry (av.map (kx_cv ad)) (n := nl) (by rw [kx_catl_sl]; exact hcl)
  rw [lg_entry_eq]
  have hw2 := hw ad s.heap [] _ kx_agree.rf ⟨Nat.le_refl _, by show kx_cnt S ≤ kx_cnt S'; omega⟩ hv trivial (fun i v hi => kx_okl_mem hok v (kx_l0_get ad av nl i i v (by simpa using hi)).2) hP hD va_S.rf ⟨hl.1, hl.2.1, fun i v hi => hl.2.2 _ (by have := (kx_l0_get ad av nl 0 i v hi).1; simpa using this)⟩
  rw [Nat.sub_self, Nat.sub_self] at hw2
  exact hw2

end KXJ
theorem kx_pf1 : plainFor yJ9_floorMod_7cf53 = true := by decide +kernel
section KXM
variable {p : Program} {l : Launch} {e : Env} {R : Room} {s : State} {m : MethodId} {args : Array Value} {below : List Frame} {meth : Method} {c : Code} {Q : State → Prop} {D : va_G} {C4 : kx_C} {A : Nat → Prop} {cnt0 : Nat} {ad0 : Nat → Nat} {nL : Nat} {P : kx_P} {cc : ByteArray} {pc : Nat} {own : String}
theorem kx_cells_le {S : kx_S} (X : kx_Ctx p R s m args c cc own nL D C4 A cnt0 P) (hc : cnt0 ≤ kx_cnt S ∧ kx_cnt S ≤ P.1) : kx_cnt S - cnt0 ≤ R.cells ∧ kx_sz (kx_cnt S) - kx_sz cnt0 ≤ R.slots := by
  have := kx_rm0 X hc
  omega

def ki_mmax (n : Nat) : kx_T := fun _ K L st S => match st with
  | .inl y :: .inl x :: r => bif Nat.ble (kx_catl r) 8 then K n L (.inl (if x < y then y else x) :: r) S else False
  | _ => False
theorem ks_mmax (X : kx_Ctx p R s m args c cc own nL D C4 A cnt0 P) {index : Nat} (hlk : Cond.methodLink own index Lib.Math.max.name ∈ kx_tbl) (hstt : Cond.static Lib.Math.max.name ∈ kx_tbl) (hini : Cond.initialized "java/lang/Math" ∈ kx_tbl) (hcode : Cond.code Lib.Math.max.name Lib.Math.max.code 2 (some .int) ∈ kx_tbl) (hR : 1 ≤ R.frames ∧ 8 + 13 ≤ R.locals) (d : decode cc pc = .ok (.invokestatic index, 3)) : kx_Snd (kx_W p l e R s m args below meth c Q D C4 A cnt0 ad0 nL P) P pc (ki_mmax (pc + 3)) := by
  intro K hK L st S h ad H locs ls ha hc ho hst hL hP hD hS hl
  match st, h, hst with
  | .inl y :: .inl x :: r, g9, hst =>
    unfold ki_mmax at g9
    dsimp only at g9
    cases hq : Nat.ble (kx_catl r) 8 with
    | false => rw [hq] at g9; exact g9.elim
    | true =>
      rw [hq] at g9
      have hcat : kx_catl r ≤ 8 := Nat.le_of_ble_eq_true hq
      have hcl := kx_cells_le X hc
      exact va_mmax X.1.1 X.1.2.1 (X.1.2.2.1.trans hl.1.symm) X.1.2.2.2.1 (X.1.2.2.2.2 _ hlk) (X.1.2.2.2.2 _ hstt) (X.1.2.2.2.2 _ hini) (X.1.2.2.2.2 _ hcode) hR.1 (by rw [kx_catl_eq]; omega) hcl.1 hcl.2 d (hK _ _ _ _ g9 ad H locs ls ha hc ho ⟨trivial, hst.2.2⟩ hL hP hD hS hl)
def ki_mmin (n : Nat) : kx_T := fun _ K L st S => match st with
  | .inl y :: .inl x :: r => bif Nat.ble (kx_catl r) 8 then K n L (.inl (if y < x then y else x) :: r) S else False
  | _ => False
theorem ks_mmin (X : kx_Ctx p R s m args c cc own nL D C4 A cnt0 P) {index : Nat} (hlk : Cond.methodLink own index Lib.Math.min.name ∈ kx_tbl) (hstt : Cond.static Lib.Math.min.name ∈ kx_tbl) (hini : Cond.initialized "java/lang/Math" ∈ kx_tbl) (hcode : Cond.code Lib.Math.min.name Lib.Math.min.code 2 (some .int) ∈ kx_tbl) (hR : 1 ≤ R.frames ∧ 8 + 13 ≤ R.locals) (d : decode cc pc = .ok (.invokestatic index, 3)) : kx_Snd (kx_W p l e R s m args below meth c Q D C4 A cnt0 ad0 nL P) P pc (ki_mmin (pc + 3)) := by
  intro K hK L st S h ad H locs ls ha hc ho hst hL hP hD hS hl
  match st, h, hst with
  | .inl y :: .inl x :: r, g9, hst =>
    unfold ki_mmin at g9
    dsimp only at g9
    cases hq : Nat.ble (kx_catl r) 8 with
    | false => rw [hq] at g9; exact g9.elim
    | true =>
      rw [hq] at g9
      have hcat : kx_catl r ≤ 8 := Nat.le_of_ble_eq_true hq
      have hcl := kx_cells_le X hc
      exact va_mmin X.1.1 X.1.2.1 (X.1.2.2.1.trans hl.1.symm) X.1.2.2.2.1 (X.1.2.2.2.2 _ hlk) (X.1.2.2.2.2 _ hstt) (X.1.2.2.2.2 _ hini) (X.1.2.2.2.2 _ hcode) hR.1 (by rw [kx_catl_eq]; omega) hcl.1 hcl.2 d (hK _ _ _ _ g9 ad H locs ls ha hc ho ⟨trivial, hst.2.2⟩ hL hP hD hS hl)
end KXM
end
section
/-! objects and arrays are made -/
theorem kx_cnt_some {S : kx_S} {k : Nat} (h : S.2.2 = some k) : kx_cnt S = k := by unfold kx_cnt; rw [h]
theorem kx_hv_some {S : kx_S} {k : Nat} (h : S.2.2 = some k) : kx_hv S ↔ (k ≤ kx_NC ∧ ∀ t o j t2 o2 : Nat, kx_ix t o < k → kx_tgt t o j = some (t2, o2) → S.1 t o j ≠ 0 → kx_ix t2 o2 < k) := by unfold kx_hv; rw [h]
theorem kx_kind5 (t a n : Nat) (h : kx_kind t = (a + 5, n)) : a = 4 := by
  have h1 : ∀ q ∈ kx_kinds, q.1 < 5 ∨ q.1 = 9 := by decide +kernel
  unfold kx_kind at h
  by_cases ht : t < kx_kinds.length
  · rw [List.getD_eq_getElem?_getD, List.getElem?_eq_getElem ht] at h
    have h2 := h1 _ (List.getElem_mem ht)
    simp only [Option.getD_some] at h
    rw [h] at h2
    dsimp only at h2
    omega
  · rw [List.getD_eq_getElem?_getD, List.getElem?_eq_none (by omega)] at h
    have := (Prod.mk.inj h).1
    omega
theorem kx_tgt_r {t o j n : Nat} (hk : kx_kind t = (4, n)) : kx_tgt t o j = some (kx_tSh, j) := by unfold kx_tgt; rw [hk]; rfl
theorem kx_en_push {C4 : kx_C} {ad ad' : Nat → Nat} {S S' : kx_S} {k k' t o : Nat} (hm : S.2.2 = some k) (hm' : S'.2.2 = some k') (hv : kx_hv S) (had : ∀ j, j < k → ad' j = ad j) (hi : kx_ix t o < k) (h1 : S'.1 t o = S.1 t o) (h2 : S'.2.1 t o = S.2.1 t o) : kx_en C4 ad' S' t o = kx_en C4 ad S t o := by
  have hv2 := ((kx_hv_some hm).mp hv).2
  have hr : ∀ j t2 o2, kx_tgt t o j = some (t2, o2) → kx_rv ad' S' t o j t2 o2 = kx_rv ad S t o j t2 o2 ∧ kx_ro ad' S' t o j t2 o2 = kx_ro ad S t o j t2 o2 := by
    intro j t2 o2 htg
    unfold kx_rv kx_ro
    rw [hm, hm']
    dsimp only
    rw [h1]
    by_cases hz : S.1 t o j = 0
    · simp [hz]
    · simp only [if_neg hz]
      rw [had _ (hv2 t o j t2 o2 hi htg hz)]
      exact ⟨rfl, rfl⟩
  rcases hkd : kx_kind t with ⟨a, n⟩
  match a, hkd with
  | 0, hkd =>
    rw [kx_en_o hkd, kx_en_o hkd]
    refine congrArg _ (congrArg _ (List.map_congr_left fun q hq => ?_))
    obtain ⟨f, j⟩ := q
    have hj : (kx_fts n)[j]? = some f := by
      have := List.mem_zipIdx_iff_getElem?.mp hq
      simpa using this
    unfold kx_sv
    cases f with
    | none => dsimp only; rw [h1]
    | some g => exact (hr j g.1 (g.2 o) (kx_tgt_o hkd hj)).1
  | 1, hkd => rw [kx_en_i hkd, kx_en_i hkd, h1]
  | 2, hkd => rw [kx_en_l hkd, kx_en_l hkd, h2]
  | 3, hkd => rw [kx_en_z hkd, kx_en_z hkd, h1]
  | 4, hkd =>
    rw [kx_en_r hkd, kx_en_r hkd]
    have e : (fun j => kx_ro ad' S' t o j kx_tSh j) = fun j => kx_ro ad S t o j kx_tSh j := by
      funext j
      exact (hr j _ _ (kx_tgt_r hkd)).2
    rw [e]
  | a + 5, hkd =>
    exfalso
    have h9 : kx_kind t = (9, n) := by rw [hkd, kx_kind5 t a n hkd]
    have hc := kx_ix_at (Nat.lt_of_lt_of_le hi ((kx_hv_some hm).mp hv).1)
    have h6 : ∀ q ∈ kx_cells, (kx_kind q.1).1 ≠ 9 := by decide +kernel
    exact h6 _ (List.mem_of_getElem? hc) (by rw [h9])
theorem kx_ws_push {C4 : kx_C} {ad ad' : Nat → Nat} {S S' : kx_S} {k t o : Nat} (hm : S.2.2 = some k) (hm' : S'.2.2 = some (k + 1)) (hv : kx_hv S) (hk : k < kx_NC) (had : ∀ j, j < k → ad' j = ad j) (hc : kx_cells[k]? = some (t, o)) (h1 : ∀ t2 o2, ¬ (t2 = t ∧ o2 = o) → S'.1 t2 o2 = S.1 t2 o2 ∧ S'.2.1 t2 o2 = S.2.1 t2 o2) :
    kx_ws C4 ad S ++ [(ad' k, kx_en C4 ad' S' t o)] = kx_ws C4 ad' S' := by
  have hn : kx_cnt S = k := kx_cnt_some hm
  have hn' : kx_cnt S' = k + 1 := kx_cnt_some hm'
  have hlen : (kx_ws C4 ad S).length = k := by rw [kx_ws_len (by omega), hn]
  apply List.ext_getElem?
  intro i
  by_cases hi : i < k
  · rw [List.getElem?_append_left (by omega)]
    have hl : i < kx_cells.length := by rw [kx_cells_len]; omega
    obtain ⟨⟨t2, o2⟩, hq⟩ : ∃ q, kx_cells[i]? = some q := ⟨_, List.getElem?_eq_getElem hl⟩
    have hix := kx_ix_of hq
    have hne : ¬ (t2 = t ∧ o2 = o) := by
      rintro ⟨rfl, rfl⟩
      have := kx_ix_of hc
      omega
    rw [kx_ws_k (by omega) hq, kx_ws_k (by omega) hq, had i hi, kx_en_push hm hm' hv had (by omega) (h1 t2 o2 hne).1 (h1 t2 o2 hne).2]
  · by_cases hi2 : i = k
    · subst hi2
      rw [List.getElem?_append_right (by omega), hlen, Nat.sub_self, kx_ws_k (by omega) hc]
      rfl
    · rw [List.getElem?_eq_none (by rw [List.length_append, hlen]; simp; omega), List.getElem?_eq_none (by rw [kx_ws_len (by omega)]; omega)]
theorem kx_hv_push {S S' : kx_S} {k t o : Nat} (hm : S.2.2 = some k) (hm' : S'.2.2 = some (k + 1)) (hv : kx_hv S) (hk : k < kx_NC) (hc : kx_cells[k]? = some (t, o)) (h1 : ∀ t2 o2, ¬ (t2 = t ∧ o2 = o) → S'.1 t2 o2 = S.1 t2 o2) (h2 : ∀ j q, kx_tgt t o j = some q → S'.1 t o j = 0) : kx_hv S' := by
  rw [kx_hv_some hm']
  refine ⟨hk, fun t5 o5 j5 t6 o6 g1 g2 g3 => ?_⟩
  by_cases hto : t5 = t ∧ o5 = o
  · obtain ⟨rfl, rfl⟩ := hto
    exact absurd (h2 _ _ g2) g3
  · rw [h1 _ _ hto] at g3
    have hlt : kx_ix t5 o5 < k := by
      refine Nat.lt_of_le_of_ne (by omega) fun e => hto ?_
      have h5 := kx_ix_at (t := t5) (o := o5) (by omega)
      rw [e, hc] at h5
      exact Prod.mk.inj (Option.some.inj h5.symm)
    exact Nat.lt_succ_of_lt (((kx_hv_some hm).mp hv).2 _ _ _ _ _ hlt g2 g3)
section KXN
variable {p : Program} {l : Launch} {e : Env} {R : Room} {s : State} {m : MethodId} {args : Array Value} {below : List Frame} {meth : Method} {c : Code} {Q : State → Prop} {D : va_G} {C4 : kx_C} {A : Nat → Prop} {cnt0 : Nat} {ad0 : Nat → Nat} {nL : Nat} {P : kx_P} {cc : ByteArray} {pc : Nat} {own : String}
def ki_new (cl n : Nat) : kx_T := fun P K L st S => match S.2.2 with
  | some k => (match kx_cells[k]? with
    | some (t, o) => bif Nat.beq t cl && Nat.ble (k + 1) P.1 then K n L (.inr (.inr (some (t, o))) :: st) (kx_uA S.1 t o (fun _ => 0), S.2.1, some (k + 1)) else False
    | none => False)
  | none => False
def ki_newa (a n : Nat) : kx_T := fun P K L st S => match st, S.2.2 with
  | .inl len :: r, some k => (match kx_cells[k]? with
    | some (t, o) => bif Nat.beq (kx_kind t).1 a && Nat.ble (k + 1) P.1 then len = Int32.ofNat (kx_kind t).2 ∧ K n L (.inr (.inr (some (t, o))) :: r) (kx_uA S.1 t o (fun _ => 0), kx_uL S.2.1 t o (fun _ => 0), some (k + 1)) else False
    | none => False)
  | _, _ => False
def ki_aast (n : Nat) : kx_T := fun _ K L st S => match st with
  | .inr (.inr (some (t3, o3))) :: .inl i :: .inr (.inr (some (t, o))) :: r => (match kx_kind t, S.2.2 with
    | (4, len), some _ => bif Nat.beq t3 kx_tSh then vp_in i len ∧ o3 = i.toNatClampNeg ∧ K n L r (kx_uA S.1 t o (upd (S.1 t o) i.toNatClampNeg 1), S.2) else False
    | _, _ => False)
  | _ => False
def ki_oinit (n : Nat) : kx_T := fun _ K L st S => match st with
  | .inr (.inr (some _)) :: r => bif Nat.ble (kx_catl r) 8 then K n L r S else False
  | _ => False
theorem ks_oinit (X : kx_Ctx p R s m args c cc own nL D C4 A cnt0 P) {index : Nat} (hlk : Cond.methodLink own index objectInit ∈ kx_tbl) (hins : Cond.instanceMethod objectInit ∈ kx_tbl) (hcode : Cond.code objectInit ⟨#[0xb1]⟩ 1 none ∈ kx_tbl) (hR : 1 ≤ R.frames ∧ 8 + 12 ≤ R.locals) (d : decode cc pc = .ok (.invokespecial index, 3)) : kx_Snd (kx_W p l e R s m args below meth c Q D C4 A cnt0 ad0 nL P) P pc (ki_oinit (pc + 3)) := by
  intro K hK L st S h ad H locs ls ha hc ho hst hL hP hD hS hl
  match st, h, hst with
  | .inr (.inr (some q)) :: r, g9, hst =>
    unfold ki_oinit at g9
    dsimp only at g9
    cases hq : Nat.ble (kx_catl r) 8 with
    | false => rw [hq] at g9; exact g9.elim
    | true =>
      rw [hq] at g9
      have hcat : kx_catl r ≤ 8 := Nat.le_of_ble_eq_true hq
      refine W.objInit X.1.1 X.1.2.1 X.1.2.2.2.1 (X.1.2.2.2.2 _ hlk) (X.1.2.2.2.2 _ hins) (X.1.2.2.2.2 _ hcode) rfl (by rw [X.1.2.2.1]; exact hl.1) rfl d hR.1 (by show 2 * 0 + _ + 12 ≤ _; rw [kx_catl_eq]; omega) ?_
      exact hK _ _ _ _ g9 ad H locs ls ha hc ho hst.2 hL hP hD hS hl
theorem ks_new (X : kx_Ctx p R s m args c cc own nL D C4 A cnt0 P) {C : String} {T : u_T} {N t index : Nat} {ty : Nat → FieldType} (hf : kx_cf t C T N ty) (hdf : (List.range N).all (fun j => match (kx_fts t)[j]? with
    | some (some _) => defaultValue (ty j) == .null
    | _ => defaultValue (ty j) == .int 0) = true) (hcl : Cond.classLink own index C ∈ kx_tbl) (hins : Cond.instantiable C N ∈ kx_tbl) (hini : Cond.initialized C ∈ kx_tbl) (hszN : ∀ k o, kx_cells[k]? = some (t, o) → kx_sz (k + 1) = kx_sz k + N) (d : decode cc pc = .ok (.new index, 3)) : kx_Snd (kx_W p l e R s m args below meth c Q D C4 A cnt0 ad0 nL P) P pc (ki_new t (pc + 3)) := by
  intro K hK L st S h ad H locs ls ha hc ho hst hL hP hD hS hl
  unfold ki_new at h
  split at h
  next k hm =>
    split at h
    next t1 o hcell =>
      cases hq : (Nat.beq t1 t && Nat.ble (k + 1) P.1) with
      | false => rw [hq] at h; exact h.elim
      | true =>
        rw [hq] at h
        simp only [Bool.and_eq_true] at hq
        obtain rfl := Nat.eq_of_beq_eq_true hq.1
        have hkP : k + 1 ≤ P.1 := Nat.le_of_ble_eq_true hq.2
        have hPN := X.2.2.2.2.2.2
        have hcn := kx_cnt_some hm
        have hcs : kx_sz (kx_cnt S) = kx_sz k := by rw [hcn]
        have hsz1 := hszN k o hcell
        have hm1 := kx_sz_mono (a := k + 1) (b := P.1) hkP hPN
        have hm0 := kx_sz_mono (a := cnt0) (b := k) (by omega) (by omega)
        have hRc := X.2.2.2.2.1
        have hRs := X.2.2.2.2.2.1
        refine va_new (D := D) (ci := t1) (fs := (kx_fts t1).zipIdx.map (kx_sv ad (kx_uA S.1 t1 o (fun _ => 0), S.2.1, some (k + 1)) t1 o)) X.1.1 X.1.2.1 X.1.2.2.2.2 hf.2.2.1 ty hf.2.2.2.1 X.1.2.2.2.1 (X.1.2.2.2.2 _ hcl) (X.1.2.2.2.2 _ hins) (X.1.2.2.2.2 _ hini) X.2.1 hP hD hS X.2.2.2.1 hf.2.1 (fun j hj => ?_) (by omega) (by omega) d (fun q H1 hP1 hD1 hS1 => ?_)
        · have hg : (kx_fts t1)[j]? = some ((kx_fts t1)[j]'(by rw [hf.2.2.2.2.2.1]; exact hj)) := List.getElem?_eq_getElem _
          have h2 := List.all_eq_true.mp hdf j (List.mem_range.mpr hj)
          rw [hg] at h2
          unfold vp_V
          rw [List.getD_eq_getElem?_getD, kx_fs_get hg]
          unfold kx_sv
          generalize (kx_fts t1)[j]'(by rw [hf.2.2.2.2.2.1]; exact hj) = f at h2 ⊢
          cases f with
          | none => simp only [kx_uA_eq, Option.getD_some]; simpa using h2
          | some g => simp only [kx_rv, kx_uA_eq, Option.getD_some]; simpa using h2
        · have hix := kx_ix_of hcell
          have e1 : kx_en C4 (fun j => if j = k then q else ad j) (kx_uA S.1 t1 o (fun _ => 0), S.2.1, some (k + 1)) t1 o = .inr (t1, (kx_fts t1).zipIdx.map (kx_sv ad (kx_uA S.1 t1 o (fun _ => 0), S.2.1, some (k + 1)) t1 o)) := by
            rw [kx_en_o hf.1]
            refine congrArg _ (congrArg _ (List.map_congr_left fun x hx => ?_))
            obtain ⟨f, j⟩ := x
            unfold kx_sv
            cases f with
            | none => rfl
            | some g => simp [kx_rv, kx_uA_eq]
          have hpush := kx_ws_push (C4 := C4) (ad := ad) (ad' := fun j => if j = k then q else ad j) (S := S) (S' := (kx_uA S.1 t1 o (fun _ => 0), S.2.1, some (k + 1))) hm rfl ho (by omega) (fun j hj => by simp [Nat.ne_of_lt hj]) hcell (fun t2 o2 hne => ⟨kx_uA_ne _ _ hne, rfl⟩)
          rw [e1] at hpush
          simp only [↓reduceIte] at hpush
          rw [hpush] at hP1 hD1
          have hag : kx_agree k ad (fun j => if j = k then q else ad j) := fun j hj => by
            rcases hj with hj | hj
            · simp [Nat.ne_of_lt hj]
            · have : j ≠ k := by omega
              simp [this]
          have hcn1 : kx_cnt (kx_uA S.1 t1 o (fun _ => 0), S.2.1, some (k + 1)) = k + 1 := rfl
          have hkk := hK _ _ _ _ h (fun j => if j = k then q else ad j) H1 locs ls (ha.tr hag (by omega)) ⟨by rw [hcn1]; omega, by rw [hcn1]; exact hkP⟩ (kx_hv_push (S := S) hm rfl ho (by omega) hcell (fun t2 o2 hne => kx_uA_ne _ _ hne) (fun j q2 _ => by dsimp only; rw [kx_uA_eq])) ⟨Or.inl (by show kx_ix t1 o < k + 1; omega), hst.mono (by rw [hcn1]; omega)⟩ (hL.mono (by rw [hcn1]; omega)) hP1 hD1 hS1 (hl.agree (n := k) hag (by rw [hcn] at hL; exact hL))
          have e2 : kx_cnt S - cnt0 + 1 = kx_cnt (kx_uA S.1 t1 o (fun _ => 0), S.2.1, some (k + 1)) - cnt0 := by rw [hcn1]; omega
          have e3 : kx_sz (kx_cnt S) - kx_sz cnt0 + N = kx_sz (kx_cnt (kx_uA S.1 t1 o (fun _ => 0), S.2.1, some (k + 1))) - kx_sz cnt0 := by rw [hcn1, hcn]; omega
          rw [e2, e3]
          rw [List.map_cons, kx_map_agree hag (by rw [hcn] at hst; exact hst)] at hkk
          have e4 : kx_cv (fun j => if j = k then q else ad j) (.inr (.inr (some (t1, o)))) = .ref q := by
            show Value.ref _ = _
            rw [hix]
            simp
          rw [e4] at hkk
          exact hkk
    next => exact h.elim
  next => exact h.elim
theorem kx_szk : ∀ k, k < kx_NC → ∀ q, kx_cells[k]? = some q → kx_sz (k + 1) = kx_sz k + (if (kx_kind q.1).1 = 0 then (kx_fts (kx_kind q.1).2).length else (kx_kind q.1).2) := by
  have h : ∀ k, k < kx_NC → (kx_cells[k]?).all (fun q => decide (kx_sz (k + 1) = kx_sz k + (if (kx_kind q.1).1 = 0 then (kx_fts (kx_kind q.1).2).length else (kx_kind q.1).2))) = true := by decide +kernel
  intro k hk q hq
  have h1 := h k hk
  rw [hq] at h1
  simpa using h1
theorem kx_sz_cl {t N : Nat} {C : String} {T : u_T} {ty : Nat → FieldType} (hf : kx_cf t C T N ty) : ∀ k o, kx_cells[k]? = some (t, o) → kx_sz (k + 1) = kx_sz k + N := by
  intro k o h
  have hk : k < kx_NC := by
    rw [← kx_cells_len]
    exact (List.getElem?_eq_some_iff.mp h).1
  rw [kx_szk k hk _ h, hf.1]
  dsimp only
  rw [if_pos rfl, hf.2.2.2.2.2.1]

theorem ks_newa1 (X : kx_Ctx p R s m args c cc own nL D C4 A cnt0 P) {atype : ArrayType} (hty : newarray.typeOf atype = .int) (harr : Cond.arrayClass (newarray.typeOf atype) ∈ kx_tbl) (d : decode cc pc = .ok (.newarray atype, 2)) : kx_Snd (kx_W p l e R s m args below meth c Q D C4 A cnt0 ad0 nL P) P pc (ki_newa 1 (pc + 2)) := by
  intro K hK L st S h ad H locs ls ha hc ho hst hL hP hD hS hl
  unfold ki_newa at h
  split at h
  next len r k hm =>
    split at h
    next t o hcell =>
      cases hq : (Nat.beq (kx_kind t).1 1 && Nat.ble (k + 1) P.1) with
      | false => rw [hq] at h; exact h.elim
      | true =>
        rw [hq] at h
        simp only [Bool.and_eq_true] at hq
        have hkP : k + 1 ≤ P.1 := Nat.le_of_ble_eq_true hq.2
        have hkd : kx_kind t = (1, (kx_kind t).2) := Prod.ext (Nat.eq_of_beq_eq_true hq.1) rfl
        generalize (kx_kind t).2 = N at hkd h
        obtain ⟨hlen, h⟩ := h
        have hPN := X.2.2.2.2.2.2
        have hcn := kx_cnt_some hm
        have hcs : kx_sz (kx_cnt S) = kx_sz k := by rw [hcn]
        have hN : N < 2 ^ 20 := by
          have h6 : ∀ q ∈ kx_cells, (kx_kind q.1).2 < 2 ^ 20 := by decide +kernel
          have h7 := h6 _ (List.mem_of_getElem? hcell)
          rw [hkd] at h7
          exact h7
        have hsz1 := kx_szk k (by omega) _ hcell
        rw [hkd] at hsz1
        simp only [] at hsz1
        rw [if_neg (by omega)] at hsz1
        have hm1 := kx_sz_mono (a := k + 1) (b := P.1) hkP hPN
        have hm0 := kx_sz_mono (a := cnt0) (b := k) (by omega) (by omega)
        have hRc := X.2.2.2.2.1
        have hRs := X.2.2.2.2.2.1
        subst hlen
        refine va_newa X.1.1 X.1.2.1 (X.1.2.2.2.2 _ harr) hty X.2.1 hP hD hS X.2.2.2.1 (N' := N) (a0 := (N, .inl (fun _ => 0))) (fun cA => rfl) (nI_pos (by omega)) (nI_clamp (by omega)) (Nat.le_trans (Nat.mul_le_mul (Nat.le_of_lt hN) (show componentBytes .int ≤ 8 by decide)) (by decide)) (by omega) (by omega) d (fun q cA H1 hK1 hP1 hD1 hS1 => ?_)
        have hcA : cA = C4.1 := by
          have h1 := va_nm_int (hK1.2 4 (cA, .int) rfl).2
          have h2 := va_nm_int (X.2.1.2 0 _ rfl).2
          exact Option.some.inj (h1.symm.trans h2)
        subst hcA
        have hix := kx_ix_of hcell
        have e1 : kx_en C4 (fun j => if j = k then q else ad j) (kx_uA S.1 t o (fun _ => 0), kx_uL S.2.1 t o (fun _ => 0), some (k + 1)) t o = .inl (C4.1, (N, .inl (fun _ => 0))) := by
          rw [kx_en_i hkd]
          simp only [kx_uA_eq, kx_uL_eq]
        have hpush := kx_ws_push (C4 := C4) (ad := ad) (ad' := fun j => if j = k then q else ad j) (S := S) (S' := (kx_uA S.1 t o (fun _ => 0), kx_uL S.2.1 t o (fun _ => 0), some (k + 1))) hm rfl ho (by omega) (fun j hj => by simp [Nat.ne_of_lt hj]) hcell (fun t2 o2 hne => ⟨kx_uA_ne _ _ hne, kx_uL_ne _ _ hne⟩)
        rw [e1] at hpush
        simp only [↓reduceIte] at hpush
        rw [hpush] at hP1 hD1
        have hag : kx_agree k ad (fun j => if j = k then q else ad j) := fun j hj => by
          rcases hj with hj | hj
          · simp [Nat.ne_of_lt hj]
          · have : j ≠ k := by omega
            simp [this]
        have hcn1 : kx_cnt (kx_uA S.1 t o (fun _ => 0), kx_uL S.2.1 t o (fun _ => 0), some (k + 1)) = k + 1 := rfl
        have hkk := hK _ _ _ _ h (fun j => if j = k then q else ad j) H1 locs ls (ha.tr hag (by omega)) ⟨by rw [hcn1]; omega, by rw [hcn1]; exact hkP⟩ (kx_hv_push (S := S) hm rfl ho (by omega) hcell (fun t2 o2 hne => kx_uA_ne _ _ hne) (fun j q2 _ => by dsimp only; rw [kx_uA_eq])) ⟨Or.inl (by show kx_ix t o < k + 1; omega), hst.2.mono (by rw [hcn1]; omega)⟩ (hL.mono (by rw [hcn1]; omega)) hP1 hD1 hS1 (hl.agree (n := k) hag (by rw [hcn] at hL; exact hL))
        have e2 : kx_cnt S - cnt0 + 1 = kx_cnt (kx_uA S.1 t o (fun _ => 0), kx_uL S.2.1 t o (fun _ => 0), some (k + 1)) - cnt0 := by rw [hcn1]; omega
        have e3 : kx_sz (kx_cnt S) - kx_sz cnt0 + N = kx_sz (kx_cnt (kx_uA S.1 t o (fun _ => 0), kx_uL S.2.1 t o (fun _ => 0), some (k + 1))) - kx_sz cnt0 := by rw [hcn1, hcn]; omega
        rw [e2, e3]
        rw [List.map_cons, kx_map_agree hag (by have := hst.2; rw [hcn] at this; exact this)] at hkk
        have e4 : kx_cv (fun j => if j = k then q else ad j) (.inr (.inr (some (t, o)))) = .ref q := by
          show Value.ref _ = _
          rw [hix]
          simp
        rw [e4] at hkk
        exact hkk
    next => exact h.elim
  next => exact h.elim
theorem ks_newa2 (X : kx_Ctx p R s m args c cc own nL D C4 A cnt0 P) {atype : ArrayType} (hty : newarray.typeOf atype = .long) (harr : Cond.arrayClass (newarray.typeOf atype) ∈ kx_tbl) (d : decode cc pc = .ok (.newarray atype, 2)) : kx_Snd (kx_W p l e R s m args below meth c Q D C4 A cnt0 ad0 nL P) P pc (ki_newa 2 (pc + 2)) := by
  intro K hK L st S h ad H locs ls ha hc ho hst hL hP hD hS hl
  unfold ki_newa at h
  split at h
  next len r k hm =>
    split at h
    next t o hcell =>
      cases hq : (Nat.beq (kx_kind t).1 2 && Nat.ble (k + 1) P.1) with
      | false => rw [hq] at h; exact h.elim
      | true =>
        rw [hq] at h
        simp only [Bool.and_eq_true] at hq
        have hkP : k + 1 ≤ P.1 := Nat.le_of_ble_eq_true hq.2
        have hkd : kx_kind t = (2, (kx_kind t).2) := Prod.ext (Nat.eq_of_beq_eq_true hq.1) rfl
        generalize (kx_kind t).2 = N at hkd h
        obtain ⟨hlen, h⟩ := h
        have hPN := X.2.2.2.2.2.2
        have hcn := kx_cnt_some hm
        have hcs : kx_sz (kx_cnt S) = kx_sz k := by rw [hcn]
        have hN : N < 2 ^ 20 := by
          have h6 : ∀ q ∈ kx_cells, (kx_kind q.1).2 < 2 ^ 20 := by decide +kernel
          have h7 := h6 _ (List.mem_of_getElem? hcell)
          rw [hkd] at h7
          exact h7
        have hsz1 := kx_szk k (by omega) _ hcell
        rw [hkd] at hsz1
        simp only [] at hsz1
        rw [if_neg (by omega)] at hsz1
        have hm1 := kx_sz_mono (a := k + 1) (b := P.1) hkP hPN
        have hm0 := kx_sz_mono (a := cnt0) (b := k) (by omega) (by omega)
        have hRc := X.2.2.2.2.1
        have hRs := X.2.2.2.2.2.1
        subst hlen
        refine va_newa X.1.1 X.1.2.1 (X.1.2.2.2.2 _ harr) hty X.2.1 hP hD hS X.2.2.2.1 (N' := N) (a0 := (N, .inr (.inl (fun _ => 0)))) (fun cA => rfl) (nI_pos (by omega)) (nI_clamp (by omega)) (Nat.le_trans (Nat.mul_le_mul (Nat.le_of_lt hN) (show componentBytes .long ≤ 8 by decide)) (by decide)) (by omega) (by omega) d (fun q cA H1 hK1 hP1 hD1 hS1 => ?_)
        have hcA : cA = C4.2.1 := by
          have h1 := va_nm_long (hK1.2 4 (cA, .long) rfl).2
          have h2 := va_nm_long (X.2.1.2 1 _ rfl).2
          exact Option.some.inj (h1.symm.trans h2)
        subst hcA
        have hix := kx_ix_of hcell
        have e1 : kx_en C4 (fun j => if j = k then q else ad j) (kx_uA S.1 t o (fun _ => 0), kx_uL S.2.1 t o (fun _ => 0), some (k + 1)) t o = .inl (C4.2.1, (N, .inr (.inl (fun _ => 0)))) := by
          rw [kx_en_l hkd]
          simp only [kx_uA_eq, kx_uL_eq]
        have hpush := kx_ws_push (C4 := C4) (ad := ad) (ad' := fun j => if j = k then q else ad j) (S := S) (S' := (kx_uA S.1 t o (fun _ => 0), kx_uL S.2.1 t o (fun _ => 0), some (k + 1))) hm rfl ho (by omega) (fun j hj => by simp [Nat.ne_of_lt hj]) hcell (fun t2 o2 hne => ⟨kx_uA_ne _ _ hne, kx_uL_ne _ _ hne⟩)
        rw [e1] at hpush
        simp only [↓reduceIte] at hpush
        rw [hpush] at hP1 hD1
        have hag : kx_agree k ad (fun j => if j = k then q else ad j) := fun j hj => by
          rcases hj with hj | hj
          · simp [Nat.ne_of_lt hj]
          · have : j ≠ k := by omega
            simp [this]
        have hcn1 : kx_cnt (kx_uA S.1 t o (fun _ => 0), kx_uL S.2.1 t o (fun _ => 0), some (k + 1)) = k + 1 := rfl
        have hkk := hK _ _ _ _ h (fun j => if j = k then q else ad j) H1 locs ls (ha.tr hag (by omega)) ⟨by rw [hcn1]; omega, by rw [hcn1]; exact hkP⟩ (kx_hv_push (S := S) hm rfl ho (by omega) hcell (fun t2 o2 hne => kx_uA_ne _ _ hne) (fun j q2 _ => by dsimp only; rw [kx_uA_eq])) ⟨Or.inl (by show kx_ix t o < k + 1; omega), hst.2.mono (by rw [hcn1]; omega)⟩ (hL.mono (by rw [hcn1]; omega)) hP1 hD1 hS1 (hl.agree (n := k) hag (by rw [hcn] at hL; exact hL))
        have e2 : kx_cnt S - cnt0 + 1 = kx_cnt (kx_uA S.1 t o (fun _ => 0), kx_uL S.2.1 t o (fun _ => 0), some (k + 1)) - cnt0 := by rw [hcn1]; omega
        have e3 : kx_sz (kx_cnt S) - kx_sz cnt0 + N = kx_sz (kx_cnt (kx_uA S.1 t o (fun _ => 0), kx_uL S.2.1 t o (fun _ => 0), some (k + 1))) - kx_sz cnt0 := by rw [hcn1, hcn]; omega
        rw [e2, e3]
        rw [List.map_cons, kx_map_agree hag (by have := hst.2; rw [hcn] at this; exact this)] at hkk
        have e4 : kx_cv (fun j => if j = k then q else ad j) (.inr (.inr (some (t, o)))) = .ref q := by
          show Value.ref _ = _
          rw [hix]
          simp
        rw [e4] at hkk
        exact hkk
    next => exact h.elim
  next => exact h.elim
theorem ks_newa3 (X : kx_Ctx p R s m args c cc own nL D C4 A cnt0 P) {atype : ArrayType} (hty : newarray.typeOf atype = .boolean) (harr : Cond.arrayClass (newarray.typeOf atype) ∈ kx_tbl) (d : decode cc pc = .ok (.newarray atype, 2)) : kx_Snd (kx_W p l e R s m args below meth c Q D C4 A cnt0 ad0 nL P) P pc (ki_newa 3 (pc + 2)) := by
  intro K hK L st S h ad H locs ls ha hc ho hst hL hP hD hS hl
  unfold ki_newa at h
  split at h
  next len r k hm =>
    split at h
    next t o hcell =>
      cases hq : (Nat.beq (kx_kind t).1 3 && Nat.ble (k + 1) P.1) with
      | false => rw [hq] at h; exact h.elim
      | true =>
        rw [hq] at h
        simp only [Bool.and_eq_true] at hq
        have hkP : k + 1 ≤ P.1 := Nat.le_of_ble_eq_true hq.2
        have hkd : kx_kind t = (3, (kx_kind t).2) := Prod.ext (Nat.eq_of_beq_eq_true hq.1) rfl
        generalize (kx_kind t).2 = N at hkd h
        obtain ⟨hlen, h⟩ := h
        have hPN := X.2.2.2.2.2.2
        have hcn := kx_cnt_some hm
        have hcs : kx_sz (kx_cnt S) = kx_sz k := by rw [hcn]
        have hN : N < 2 ^ 20 := by
          have h6 : ∀ q ∈ kx_cells, (kx_kind q.1).2 < 2 ^ 20 := by decide +kernel
          have h7 := h6 _ (List.mem_of_getElem? hcell)
          rw [hkd] at h7
          exact h7
        have hsz1 := kx_szk k (by omega) _ hcell
        rw [hkd] at hsz1
        simp only [] at hsz1
        rw [if_neg (by omega)] at hsz1
        have hm1 := kx_sz_mono (a := k + 1) (b := P.1) hkP hPN
        have hm0 := kx_sz_mono (a := cnt0) (b := k) (by omega) (by omega)
        have hRc := X.2.2.2.2.1
        have hRs := X.2.2.2.2.2.1
        subst hlen
        refine va_newa X.1.1 X.1.2.1 (X.1.2.2.2.2 _ harr) hty X.2.1 hP hD hS X.2.2.2.1 (N' := N) (a0 := (N, .inl (fun _ => 0))) (fun cA => rfl) (nI_pos (by omega)) (nI_clamp (by omega)) (Nat.le_trans (Nat.mul_le_mul (Nat.le_of_lt hN) (show componentBytes .boolean ≤ 8 by decide)) (by decide)) (by omega) (by omega) d (fun q cA H1 hK1 hP1 hD1 hS1 => ?_)
        have hcA : cA = C4.2.2.1 := by
          have h1 := va_nm_boolean (hK1.2 4 (cA, .boolean) rfl).2
          have h2 := va_nm_boolean (X.2.1.2 2 _ rfl).2
          exact Option.some.inj (h1.symm.trans h2)
        subst hcA
        have hix := kx_ix_of hcell
        have e1 : kx_en C4 (fun j => if j = k then q else ad j) (kx_uA S.1 t o (fun _ => 0), kx_uL S.2.1 t o (fun _ => 0), some (k + 1)) t o = .inl (C4.2.2.1, (N, .inl (fun _ => 0))) := by
          rw [kx_en_z hkd]
          simp only [kx_uA_eq, kx_uL_eq]
        have hpush := kx_ws_push (C4 := C4) (ad := ad) (ad' := fun j => if j = k then q else ad j) (S := S) (S' := (kx_uA S.1 t o (fun _ => 0), kx_uL S.2.1 t o (fun _ => 0), some (k + 1))) hm rfl ho (by omega) (fun j hj => by simp [Nat.ne_of_lt hj]) hcell (fun t2 o2 hne => ⟨kx_uA_ne _ _ hne, kx_uL_ne _ _ hne⟩)
        rw [e1] at hpush
        simp only [↓reduceIte] at hpush
        rw [hpush] at hP1 hD1
        have hag : kx_agree k ad (fun j => if j = k then q else ad j) := fun j hj => by
          rcases hj with hj | hj
          · simp [Nat.ne_of_lt hj]
          · have : j ≠ k := by omega
            simp [this]
        have hcn1 : kx_cnt (kx_uA S.1 t o (fun _ => 0), kx_uL S.2.1 t o (fun _ => 0), some (k + 1)) = k + 1 := rfl
        have hkk := hK _ _ _ _ h (fun j => if j = k then q else ad j) H1 locs ls (ha.tr hag (by omega)) ⟨by rw [hcn1]; omega, by rw [hcn1]; exact hkP⟩ (kx_hv_push (S := S) hm rfl ho (by omega) hcell (fun t2 o2 hne => kx_uA_ne _ _ hne) (fun j q2 _ => by dsimp only; rw [kx_uA_eq])) ⟨Or.inl (by show kx_ix t o < k + 1; omega), hst.2.mono (by rw [hcn1]; omega)⟩ (hL.mono (by rw [hcn1]; omega)) hP1 hD1 hS1 (hl.agree (n := k) hag (by rw [hcn] at hL; exact hL))
        have e2 : kx_cnt S - cnt0 + 1 = kx_cnt (kx_uA S.1 t o (fun _ => 0), kx_uL S.2.1 t o (fun _ => 0), some (k + 1)) - cnt0 := by rw [hcn1]; omega
        have e3 : kx_sz (kx_cnt S) - kx_sz cnt0 + N = kx_sz (kx_cnt (kx_uA S.1 t o (fun _ => 0), kx_uL S.2.1 t o (fun _ => 0), some (k + 1))) - kx_sz cnt0 := by rw [hcn1, hcn]; omega
        rw [e2, e3]
        rw [List.map_cons, kx_map_agree hag (by have := hst.2; rw [hcn] at this; exact this)] at hkk
        have e4 : kx_cv (fun j => if j = k then q else ad j) (.inr (.inr (some (t, o)))) = .ref q := by
          show Value.ref _ = _
          rw [hix]
          simp
        rw [e4] at hkk
        exact hkk
    next => exact h.elim
  next => exact h.elim
theorem ks_newq (X : kx_Ctx p R s m args c cc own nL D C4 A cnt0 P) {index : Nat} (hcl : Cond.classLink own index "KeptLight$Shelf" ∈ kx_tbl) (d : decode cc pc = .ok (.anewarray index, 3)) : kx_Snd (kx_W p l e R s m args below meth c Q D C4 A cnt0 ad0 nL P) P pc (ki_newa 4 (pc + 3)) := by
  intro K hK L st S h ad H locs ls ha hc ho hst hL hP hD hS hl
  unfold ki_newa at h
  split at h
  next len r k hm =>
    split at h
    next t o hcell =>
      cases hq : (Nat.beq (kx_kind t).1 4 && Nat.ble (k + 1) P.1) with
      | false => rw [hq] at h; exact h.elim
      | true =>
        rw [hq] at h
        simp only [Bool.and_eq_true] at hq
        have hkP : k + 1 ≤ P.1 := Nat.le_of_ble_eq_true hq.2
        have hkd : kx_kind t = (4, (kx_kind t).2) := Prod.ext (Nat.eq_of_beq_eq_true hq.1) rfl
        generalize (kx_kind t).2 = N at hkd h
        obtain ⟨hlen, h⟩ := h
        have hPN := X.2.2.2.2.2.2
        have hcn := kx_cnt_some hm
        have hcs : kx_sz (kx_cnt S) = kx_sz k := by rw [hcn]
        have hN : N < 2 ^ 20 := by
          have h6 : ∀ q ∈ kx_cells, (kx_kind q.1).2 < 2 ^ 20 := by decide +kernel
          have h7 := h6 _ (List.mem_of_getElem? hcell)
          rw [hkd] at h7
          exact h7
        have hsz1 := kx_szk k (by omega) _ hcell
        rw [hkd] at hsz1
        simp only [] at hsz1
        rw [if_neg (by omega)] at hsz1
        have hm1 := kx_sz_mono (a := k + 1) (b := P.1) hkP hPN
        have hm0 := kx_sz_mono (a := cnt0) (b := k) (by omega) (by omega)
        have hRc := X.2.2.2.2.1
        have hRs := X.2.2.2.2.2.1
        subst hlen
        refine va_newq X.1.1 X.1.2.1 X.1.2.2.2.1 (X.1.2.2.2.2 _ hcl) X.2.2.1.2 X.2.1 hP hD hS X.2.2.2.1 (N' := N) (nI_pos (by omega)) (nI_clamp (by omega)) (by omega) (by omega) (by omega) d (fun q cA H1 hK1 hP1 hD1 hS1 => ?_)
        have hcA : cA = C4.2.2.2 := by
          have h1 := va_nmO (hK1.2 4 (cA, .object "KeptLight$Shelf") rfl).2 rfl
          have h2 := va_nmO (X.2.1.2 3 _ rfl).2 rfl
          exact Option.some.inj (h1.symm.trans h2)
        subst hcA
        have hix := kx_ix_of hcell
        have e1 : kx_en C4 (fun j => if j = k then q else ad j) (kx_uA S.1 t o (fun _ => 0), kx_uL S.2.1 t o (fun _ => 0), some (k + 1)) t o = .inl (C4.2.2.2, (N, .inr (.inr (.inr (.inr (fun _ => none)))))) := by
          rw [kx_en_r hkd]
          simp only [kx_ro, kx_uA_eq, ↓reduceIte]
        have hpush := kx_ws_push (C4 := C4) (ad := ad) (ad' := fun j => if j = k then q else ad j) (S := S) (S' := (kx_uA S.1 t o (fun _ => 0), kx_uL S.2.1 t o (fun _ => 0), some (k + 1))) hm rfl ho (by omega) (fun j hj => by simp [Nat.ne_of_lt hj]) hcell (fun t2 o2 hne => ⟨kx_uA_ne _ _ hne, kx_uL_ne _ _ hne⟩)
        rw [e1] at hpush
        simp only [↓reduceIte] at hpush
        rw [hpush] at hP1 hD1
        have hag : kx_agree k ad (fun j => if j = k then q else ad j) := fun j hj => by
          rcases hj with hj | hj
          · simp [Nat.ne_of_lt hj]
          · have : j ≠ k := by omega
            simp [this]
        have hcn1 : kx_cnt (kx_uA S.1 t o (fun _ => 0), kx_uL S.2.1 t o (fun _ => 0), some (k + 1)) = k + 1 := rfl
        have hkk := hK _ _ _ _ h (fun j => if j = k then q else ad j) H1 locs ls (ha.tr hag (by omega)) ⟨by rw [hcn1]; omega, by rw [hcn1]; exact hkP⟩ (kx_hv_push (S := S) hm rfl ho (by omega) hcell (fun t2 o2 hne => kx_uA_ne _ _ hne) (fun j q2 _ => by dsimp only; rw [kx_uA_eq])) ⟨Or.inl (by show kx_ix t o < k + 1; omega), hst.2.mono (by rw [hcn1]; omega)⟩ (hL.mono (by rw [hcn1]; omega)) hP1 hD1 hS1 (hl.agree (n := k) hag (by rw [hcn] at hL; exact hL))
        have e2 : kx_cnt S - cnt0 + 1 = kx_cnt (kx_uA S.1 t o (fun _ => 0), kx_uL S.2.1 t o (fun _ => 0), some (k + 1)) - cnt0 := by rw [hcn1]; omega
        have e3 : kx_sz (kx_cnt S) - kx_sz cnt0 + N = kx_sz (kx_cnt (kx_uA S.1 t o (fun _ => 0), kx_uL S.2.1 t o (fun _ => 0), some (k + 1))) - kx_sz cnt0 := by rw [hcn1, hcn]; omega
        rw [e2, e3]
        rw [List.map_cons, kx_map_agree hag (by have := hst.2; rw [hcn] at this; exact this)] at hkk
        have e4 : kx_cv (fun j => if j = k then q else ad j) (.inr (.inr (some (t, o)))) = .ref q := by
          show Value.ref _ = _
          rw [hix]
          simp
        rw [e4] at hkk
        exact hkk
    next => exact h.elim
  next => exact h.elim
theorem ks_aast (X : kx_Ctx p R s m args c cc own nL D C4 A cnt0 P) {T : u_T} {N : Nat} {ty : Nat → FieldType} (hf : kx_cf kx_tSh "KeptLight$Shelf" T N ty) (d : decode cc pc = .ok (.aastore, 1)) : kx_Snd (kx_W p l e R s m args below meth c Q D C4 A cnt0 ad0 nL P) P pc (ki_aast (pc + 1)) := by
  intro K hK L st S h ad H locs ls ha hc ho hst hL hP hD hS hl
  match st, h, hst with
  | .inr (.inr (some (t3, o3))) :: .inl i :: .inr (.inr (some (t, o))) :: r, g9, hst =>
    unfold ki_aast at g9
    dsimp only at g9
    split at g9
    next len k hk hm =>
      cases hq : Nat.beq t3 kx_tSh with
      | false => rw [hq] at g9; exact g9.elim
      | true =>
        rw [hq] at g9
        obtain rfl := Nat.eq_of_beq_eq_true hq
        obtain ⟨hin, rfl, g9⟩ := g9
        have hi := kx_ok_lt hst.2.2.1 hk (Nat.ne_of_beq_eq_false rfl)
        have hi3 := kx_ok_lt hst.1 hf.1 (Nat.ne_of_beq_eq_false rfl)
        have he := kx_ws_at (C4 := C4) (ad := ad) hi ho.le
        have he3 := kx_ws_at (C4 := C4) (ad := ad) hi3 ho.le
        rw [kx_en_r hk] at he
        rw [kx_en_o hf.1] at he3
        have hset := kx_set1 (C4 := C4) (ad := ad) (f := upd (S.1 t o) i.toNatClampNeg 1) hi ho.le
        rw [kx_en_r hk] at hset
        have e : (fun j => kx_ro ad (kx_uA S.1 t o (upd (S.1 t o) i.toNatClampNeg 1), S.2) t o j kx_tSh j) = va_up (fun j => kx_ro ad S t o j kx_tSh j) i.toNatClampNeg (some (ad (kx_ix kx_tSh i.toNatClampNeg))) := by
          funext j
          simp only [kx_ro, va_up, kx_uA_eq, hm]
          by_cases hj : j = i.toNatClampNeg
          · subst hj; simp [upd]
          · simp [upd, hj]
        rw [e] at hset
        refine va_astq (D := D) (r := ("KeptLight$Shelf", T, N)) X.1.1 X.1.2.1 X.2.1 hP hD hS _ 3 _ kx_tSh he rfl he3 hf.2.1 hin d (fun H1 locs1 hP1 hD1 hS1 => ?_)
        rw [hset] at hP1 hD1
        refine hK _ _ _ _ g9 ad H1 locs1 ls ha hc ?_ hst.2.2.2 hL hP1 hD1 hS1 hl
        rw [kx_hv_some (S := (kx_uA S.1 t o (upd (S.1 t o) i.toNatClampNeg 1), S.2)) hm]
        have hv0 := (kx_hv_some hm).mp ho
        rw [kx_cnt_some hm] at hi3
        refine ⟨hv0.1, fun t5 o5 j5 t6 o6 h1 h2 h4 => ?_⟩
        by_cases hto : t5 = t ∧ o5 = o
        · obtain ⟨rfl, rfl⟩ := hto
          dsimp only at h4
          rw [kx_uA_eq] at h4
          by_cases hjj : j5 = i.toNatClampNeg
          · subst hjj
            rw [kx_tgt_r hk] at h2
            cases h2
            exact hi3
          · simp only [upd, if_neg hjj] at h4
            exact hv0.2 _ _ _ _ _ h1 h2 h4
        · dsimp only at h4
          rw [kx_uA_ne _ _ hto] at h4
          exact hv0.2 _ _ _ _ _ h1 h2 h4
    next => exact g9.elim
end KXN
end
