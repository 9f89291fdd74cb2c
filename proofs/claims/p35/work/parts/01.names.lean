-- ===== PART A: goes FIRST, ahead of the names: the tables' words, and 'selects' of the private methods out of them =====
/-- a private method of a class that the tables say can be made, by its rows of tables_1 -/
def lw_okq (q : MethodName × Nat) : Prop := (q.1.cls ≠ "java/lang/invoke/MethodHandle" ∧ q.1.cls ≠ "java/lang/invoke/VarHandle") ∧ Cond.instantiable q.1.cls q.2 ∈ tables_1 ∧ Cond.privateMethod q.1 ∈ tables_1 ∧ Cond.instanceMethod q.1 ∈ tables_1
theorem lw_p0 : lw_okq (⟨"BrothersField", "refuse", "(I)I"⟩, 11) := ⟨⟨by decide +kernel, by decide +kernel⟩, List.mem_of_getElem? (i := 22) (by decide +kernel), List.mem_of_getElem? (i := 226) (by decide +kernel), List.mem_of_getElem? (i := 227) (by decide +kernel)⟩
theorem lw_p1 : lw_okq (⟨"BrothersField", "refuseAs", "(II)I"⟩, 11) := ⟨⟨by decide +kernel, by decide +kernel⟩, List.mem_of_getElem? (i := 22) (by decide +kernel), List.mem_of_getElem? (i := 230) (by decide +kernel), List.mem_of_getElem? (i := 231) (by decide +kernel)⟩
theorem lw_p2 : lw_okq (⟨"BrothersField", "noRow", "(I)I"⟩, 11) := ⟨⟨by decide +kernel, by decide +kernel⟩, List.mem_of_getElem? (i := 22) (by decide +kernel), List.mem_of_getElem? (i := 248) (by decide +kernel), List.mem_of_getElem? (i := 249) (by decide +kernel)⟩
theorem lw_p3 : lw_okq (⟨"BrothersField", "newCut", "(II)LBrothersField$Cut;"⟩, 11) := ⟨⟨by decide +kernel, by decide +kernel⟩, List.mem_of_getElem? (i := 22) (by decide +kernel), List.mem_of_getElem? (i := 303) (by decide +kernel), List.mem_of_getElem? (i := 304) (by decide +kernel)⟩
theorem lw_p4 : lw_okq (⟨"BrothersField", "noCut", "(I)I"⟩, 11) := ⟨⟨by decide +kernel, by decide +kernel⟩, List.mem_of_getElem? (i := 22) (by decide +kernel), List.mem_of_getElem? (i := 456) (by decide +kernel), List.mem_of_getElem? (i := 457) (by decide +kernel)⟩
theorem lw_p5 : lw_okq (⟨"BrothersField", "toldAs", "(LBrothersField$Cut;I)I"⟩, 11) := ⟨⟨by decide +kernel, by decide +kernel⟩, List.mem_of_getElem? (i := 22) (by decide +kernel), List.mem_of_getElem? (i := 489) (by decide +kernel), List.mem_of_getElem? (i := 490) (by decide +kernel)⟩
theorem lw_p6 : lw_okq (⟨"BrothersField", "sideOf", "(LBrothersField$Cut;I)J"⟩, 11) := ⟨⟨by decide +kernel, by decide +kernel⟩, List.mem_of_getElem? (i := 22) (by decide +kernel), List.mem_of_getElem? (i := 493) (by decide +kernel), List.mem_of_getElem? (i := 494) (by decide +kernel)⟩
theorem lw_p7 : lw_okq (⟨"BrothersField", "mayStand", "(II)Z"⟩, 11) := ⟨⟨by decide +kernel, by decide +kernel⟩, List.mem_of_getElem? (i := 22) (by decide +kernel), List.mem_of_getElem? (i := 768) (by decide +kernel), List.mem_of_getElem? (i := 769) (by decide +kernel)⟩
theorem lw_p8 : lw_okq (⟨"BrothersFieldModel", "isShelf", "(I)Z"⟩, 38) := ⟨⟨by decide +kernel, by decide +kernel⟩, List.mem_of_getElem? (i := 1137) (by decide +kernel), List.mem_of_getElem? (i := 1262) (by decide +kernel), List.mem_of_getElem? (i := 1263) (by decide +kernel)⟩
theorem lw_p9 : lw_okq (⟨"BrothersFieldModel", "no", "(I)I"⟩, 38) := ⟨⟨by decide +kernel, by decide +kernel⟩, List.mem_of_getElem? (i := 1137) (by decide +kernel), List.mem_of_getElem? (i := 1266) (by decide +kernel), List.mem_of_getElem? (i := 1267) (by decide +kernel)⟩
theorem lw_p10 : lw_okq (⟨"BrothersFieldModel", "sideOf", "(II)J"⟩, 38) := ⟨⟨by decide +kernel, by decide +kernel⟩, List.mem_of_getElem? (i := 1137) (by decide +kernel), List.mem_of_getElem? (i := 1294) (by decide +kernel), List.mem_of_getElem? (i := 1295) (by decide +kernel)⟩
theorem lw_p11 : lw_okq (⟨"BrothersFieldModel", "isFirst", "(II)Z"⟩, 38) := ⟨⟨by decide +kernel, by decide +kernel⟩, List.mem_of_getElem? (i := 1137) (by decide +kernel), List.mem_of_getElem? (i := 1298) (by decide +kernel), List.mem_of_getElem? (i := 1299) (by decide +kernel)⟩
theorem lw_p12 : lw_okq (⟨"BrothersFieldModel", "many", "(J)I"⟩, 38) := ⟨⟨by decide +kernel, by decide +kernel⟩, List.mem_of_getElem? (i := 1137) (by decide +kernel), List.mem_of_getElem? (i := 1306) (by decide +kernel), List.mem_of_getElem? (i := 1307) (by decide +kernel)⟩
theorem lw_p13 : lw_okq (⟨"BrothersFieldModel", "wants", "(II)I"⟩, 38) := ⟨⟨by decide +kernel, by decide +kernel⟩, List.mem_of_getElem? (i := 1137) (by decide +kernel), List.mem_of_getElem? (i := 1314) (by decide +kernel), List.mem_of_getElem? (i := 1315) (by decide +kernel)⟩
theorem lw_p14 : lw_okq (⟨"BrothersFieldModel", "all", "([IZ)V"⟩, 38) := ⟨⟨by decide +kernel, by decide +kernel⟩, List.mem_of_getElem? (i := 1137) (by decide +kernel), List.mem_of_getElem? (i := 1318) (by decide +kernel), List.mem_of_getElem? (i := 1319) (by decide +kernel)⟩
theorem lw_p15 : lw_okq (⟨"BrothersFieldModel", "keeps", "([II[IIZ)I"⟩, 38) := ⟨⟨by decide +kernel, by decide +kernel⟩, List.mem_of_getElem? (i := 1137) (by decide +kernel), List.mem_of_getElem? (i := 1322) (by decide +kernel), List.mem_of_getElem? (i := 1323) (by decide +kernel)⟩
def lw_privs_1 : List (MethodName × Nat) := [(⟨"BrothersField", "refuse", "(I)I"⟩, 11), (⟨"BrothersField", "refuseAs", "(II)I"⟩, 11), (⟨"BrothersField", "noRow", "(I)I"⟩, 11), (⟨"BrothersField", "newCut", "(II)LBrothersField$Cut;"⟩, 11), (⟨"BrothersField", "noCut", "(I)I"⟩, 11), (⟨"BrothersField", "toldAs", "(LBrothersField$Cut;I)I"⟩, 11), (⟨"BrothersField", "sideOf", "(LBrothersField$Cut;I)J"⟩, 11), (⟨"BrothersField", "mayStand", "(II)Z"⟩, 11), (⟨"BrothersFieldModel", "isShelf", "(I)Z"⟩, 38), (⟨"BrothersFieldModel", "no", "(I)I"⟩, 38), (⟨"BrothersFieldModel", "sideOf", "(II)J"⟩, 38), (⟨"BrothersFieldModel", "isFirst", "(II)Z"⟩, 38), (⟨"BrothersFieldModel", "many", "(J)I"⟩, 38), (⟨"BrothersFieldModel", "wants", "(II)I"⟩, 38), (⟨"BrothersFieldModel", "all", "([IZ)V"⟩, 38), (⟨"BrothersFieldModel", "keeps", "([II[IIZ)I"⟩, 38)]
theorem lw_r1 : ∀ q ∈ lw_privs_1, lw_okq q := List.forall_mem_cons.mpr ⟨lw_p0, List.forall_mem_cons.mpr ⟨lw_p1, List.forall_mem_cons.mpr ⟨lw_p2, List.forall_mem_cons.mpr ⟨lw_p3, List.forall_mem_cons.mpr ⟨lw_p4, List.forall_mem_cons.mpr ⟨lw_p5, List.forall_mem_cons.mpr ⟨lw_p6, List.forall_mem_cons.mpr ⟨lw_p7, List.forall_mem_cons.mpr ⟨lw_p8, List.forall_mem_cons.mpr ⟨lw_p9, List.forall_mem_cons.mpr ⟨lw_p10, List.forall_mem_cons.mpr ⟨lw_p11, List.forall_mem_cons.mpr ⟨lw_p12, List.forall_mem_cons.mpr ⟨lw_p13, List.forall_mem_cons.mpr ⟨lw_p14, List.forall_mem_cons.mpr ⟨lw_p15, fun _ h => absurd h List.not_mem_nil⟩⟩⟩⟩⟩⟩⟩⟩⟩⟩⟩⟩⟩⟩⟩⟩
theorem lw_p16 : lw_okq (⟨"BrothersFieldModel", "item", "()Z"⟩, 38) := ⟨⟨by decide +kernel, by decide +kernel⟩, List.mem_of_getElem? (i := 1137) (by decide +kernel), List.mem_of_getElem? (i := 1326) (by decide +kernel), List.mem_of_getElem? (i := 1327) (by decide +kernel)⟩
theorem lw_p17 : lw_okq (⟨"BrothersFieldModel", "isWordAt", "(I)Z"⟩, 38) := ⟨⟨by decide +kernel, by decide +kernel⟩, List.mem_of_getElem? (i := 1137) (by decide +kernel), List.mem_of_getElem? (i := 1330) (by decide +kernel), List.mem_of_getElem? (i := 1331) (by decide +kernel)⟩
theorem lw_p18 : lw_okq (⟨"BrothersFieldModel", "isWordFull", "(I)Z"⟩, 38) := ⟨⟨by decide +kernel, by decide +kernel⟩, List.mem_of_getElem? (i := 1137) (by decide +kernel), List.mem_of_getElem? (i := 1334) (by decide +kernel), List.mem_of_getElem? (i := 1335) (by decide +kernel)⟩
theorem lw_p19 : lw_okq (⟨"BrothersFieldModel", "wrong", "(I)Z"⟩, 38) := ⟨⟨by decide +kernel, by decide +kernel⟩, List.mem_of_getElem? (i := 1137) (by decide +kernel), List.mem_of_getElem? (i := 1338) (by decide +kernel), List.mem_of_getElem? (i := 1339) (by decide +kernel)⟩
theorem lw_p20 : lw_okq (⟨"BrothersFieldModel", "word", "()I"⟩, 38) := ⟨⟨by decide +kernel, by decide +kernel⟩, List.mem_of_getElem? (i := 1137) (by decide +kernel), List.mem_of_getElem? (i := 1342) (by decide +kernel), List.mem_of_getElem? (i := 1343) (by decide +kernel)⟩
theorem lw_p21 : lw_okq (⟨"BrothersFieldModel", "number", "(II)Z"⟩, 38) := ⟨⟨by decide +kernel, by decide +kernel⟩, List.mem_of_getElem? (i := 1137) (by decide +kernel), List.mem_of_getElem? (i := 1346) (by decide +kernel), List.mem_of_getElem? (i := 1347) (by decide +kernel)⟩
theorem lw_p22 : lw_okq (⟨"BrothersFieldModel", "isDigit", "()Z"⟩, 38) := ⟨⟨by decide +kernel, by decide +kernel⟩, List.mem_of_getElem? (i := 1137) (by decide +kernel), List.mem_of_getElem? (i := 1350) (by decide +kernel), List.mem_of_getElem? (i := 1351) (by decide +kernel)⟩
theorem lw_p23 : lw_okq (⟨"BrothersFieldModel", "next", "(II)Z"⟩, 38) := ⟨⟨by decide +kernel, by decide +kernel⟩, List.mem_of_getElem? (i := 1137) (by decide +kernel), List.mem_of_getElem? (i := 1354) (by decide +kernel), List.mem_of_getElem? (i := 1355) (by decide +kernel)⟩
theorem lw_p24 : lw_okq (⟨"BrothersFieldModel", "sizes", "(II)V"⟩, 38) := ⟨⟨by decide +kernel, by decide +kernel⟩, List.mem_of_getElem? (i := 1137) (by decide +kernel), List.mem_of_getElem? (i := 1358) (by decide +kernel), List.mem_of_getElem? (i := 1359) (by decide +kernel)⟩
theorem lw_p25 : lw_okq (⟨"BrothersFieldModel", "comes", "(I)I"⟩, 38) := ⟨⟨by decide +kernel, by decide +kernel⟩, List.mem_of_getElem? (i := 1137) (by decide +kernel), List.mem_of_getElem? (i := 1362) (by decide +kernel), List.mem_of_getElem? (i := 1363) (by decide +kernel)⟩
theorem lw_p26 : lw_okq (⟨"BrothersFieldModel", "isSquare", "(I)Z"⟩, 38) := ⟨⟨by decide +kernel, by decide +kernel⟩, List.mem_of_getElem? (i := 1137) (by decide +kernel), List.mem_of_getElem? (i := 1378) (by decide +kernel), List.mem_of_getElem? (i := 1379) (by decide +kernel)⟩
theorem lw_p27 : lw_okq (⟨"BrothersFieldModel", "noTen", "(I)I"⟩, 38) := ⟨⟨by decide +kernel, by decide +kernel⟩, List.mem_of_getElem? (i := 1137) (by decide +kernel), List.mem_of_getElem? (i := 1386) (by decide +kernel), List.mem_of_getElem? (i := 1387) (by decide +kernel)⟩
theorem lw_p28 : lw_okq (⟨"BrothersFieldModel", "isHeir", "(I)Z"⟩, 38) := ⟨⟨by decide +kernel, by decide +kernel⟩, List.mem_of_getElem? (i := 1137) (by decide +kernel), List.mem_of_getElem? (i := 1398) (by decide +kernel), List.mem_of_getElem? (i := 1399) (by decide +kernel)⟩
theorem lw_p29 : lw_okq (⟨"BrothersFieldModel", "pieceOf", "(I)J"⟩, 38) := ⟨⟨by decide +kernel, by decide +kernel⟩, List.mem_of_getElem? (i := 1137) (by decide +kernel), List.mem_of_getElem? (i := 1410) (by decide +kernel), List.mem_of_getElem? (i := 1411) (by decide +kernel)⟩
theorem lw_p30 : lw_okq (⟨"BrothersFieldModel", "isSet", "(J)Z"⟩, 38) := ⟨⟨by decide +kernel, by decide +kernel⟩, List.mem_of_getElem? (i := 1137) (by decide +kernel), List.mem_of_getElem? (i := 1418) (by decide +kernel), List.mem_of_getElem? (i := 1419) (by decide +kernel)⟩
theorem lw_p31 : lw_okq (⟨"BrothersFieldModel", "all", "()J"⟩, 38) := ⟨⟨by decide +kernel, by decide +kernel⟩, List.mem_of_getElem? (i := 1137) (by decide +kernel), List.mem_of_getElem? (i := 1422) (by decide +kernel), List.mem_of_getElem? (i := 1423) (by decide +kernel)⟩
def lw_privs_2 : List (MethodName × Nat) := [(⟨"BrothersFieldModel", "item", "()Z"⟩, 38), (⟨"BrothersFieldModel", "isWordAt", "(I)Z"⟩, 38), (⟨"BrothersFieldModel", "isWordFull", "(I)Z"⟩, 38), (⟨"BrothersFieldModel", "wrong", "(I)Z"⟩, 38), (⟨"BrothersFieldModel", "word", "()I"⟩, 38), (⟨"BrothersFieldModel", "number", "(II)Z"⟩, 38), (⟨"BrothersFieldModel", "isDigit", "()Z"⟩, 38), (⟨"BrothersFieldModel", "next", "(II)Z"⟩, 38), (⟨"BrothersFieldModel", "sizes", "(II)V"⟩, 38), (⟨"BrothersFieldModel", "comes", "(I)I"⟩, 38), (⟨"BrothersFieldModel", "isSquare", "(I)Z"⟩, 38), (⟨"BrothersFieldModel", "noTen", "(I)I"⟩, 38), (⟨"BrothersFieldModel", "isHeir", "(I)Z"⟩, 38), (⟨"BrothersFieldModel", "pieceOf", "(I)J"⟩, 38), (⟨"BrothersFieldModel", "isSet", "(J)Z"⟩, 38), (⟨"BrothersFieldModel", "all", "()J"⟩, 38)]
theorem lw_r2 : ∀ q ∈ lw_privs_2, lw_okq q := List.forall_mem_cons.mpr ⟨lw_p16, List.forall_mem_cons.mpr ⟨lw_p17, List.forall_mem_cons.mpr ⟨lw_p18, List.forall_mem_cons.mpr ⟨lw_p19, List.forall_mem_cons.mpr ⟨lw_p20, List.forall_mem_cons.mpr ⟨lw_p21, List.forall_mem_cons.mpr ⟨lw_p22, List.forall_mem_cons.mpr ⟨lw_p23, List.forall_mem_cons.mpr ⟨lw_p24, List.forall_mem_cons.mpr ⟨lw_p25, List.forall_mem_cons.mpr ⟨lw_p26, List.forall_mem_cons.mpr ⟨lw_p27, List.forall_mem_cons.mpr ⟨lw_p28, List.forall_mem_cons.mpr ⟨lw_p29, List.forall_mem_cons.mpr ⟨lw_p30, List.forall_mem_cons.mpr ⟨lw_p31, fun _ h => absurd h List.not_mem_nil⟩⟩⟩⟩⟩⟩⟩⟩⟩⟩⟩⟩⟩⟩⟩⟩
theorem lw_p32 : lw_okq (⟨"BrothersFieldModel", "worthOf", "(IJ)I"⟩, 38) := ⟨⟨by decide +kernel, by decide +kernel⟩, List.mem_of_getElem? (i := 1137) (by decide +kernel), List.mem_of_getElem? (i := 1427) (by decide +kernel), List.mem_of_getElem? (i := 1428) (by decide +kernel)⟩
theorem lw_p33 : lw_okq (⟨"BrothersFieldModel", "has", "(JI)Z"⟩, 38) := ⟨⟨by decide +kernel, by decide +kernel⟩, List.mem_of_getElem? (i := 1137) (by decide +kernel), List.mem_of_getElem? (i := 1431) (by decide +kernel), List.mem_of_getElem? (i := 1432) (by decide +kernel)⟩
theorem lw_p34 : lw_okq (⟨"BrothersFieldModel", "isOwner", "(I)Z"⟩, 38) := ⟨⟨by decide +kernel, by decide +kernel⟩, List.mem_of_getElem? (i := 1137) (by decide +kernel), List.mem_of_getElem? (i := 1443) (by decide +kernel), List.mem_of_getElem? (i := 1444) (by decide +kernel)⟩
theorem lw_p35 : lw_okq (⟨"BrothersFieldModel", "intAt", "(II)I"⟩, 38) := ⟨⟨by decide +kernel, by decide +kernel⟩, List.mem_of_getElem? (i := 1137) (by decide +kernel), List.mem_of_getElem? (i := 1455) (by decide +kernel), List.mem_of_getElem? (i := 1456) (by decide +kernel)⟩
theorem lw_p36 : lw_okq (⟨"BrothersFieldModel", "hedgeOf", "()I"⟩, 38) := ⟨⟨by decide +kernel, by decide +kernel⟩, List.mem_of_getElem? (i := 1137) (by decide +kernel), List.mem_of_getElem? (i := 1467) (by decide +kernel), List.mem_of_getElem? (i := 1468) (by decide +kernel)⟩
theorem lw_p37 : lw_okq (⟨"BrothersFieldModel", "partsOf", "(J)I"⟩, 38) := ⟨⟨by decide +kernel, by decide +kernel⟩, List.mem_of_getElem? (i := 1137) (by decide +kernel), List.mem_of_getElem? (i := 1475) (by decide +kernel), List.mem_of_getElem? (i := 1476) (by decide +kernel)⟩
theorem lw_p38 : lw_okq (⟨"BrothersFieldModel", "grown", "(JJ)J"⟩, 38) := ⟨⟨by decide +kernel, by decide +kernel⟩, List.mem_of_getElem? (i := 1137) (by decide +kernel), List.mem_of_getElem? (i := 1479) (by decide +kernel), List.mem_of_getElem? (i := 1480) (by decide +kernel)⟩
theorem lw_p39 : lw_okq (⟨"BrothersFieldModel", "beside", "(J)J"⟩, 38) := ⟨⟨by decide +kernel, by decide +kernel⟩, List.mem_of_getElem? (i := 1137) (by decide +kernel), List.mem_of_getElem? (i := 1483) (by decide +kernel), List.mem_of_getElem? (i := 1484) (by decide +kernel)⟩
theorem lw_p40 : lw_okq (⟨"BrothersFieldModel", "faultyNow", "()I"⟩, 38) := ⟨⟨by decide +kernel, by decide +kernel⟩, List.mem_of_getElem? (i := 1137) (by decide +kernel), List.mem_of_getElem? (i := 1491) (by decide +kernel), List.mem_of_getElem? (i := 1492) (by decide +kernel)⟩
theorem lw_p41 : lw_okq (⟨"BrothersFieldModel", "atRoad", "()J"⟩, 38) := ⟨⟨by decide +kernel, by decide +kernel⟩, List.mem_of_getElem? (i := 1137) (by decide +kernel), List.mem_of_getElem? (i := 1495) (by decide +kernel), List.mem_of_getElem? (i := 1496) (by decide +kernel)⟩
theorem lw_p42 : lw_okq (⟨"BrothersFieldModel", "shares", "()I"⟩, 38) := ⟨⟨by decide +kernel, by decide +kernel⟩, List.mem_of_getElem? (i := 1137) (by decide +kernel), List.mem_of_getElem? (i := 1499) (by decide +kernel), List.mem_of_getElem? (i := 1500) (by decide +kernel)⟩
theorem lw_p43 : lw_okq (⟨"BrothersFieldModel", "spares", "(Z)V"⟩, 38) := ⟨⟨by decide +kernel, by decide +kernel⟩, List.mem_of_getElem? (i := 1137) (by decide +kernel), List.mem_of_getElem? (i := 1511) (by decide +kernel), List.mem_of_getElem? (i := 1512) (by decide +kernel)⟩
theorem lw_p44 : lw_okq (⟨"BrothersFieldModel", "lists", "(I)V"⟩, 38) := ⟨⟨by decide +kernel, by decide +kernel⟩, List.mem_of_getElem? (i := 1137) (by decide +kernel), List.mem_of_getElem? (i := 1515) (by decide +kernel), List.mem_of_getElem? (i := 1516) (by decide +kernel)⟩
theorem lw_p45 : lw_okq (⟨"BrothersFieldModel", "lists", "(IZ)V"⟩, 38) := ⟨⟨by decide +kernel, by decide +kernel⟩, List.mem_of_getElem? (i := 1137) (by decide +kernel), List.mem_of_getElem? (i := 1519) (by decide +kernel), List.mem_of_getElem? (i := 1520) (by decide +kernel)⟩
theorem lw_p46 : lw_okq (⟨"BrothersFieldModel", "tries", "(II)V"⟩, 38) := ⟨⟨by decide +kernel, by decide +kernel⟩, List.mem_of_getElem? (i := 1137) (by decide +kernel), List.mem_of_getElem? (i := 1523) (by decide +kernel), List.mem_of_getElem? (i := 1524) (by decide +kernel)⟩
theorem lw_p47 : lw_okq (⟨"BrothersFieldModel", "bettered", "()I"⟩, 38) := ⟨⟨by decide +kernel, by decide +kernel⟩, List.mem_of_getElem? (i := 1137) (by decide +kernel), List.mem_of_getElem? (i := 1548) (by decide +kernel), List.mem_of_getElem? (i := 1549) (by decide +kernel)⟩
def lw_privs_3 : List (MethodName × Nat) := [(⟨"BrothersFieldModel", "worthOf", "(IJ)I"⟩, 38), (⟨"BrothersFieldModel", "has", "(JI)Z"⟩, 38), (⟨"BrothersFieldModel", "isOwner", "(I)Z"⟩, 38), (⟨"BrothersFieldModel", "intAt", "(II)I"⟩, 38), (⟨"BrothersFieldModel", "hedgeOf", "()I"⟩, 38), (⟨"BrothersFieldModel", "partsOf", "(J)I"⟩, 38), (⟨"BrothersFieldModel", "grown", "(JJ)J"⟩, 38), (⟨"BrothersFieldModel", "beside", "(J)J"⟩, 38), (⟨"BrothersFieldModel", "faultyNow", "()I"⟩, 38), (⟨"BrothersFieldModel", "atRoad", "()J"⟩, 38), (⟨"BrothersFieldModel", "shares", "()I"⟩, 38), (⟨"BrothersFieldModel", "spares", "(Z)V"⟩, 38), (⟨"BrothersFieldModel", "lists", "(I)V"⟩, 38), (⟨"BrothersFieldModel", "lists", "(IZ)V"⟩, 38), (⟨"BrothersFieldModel", "tries", "(II)V"⟩, 38), (⟨"BrothersFieldModel", "bettered", "()I"⟩, 38)]
theorem lw_r3 : ∀ q ∈ lw_privs_3, lw_okq q := List.forall_mem_cons.mpr ⟨lw_p32, List.forall_mem_cons.mpr ⟨lw_p33, List.forall_mem_cons.mpr ⟨lw_p34, List.forall_mem_cons.mpr ⟨lw_p35, List.forall_mem_cons.mpr ⟨lw_p36, List.forall_mem_cons.mpr ⟨lw_p37, List.forall_mem_cons.mpr ⟨lw_p38, List.forall_mem_cons.mpr ⟨lw_p39, List.forall_mem_cons.mpr ⟨lw_p40, List.forall_mem_cons.mpr ⟨lw_p41, List.forall_mem_cons.mpr ⟨lw_p42, List.forall_mem_cons.mpr ⟨lw_p43, List.forall_mem_cons.mpr ⟨lw_p44, List.forall_mem_cons.mpr ⟨lw_p45, List.forall_mem_cons.mpr ⟨lw_p46, List.forall_mem_cons.mpr ⟨lw_p47, fun _ h => absurd h List.not_mem_nil⟩⟩⟩⟩⟩⟩⟩⟩⟩⟩⟩⟩⟩⟩⟩⟩
theorem lw_p48 : lw_okq (⟨"BrothersFieldModel", "isFit", "(II)Z"⟩, 38) := ⟨⟨by decide +kernel, by decide +kernel⟩, List.mem_of_getElem? (i := 1137) (by decide +kernel), List.mem_of_getElem? (i := 1560) (by decide +kernel), List.mem_of_getElem? (i := 1561) (by decide +kernel)⟩
theorem lw_p49 : lw_okq (⟨"BrothersFieldModel", "parting", "(II)I"⟩, 38) := ⟨⟨by decide +kernel, by decide +kernel⟩, List.mem_of_getElem? (i := 1137) (by decide +kernel), List.mem_of_getElem? (i := 1580) (by decide +kernel), List.mem_of_getElem? (i := 1581) (by decide +kernel)⟩
theorem lw_p50 : lw_okq (⟨"BrothersFieldModel", "body", "(I)V"⟩, 38) := ⟨⟨by decide +kernel, by decide +kernel⟩, List.mem_of_getElem? (i := 1137) (by decide +kernel), List.mem_of_getElem? (i := 1584) (by decide +kernel), List.mem_of_getElem? (i := 1585) (by decide +kernel)⟩
theorem lw_p51 : lw_okq (⟨"BrothersFieldModel", "weighing", "(II)I"⟩, 38) := ⟨⟨by decide +kernel, by decide +kernel⟩, List.mem_of_getElem? (i := 1137) (by decide +kernel), List.mem_of_getElem? (i := 1588) (by decide +kernel), List.mem_of_getElem? (i := 1589) (by decide +kernel)⟩
theorem lw_p52 : lw_okq (⟨"BrothersFieldModel", "hedging", "(II)I"⟩, 38) := ⟨⟨by decide +kernel, by decide +kernel⟩, List.mem_of_getElem? (i := 1137) (by decide +kernel), List.mem_of_getElem? (i := 1592) (by decide +kernel), List.mem_of_getElem? (i := 1593) (by decide +kernel)⟩
def lw_privs_4 : List (MethodName × Nat) := [(⟨"BrothersFieldModel", "isFit", "(II)Z"⟩, 38), (⟨"BrothersFieldModel", "parting", "(II)I"⟩, 38), (⟨"BrothersFieldModel", "body", "(I)V"⟩, 38), (⟨"BrothersFieldModel", "weighing", "(II)I"⟩, 38), (⟨"BrothersFieldModel", "hedging", "(II)I"⟩, 38)]
theorem lw_r4 : ∀ q ∈ lw_privs_4, lw_okq q := List.forall_mem_cons.mpr ⟨lw_p48, List.forall_mem_cons.mpr ⟨lw_p49, List.forall_mem_cons.mpr ⟨lw_p50, List.forall_mem_cons.mpr ⟨lw_p51, List.forall_mem_cons.mpr ⟨lw_p52, fun _ h => absurd h List.not_mem_nil⟩⟩⟩⟩⟩
def lw_privs : List (MethodName × Nat) := lw_privs_1 ++ (lw_privs_2 ++ (lw_privs_3 ++ (lw_privs_4)))
def lw_tbl : List Cond := k2_sels lw_privs ++ tables_1
theorem lw_privs_ok : ∀ q ∈ lw_privs, lw_okq q := by
  show ∀ q ∈ lw_privs_1 ++ (lw_privs_2 ++ (lw_privs_3 ++ (lw_privs_4))), lw_okq q
  exact List.forall_mem_append.mpr ⟨lw_r1, List.forall_mem_append.mpr ⟨lw_r2, List.forall_mem_append.mpr ⟨lw_r3, lw_r4⟩⟩⟩
def RX0 : String := "BrothersField$Along"
def TX0 : u_T := fun k => match k with
  | 0 => ("BrothersField$Cut", "code", "I", true)
  | 1 => ("BrothersField$Cut", "shelf", "I", true)
  | 2 => ("BrothersField$Cut", "a", "I", true)
  | 3 => ("BrothersField$Cut", "b", "I", true)
  | 4 => ("BrothersField$Cut", "c", "I", true)
  | _ => ("BrothersField$Cut", "trace", "LBrothersField$Row;", true)
def tyX0 : Nat → FieldType := fun k => match k with
  | 0 => .int
  | 1 => .int
  | 2 => .int
  | 3 => .int
  | 4 => .int
  | _ => .object "BrothersField$Row"
theorem nmX0 : ∀ a, a < 6 → ∀ b, b < 6 → a ≠ b → (TX0 a).2.1 ≠ (TX0 b).2.1 := by decide +kernel
theorem tyX0_ok : ∀ k, k < 6 → parseFieldDescriptor (TX0 k).2.2.1 = some (tyX0 k) := by decide +kernel
abbrev cX0_init : ByteArray := prog_2_method_1_code
def yX0_init : MethodName := ⟨RX0, "<init>", "(IILBrothersField$Row;)V"⟩
abbrev cX0_isOf : ByteArray := prog_2_method_2_code
def yX0_isOf : MethodName := ⟨RX0, "isOf", "(I)Z"⟩
abbrev cX0_firstIn : ByteArray := prog_2_method_3_code
def yX0_firstIn : MethodName := ⟨RX0, "firstIn", "(LBrothersField$Field;)J"⟩
abbrev cX0_weighsBody : ByteArray := prog_2_method_4_code
def yX0_weighsBody : MethodName := ⟨RX0, "weighsBody", "(I)I"⟩
abbrev cX0_partsBody : ByteArray := prog_2_method_5_code
def yX0_partsBody : MethodName := ⟨RX0, "partsBody", "(I)I"⟩
def RX1 : String := "BrothersField$Bent"
def TX1 : u_T := fun k => match k with
  | 0 => ("BrothersField$Cut", "code", "I", true)
  | 1 => ("BrothersField$Cut", "shelf", "I", true)
  | 2 => ("BrothersField$Cut", "a", "I", true)
  | 3 => ("BrothersField$Cut", "b", "I", true)
  | 4 => ("BrothersField$Cut", "c", "I", true)
  | _ => ("BrothersField$Cut", "trace", "LBrothersField$Row;", true)
def tyX1 : Nat → FieldType := fun k => match k with
  | 0 => .int
  | 1 => .int
  | 2 => .int
  | 3 => .int
  | 4 => .int
  | _ => .object "BrothersField$Row"
theorem nmX1 : ∀ a, a < 6 → ∀ b, b < 6 → a ≠ b → (TX1 a).2.1 ≠ (TX1 b).2.1 := by decide +kernel
theorem tyX1_ok : ∀ k, k < 6 → parseFieldDescriptor (TX1 k).2.2.1 = some (tyX1 k) := by decide +kernel
abbrev cX1_init : ByteArray := prog_3_method_1_code
def yX1_init : MethodName := ⟨RX1, "<init>", "(IILBrothersField$Row;)V"⟩
abbrev cX1_isOf : ByteArray := prog_3_method_2_code
def yX1_isOf : MethodName := ⟨RX1, "isOf", "(I)Z"⟩
abbrev cX1_firstIn : ByteArray := prog_3_method_3_code
def yX1_firstIn : MethodName := ⟨RX1, "firstIn", "(LBrothersField$Field;)J"⟩
abbrev cX1_weighsBody : ByteArray := prog_3_method_4_code
def yX1_weighsBody : MethodName := ⟨RX1, "weighsBody", "(I)I"⟩
def RX2 : String := "BrothersField$Cut"
def TX2 : u_T := fun k => match k with
  | 0 => ("BrothersField$Cut", "code", "I", true)
  | 1 => ("BrothersField$Cut", "shelf", "I", true)
  | 2 => ("BrothersField$Cut", "a", "I", true)
  | 3 => ("BrothersField$Cut", "b", "I", true)
  | 4 => ("BrothersField$Cut", "c", "I", true)
  | _ => ("BrothersField$Cut", "trace", "LBrothersField$Row;", true)
def tyX2 : Nat → FieldType := fun k => match k with
  | 0 => .int
  | 1 => .int
  | 2 => .int
  | 3 => .int
  | 4 => .int
  | _ => .object "BrothersField$Row"
theorem nmX2 : ∀ a, a < 6 → ∀ b, b < 6 → a ≠ b → (TX2 a).2.1 ≠ (TX2 b).2.1 := by decide +kernel
theorem tyX2_ok : ∀ k, k < 6 → parseFieldDescriptor (TX2 k).2.2.1 = some (tyX2 k) := by decide +kernel
abbrev cX2_init : ByteArray := prog_4_method_1_code
def yX2_init : MethodName := ⟨RX2, "<init>", "(IILBrothersField$Row;)V"⟩
abbrev cX2_isOf : ByteArray := prog_4_method_2_code
def yX2_isOf : MethodName := ⟨RX2, "isOf", "(I)Z"⟩
abbrev cX2_firstIn : ByteArray := prog_4_method_3_code
def yX2_firstIn : MethodName := ⟨RX2, "firstIn", "(LBrothersField$Field;)J"⟩
abbrev cX2_laneIn : ByteArray := prog_4_method_4_code
def yX2_laneIn : MethodName := ⟨RX2, "laneIn", "(LBrothersField$Field;)J"⟩
abbrev cX2_partsBody : ByteArray := prog_4_method_5_code
def yX2_partsBody : MethodName := ⟨RX2, "partsBody", "(I)I"⟩
abbrev cX2_weighsBody : ByteArray := prog_4_method_6_code
def yX2_weighsBody : MethodName := ⟨RX2, "weighsBody", "(I)I"⟩
abbrev cX2_hedgesBody : ByteArray := prog_4_method_7_code
def yX2_hedgesBody : MethodName := ⟨RX2, "hedgesBody", "(I)I"⟩
def RX3 : String := "BrothersField$Field"
def TX3 : u_T := fun k => match k with
  | 0 => ("BrothersField$Field", "w", "I", false)
  | 1 => ("BrothersField$Field", "h", "I", false)
  | 2 => ("BrothersField$Field", "all", "J", false)
  | 3 => ("BrothersField$Field", "firstColumn", "J", false)
  | 4 => ("BrothersField$Field", "lastColumn", "J", false)
  | 5 => ("BrothersField$Field", "firstRow", "J", false)
  | 6 => ("BrothersField$Field", "lastRow", "J", false)
  | 7 => ("BrothersField$Field", "road", "I", false)
  | 8 => ("BrothersField$Field", "well", "I", false)
  | 9 => ("BrothersField$Field", "oak", "I", false)
  | 10 => ("BrothersField$Field", "small", "I", false)
  | 11 => ("BrothersField$Field", "heirs", "I", false)
  | 12 => ("BrothersField$Field", "soils", "[J", true)
  | 13 => ("BrothersField$Field", "shares", "[I", true)
  | 14 => ("BrothersField$Field", "soilWorths", "[[I", true)
  | 15 => ("BrothersField$Field", "isFond", "[Z", true)
  | _ => ("BrothersField$Field", "owned", "[J", true)
def tyX3 : Nat → FieldType := fun k => match k with
  | 0 => .int
  | 1 => .int
  | 2 => .long
  | 3 => .long
  | 4 => .long
  | 5 => .long
  | 6 => .long
  | 7 => .int
  | 8 => .int
  | 9 => .int
  | 10 => .int
  | 11 => .int
  | 12 => .array .long
  | 13 => .array .int
  | 14 => .array (.array .int)
  | 15 => .array .boolean
  | _ => .array .long
theorem nmX3 : ∀ a, a < 17 → ∀ b, b < 17 → a ≠ b → (TX3 a).2.1 ≠ (TX3 b).2.1 := by decide +kernel
theorem tyX3_ok : ∀ k, k < 17 → parseFieldDescriptor (TX3 k).2.2.1 = some (tyX3 k) := by decide +kernel
abbrev cX3_init : ByteArray := prog_5_method_1_code
def yX3_init : MethodName := ⟨RX3, "<init>", "()V"⟩
abbrev cX3_resize : ByteArray := prog_5_method_2_code
def yX3_resize : MethodName := ⟨RX3, "resize", "(II)V"⟩
abbrev cX3_become : ByteArray := prog_5_method_3_code
def yX3_become : MethodName := ⟨RX3, "become", "(LBrothersField$Field;)V"⟩
abbrev cX3_give : ByteArray := prog_5_method_4_code
def yX3_give : MethodName := ⟨RX3, "give", "([JJI)V"⟩
abbrev cX3_empty : ByteArray := prog_5_method_5_code
def yX3_empty : MethodName := ⟨RX3, "empty", "([J)V"⟩
abbrev cX3_squares : ByteArray := prog_5_method_6_code
def yX3_squares : MethodName := ⟨RX3, "squares", "()I"⟩
abbrev cX3_isSquare : ByteArray := prog_5_method_7_code
def yX3_isSquare : MethodName := ⟨RX3, "isSquare", "(I)Z"⟩
abbrev cX3_isHeir : ByteArray := prog_5_method_8_code
def yX3_isHeir : MethodName := ⟨RX3, "isHeir", "(I)Z"⟩
abbrev cX3_hasAll : ByteArray := prog_5_method_9_code
def yX3_hasAll : MethodName := ⟨RX3, "hasAll", "(J)Z"⟩
abbrev cX3_only : ByteArray := prog_5_method_10_code
def yX3_only : MethodName := ⟨RX3, "only", "(I)J"⟩
abbrev cX3_lowest : ByteArray := prog_5_method_11_code
def yX3_lowest : MethodName := ⟨RX3, "lowest", "(I)J"⟩
abbrev cX3_below : ByteArray := prog_5_method_12_code
def yX3_below : MethodName := ⟨RX3, "below", "(I)J"⟩
abbrev cX3_rowsBelow : ByteArray := prog_5_method_13_code
def yX3_rowsBelow : MethodName := ⟨RX3, "rowsBelow", "(I)J"⟩
abbrev cX3_columns : ByteArray := prog_5_method_14_code
def yX3_columns : MethodName := ⟨RX3, "columns", "(I)J"⟩
abbrev cX3_corner : ByteArray := prog_5_method_15_code
def yX3_corner : MethodName := ⟨RX3, "corner", "(II)J"⟩
abbrev cX3_bent : ByteArray := prog_5_method_16_code
def yX3_bent : MethodName := ⟨RX3, "bent", "(III)J"⟩
abbrev cX3_soilAt : ByteArray := prog_5_method_17_code
def yX3_soilAt : MethodName := ⟨RX3, "soilAt", "(I)I"⟩
abbrev cX3_laySoil : ByteArray := prog_5_method_18_code
def yX3_laySoil : MethodName := ⟨RX3, "laySoil", "(JI)V"⟩
abbrev cX3_placeOf : ByteArray := prog_5_method_19_code
def yX3_placeOf : MethodName := ⟨RX3, "placeOf", "(I)I"⟩
abbrev cX3_setPlace : ByteArray := prog_5_method_20_code
def yX3_setPlace : MethodName := ⟨RX3, "setPlace", "(II)V"⟩
abbrev cX3_addHeir : ByteArray := prog_5_method_21_code
def yX3_addHeir : MethodName := ⟨RX3, "addHeir", "(I)I"⟩
abbrev cX3_worthOf : ByteArray := prog_5_method_22_code
def yX3_worthOf : MethodName := ⟨RX3, "worthOf", "(IJ)I"⟩
abbrev cX3_allShares : ByteArray := prog_5_method_23_code
def yX3_allShares : MethodName := ⟨RX3, "allShares", "()I"⟩
abbrev cX3_surplusOf : ByteArray := prog_5_method_24_code
def yX3_surplusOf : MethodName := ⟨RX3, "surplusOf", "(IJ)I"⟩
abbrev cX3_slotOf : ByteArray := prog_5_method_25_code
def yX3_slotOf : MethodName := ⟨RX3, "slotOf", "(I)I"⟩
abbrev cX3_ownerAt : ByteArray := prog_5_method_26_code
def yX3_ownerAt : MethodName := ⟨RX3, "ownerAt", "(I)I"⟩
abbrev cX3_ownedByHeirs : ByteArray := prog_5_method_27_code
def yX3_ownedByHeirs : MethodName := ⟨RX3, "ownedByHeirs", "()I"⟩
abbrev cX3_takeOwners : ByteArray := prog_5_method_28_code
def yX3_takeOwners : MethodName := ⟨RX3, "takeOwners", "([J)I"⟩
abbrev cX3_withBeside : ByteArray := prog_5_method_29_code
def yX3_withBeside : MethodName := ⟨RX3, "withBeside", "(J)J"⟩
abbrev cX3_grown : ByteArray := prog_5_method_30_code
def yX3_grown : MethodName := ⟨RX3, "grown", "(JJ)J"⟩
abbrev cX3_piecesOf : ByteArray := prog_5_method_31_code
def yX3_piecesOf : MethodName := ⟨RX3, "piecesOf", "(J)I"⟩
abbrev cX3_hedgeOf : ByteArray := prog_5_method_32_code
def yX3_hedgeOf : MethodName := ⟨RX3, "hedgeOf", "([J)I"⟩
abbrev cX3_verdictOn : ByteArray := prog_5_method_33_code
def yX3_verdictOn : MethodName := ⟨RX3, "verdictOn", "([J)I"⟩
abbrev cX3_hasFault : ByteArray := prog_5_method_34_code
def yX3_hasFault : MethodName := ⟨RX3, "hasFault", "(IIJJ)Z"⟩
abbrev cX3_isContent : ByteArray := prog_5_method_35_code
def yX3_isContent : MethodName := ⟨RX3, "isContent", "(IJ)Z"⟩
abbrev cX3_reachOfRoad : ByteArray := prog_5_method_36_code
def yX3_reachOfRoad : MethodName := ⟨RX3, "reachOfRoad", "(J)J"⟩
abbrev cX3_roadSide : ByteArray := prog_5_method_37_code
def yX3_roadSide : MethodName := ⟨RX3, "roadSide", "()J"⟩
abbrev cX3_wellMatters : ByteArray := prog_5_method_38_code
def yX3_wellMatters : MethodName := ⟨RX3, "wellMatters", "(J)Z"⟩
abbrev cX3_toldBy : ByteArray := prog_5_method_39_code
def yX3_toldBy : MethodName := ⟨RX3, "toldBy", "(LBrothersField$Row;I)J"⟩
def RX4 : String := "BrothersField$From"
def TX4 : u_T := fun k => match k with
  | 0 => ("BrothersField$Cut", "code", "I", true)
  | 1 => ("BrothersField$Cut", "shelf", "I", true)
  | 2 => ("BrothersField$Cut", "a", "I", true)
  | 3 => ("BrothersField$Cut", "b", "I", true)
  | 4 => ("BrothersField$Cut", "c", "I", true)
  | _ => ("BrothersField$Cut", "trace", "LBrothersField$Row;", true)
def tyX4 : Nat → FieldType := fun k => match k with
  | 0 => .int
  | 1 => .int
  | 2 => .int
  | 3 => .int
  | 4 => .int
  | _ => .object "BrothersField$Row"
theorem nmX4 : ∀ a, a < 6 → ∀ b, b < 6 → a ≠ b → (TX4 a).2.1 ≠ (TX4 b).2.1 := by decide +kernel
theorem tyX4_ok : ∀ k, k < 6 → parseFieldDescriptor (TX4 k).2.2.1 = some (tyX4 k) := by decide +kernel
abbrev cX4_init : ByteArray := prog_6_method_1_code
def yX4_init : MethodName := ⟨RX4, "<init>", "(IILBrothersField$Row;)V"⟩
abbrev cX4_isOf : ByteArray := prog_6_method_2_code
def yX4_isOf : MethodName := ⟨RX4, "isOf", "(I)Z"⟩
abbrev cX4_firstIn : ByteArray := prog_6_method_3_code
def yX4_firstIn : MethodName := ⟨RX4, "firstIn", "(LBrothersField$Field;)J"⟩
abbrev cX4_hedgesBody : ByteArray := prog_6_method_4_code
def yX4_hedgesBody : MethodName := ⟨RX4, "hedgesBody", "(I)I"⟩
def RX5 : String := "BrothersField$Lane"
def TX5 : u_T := fun k => match k with
  | 0 => ("BrothersField$Cut", "code", "I", true)
  | 1 => ("BrothersField$Cut", "shelf", "I", true)
  | 2 => ("BrothersField$Cut", "a", "I", true)
  | 3 => ("BrothersField$Cut", "b", "I", true)
  | 4 => ("BrothersField$Cut", "c", "I", true)
  | _ => ("BrothersField$Cut", "trace", "LBrothersField$Row;", true)
def tyX5 : Nat → FieldType := fun k => match k with
  | 0 => .int
  | 1 => .int
  | 2 => .int
  | 3 => .int
  | 4 => .int
  | _ => .object "BrothersField$Row"
theorem nmX5 : ∀ a, a < 6 → ∀ b, b < 6 → a ≠ b → (TX5 a).2.1 ≠ (TX5 b).2.1 := by decide +kernel
theorem tyX5_ok : ∀ k, k < 6 → parseFieldDescriptor (TX5 k).2.2.1 = some (tyX5 k) := by decide +kernel
abbrev cX5_init : ByteArray := prog_7_method_1_code
def yX5_init : MethodName := ⟨RX5, "<init>", "(IILBrothersField$Row;)V"⟩
abbrev cX5_isOf : ByteArray := prog_7_method_2_code
def yX5_isOf : MethodName := ⟨RX5, "isOf", "(I)Z"⟩
abbrev cX5_firstIn : ByteArray := prog_7_method_3_code
def yX5_firstIn : MethodName := ⟨RX5, "firstIn", "(LBrothersField$Field;)J"⟩
abbrev cX5_laneIn : ByteArray := prog_7_method_4_code
def yX5_laneIn : MethodName := ⟨RX5, "laneIn", "(LBrothersField$Field;)J"⟩
abbrev cX5_hedgesBody : ByteArray := prog_7_method_5_code
def yX5_hedgesBody : MethodName := ⟨RX5, "hedgesBody", "(I)I"⟩
def RX6 : String := "BrothersField$Reader"
def TX6 : u_T := fun k => match k with
  | 0 => ("BrothersField$Reader", "fault", "I", false)
  | 1 => ("BrothersField$Reader", "text", "LBrothersField$Row;", true)
  | 2 => ("BrothersField$Reader", "field", "LBrothersField$Field;", true)
  | _ => ("BrothersField$Reader", "at", "I", false)
def tyX6 : Nat → FieldType := fun k => match k with
  | 0 => .int
  | 1 => .object "BrothersField$Row"
  | 2 => .object "BrothersField$Field"
  | _ => .int
theorem nmX6 : ∀ a, a < 4 → ∀ b, b < 4 → a ≠ b → (TX6 a).2.1 ≠ (TX6 b).2.1 := by decide +kernel
theorem tyX6_ok : ∀ k, k < 4 → parseFieldDescriptor (TX6 k).2.2.1 = some (tyX6 k) := by decide +kernel
abbrev cX6_init : ByteArray := prog_8_method_1_code
def yX6_init : MethodName := ⟨RX6, "<init>", "(LBrothersField$Row;LBrothersField$Field;)V"⟩
abbrev cX6_readItems : ByteArray := prog_8_method_2_code
def yX6_readItems : MethodName := ⟨RX6, "readItems", "()I"⟩
abbrev cX6_fails : ByteArray := prog_8_method_3_code
def yX6_fails : MethodName := ⟨RX6, "fails", "(I)Z"⟩
abbrev cX6_passes : ByteArray := prog_8_method_4_code
def yX6_passes : MethodName := ⟨RX6, "passes", "(C)Z"⟩
abbrev cX6_readItem : ByteArray := prog_8_method_5_code
def yX6_readItem : MethodName := ⟨RX6, "readItem", "()Z"⟩
abbrev cX6_wordOf : ByteArray := prog_8_method_6_code
def yX6_wordOf : MethodName := ⟨RX6, "wordOf", "(I)Ljava/lang/String;"⟩
abbrev cX6_readWord : ByteArray := prog_8_method_7_code
def yX6_readWord : MethodName := ⟨RX6, "readWord", "()I"⟩
abbrev cX6_lettersAlike : ByteArray := prog_8_method_8_code
def yX6_lettersAlike : MethodName := ⟨RX6, "lettersAlike", "(Ljava/lang/String;)I"⟩
abbrev cX6_readNumber : ByteArray := prog_8_method_9_code
def yX6_readNumber : MethodName := ⟨RX6, "readNumber", "(II)I"⟩
abbrev cX6_digitAt : ByteArray := prog_8_method_10_code
def yX6_digitAt : MethodName := ⟨RX6, "digitAt", "(I)I"⟩
abbrev cX6_readSize : ByteArray := prog_8_method_11_code
def yX6_readSize : MethodName := ⟨RX6, "readSize", "()Z"⟩
abbrev cX6_readSoil : ByteArray := prog_8_method_12_code
def yX6_readSoil : MethodName := ⟨RX6, "readSoil", "()Z"⟩
abbrev cX6_readPlace : ByteArray := prog_8_method_13_code
def yX6_readPlace : MethodName := ⟨RX6, "readPlace", "(III)Z"⟩
abbrev cX6_readHeir : ByteArray := prog_8_method_14_code
def yX6_readHeir : MethodName := ⟨RX6, "readHeir", "()Z"⟩
def RX7 : String := "BrothersField$Row"
def TX7 : u_T := fun k => match k with
  | 0 => ("BrothersField$Row", "sort", "I", false)
  | 1 => ("BrothersField$Row", "size", "I", false)
  | _ => ("BrothersField$Row", "elements", "[J", true)
def tyX7 : Nat → FieldType := fun k => match k with
  | 0 => .int
  | 1 => .int
  | _ => .array .long
theorem nmX7 : ∀ a, a < 3 → ∀ b, b < 3 → a ≠ b → (TX7 a).2.1 ≠ (TX7 b).2.1 := by decide +kernel
theorem tyX7_ok : ∀ k, k < 3 → parseFieldDescriptor (TX7 k).2.2.1 = some (tyX7 k) := by decide +kernel
abbrev cX7_init : ByteArray := prog_9_method_1_code
def yX7_init : MethodName := ⟨RX7, "<init>", "()V"⟩
abbrev cX7_renew : ByteArray := prog_9_method_2_code
def yX7_renew : MethodName := ⟨RX7, "renew", "(II)V"⟩
abbrev cX7_drop : ByteArray := prog_9_method_3_code
def yX7_drop : MethodName := ⟨RX7, "drop", "()V"⟩
abbrev cX7_isHeld : ByteArray := prog_9_method_4_code
def yX7_isHeld : MethodName := ⟨RX7, "isHeld", "()Z"⟩
abbrev cX7_has : ByteArray := prog_9_method_5_code
def yX7_has : MethodName := ⟨RX7, "has", "(I)Z"⟩
abbrev cX7_hasRange : ByteArray := prog_9_method_6_code
def yX7_hasRange : MethodName := ⟨RX7, "hasRange", "(II)Z"⟩
abbrev cX7_at : ByteArray := prog_9_method_7_code
def yX7_at : MethodName := ⟨RX7, "at", "(I)J"⟩
abbrev cX7_intAt : ByteArray := prog_9_method_8_code
def yX7_intAt : MethodName := ⟨RX7, "intAt", "(I)I"⟩
abbrev cX7_put : ByteArray := prog_9_method_9_code
def yX7_put : MethodName := ⟨RX7, "put", "(IJ)V"⟩
abbrev cX7_append : ByteArray := prog_9_method_10_code
def yX7_append : MethodName := ⟨RX7, "append", "(I)V"⟩
abbrev cX7_narrowed : ByteArray := prog_9_method_11_code
def yX7_narrowed : MethodName := ⟨RX7, "narrowed", "(J)J"⟩
def RX8 : String := "BrothersField$Search"
def TX8 : u_T := fun k => match k with
  | 0 => ("BrothersField$Search", "bestCode", "I", false)
  | 1 => ("BrothersField$Search", "fitting", "I", false)
  | 2 => ("BrothersField$Search", "sureFirst", "J", false)
  | 3 => ("BrothersField$Search", "sureSecond", "J", false)
  | 4 => ("BrothersField$Search", "bestOther", "I", false)
  | 5 => ("BrothersField$Search", "bestHedge", "I", false)
  | 6 => ("BrothersField$Search", "count", "I", false)
  | 7 => ("BrothersField$Search", "codes", "[I", true)
  | 8 => ("BrothersField$Search", "firsts", "[J", true)
  | _ => ("BrothersField$Search", "trial", "[J", true)
def tyX8 : Nat → FieldType := fun k => match k with
  | 0 => .int
  | 1 => .int
  | 2 => .long
  | 3 => .long
  | 4 => .int
  | 5 => .int
  | 6 => .int
  | 7 => .array .int
  | 8 => .array .long
  | _ => .array .long
theorem nmX8 : ∀ a, a < 10 → ∀ b, b < 10 → a ≠ b → (TX8 a).2.1 ≠ (TX8 b).2.1 := by decide +kernel
theorem tyX8_ok : ∀ k, k < 10 → parseFieldDescriptor (TX8 k).2.2.1 = some (tyX8 k) := by decide +kernel
abbrev cX8_init : ByteArray := prog_10_method_1_code
def yX8_init : MethodName := ⟨RX8, "<init>", "()V"⟩
abbrev cX8_best : ByteArray := prog_10_method_2_code
def yX8_best : MethodName := ⟨RX8, "best", "(I)I"⟩
abbrev cX8_addCut : ByteArray := prog_10_method_3_code
def yX8_addCut : MethodName := ⟨RX8, "addCut", "(IJ)V"⟩
abbrev cX8_listCuts : ByteArray := prog_10_method_4_code
def yX8_listCuts : MethodName := ⟨RX8, "listCuts", "(LBrothersField$Field;ZZ)V"⟩
abbrev cX8_addBent : ByteArray := prog_10_method_5_code
def yX8_addBent : MethodName := ⟨RX8, "addBent", "(LBrothersField$Field;)V"⟩
abbrev cX8_addFrom : ByteArray := prog_10_method_6_code
def yX8_addFrom : MethodName := ⟨RX8, "addFrom", "(LBrothersField$Field;)V"⟩
abbrev cX8_forget : ByteArray := prog_10_method_7_code
def yX8_forget : MethodName := ⟨RX8, "forget", "(I)V"⟩
abbrev cX8_tryTrial : ByteArray := prog_10_method_8_code
def yX8_tryTrial : MethodName := ⟨RX8, "tryTrial", "(LBrothersField$Field;II)V"⟩
abbrev cX8_findTwo : ByteArray := prog_10_method_9_code
def yX8_findTwo : MethodName := ⟨RX8, "findTwo", "(LBrothersField$Field;)Z"⟩
abbrev cX8_findThree : ByteArray := prog_10_method_10_code
def yX8_findThree : MethodName := ⟨RX8, "findThree", "(LBrothersField$Field;)Z"⟩
abbrev cX8_findFairest : ByteArray := prog_10_method_11_code
def yX8_findFairest : MethodName := ⟨RX8, "findFairest", "(LBrothersField$Field;I)J"⟩
abbrev cX8_findChange : ByteArray := prog_10_method_12_code
def yX8_findChange : MethodName := ⟨RX8, "findChange", "(LBrothersField$Field;)I"⟩
abbrev cX8_mayChange : ByteArray := prog_10_method_13_code
def yX8_mayChange : MethodName := ⟨RX8, "mayChange", "(LBrothersField$Field;II)Z"⟩
abbrev cX8_startFrom : ByteArray := prog_10_method_14_code
def yX8_startFrom : MethodName := ⟨RX8, "startFrom", "([J)V"⟩
abbrev cX8_findFitting : ByteArray := prog_10_method_15_code
def yX8_findFitting : MethodName := ⟨RX8, "findFitting", "(LBrothersField$Field;LBrothersField$Row;)V"⟩
def RX9 : String := "BrothersField$Straight"
def TX9 : u_T := fun k => match k with
  | 0 => ("BrothersField$Cut", "code", "I", true)
  | 1 => ("BrothersField$Cut", "shelf", "I", true)
  | 2 => ("BrothersField$Cut", "a", "I", true)
  | 3 => ("BrothersField$Cut", "b", "I", true)
  | 4 => ("BrothersField$Cut", "c", "I", true)
  | _ => ("BrothersField$Cut", "trace", "LBrothersField$Row;", true)
def tyX9 : Nat → FieldType := fun k => match k with
  | 0 => .int
  | 1 => .int
  | 2 => .int
  | 3 => .int
  | 4 => .int
  | _ => .object "BrothersField$Row"
theorem nmX9 : ∀ a, a < 6 → ∀ b, b < 6 → a ≠ b → (TX9 a).2.1 ≠ (TX9 b).2.1 := by decide +kernel
theorem tyX9_ok : ∀ k, k < 6 → parseFieldDescriptor (TX9 k).2.2.1 = some (tyX9 k) := by decide +kernel
abbrev cX9_init : ByteArray := prog_11_method_1_code
def yX9_init : MethodName := ⟨RX9, "<init>", "(IILBrothersField$Row;)V"⟩
abbrev cX9_isOf : ByteArray := prog_11_method_2_code
def yX9_isOf : MethodName := ⟨RX9, "isOf", "(I)Z"⟩
abbrev cX9_firstIn : ByteArray := prog_11_method_3_code
def yX9_firstIn : MethodName := ⟨RX9, "firstIn", "(LBrothersField$Field;)J"⟩
abbrev cX9_partsBody : ByteArray := prog_11_method_4_code
def yX9_partsBody : MethodName := ⟨RX9, "partsBody", "(I)I"⟩
def RX10 : String := "BrothersField$Told"
def TX10 : u_T := fun k => match k with
  | 0 => ("BrothersField$Cut", "code", "I", true)
  | 1 => ("BrothersField$Cut", "shelf", "I", true)
  | 2 => ("BrothersField$Cut", "a", "I", true)
  | 3 => ("BrothersField$Cut", "b", "I", true)
  | 4 => ("BrothersField$Cut", "c", "I", true)
  | _ => ("BrothersField$Cut", "trace", "LBrothersField$Row;", true)
def tyX10 : Nat → FieldType := fun k => match k with
  | 0 => .int
  | 1 => .int
  | 2 => .int
  | 3 => .int
  | 4 => .int
  | _ => .object "BrothersField$Row"
theorem nmX10 : ∀ a, a < 6 → ∀ b, b < 6 → a ≠ b → (TX10 a).2.1 ≠ (TX10 b).2.1 := by decide +kernel
theorem tyX10_ok : ∀ k, k < 6 → parseFieldDescriptor (TX10 k).2.2.1 = some (tyX10 k) := by decide +kernel
abbrev cX10_init : ByteArray := prog_12_method_1_code
def yX10_init : MethodName := ⟨RX10, "<init>", "(IILBrothersField$Row;)V"⟩
abbrev cX10_isOf : ByteArray := prog_12_method_2_code
def yX10_isOf : MethodName := ⟨RX10, "isOf", "(I)Z"⟩
abbrev cX10_firstIn : ByteArray := prog_12_method_3_code
def yX10_firstIn : MethodName := ⟨RX10, "firstIn", "(LBrothersField$Field;)J"⟩
abbrev cX10_partsBody : ByteArray := prog_12_method_4_code
def yX10_partsBody : MethodName := ⟨RX10, "partsBody", "(I)I"⟩
abbrev cX10_weighsBody : ByteArray := prog_12_method_5_code
def yX10_weighsBody : MethodName := ⟨RX10, "weighsBody", "(I)I"⟩
def RX11 : String := "BrothersField"
def TX11 : u_T := fun k => match k with
  | 0 => ("BrothersField", "heldRows", "[LBrothersField$Row;", true)
  | 1 => ("BrothersField", "heldCuts", "[LBrothersField$Cut;", true)
  | 2 => ("BrothersField", "trace", "LBrothersField$Row;", true)
  | 3 => ("BrothersField", "now", "LBrothersField$Field;", true)
  | 4 => ("BrothersField", "kept", "LBrothersField$Field;", true)
  | 5 => ("BrothersField", "draft", "LBrothersField$Field;", true)
  | 6 => ("BrothersField", "search", "LBrothersField$Search;", true)
  | 7 => ("BrothersField", "laid", "[J", true)
  | 8 => ("BrothersField", "refusals", "[I", true)
  | 9 => ("BrothersField", "imageTaken", "Z", false)
  | _ => ("BrothersField", "textFault", "I", false)
def tyX11 : Nat → FieldType := fun k => match k with
  | 0 => .array (.object "BrothersField$Row")
  | 1 => .array (.object "BrothersField$Cut")
  | 2 => .object "BrothersField$Row"
  | 3 => .object "BrothersField$Field"
  | 4 => .object "BrothersField$Field"
  | 5 => .object "BrothersField$Field"
  | 6 => .object "BrothersField$Search"
  | 7 => .array .long
  | 8 => .array .int
  | 9 => .boolean
  | _ => .int
theorem nmX11 : ∀ a, a < 11 → ∀ b, b < 11 → a ≠ b → (TX11 a).2.1 ≠ (TX11 b).2.1 := by decide +kernel
theorem tyX11_ok : ∀ k, k < 11 → parseFieldDescriptor (TX11 k).2.2.1 = some (tyX11 k) := by decide +kernel
abbrev cX11_init : ByteArray := prog_1_method_1_code
def yX11_init : MethodName := ⟨RX11, "<init>", "()V"⟩
abbrev cX11_row : ByteArray := prog_1_method_2_code
def yX11_row : MethodName := ⟨RX11, "row", "(III)I"⟩
abbrev cX11_set : ByteArray := prog_1_method_3_code
def yX11_set : MethodName := ⟨RX11, "set", "(IIJ)I"⟩
abbrev cX11_copy : ByteArray := prog_1_method_4_code
def yX11_copy : MethodName := ⟨RX11, "copy", "(IIIII)I"⟩
abbrev cX11_element : ByteArray := prog_1_method_5_code
def yX11_element : MethodName := ⟨RX11, "element", "(II)J"⟩
abbrev cX11_cut : ByteArray := prog_1_method_6_code
def yX11_cut : MethodName := ⟨RX11, "cut", "(II)I"⟩
abbrev cX11_holds : ByteArray := prog_1_method_7_code
def yX11_holds : MethodName := ⟨RX11, "holds", "(I)I"⟩
abbrev cX11_says : ByteArray := prog_1_method_8_code
def yX11_says : MethodName := ⟨RX11, "says", "(II)I"⟩
abbrev cX11_side : ByteArray := prog_1_method_9_code
def yX11_side : MethodName := ⟨RX11, "side", "(II)J"⟩
abbrev cX11_field : ByteArray := prog_1_method_10_code
def yX11_field : MethodName := ⟨RX11, "field", "(I)I"⟩
abbrev cX11_fault : ByteArray := prog_1_method_11_code
def yX11_fault : MethodName := ⟨RX11, "fault", "()I"⟩
abbrev cX11_size : ByteArray := prog_1_method_12_code
def yX11_size : MethodName := ⟨RX11, "size", "(II)I"⟩
abbrev cX11_soil : ByteArray := prog_1_method_13_code
def yX11_soil : MethodName := ⟨RX11, "soil", "(II)I"⟩
abbrev cX11_place : ByteArray := prog_1_method_14_code
def yX11_place : MethodName := ⟨RX11, "place", "(II)I"⟩
abbrev cX11_heir : ByteArray := prog_1_method_15_code
def yX11_heir : MethodName := ⟨RX11, "heir", "(I)I"⟩
abbrev cX11_worths : ByteArray := prog_1_method_16_code
def yX11_worths : MethodName := ⟨RX11, "worths", "(III)I"⟩
abbrev cX11_fond : ByteArray := prog_1_method_17_code
def yX11_fond : MethodName := ⟨RX11, "fond", "(IZ)I"⟩
abbrev cX11_heirOf : ByteArray := prog_1_method_18_code
def yX11_heirOf : MethodName := ⟨RX11, "heirOf", "(II)I"⟩
abbrev cX11_worth : ByteArray := prog_1_method_19_code
def yX11_worth : MethodName := ⟨RX11, "worth", "(IJ)I"⟩
abbrev cX11_owner : ByteArray := prog_1_method_20_code
def yX11_owner : MethodName := ⟨RX11, "owner", "(I)I"⟩
abbrev cX11_own : ByteArray := prog_1_method_21_code
def yX11_own : MethodName := ⟨RX11, "own", "(JI)I"⟩
abbrev cX11_lay : ByteArray := prog_1_method_22_code
def yX11_lay : MethodName := ⟨RX11, "lay", "(III)I"⟩
abbrev cX11_owners : ByteArray := prog_1_method_23_code
def yX11_owners : MethodName := ⟨RX11, "owners", "(I)I"⟩
abbrev cX11_piece : ByteArray := prog_1_method_24_code
def yX11_piece : MethodName := ⟨RX11, "piece", "(I)J"⟩
abbrev cX11_hedge : ByteArray := prog_1_method_25_code
def yX11_hedge : MethodName := ⟨RX11, "hedge", "()I"⟩
abbrev cX11_faulty : ByteArray := prog_1_method_26_code
def yX11_faulty : MethodName := ⟨RX11, "faulty", "()I"⟩
abbrev cX11_whose : ByteArray := prog_1_method_27_code
def yX11_whose : MethodName := ⟨RX11, "whose", "()I"⟩
abbrev cX11_parts : ByteArray := prog_1_method_28_code
def yX11_parts : MethodName := ⟨RX11, "parts", "(J)I"⟩
abbrev cX11_two : ByteArray := prog_1_method_29_code
def yX11_two : MethodName := ⟨RX11, "two", "(I)I"⟩
abbrev cX11_three : ByteArray := prog_1_method_30_code
def yX11_three : MethodName := ⟨RX11, "three", "(I)I"⟩
abbrev cX11_choose : ByteArray := prog_1_method_31_code
def yX11_choose : MethodName := ⟨RX11, "choose", "(III)I"⟩
abbrev cX11_envies : ByteArray := prog_1_method_32_code
def yX11_envies : MethodName := ⟨RX11, "envies", "(I)I"⟩
abbrev cX11_evens : ByteArray := prog_1_method_33_code
def yX11_evens : MethodName := ⟨RX11, "evens", "(I)I"⟩
abbrev cX11_better : ByteArray := prog_1_method_34_code
def yX11_better : MethodName := ⟨RX11, "better", "()I"⟩
abbrev cX11_mend : ByteArray := prog_1_method_35_code
def yX11_mend : MethodName := ⟨RX11, "mend", "(I)I"⟩
abbrev cX11_fits : ByteArray := prog_1_method_36_code
def yX11_fits : MethodName := ⟨RX11, "fits", "(II)I"⟩
abbrev cX11_old : ByteArray := prog_1_method_37_code
def yX11_old : MethodName := ⟨RX11, "old", "(I)I"⟩
abbrev cX11_sure : ByteArray := prog_1_method_38_code
def yX11_sure : MethodName := ⟨RX11, "sure", "(II)J"⟩
abbrev cX11_judge : ByteArray := prog_1_method_39_code
def yX11_judge : MethodName := ⟨RX11, "judge", "(I)I"⟩
abbrev cX11_act : ByteArray := prog_1_method_40_code
def yX11_act : MethodName := ⟨RX11, "act", "(III)I"⟩
abbrev cX11_trace : ByteArray := prog_1_method_41_code
def yX11_trace : MethodName := ⟨RX11, "trace", "(I)I"⟩
abbrev cX11_image : ByteArray := prog_1_method_42_code
def yX11_image : MethodName := ⟨RX11, "image", "()I"⟩
abbrev cX11_restore : ByteArray := prog_1_method_43_code
def yX11_restore : MethodName := ⟨RX11, "restore", "()I"⟩
abbrev cX11_status : ByteArray := prog_1_method_44_code
def yX11_status : MethodName := ⟨RX11, "status", "(I)I"⟩
abbrev cX11_refuse : ByteArray := prog_1_method_45_code
def yX11_refuse : MethodName := ⟨RX11, "refuse", "(I)I"⟩
abbrev cX11_refuseAs : ByteArray := prog_1_method_46_code
def yX11_refuseAs : MethodName := ⟨RX11, "refuseAs", "(II)I"⟩
abbrev cX11_earlier : ByteArray := prog_1_method_47_code
def yX11_earlier : MethodName := ⟨RX11, "earlier", "(II)I"⟩
abbrev cX11_isShelf : ByteArray := prog_1_method_48_code
def yX11_isShelf : MethodName := ⟨RX11, "isShelf", "(I)Z"⟩
abbrev cX11_noRow : ByteArray := prog_1_method_49_code
def yX11_noRow : MethodName := ⟨RX11, "noRow", "(I)I"⟩
abbrev cX11_noCut : ByteArray := prog_1_method_50_code
def yX11_noCut : MethodName := ⟨RX11, "noCut", "(I)I"⟩
abbrev cX11_hasCutNumbers : ByteArray := prog_1_method_51_code
def yX11_hasCutNumbers : MethodName := ⟨RX11, "hasCutNumbers", "(I)Z"⟩
abbrev cX11_newCut : ByteArray := prog_1_method_52_code
def yX11_newCut : MethodName := ⟨RX11, "newCut", "(II)LBrothersField$Cut;"⟩
abbrev cX11_sideOf : ByteArray := prog_1_method_53_code
def yX11_sideOf : MethodName := ⟨RX11, "sideOf", "(LBrothersField$Cut;I)J"⟩
abbrev cX11_toldAs : ByteArray := prog_1_method_54_code
def yX11_toldAs : MethodName := ⟨RX11, "toldAs", "(LBrothersField$Cut;I)I"⟩
abbrev cX11_mayStand : ByteArray := prog_1_method_55_code
def yX11_mayStand : MethodName := ⟨RX11, "mayStand", "(II)Z"⟩
def RX12 : String := "BrothersFieldModel"
def TX12 : u_T := fun k => match k with
  | 0 => ("BrothersFieldModel", "w", "I", false)
  | 1 => ("BrothersFieldModel", "h", "I", false)
  | 2 => ("BrothersFieldModel", "road", "I", false)
  | 3 => ("BrothersFieldModel", "well", "I", false)
  | 4 => ("BrothersFieldModel", "oak", "I", false)
  | 5 => ("BrothersFieldModel", "small", "I", false)
  | 6 => ("BrothersFieldModel", "heirs", "I", false)
  | 7 => ("BrothersFieldModel", "fault", "I", false)
  | 8 => ("BrothersFieldModel", "refused", "[I", true)
  | 9 => ("BrothersFieldModel", "soil", "[I", true)
  | 10 => ("BrothersFieldModel", "owner", "[I", true)
  | 11 => ("BrothersFieldModel", "share", "[I", true)
  | 12 => ("BrothersFieldModel", "fond", "[I", true)
  | 13 => ("BrothersFieldModel", "value", "[I", true)
  | 14 => ("BrothersFieldModel", "held", "[I", true)
  | 15 => ("BrothersFieldModel", "sort", "[I", true)
  | 16 => ("BrothersFieldModel", "size", "[I", true)
  | 17 => ("BrothersFieldModel", "code", "[I", true)
  | 18 => ("BrothersFieldModel", "cells", "[J", true)
  | 19 => ("BrothersFieldModel", "carried", "[J", true)
  | 20 => ("BrothersFieldModel", "words", "[I", true)
  | 21 => ("BrothersFieldModel", "base", "I", false)
  | 22 => ("BrothersFieldModel", "at", "I", false)
  | 23 => ("BrothersFieldModel", "end", "I", false)
  | 24 => ("BrothersFieldModel", "told", "I", false)
  | 25 => ("BrothersFieldModel", "wrongAt", "I", false)
  | 26 => ("BrothersFieldModel", "was", "[I", true)
  | 27 => ("BrothersFieldModel", "kept", "[I", true)
  | 28 => ("BrothersFieldModel", "culprit", "I", false)
  | 29 => ("BrothersFieldModel", "codes", "[I", true)
  | 30 => ("BrothersFieldModel", "spare", "[I", true)
  | 31 => ("BrothersFieldModel", "cuts", "I", false)
  | 32 => ("BrothersFieldModel", "one", "I", false)
  | 33 => ("BrothersFieldModel", "other", "I", false)
  | 34 => ("BrothersFieldModel", "least", "I", false)
  | 35 => ("BrothersFieldModel", "trace", "[I", true)
  | 36 => ("BrothersFieldModel", "ran", "I", false)
  | _ => ("BrothersFieldModel", "isKept", "Z", false)
def tyX12 : Nat → FieldType := fun k => match k with
  | 0 => .int
  | 1 => .int
  | 2 => .int
  | 3 => .int
  | 4 => .int
  | 5 => .int
  | 6 => .int
  | 7 => .int
  | 8 => .array .int
  | 9 => .array .int
  | 10 => .array .int
  | 11 => .array .int
  | 12 => .array .int
  | 13 => .array .int
  | 14 => .array .int
  | 15 => .array .int
  | 16 => .array .int
  | 17 => .array .int
  | 18 => .array .long
  | 19 => .array .long
  | 20 => .array .int
  | 21 => .int
  | 22 => .int
  | 23 => .int
  | 24 => .int
  | 25 => .int
  | 26 => .array .int
  | 27 => .array .int
  | 28 => .int
  | 29 => .array .int
  | 30 => .array .int
  | 31 => .int
  | 32 => .int
  | 33 => .int
  | 34 => .int
  | 35 => .array .int
  | 36 => .int
  | _ => .boolean
theorem nmX12 : ∀ a, a < 38 → ∀ b, b < 38 → a ≠ b → (TX12 a).2.1 ≠ (TX12 b).2.1 := by decide +kernel
theorem tyX12_ok : ∀ k, k < 38 → parseFieldDescriptor (TX12 k).2.2.1 = some (tyX12 k) := by decide +kernel
abbrev cX12_init : ByteArray := prog_14_method_1_code
def yX12_init : MethodName := ⟨RX12, "<init>", "()V"⟩
abbrev cX12_no : ByteArray := prog_14_method_2_code
def yX12_no : MethodName := ⟨RX12, "no", "(I)I"⟩
abbrev cX12_noTen : ByteArray := prog_14_method_3_code
def yX12_noTen : MethodName := ⟨RX12, "noTen", "(I)I"⟩
abbrev cX12_isShelf : ByteArray := prog_14_method_4_code
def yX12_isShelf : MethodName := ⟨RX12, "isShelf", "(I)Z"⟩
abbrev cX12_isSquare : ByteArray := prog_14_method_5_code
def yX12_isSquare : MethodName := ⟨RX12, "isSquare", "(I)Z"⟩
abbrev cX12_isHeir : ByteArray := prog_14_method_6_code
def yX12_isHeir : MethodName := ⟨RX12, "isHeir", "(I)Z"⟩
abbrev cX12_all : ByteArray := prog_14_method_7_code
def yX12_all : MethodName := ⟨RX12, "all", "()J"⟩
abbrev cX12_isSet : ByteArray := prog_14_method_8_code
def yX12_isSet : MethodName := ⟨RX12, "isSet", "(J)Z"⟩
abbrev cX12_many : ByteArray := prog_14_method_9_code
def yX12_many : MethodName := ⟨RX12, "many", "(J)I"⟩
abbrev cX12_has : ByteArray := prog_14_method_10_code
def yX12_has : MethodName := ⟨RX12, "has", "(JI)Z"⟩
abbrev cX12_row : ByteArray := prog_14_method_11_code
def yX12_row : MethodName := ⟨RX12, "row", "(III)I"⟩
abbrev cX12_set : ByteArray := prog_14_method_12_code
def yX12_set : MethodName := ⟨RX12, "set", "(IIJ)I"⟩
abbrev cX12_copy : ByteArray := prog_14_method_13_code
def yX12_copy : MethodName := ⟨RX12, "copy", "(IIIII)I"⟩
abbrev cX12_element : ByteArray := prog_14_method_14_code
def yX12_element : MethodName := ⟨RX12, "element", "(II)J"⟩
abbrev cX12_cut : ByteArray := prog_14_method_15_code
def yX12_cut : MethodName := ⟨RX12, "cut", "(II)I"⟩
abbrev cX12_holds : ByteArray := prog_14_method_16_code
def yX12_holds : MethodName := ⟨RX12, "holds", "(I)I"⟩
abbrev cX12_wants : ByteArray := prog_14_method_17_code
def yX12_wants : MethodName := ⟨RX12, "wants", "(II)I"⟩
abbrev cX12_intAt : ByteArray := prog_14_method_18_code
def yX12_intAt : MethodName := ⟨RX12, "intAt", "(II)I"⟩
abbrev cX12_isFirst : ByteArray := prog_14_method_19_code
def yX12_isFirst : MethodName := ⟨RX12, "isFirst", "(II)Z"⟩
abbrev cX12_sideOf : ByteArray := prog_14_method_20_code
def yX12_sideOf : MethodName := ⟨RX12, "sideOf", "(II)J"⟩
abbrev cX12_side : ByteArray := prog_14_method_21_code
def yX12_side : MethodName := ⟨RX12, "side", "(II)J"⟩
abbrev cX12_says : ByteArray := prog_14_method_22_code
def yX12_says : MethodName := ⟨RX12, "says", "(II)I"⟩
abbrev cX12_sizes : ByteArray := prog_14_method_23_code
def yX12_sizes : MethodName := ⟨RX12, "sizes", "(II)V"⟩
abbrev cX12_comes : ByteArray := prog_14_method_24_code
def yX12_comes : MethodName := ⟨RX12, "comes", "(I)I"⟩
abbrev cX12_wrong : ByteArray := prog_14_method_25_code
def yX12_wrong : MethodName := ⟨RX12, "wrong", "(I)Z"⟩
abbrev cX12_word : ByteArray := prog_14_method_26_code
def yX12_word : MethodName := ⟨RX12, "word", "()I"⟩
abbrev cX12_isDigit : ByteArray := prog_14_method_27_code
def yX12_isDigit : MethodName := ⟨RX12, "isDigit", "()Z"⟩
abbrev cX12_number : ByteArray := prog_14_method_28_code
def yX12_number : MethodName := ⟨RX12, "number", "(II)Z"⟩
abbrev cX12_next : ByteArray := prog_14_method_29_code
def yX12_next : MethodName := ⟨RX12, "next", "(II)Z"⟩
abbrev cX12_isWordFull : ByteArray := prog_14_method_30_code
def yX12_isWordFull : MethodName := ⟨RX12, "isWordFull", "(I)Z"⟩
abbrev cX12_isWordAt : ByteArray := prog_14_method_31_code
def yX12_isWordAt : MethodName := ⟨RX12, "isWordAt", "(I)Z"⟩
abbrev cX12_item : ByteArray := prog_14_method_32_code
def yX12_item : MethodName := ⟨RX12, "item", "()Z"⟩
abbrev cX12_keeps : ByteArray := prog_14_method_33_code
def yX12_keeps : MethodName := ⟨RX12, "keeps", "([II[IIZ)I"⟩
abbrev cX12_all_ : ByteArray := prog_14_method_34_code
def yX12_all_ : MethodName := ⟨RX12, "all", "([IZ)V"⟩
abbrev cX12_field : ByteArray := prog_14_method_35_code
def yX12_field : MethodName := ⟨RX12, "field", "(I)I"⟩
abbrev cX12_fault : ByteArray := prog_14_method_36_code
def yX12_fault : MethodName := ⟨RX12, "fault", "()I"⟩
abbrev cX12_size : ByteArray := prog_14_method_37_code
def yX12_size : MethodName := ⟨RX12, "size", "(II)I"⟩
abbrev cX12_soil : ByteArray := prog_14_method_38_code
def yX12_soil : MethodName := ⟨RX12, "soil", "(II)I"⟩
abbrev cX12_place : ByteArray := prog_14_method_39_code
def yX12_place : MethodName := ⟨RX12, "place", "(II)I"⟩
abbrev cX12_heir : ByteArray := prog_14_method_40_code
def yX12_heir : MethodName := ⟨RX12, "heir", "(I)I"⟩
abbrev cX12_worths : ByteArray := prog_14_method_41_code
def yX12_worths : MethodName := ⟨RX12, "worths", "(III)I"⟩
abbrev cX12_fond : ByteArray := prog_14_method_42_code
def yX12_fond : MethodName := ⟨RX12, "fond", "(IZ)I"⟩
abbrev cX12_heirOf : ByteArray := prog_14_method_43_code
def yX12_heirOf : MethodName := ⟨RX12, "heirOf", "(II)I"⟩
abbrev cX12_worthOf : ByteArray := prog_14_method_44_code
def yX12_worthOf : MethodName := ⟨RX12, "worthOf", "(IJ)I"⟩
abbrev cX12_worth : ByteArray := prog_14_method_45_code
def yX12_worth : MethodName := ⟨RX12, "worth", "(IJ)I"⟩
abbrev cX12_pieceOf : ByteArray := prog_14_method_46_code
def yX12_pieceOf : MethodName := ⟨RX12, "pieceOf", "(I)J"⟩
abbrev cX12_isOwner : ByteArray := prog_14_method_47_code
def yX12_isOwner : MethodName := ⟨RX12, "isOwner", "(I)Z"⟩
abbrev cX12_owner : ByteArray := prog_14_method_48_code
def yX12_owner : MethodName := ⟨RX12, "owner", "(I)I"⟩
abbrev cX12_own : ByteArray := prog_14_method_49_code
def yX12_own : MethodName := ⟨RX12, "own", "(JI)I"⟩
abbrev cX12_lay : ByteArray := prog_14_method_50_code
def yX12_lay : MethodName := ⟨RX12, "lay", "(III)I"⟩
abbrev cX12_owners : ByteArray := prog_14_method_51_code
def yX12_owners : MethodName := ⟨RX12, "owners", "(I)I"⟩
abbrev cX12_piece : ByteArray := prog_14_method_52_code
def yX12_piece : MethodName := ⟨RX12, "piece", "(I)J"⟩
abbrev cX12_hedgeOf : ByteArray := prog_14_method_53_code
def yX12_hedgeOf : MethodName := ⟨RX12, "hedgeOf", "()I"⟩
abbrev cX12_hedge : ByteArray := prog_14_method_54_code
def yX12_hedge : MethodName := ⟨RX12, "hedge", "()I"⟩
abbrev cX12_beside : ByteArray := prog_14_method_55_code
def yX12_beside : MethodName := ⟨RX12, "beside", "(J)J"⟩
abbrev cX12_grown : ByteArray := prog_14_method_56_code
def yX12_grown : MethodName := ⟨RX12, "grown", "(JJ)J"⟩
abbrev cX12_partsOf : ByteArray := prog_14_method_57_code
def yX12_partsOf : MethodName := ⟨RX12, "partsOf", "(J)I"⟩
abbrev cX12_parts : ByteArray := prog_14_method_58_code
def yX12_parts : MethodName := ⟨RX12, "parts", "(J)I"⟩
abbrev cX12_atRoad : ByteArray := prog_14_method_59_code
def yX12_atRoad : MethodName := ⟨RX12, "atRoad", "()J"⟩
abbrev cX12_faultyNow : ByteArray := prog_14_method_60_code
def yX12_faultyNow : MethodName := ⟨RX12, "faultyNow", "()I"⟩
abbrev cX12_shares : ByteArray := prog_14_method_61_code
def yX12_shares : MethodName := ⟨RX12, "shares", "()I"⟩
abbrev cX12_faulty : ByteArray := prog_14_method_62_code
def yX12_faulty : MethodName := ⟨RX12, "faulty", "()I"⟩
abbrev cX12_whose : ByteArray := prog_14_method_63_code
def yX12_whose : MethodName := ⟨RX12, "whose", "()I"⟩
abbrev cX12_lists : ByteArray := prog_14_method_64_code
def yX12_lists : MethodName := ⟨RX12, "lists", "(IZ)V"⟩
abbrev cX12_lists_ : ByteArray := prog_14_method_65_code
def yX12_lists_ : MethodName := ⟨RX12, "lists", "(I)V"⟩
abbrev cX12_spares : ByteArray := prog_14_method_66_code
def yX12_spares : MethodName := ⟨RX12, "spares", "(Z)V"⟩
abbrev cX12_tries : ByteArray := prog_14_method_67_code
def yX12_tries : MethodName := ⟨RX12, "tries", "(II)V"⟩
abbrev cX12_two : ByteArray := prog_14_method_68_code
def yX12_two : MethodName := ⟨RX12, "two", "(I)I"⟩
abbrev cX12_three : ByteArray := prog_14_method_69_code
def yX12_three : MethodName := ⟨RX12, "three", "(I)I"⟩
abbrev cX12_choose : ByteArray := prog_14_method_70_code
def yX12_choose : MethodName := ⟨RX12, "choose", "(III)I"⟩
abbrev cX12_envies : ByteArray := prog_14_method_71_code
def yX12_envies : MethodName := ⟨RX12, "envies", "(I)I"⟩
abbrev cX12_evens : ByteArray := prog_14_method_72_code
def yX12_evens : MethodName := ⟨RX12, "evens", "(I)I"⟩
abbrev cX12_bettered : ByteArray := prog_14_method_73_code
def yX12_bettered : MethodName := ⟨RX12, "bettered", "()I"⟩
abbrev cX12_better : ByteArray := prog_14_method_74_code
def yX12_better : MethodName := ⟨RX12, "better", "()I"⟩
abbrev cX12_mend : ByteArray := prog_14_method_75_code
def yX12_mend : MethodName := ⟨RX12, "mend", "(I)I"⟩
abbrev cX12_isFit : ByteArray := prog_14_method_76_code
def yX12_isFit : MethodName := ⟨RX12, "isFit", "(II)Z"⟩
abbrev cX12_fits : ByteArray := prog_14_method_77_code
def yX12_fits : MethodName := ⟨RX12, "fits", "(II)I"⟩
abbrev cX12_old : ByteArray := prog_14_method_78_code
def yX12_old : MethodName := ⟨RX12, "old", "(I)I"⟩
abbrev cX12_sure : ByteArray := prog_14_method_79_code
def yX12_sure : MethodName := ⟨RX12, "sure", "(II)J"⟩
abbrev cX12_judge : ByteArray := prog_14_method_80_code
def yX12_judge : MethodName := ⟨RX12, "judge", "(I)I"⟩
abbrev cX12_body : ByteArray := prog_14_method_81_code
def yX12_body : MethodName := ⟨RX12, "body", "(I)V"⟩
abbrev cX12_parting : ByteArray := prog_14_method_82_code
def yX12_parting : MethodName := ⟨RX12, "parting", "(II)I"⟩
abbrev cX12_weighing : ByteArray := prog_14_method_83_code
def yX12_weighing : MethodName := ⟨RX12, "weighing", "(II)I"⟩
abbrev cX12_hedging : ByteArray := prog_14_method_84_code
def yX12_hedging : MethodName := ⟨RX12, "hedging", "(II)I"⟩
abbrev cX12_act : ByteArray := prog_14_method_85_code
def yX12_act : MethodName := ⟨RX12, "act", "(III)I"⟩
abbrev cX12_trace : ByteArray := prog_14_method_86_code
def yX12_trace : MethodName := ⟨RX12, "trace", "(I)I"⟩
abbrev cX12_image : ByteArray := prog_14_method_87_code
def yX12_image : MethodName := ⟨RX12, "image", "()I"⟩
abbrev cX12_restore : ByteArray := prog_14_method_88_code
def yX12_restore : MethodName := ⟨RX12, "restore", "()I"⟩
abbrev cX12_status : ByteArray := prog_14_method_89_code
def yX12_status : MethodName := ⟨RX12, "status", "(I)I"⟩
def RJ13 : String := "java/lang/Long"
def TJ13 : u_T := fun k => match k with
  | _ => ("", "", "", false)
def tyJ13 : Nat → FieldType := fun k => match k with
  | _ => .int
theorem nmJ13 : ∀ a, a < 0 → ∀ b, b < 0 → a ≠ b → (TJ13 a).2.1 ≠ (TJ13 b).2.1 := by decide +kernel
theorem tyJ13_ok : ∀ k, k < 0 → parseFieldDescriptor (TJ13 k).2.2.1 = some (tyJ13 k) := by decide +kernel
abbrev cJ13_bitCount_95d88 : ByteArray := prog_15_method_50_code
def yJ13_bitCount_95d88 : MethodName := ⟨RJ13, "bitCount", "(J)I"⟩
def RJ9 : String := "java/lang/Math"
def TJ9 : u_T := fun k => match k with
  | _ => ("", "", "", false)
def tyJ9 : Nat → FieldType := fun k => match k with
  | _ => .int
theorem nmJ9 : ∀ a, a < 0 → ∀ b, b < 0 → a ≠ b → (TJ9 a).2.1 ≠ (TJ9 b).2.1 := by decide +kernel
theorem tyJ9_ok : ∀ k, k < 0 → parseFieldDescriptor (TJ9 k).2.2.1 = some (tyJ9 k) := by decide +kernel
abbrev cJ9_abs_0f7a4 : ByteArray := prog_16_method_59_code
def yJ9_abs_0f7a4 : MethodName := ⟨RJ9, "abs", "(I)I"⟩
abbrev cJ9_max_7cf53 : ByteArray := prog_16_method_65_code
def yJ9_max_7cf53 : MethodName := ⟨RJ9, "max", "(II)I"⟩
abbrev cJ9_min_7cf53 : ByteArray := prog_16_method_69_code
def yJ9_min_7cf53 : MethodName := ⟨RJ9, "min", "(II)I"⟩
def RJ0 : String := "java/lang/String"
def TJ0 : u_T := fun k => match k with
  | _ => ("", "", "", false)
def tyJ0 : Nat → FieldType := fun k => match k with
  | _ => .int
theorem nmJ0 : ∀ a, a < 0 → ∀ b, b < 0 → a ≠ b → (TJ0 a).2.1 ≠ (TJ0 b).2.1 := by decide +kernel
theorem tyJ0_ok : ∀ k, k < 0 → parseFieldDescriptor (TJ0 k).2.2.1 = some (tyJ0 k) := by decide +kernel
abbrev cJ0_length_8abf5 : ByteArray := prog_17_method_54_code
def yJ0_length_8abf5 : MethodName := ⟨RJ0, "length", "()I"⟩
abbrev cJ0_charAt_5068e : ByteArray := prog_17_method_56_code
def yJ0_charAt_5068e : MethodName := ⟨RJ0, "charAt", "(I)C"⟩
abbrev cJ0_coder_7d493 : ByteArray := prog_17_method_152_code
def yJ0_coder_7d493 : MethodName := ⟨RJ0, "coder", "()B"⟩
abbrev cJ0_isLatin1_aae02 : ByteArray := prog_17_method_154_code
def yJ0_isLatin1_aae02 : MethodName := ⟨RJ0, "isLatin1", "()Z"⟩
abbrev cJ0_checkIndex_df160 : ByteArray := prog_17_method_155_code
def yJ0_checkIndex_df160 : MethodName := ⟨RJ0, "checkIndex", "(II)V"⟩
def RJ1 : String := "java/lang/StringLatin1"
def TJ1 : u_T := fun k => match k with
  | _ => ("", "", "", false)
def tyJ1 : Nat → FieldType := fun k => match k with
  | _ => .int
theorem nmJ1 : ∀ a, a < 0 → ∀ b, b < 0 → a ≠ b → (TJ1 a).2.1 ≠ (TJ1 b).2.1 := by decide +kernel
theorem tyJ1_ok : ∀ k, k < 0 → parseFieldDescriptor (TJ1 k).2.2.1 = some (tyJ1 k) := by decide +kernel
abbrev cJ1_charAt_3b067 : ByteArray := prog_18_method_2_code
def yJ1_charAt_3b067 : MethodName := ⟨RJ1, "charAt", "([BI)C"⟩
def RJ2 : String := "java/lang/StringUTF16"
def TJ2 : u_T := fun k => match k with
  | _ => ("", "", "", false)
def tyJ2 : Nat → FieldType := fun k => match k with
  | _ => .int
theorem nmJ2 : ∀ a, a < 0 → ∀ b, b < 0 → a ≠ b → (TJ2 a).2.1 ≠ (TJ2 b).2.1 := by decide +kernel
theorem tyJ2_ok : ∀ k, k < 0 → parseFieldDescriptor (TJ2 k).2.2.1 = some (tyJ2 k) := by decide +kernel
abbrev cJ2_getChar_3b067 : ByteArray := prog_19_method_5_code
def yJ2_getChar_3b067 : MethodName := ⟨RJ2, "getChar", "([BI)C"⟩
abbrev cJ2_length_9d52b : ByteArray := prog_19_method_6_code
def yJ2_length_9d52b : MethodName := ⟨RJ2, "length", "([B)I"⟩
abbrev cJ2_charAt_3b067 : ByteArray := prog_19_method_83_code
def yJ2_charAt_3b067 : MethodName := ⟨RJ2, "charAt", "([BI)C"⟩
abbrev cJ2_checkIndex_2214a : ByteArray := prog_19_method_91_code
def yJ2_checkIndex_2214a : MethodName := ⟨RJ2, "checkIndex", "(I[B)V"⟩
def RJ10 : String := "java/lang/System"
def TJ10 : u_T := fun k => match k with
  | _ => ("", "", "", false)
def tyJ10 : Nat → FieldType := fun k => match k with
  | _ => .int
theorem nmJ10 : ∀ a, a < 0 → ∀ b, b < 0 → a ≠ b → (TJ10 a).2.1 ≠ (TJ10 b).2.1 := by decide +kernel
theorem tyJ10_ok : ∀ k, k < 0 → parseFieldDescriptor (TJ10 k).2.2.1 = some (tyJ10 k) := by decide +kernel
def RJ3 : String := "jdk/internal/util/Preconditions"
def TJ3 : u_T := fun k => match k with
  | _ => ("", "", "", false)
def tyJ3 : Nat → FieldType := fun k => match k with
  | _ => .int
theorem nmJ3 : ∀ a, a < 0 → ∀ b, b < 0 → a ≠ b → (TJ3 a).2.1 ≠ (TJ3 b).2.1 := by decide +kernel
theorem tyJ3_ok : ∀ k, k < 0 → parseFieldDescriptor (TJ3 k).2.2.1 = some (tyJ3 k) := by decide +kernel
abbrev cJ3_checkIndex_8e157 : ByteArray := prog_21_method_11_code
def yJ3_checkIndex_8e157 : MethodName := ⟨RJ3, "checkIndex", "(IILjava/util/function/BiFunction;)I"⟩
def RL : String := "BrothersFieldLaw"
abbrev cL_law : ByteArray := code
def yL_law : MethodName := ⟨RL, "law", "([I)Z"⟩
abbrev vwCl : List vw_C := [(RX0, TX0, 6), (RX1, TX1, 6), (RX2, TX2, 6), (RX3, TX3, 17), (RX4, TX4, 6), (RX5, TX5, 6), (RX6, TX6, 4), (RX7, TX7, 3), (RX8, TX8, 10), (RX9, TX9, 6), (RX10, TX10, 6), (RX11, TX11, 11), (RX12, TX12, 38)]
