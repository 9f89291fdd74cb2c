section
-- ===== PART A: goes FIRST, ahead of the names: the tables' words, and 'selects' of the private methods out of them =====
/-- a private method of a class that the tables say can be made, by its rows of tables_1 -/
def lw_okq (q : MethodName × Nat) : Prop := (q.1.cls ≠ "java/lang/invoke/MethodHandle" ∧ q.1.cls ≠ "java/lang/invoke/VarHandle") ∧ Cond.instantiable q.1.cls q.2 ∈ tables_1 ∧ Cond.privateMethod q.1 ∈ tables_1 ∧ Cond.instanceMethod q.1 ∈ tables_1
theorem lw_p0 : lw_okq (⟨"BrothersField", "refuse", "(I)I"⟩, 11) := ⟨⟨by decide +kernel, by decide +kernel⟩, List.mem_of_getElem? (i := 22) (by decide +kernel), List.mem_of_getElem? (i := 226) (by decide +kernel), List.mem_of_getElem? (i := 227) (by decide +kernel)⟩
theorem lw_p1 : lw_okq (⟨"BrothersField", "refuseAs", "(II)I"⟩, 11) := ⟨⟨by decide +kernel, by decide +kernel⟩, List.mem_of_getElem? (i := 22) (by decide +kernel), List.mem_of_getElem? (i := 230) (by decide +kernel), List.mem_of_getElem? (i := 231) (by decide +kernel)⟩
theorem lw_p2 : lw_okq (⟨"BrothersField", "noRow", "(I)I"⟩, 11) := ⟨⟨by decide +kernel, by decide +kernel⟩, List.mem_of_getElem? (i := 22) (by decide +kernel), List.mem_of_getElem? (i := 248) (by decide +kernel), List.mem_of_getElem? (i := 249) (by decide +kernel)⟩
theorem lw_p3 : lw_okq (⟨"BrothersField", "newCut", "(II)LBrothersField$Cut;"⟩, 11) := ⟨⟨by decide +kernel, by decide +kernel⟩, List.mem_of_getElem? (i := 22) (by decide +kernel), List.mem_of_getElem? (i := 303) (by decide +kernel), List.mem_of_getElem? (i := 304) (by decide +kernel)⟩
theorem lw_p4 : lw_okq (⟨"BrothersField", "noCut", "(I)I"⟩, 11) := ⟨⟨by decide +kernel, by decide +kernel⟩, List.mem_of_getElem? (i := 22) (by decide +kernel), List.mem_of_getElem? (i := 456) (by decide +kernel), List.mem_of_getElem? (i := 457) (by decide +kernel)⟩
theorem lw_p5 : lw_okq (⟨"BrothersField", "toldAs", "(LBrothersField$Cut;I)I"⟩, 11) := ⟨⟨by decide +kernel, by decide +kernel⟩, List.mem_of_getElem? (i := 22) (by decide +kernel), List.mem_of_getElem? (i := 489) (by decide +kernel), List.mem_of_getElem? (i := 490) (by decide +kernel)⟩
theorem lw_p6 : lw_okq (⟨"BrothersField", "sideOf", "(LBrothersField$Cut;I)J"⟩, 11) := ⟨⟨by decide +kernel, by decide +kernel⟩, List.mem_of_getElem? (i := 22) (by decide +kernel), List.mem_of_getElem? (i := 493) (by decide +kernel), List.mem_of_getElem? (i := 494) (by decide +kernel)⟩
theorem lw_p7 : lw_okq (⟨"BrothersField", "mayStand", "(II)Z"⟩, 11) := ⟨⟨by decide +kernel, by decide +kernel⟩, List.mem_of_getElem? (i := 22) (by decide +kernel), List.mem_of_getElem? (i := 768) (by decide +kernel), List.mem_of_getElem? (i := 769) (by decide +kernel)⟩
theorem lw_p8 : lw_okq (⟨"BrothersFieldModel", "isShelf", "(I)Z"⟩, 38) := ⟨⟨by decide +kernel, by decide +kernel⟩, List.mem_of_getElem? (i := 1137) (by decide +kernel), List.mem_of_getElem? (i := 1262) (by decide +kernel), List.mem_of_getElem? (i := 1263) (by decide +kernel)⟩
theorem lw_p9 : lw_okq (⟨"BrothersFieldModel", "no", "(I)I"⟩, 38) := ⟨⟨by decide +kernel, by decide +kernel⟩, List.mem_of_getElem? (i := 1137) (by decide +kernel), List.mem_of_getElem? (i := 1266) (by decide +kernel), List.mem_of_getElem? (i := 1267) (by decide +kernel)⟩
theorem lw_p10 : lw_okq (⟨"BrothersFieldModel", "sideOf", "(II)J"⟩, 38) := ⟨⟨by decide +kernel, by decide +kernel⟩, List.mem_of_getElem? (i := 1137) (by decide +kernel), List.mem_of_getElem? (i := 1294) (by decide +kernel), List.mem_of_getElem? (i := 1295) (by decide +kernel)⟩
theorem lw_p11 : lw_okq (⟨"BrothersFieldModel", "isFirst", "(II)Z"⟩, 38) := ⟨⟨by decide +kernel, by decide +kernel⟩, List.mem_of_getElem? (i := 1137) (by decide +kernel), List.mem_of_getElem? (i := 1298) (by decide +kernel), List.mem_of_getElem? (i := 1299) (by decide +kernel)⟩
theorem lw_p12 : lw_okq (⟨"BrothersFieldModel", "many", "(J)I"⟩, 38) := ⟨⟨by decide +kernel, by decide +kernel⟩, List.mem_of_getElem? (i := 1137) (by decide +kernel), List.mem_of_getElem? (i := 1306) (by decide +kernel), List.mem_of_getElem? (i := 1307) (by decide +kernel)⟩
theorem lw_p13 : lw_okq (⟨"BrothersFieldModel", "wants", "(II)I"⟩, 38) := ⟨⟨by decide +kernel, by decide +kernel⟩, List.mem_of_getElem? (i := 1137) (by decide +kernel), List.mem_of_getElem? (i := 1314) (by decide +kernel), List.mem_of_getElem? (i := 1315) (by decide +kernel)⟩
theorem lw_p14 : lw_okq (⟨"BrothersFieldModel", "all", "([IZ)V"⟩, 38) := ⟨⟨by decide +kernel, by decide +kernel⟩, List.mem_of_getElem? (i := 1137) (by decide +kernel), List.mem_of_getElem? (i := 1318) (by decide +kernel), List.mem_of_getElem? (i := 1319) (by decide +kernel)⟩
theorem lw_p15 : lw_okq (⟨"BrothersFieldModel", "keeps", "([II[IIZ)I"⟩, 38) := ⟨⟨by decide +kernel, by decide +kernel⟩, List.mem_of_getElem? (i := 1137) (by decide +kernel), List.mem_of_getElem? (i := 1322) (by decide +kernel), List.mem_of_getElem? (i := 1323) (by decide +kernel)⟩
def lw_privs_1 : List (MethodName × Nat) := [(⟨"BrothersField", "refuse", "(I)I"⟩, 11), (⟨"BrothersField", "refuseAs", "(II)I"⟩, 11), (⟨"BrothersField", "noRow", "(I)I"⟩, 11), (⟨"BrothersField", "newCut", "(II)LBrothersField$Cut;"⟩, 11), (⟨"BrothersField", "noCut", "(I)I"⟩, 11), (⟨"BrothersField", "toldAs", "(LBrothersField$Cut;I)I"⟩, 11), (⟨"BrothersField", "sideOf", "(LBrothersField$Cut;I)J"⟩, 11), (⟨"BrothersField", "mayStand", "(II)Z"⟩, 11), (⟨"BrothersFieldModel", "isShelf", "(I)Z"⟩, 38), (⟨"BrothersFieldModel", "no", "(I)I"⟩, 38), (⟨"BrothersFieldModel", "sideOf", "(II)J"⟩, 38), (⟨"BrothersFieldModel", "isFirst", "(II)Z"⟩, 38), (⟨"BrothersFieldModel", "many", "(J)I"⟩, 38), (⟨"BrothersFieldModel", "wants", "(II)I"⟩, 38), (⟨"BrothersFieldModel", "all", "([IZ)V"⟩, 38), (⟨"BrothersFieldModel", "keeps", "([II[IIZ)I"⟩, 38)]
theorem lw_r1 : ∀ q ∈ lw_privs_1, lw_okq q := List.forall_mem_cons.mpr ⟨lw_p0, List.forall_mem_cons.mpr ⟨lw_p1, List.forall_mem_cons.mpr ⟨lw_p2, List.forall_mem_cons.mpr ⟨lw_p3, List.forall_mem_cons.mpr ⟨lw_p4, List.forall_mem_cons.mpr ⟨lw_p5, List.forall_mem_cons.mpr ⟨lw_p6, List.forall_mem_cons.mpr ⟨lw_p7, List.forall_mem_cons.mpr ⟨lw_p8, List.forall_mem_cons.mpr ⟨lw_p9, List.forall_mem_cons.mpr ⟨lw_p10, List.forall_mem_cons.mpr ⟨lw_p11, List.forall_mem_cons.mpr ⟨lw_p12, List.forall_mem_cons.mpr ⟨lw_p13, List.forall_mem_cons.mpr ⟨lw_p14, List.forall_mem_cons.mpr ⟨lw_p15, fun _ h => absurd h List.not_mem_nil⟩⟩⟩⟩⟩⟩⟩⟩⟩⟩⟩⟩⟩⟩⟩⟩
theorem lw_p16 : lw_okq (⟨"BrothersFieldModel", "item", "()Z"⟩, 38) := ⟨⟨by decide +kernel, by decide +kernel⟩, List.mem_of_getElem? (i := 1137) (by decide +kernel), List.mem_of_getElem? (i := 1326) (by decide +kernel), List.mem_of_getElem? (i := 1327) (by decide +kernel)⟩
theorem lw_p17 : lw_okq (⟨"BrothersFieldModel", "isWordAt", "(I)Z"⟩, 38) := ⟨⟨by decide +kernel, by decide +kernel⟩, List.mem_of_getElem? (i := 1137) (by decide +kernel), List.mem_of_getElem? (i := 1330) (by decide +kernel), List.mem_of_getElem? (i := 1331) (by decide +kernel)⟩
theorem lw_p18 : lw_okq (⟨"BrothersFieldModel", "isWordFull", "(I)Z"⟩, 38) := ⟨⟨by decide +kernel, by decide +kernel⟩, List.mem_of_getElem? (i := 1137) (by decide +kernel), List.mem_of_getElem? (i := 1334) (by decide +kernel), List.mem_of_getElem? (i := 1335) (by decide +kernel)⟩
theorem lw_p19 : lw_okq (⟨"BrothersFieldModel", "wrong", "(I)Z"⟩, 38) := ⟨⟨by decide +kernel, by decide +kernel⟩, List.mem_of_getElem? (i := 1137) (by decide +kernel), List.mem_of_getElem? (i := 1338) (by decide +kernel), List.mem_of_getElem? (i := 1339) (by decide +kernel)⟩
theorem lw_p20 : lw_okq (⟨"BrothersFieldModel", "word", "()I"⟩, 38) := ⟨⟨by decide +kernel, by decide +kernel⟩, List.mem_of_getElem? (i := 1137) (by decide +kernel), List.mem_of_getElem? (i := 1342) (by decide +kernel), List.mem_of_getElem? (i := 1343) (by decide +kernel)⟩
theorem lw_p21 : lw_okq (⟨"BrothersFieldModel", "number", "(II)Z"⟩, 38) := ⟨⟨by decide +kernel, by decide +kernel⟩, List.mem_of_getElem? (i := 1137) (by decide +kernel), List.mem_of_getElem? (i := 1346) (by decide +kernel), List.mem_of_getElem? (i := 1347) (by decide +kernel)⟩
theorem lw_p22 : lw_okq (⟨"BrothersFieldModel", "isDigit", "()Z"⟩, 38) := ⟨⟨by decide +kernel, by decide +kernel⟩, List.mem_of_getElem? (i := 1137) (by decide +kernel), List.mem_of_getElem? (i := 1350) (by decide +kernel), List.mem_of_getElem? (i := 1351) (by decide +kernel)⟩
theorem lw_p23 : lw_okq (⟨"BrothersFieldModel", "next", "(II)Z"⟩, 38) := ⟨⟨by decide +kernel, by decide +kernel⟩, List.mem_of_getElem? (i := 1137) (by decide +kernel), List.mem_of_getElem? (i := 1354) (by decide +kernel), List.mem_of_getElem? (i := 1355) (by decide +kernel)⟩
theorem lw_p24 : lw_okq (⟨"BrothersFieldModel", "sizes", "(II)V"⟩, 38) := ⟨⟨by decide +kernel, by decide +kernel⟩, List.mem_of_getElem? (i := 1137) (by decide +kernel), List.mem_of_getElem? (i := 1358) (by decide +kernel), List.mem_of_getElem? (i := 1359) (by decide +kernel)⟩
theorem lw_p25 : lw_okq (⟨"BrothersFieldModel", "comes", "(I)I"⟩, 38) := ⟨⟨by decide +kernel, by decide +kernel⟩, List.mem_of_getElem? (i := 1137) (by decide +kernel), List.mem_of_getElem? (i := 1362) (by decide +kernel), List.mem_of_getElem? (i := 1363) (by decide +kernel)⟩
theorem lw_p26 : lw_okq (⟨"BrothersFieldModel", "isSquare", "(I)Z"⟩, 38) := ⟨⟨by decide +kernel, by decide +kernel⟩, List.mem_of_getElem? (i := 1137) (by decide +kernel), List.mem_of_getElem? (i := 1378) (by decide +kernel), List.mem_of_getElem? (i := 1379) (by decide +kernel)⟩
theorem lw_p27 : lw_okq (⟨"BrothersFieldModel", "noTen", "(I)I"⟩, 38) := ⟨⟨by decide +kernel, by decide +kernel⟩, List.mem_of_getElem? (i := 1137) (by decide +kernel), List.mem_of_getElem? (i := 1386) (by decide +kernel), List.mem_of_getElem? (i := 1387) (by decide +kernel)⟩
theorem lw_p28 : lw_okq (⟨"BrothersFieldModel", "isHeir", "(I)Z"⟩, 38) := ⟨⟨by decide +kernel, by decide +kernel⟩, List.mem_of_getElem? (i := 1137) (by decide +kernel), List.mem_of_getElem? (i := 1398) (by decide +kernel), List.mem_of_getElem? (i := 1399) (by decide +kernel)⟩
theorem lw_p29 : lw_okq (⟨"BrothersFieldModel", "pieceOf", "(I)J"⟩, 38) := ⟨⟨by decide +kernel, by decide +kernel⟩, List.mem_of_getElem? (i := 1137) (by decide +kernel), List.mem_of_getElem? (i := 1410) (by decide +kernel), List.mem_of_getElem? (i := 1411) (by decide +kernel)⟩
theorem lw_p30 : lw_okq (⟨"BrothersFieldModel", "isSet", "(J)Z"⟩, 38) := ⟨⟨by decide +kernel, by decide +kernel⟩, List.mem_of_getElem? (i := 1137) (by decide +kernel), List.mem_of_getElem? (i := 1418) (by decide +kernel), List.mem_of_getElem? (i := 1419) (by decide +kernel)⟩
theorem lw_p31 : lw_okq (⟨"BrothersFieldModel", "all", "()J"⟩, 38) := ⟨⟨by decide +kernel, by decide +kernel⟩, List.mem_of_getElem? (i := 1137) (by decide +kernel), List.mem_of_getElem? (i := 1422) (by decide +kernel), List.mem_of_getElem? (i := 1423) (by decide +kernel)⟩
def lw_privs_2 : List (MethodName × Nat) := [(⟨"BrothersFieldModel", "item", "()Z"⟩, 38), (⟨"BrothersFieldModel", "isWordAt", "(I)Z"⟩, 38), (⟨"BrothersFieldModel", "isWordFull", "(I)Z"⟩, 38), (⟨"BrothersFieldModel", "wrong", "(I)Z"⟩, 38), (⟨"BrothersFieldModel", "word", "()I"⟩, 38), (⟨"BrothersFieldModel", "number", "(II)Z"⟩, 38), (⟨"BrothersFieldModel", "isDigit", "()Z"⟩, 38), (⟨"BrothersFieldModel", "next", "(II)Z"⟩, 38), (⟨"BrothersFieldModel", "sizes", "(II)V"⟩, 38), (⟨"BrothersFieldModel", "comes", "(I)I"⟩, 38), (⟨"BrothersFieldModel", "isSquare", "(I)Z"⟩, 38), (⟨"BrothersFieldModel", "noTen", "(I)I"⟩, 38), (⟨"BrothersFieldModel", "isHeir", "(I)Z"⟩, 38), (⟨"BrothersFieldModel", "pieceOf", "(I)J"⟩, 38), (⟨"BrothersFieldModel", "isSet", "(J)Z"⟩, 38), (⟨"BrothersFieldModel", "all", "()J"⟩, 38)]
theorem lw_r2 : ∀ q ∈ lw_privs_2, lw_okq q := List.forall_mem_cons.mpr ⟨lw_p16, List.forall_mem_cons.mpr ⟨lw_p17, List.forall_mem_cons.mpr ⟨lw_p18, List.forall_mem_cons.mpr ⟨lw_p19, List.forall_mem_cons.mpr ⟨lw_p20, List.forall_mem_cons.mpr ⟨lw_p21, List.forall_mem_cons.mpr ⟨lw_p22, List.forall_mem_cons.mpr ⟨lw_p23, List.forall_mem_cons.mpr ⟨lw_p24, List.forall_mem_cons.mpr ⟨lw_p25, List.forall_mem_cons.mpr ⟨lw_p26, List.forall_mem_cons.mpr ⟨lw_p27, List.forall_mem_cons.mpr ⟨lw_p28, List.forall_mem_cons.mpr ⟨lw_p29, List.forall_mem_cons.mpr ⟨lw_p30, List.forall_mem_cons.mpr ⟨lw_p31, fun _ h => absurd h List.not_mem_nil⟩⟩⟩⟩⟩⟩⟩⟩⟩⟩⟩⟩⟩⟩⟩⟩
theorem lw_p32 : lw_okq (⟨"BrothersFieldModel", "worthOf", "(IJ)I"⟩, 38) := ⟨⟨by decide +kernel, by decide +kernel⟩, List.mem_of_getElem? (i := 1137) (by decide +kernel), List.mem_of_getElem? (i := 1427) (by decide +kernel), List.mem_of_getElem? (i := 1428) (by decide +kernel)⟩
theorem lw_p33 : lw_okq (⟨"BrothersFieldModel", "has", "(JI)Z"⟩, 38) := ⟨⟨by decide +kernel, by decide +kernel⟩, List.mem_of_getElem? (i := 1137) (by decide +kernel), List.mem_of_getElem? (i := 1431) (by decide +kernel), List.mem_of_getElem? (i := 1432) (by decide +kernel)⟩
theorem lw_p34 : lw_okq (⟨"BrothersFieldModel", "isOwner", "(I)Z"⟩, 38) := ⟨⟨by decide +kernel, by decide +kernel⟩, List.mem_of_getElem? (i := 1137) (by decide +kernel), List.mem_of_getElem? (i := 1443) (by decide +kernel), List.mem_of_getElem? (i := 1444) (by decide +kernel)⟩
theorem lw_p35 : lw_okq (⟨"BrothersFieldModel", "intAt", "(II)I"⟩, 38) := ⟨⟨by decide +kernel, by decide +kernel⟩, List.mem_of_getElem? (i := 1137) (by decide +kernel), List.mem_of_getElem? (i := 1455) (by decide +kernel), List.mem_of_getElem? (i := 1456) (by decide +kernel)⟩
theorem lw_p36 : lw_okq (⟨"BrothersFieldModel", "hedgeOf", "()I"⟩, 38) := ⟨⟨by decide +kernel, by decide +kernel⟩, List.mem_of_getElem? (i := 1137) (by decide +kernel), List.mem_of_getElem? (i := 1467) (by decide +kernel), List.mem_of_getElem? (i := 1468) (by decide +kernel)⟩
theorem lw_p37 : lw_okq (⟨"BrothersFieldModel", "partsOf", "(J)I"⟩, 38) := ⟨⟨by decide +kernel, by decide +kernel⟩, List.mem_of_getElem? (i := 1137) (by decide +kernel), List.mem_of_getElem? (i := 1475) (by decide +kernel), List.mem_of_getElem? (i := 1476) (by decide +kernel)⟩
theorem lw_p38 : lw_okq (⟨"BrothersFieldModel", "grown", "(JJ)J"⟩, 38) := ⟨⟨by decide +kernel, by decide +kernel⟩, List.mem_of_getElem? (i := 1137) (by decide +kernel), List.mem_of_getElem? (i := 1479) (by decide +kernel), List.mem_of_getElem? (i := 1480) (by decide +kernel)⟩
theorem lw_p39 : lw_okq (⟨"BrothersFieldModel", "beside", "(J)J"⟩, 38) := ⟨⟨by decide +kernel, by decide +kernel⟩, List.mem_of_getElem? (i := 1137) (by decide +kernel), List.mem_of_getElem? (i := 1483) (by decide +kernel), List.mem_of_getElem? (i := 1484) (by decide +kernel)⟩
theorem lw_p40 : lw_okq (⟨"BrothersFieldModel", "faultyNow", "()I"⟩, 38) := ⟨⟨by decide +kernel, by decide +kernel⟩, List.mem_of_getElem? (i := 1137) (by decide +kernel), List.mem_of_getElem? (i := 1491) (by decide +kernel), List.mem_of_getElem? (i := 1492) (by decide +kernel)⟩
theorem lw_p41 : lw_okq (⟨"BrothersFieldModel", "atRoad", "()J"⟩, 38) := ⟨⟨by decide +kernel, by decide +kernel⟩, List.mem_of_getElem? (i := 1137) (by decide +kernel), List.mem_of_getElem? (i := 1495) (by decide +kernel), List.mem_of_getElem? (i := 1496) (by decide +kernel)⟩
theorem lw_p42 : lw_okq (⟨"BrothersFieldModel", "shares", "()I"⟩, 38) := ⟨⟨by decide +kernel, by decide +kernel⟩, List.mem_of_getElem? (i := 1137) (by decide +kernel), List.mem_of_getElem? (i := 1499) (by decide +kernel), List.mem_of_getElem? (i := 1500) (by decide +kernel)⟩
theorem lw_p43 : lw_okq (⟨"BrothersFieldModel", "spares", "(Z)V"⟩, 38) := ⟨⟨by decide +kernel, by decide +kernel⟩, List.mem_of_getElem? (i := 1137) (by decide +kernel), List.mem_of_getElem? (i := 1511) (by decide +kernel), List.mem_of_getElem? (i := 1512) (by decide +kernel)⟩
theorem lw_p44 : lw_okq (⟨"BrothersFieldModel", "lists", "(I)V"⟩, 38) := ⟨⟨by decide +kernel, by decide +kernel⟩, List.mem_of_getElem? (i := 1137) (by decide +kernel), List.mem_of_getElem? (i := 1515) (by decide +kernel), List.mem_of_getElem? (i := 1516) (by decide +kernel)⟩
theorem lw_p45 : lw_okq (⟨"BrothersFieldModel", "lists", "(IZ)V"⟩, 38) := ⟨⟨by decide +kernel, by decide +kernel⟩, List.mem_of_getElem? (i := 1137) (by decide +kernel), List.mem_of_getElem? (i := 1519) (by decide +kernel), List.mem_of_getElem? (i := 1520) (by decide +kernel)⟩
theorem lw_p46 : lw_okq (⟨"BrothersFieldModel", "tries", "(II)V"⟩, 38) := ⟨⟨by decide +kernel, by decide +kernel⟩, List.mem_of_getElem? (i := 1137) (by decide +kernel), List.mem_of_getElem? (i := 1523) (by decide +kernel), List.mem_of_getElem? (i := 1524) (by decide +kernel)⟩
theorem lw_p47 : lw_okq (⟨"BrothersFieldModel", "bettered", "()I"⟩, 38) := ⟨⟨by decide +kernel, by decide +kernel⟩, List.mem_of_getElem? (i := 1137) (by decide +kernel), List.mem_of_getElem? (i := 1548) (by decide +kernel), List.mem_of_getElem? (i := 1549) (by decide +kernel)⟩
def lw_privs_3 : List (MethodName × Nat) := [(⟨"BrothersFieldModel", "worthOf", "(IJ)I"⟩, 38), (⟨"BrothersFieldModel", "has", "(JI)Z"⟩, 38), (⟨"BrothersFieldModel", "isOwner", "(I)Z"⟩, 38), (⟨"BrothersFieldModel", "intAt", "(II)I"⟩, 38), (⟨"BrothersFieldModel", "hedgeOf", "()I"⟩, 38), (⟨"BrothersFieldModel", "partsOf", "(J)I"⟩, 38), (⟨"BrothersFieldModel", "grown", "(JJ)J"⟩, 38), (⟨"BrothersFieldModel", "beside", "(J)J"⟩, 38), (⟨"BrothersFieldModel", "faultyNow", "()I"⟩, 38), (⟨"BrothersFieldModel", "atRoad", "()J"⟩, 38), (⟨"BrothersFieldModel", "shares", "()I"⟩, 38), (⟨"BrothersFieldModel", "spares", "(Z)V"⟩, 38), (⟨"BrothersFieldModel", "lists", "(I)V"⟩, 38), (⟨"BrothersFieldModel", "lists", "(IZ)V"⟩, 38), (⟨"BrothersFieldModel", "tries", "(II)V"⟩, 38), (⟨"BrothersFieldModel", "bettered", "()I"⟩, 38)]
theorem lw_r3 : ∀ q ∈ lw_privs_3, lw_okq q := List.forall_mem_cons.mpr ⟨lw_p32, List.forall_mem_cons.mpr ⟨lw_p33, List.forall_mem_cons.mpr ⟨lw_p34, List.forall_mem_cons.mpr ⟨lw_p35, List.forall_mem_cons.mpr ⟨lw_p36, List.forall_mem_cons.mpr ⟨lw_p37, List.forall_mem_cons.mpr ⟨lw_p38, List.forall_mem_cons.mpr ⟨lw_p39, List.forall_mem_cons.mpr ⟨lw_p40, List.forall_mem_cons.mpr ⟨lw_p41, List.forall_mem_cons.mpr ⟨lw_p42, List.forall_mem_cons.mpr ⟨lw_p43, List.forall_mem_cons.mpr ⟨lw_p44, List.forall_mem_cons.mpr ⟨lw_p45, List.forall_mem_cons.mpr ⟨lw_p46, List.forall_mem_cons.mpr ⟨lw_p47, fun _ h => absurd h List.not_mem_nil⟩⟩⟩⟩⟩⟩⟩⟩⟩⟩⟩⟩⟩⟩⟩⟩
theorem lw_p48 : lw_okq (⟨"BrothersFieldModel", "isFit", "(II)Z"⟩, 38) := ⟨⟨by decide +kernel, by decide +kernel⟩, List.mem_of_getElem? (i := 1137) (by decide +kernel), List.mem_of_getElem? (i := 1560) (by decide +kernel), List.mem_of_getElem? (i := 1561) (by decide +kernel)⟩
theorem lw_p49 : lw_okq (⟨"BrothersFieldModel", "parting", "(II)I"⟩, 38) := ⟨⟨by decide +kernel, by decide +kernel⟩, List.mem_of_getElem? (i := 1137) (by decide +kernel), List.mem_of_getElem? (i := 1580) (by decide +kernel), List.mem_of_getElem? (i := 1581) (by decide +kernel)⟩
theorem lw_p50 : lw_okq (⟨"BrothersFieldModel", "body", "(I)V"⟩, 38) := ⟨⟨by decide +kernel, by decide +kernel⟩, List.mem_of_getElem? (i := 1137) (by decide +kernel), List.mem_of_getElem? (i := 1584) (by decide +kernel), List.mem_of_getElem? (i := 1585) (by decide +kernel)⟩
theorem lw_p51 : lw_okq (⟨"BrothersFieldModel", "weighing", "(II)I"⟩, 38) := ⟨⟨by decide +kernel, by decide +kernel⟩, List.mem_of_getElem? (i := 1137) (by decide +kernel), List.mem_of_getElem? (i := 1588) (by decide +kernel), List.mem_of_getElem? (i := 1589) (by decide +kernel)⟩
theorem lw_p52 : lw_okq (⟨"BrothersFieldModel", "hedging", "(II)I"⟩, 38) := ⟨⟨by decide +kernel, by decide +kernel⟩, List.mem_of_getElem? (i := 1137) (by decide +kernel), List.mem_of_getElem? (i := 1592) (by decide +kernel), List.mem_of_getElem? (i := 1593) (by decide +kernel)⟩
def lw_privs_4 : List (MethodName × Nat) := [(⟨"BrothersFieldModel", "isFit", "(II)Z"⟩, 38), (⟨"BrothersFieldModel", "parting", "(II)I"⟩, 38), (⟨"BrothersFieldModel", "body", "(I)V"⟩, 38), (⟨"BrothersFieldModel", "weighing", "(II)I"⟩, 38), (⟨"BrothersFieldModel", "hedging", "(II)I"⟩, 38)]
theorem lw_r4 : ∀ q ∈ lw_privs_4, lw_okq q := List.forall_mem_cons.mpr ⟨lw_p48, List.forall_mem_cons.mpr ⟨lw_p49, List.forall_mem_cons.mpr ⟨lw_p50, List.forall_mem_cons.mpr ⟨lw_p51, List.forall_mem_cons.mpr ⟨lw_p52, fun _ h => absurd h List.not_mem_nil⟩⟩⟩⟩⟩
def lw_privs : List (MethodName × Nat) := lw_privs_1 ++ (lw_privs_2 ++ (lw_privs_3 ++ (lw_privs_4)))
def lw_tbl : List Cond := k2_sels lw_privs ++ tables_1
theorem lw_privs_ok : ∀ q ∈ lw_privs, lw_okq q := by
  show ∀ q ∈ lw_privs_1 ++ (lw_privs_2 ++ (lw_privs_3 ++ (lw_privs_4))), lw_okq q
  exact List.forall_mem_append.mpr ⟨lw_r1, List.forall_mem_append.mpr ⟨lw_r2, List.forall_mem_append.mpr ⟨lw_r3, lw_r4⟩⟩⟩
def RX0 : String := "BrothersField$Along"
def TX0 : u_T := fun k => match k with
  | 0 => ("BrothersField$Cut", "code", "I", true)
  | 1 => ("BrothersField$Cut", "shelf", "I", true)
  | 2 => ("BrothersField$Cut", "a", "I", true)
  | 3 => ("BrothersField$Cut", "b", "I", true)
  | 4 => ("BrothersField$Cut", "c", "I", true)
  | _ => ("BrothersField$Cut", "trace", "LBrothersField$Row;", true)
def tyX0 : Nat → FieldType := fun k => match k with
  | 0 => .int
  | 1 => .int
  | 2 => .int
  | 3 => .int
  | 4 => .int
  | _ => .object "BrothersField$Row"
theorem nmX0 : ∀ a, a < 6 → ∀ b, b < 6 → a ≠ b → (TX0 a).2.1 ≠ (TX0 b).2.1 := by decide +kernel
theorem tyX0_ok : ∀ k, k < 6 → parseFieldDescriptor (TX0 k).2.2.1 = some (tyX0 k) := by decide +kernel
abbrev cX0_init : ByteArray := prog_2_method_1_code
def yX0_init : MethodName := ⟨RX0, "<init>", "(IILBrothersField$Row;)V"⟩
abbrev cX0_isOf : ByteArray := prog_2_method_2_code
def yX0_isOf : MethodName := ⟨RX0, "isOf", "(I)Z"⟩
abbrev cX0_firstIn : ByteArray := prog_2_method_3_code
def yX0_firstIn : MethodName := ⟨RX0, "firstIn", "(LBrothersField$Field;)J"⟩
abbrev cX0_weighsBody : ByteArray := prog_2_method_4_code
def yX0_weighsBody : MethodName := ⟨RX0, "weighsBody", "(I)I"⟩
abbrev cX0_partsBody : ByteArray := prog_2_method_5_code
def yX0_partsBody : MethodName := ⟨RX0, "partsBody", "(I)I"⟩
def RX1 : String := "BrothersField$Bent"
def TX1 : u_T := fun k => match k with
  | 0 => ("BrothersField$Cut", "code", "I", true)
  | 1 => ("BrothersField$Cut", "shelf", "I", true)
  | 2 => ("BrothersField$Cut", "a", "I", true)
  | 3 => ("BrothersField$Cut", "b", "I", true)
  | 4 => ("BrothersField$Cut", "c", "I", true)
  | _ => ("BrothersField$Cut", "trace", "LBrothersField$Row;", true)
def tyX1 : Nat → FieldType := fun k => match k with
  | 0 => .int
  | 1 => .int
  | 2 => .int
  | 3 => .int
  | 4 => .int
  | _ => .object "BrothersField$Row"
theorem nmX1 : ∀ a, a < 6 → ∀ b, b < 6 → a ≠ b → (TX1 a).2.1 ≠ (TX1 b).2.1 := by decide +kernel
theorem tyX1_ok : ∀ k, k < 6 → parseFieldDescriptor (TX1 k).2.2.1 = some (tyX1 k) := by decide +kernel
abbrev cX1_init : ByteArray := prog_3_method_1_code
def yX1_init : MethodName := ⟨RX1, "<init>", "(IILBrothersField$Row;)V"⟩
abbrev cX1_isOf : ByteArray := prog_3_method_2_code
def yX1_isOf : MethodName := ⟨RX1, "isOf", "(I)Z"⟩
abbrev cX1_firstIn : ByteArray := prog_3_method_3_code
def yX1_firstIn : MethodName := ⟨RX1, "firstIn", "(LBrothersField$Field;)J"⟩
abbrev cX1_weighsBody : ByteArray := prog_3_method_4_code
def yX1_weighsBody : MethodName := ⟨RX1, "weighsBody", "(I)I"⟩
def RX2 : String := "BrothersField$Cut"
def TX2 : u_T := fun k => match k with
  | 0 => ("BrothersField$Cut", "code", "I", true)
  | 1 => ("BrothersField$Cut", "shelf", "I", true)
  | 2 => ("BrothersField$Cut", "a", "I", true)
  | 3 => ("BrothersField$Cut", "b", "I", true)
  | 4 => ("BrothersField$Cut", "c", "I", true)
  | _ => ("BrothersField$Cut", "trace", "LBrothersField$Row;", true)
def tyX2 : Nat → FieldType := fun k => match k with
  | 0 => .int
  | 1 => .int
  | 2 => .int
  | 3 => .int
  | 4 => .int
  | _ => .object "BrothersField$Row"
theorem nmX2 : ∀ a, a < 6 → ∀ b, b < 6 → a ≠ b → (TX2 a).2.1 ≠ (TX2 b).2.1 := by decide +kernel
theorem tyX2_ok : ∀ k, k < 6 → parseFieldDescriptor (TX2 k).2.2.1 = some (tyX2 k) := by decide +kernel
abbrev cX2_init : ByteArray := prog_4_method_1_code
def yX2_init : MethodName := ⟨RX2, "<init>", "(IILBrothersField$Row;)V"⟩
abbrev cX2_isOf : ByteArray := prog_4_method_2_code
def yX2_isOf : MethodName := ⟨RX2, "isOf", "(I)Z"⟩
abbrev cX2_firstIn : ByteArray := prog_4_method_3_code
def yX2_firstIn : MethodName := ⟨RX2, "firstIn", "(LBrothersField$Field;)J"⟩
abbrev cX2_laneIn : ByteArray := prog_4_method_4_code
def yX2_laneIn : MethodName := ⟨RX2, "laneIn", "(LBrothersField$Field;)J"⟩
abbrev cX2_partsBody : ByteArray := prog_4_method_5_code
def yX2_partsBody : MethodName := ⟨RX2, "partsBody", "(I)I"⟩
abbrev cX2_weighsBody : ByteArray := prog_4_method_6_code
def yX2_weighsBody : MethodName := ⟨RX2, "weighsBody", "(I)I"⟩
abbrev cX2_hedgesBody : ByteArray := prog_4_method_7_code
def yX2_hedgesBody : MethodName := ⟨RX2, "hedgesBody", "(I)I"⟩
def RX3 : String := "BrothersField$Field"
def TX3 : u_T := fun k => match k with
  | 0 => ("BrothersField$Field", "w", "I", false)
  | 1 => ("BrothersField$Field", "h", "I", false)
  | 2 => ("BrothersField$Field", "all", "J", false)
  | 3 => ("BrothersField$Field", "firstColumn", "J", false)
  | 4 => ("BrothersField$Field", "lastColumn", "J", false)
  | 5 => ("BrothersField$Field", "firstRow", "J", false)
  | 6 => ("BrothersField$Field", "lastRow", "J", false)
  | 7 => ("BrothersField$Field", "road", "I", false)
  | 8 => ("BrothersField$Field", "well", "I", false)
  | 9 => ("BrothersField$Field", "oak", "I", false)
  | 10 => ("BrothersField$Field", "small", "I", false)
  | 11 => ("BrothersField$Field", "heirs", "I", false)
  | 12 => ("BrothersField$Field", "soils", "[J", true)
  | 13 => ("BrothersField$Field", "shares", "[I", true)
  | 14 => ("BrothersField$Field", "soilWorths", "[[I", true)
  | 15 => ("BrothersField$Field", "isFond", "[Z", true)
  | _ => ("BrothersField$Field", "owned", "[J", true)
def tyX3 : Nat → FieldType := fun k => match k with
  | 0 => .int
  | 1 => .int
  | 2 => .long
  | 3 => .long
  | 4 => .long
  | 5 => .long
  | 6 => .long
  | 7 => .int
  | 8 => .int
  | 9 => .int
  | 10 => .int
  | 11 => .int
  | 12 => .array .long
  | 13 => .array .int
  | 14 => .array (.array .int)
  | 15 => .array .boolean
  | _ => .array .long
theorem nmX3 : ∀ a, a < 17 → ∀ b, b < 17 → a ≠ b → (TX3 a).2.1 ≠ (TX3 b).2.1 := by decide +kernel
theorem tyX3_ok : ∀ k, k < 17 → parseFieldDescriptor (TX3 k).2.2.1 = some (tyX3 k) := by decide +kernel
abbrev cX3_init : ByteArray := prog_5_method_1_code
def yX3_init : MethodName := ⟨RX3, "<init>", "()V"⟩
abbrev cX3_resize : ByteArray := prog_5_method_2_code
def yX3_resize : MethodName := ⟨RX3, "resize", "(II)V"⟩
abbrev cX3_become : ByteArray := prog_5_method_3_code
def yX3_become : MethodName := ⟨RX3, "become", "(LBrothersField$Field;)V"⟩
abbrev cX3_give : ByteArray := prog_5_method_4_code
def yX3_give : MethodName := ⟨RX3, "give", "([JJI)V"⟩
abbrev cX3_empty : ByteArray := prog_5_method_5_code
def yX3_empty : MethodName := ⟨RX3, "empty", "([J)V"⟩
abbrev cX3_squares : ByteArray := prog_5_method_6_code
def yX3_squares : MethodName := ⟨RX3, "squares", "()I"⟩
abbrev cX3_isSquare : ByteArray := prog_5_method_7_code
def yX3_isSquare : MethodName := ⟨RX3, "isSquare", "(I)Z"⟩
abbrev cX3_isHeir : ByteArray := prog_5_method_8_code
def yX3_isHeir : MethodName := ⟨RX3, "isHeir", "(I)Z"⟩
abbrev cX3_hasAll : ByteArray := prog_5_method_9_code
def yX3_hasAll : MethodName := ⟨RX3, "hasAll", "(J)Z"⟩
abbrev cX3_only : ByteArray := prog_5_method_10_code
def yX3_only : MethodName := ⟨RX3, "only", "(I)J"⟩
abbrev cX3_lowest : ByteArray := prog_5_method_11_code
def yX3_lowest : MethodName := ⟨RX3, "lowest", "(I)J"⟩
abbrev cX3_below : ByteArray := prog_5_method_12_code
def yX3_below : MethodName := ⟨RX3, "below", "(I)J"⟩
abbrev cX3_rowsBelow : ByteArray := prog_5_method_13_code
def yX3_rowsBelow : MethodName := ⟨RX3, "rowsBelow", "(I)J"⟩
abbrev cX3_columns : ByteArray := prog_5_method_14_code
def yX3_columns : MethodName := ⟨RX3, "columns", "(I)J"⟩
abbrev cX3_corner : ByteArray := prog_5_method_15_code
def yX3_corner : MethodName := ⟨RX3, "corner", "(II)J"⟩
abbrev cX3_bent : ByteArray := prog_5_method_16_code
def yX3_bent : MethodName := ⟨RX3, "bent", "(III)J"⟩
abbrev cX3_soilAt : ByteArray := prog_5_method_17_code
def yX3_soilAt : MethodName := ⟨RX3, "soilAt", "(I)I"⟩
abbrev cX3_laySoil : ByteArray := prog_5_method_18_code
def yX3_laySoil : MethodName := ⟨RX3, "laySoil", "(JI)V"⟩
abbrev cX3_placeOf : ByteArray := prog_5_method_19_code
def yX3_placeOf : MethodName := ⟨RX3, "placeOf", "(I)I"⟩
abbrev cX3_setPlace : ByteArray := prog_5_method_20_code
def yX3_setPlace : MethodName := ⟨RX3, "setPlace", "(II)V"⟩
abbrev cX3_addHeir : ByteArray := prog_5_method_21_code
def yX3_addHeir : MethodName := ⟨RX3, "addHeir", "(I)I"⟩
abbrev cX3_worthOf : ByteArray := prog_5_method_22_code
def yX3_worthOf : MethodName := ⟨RX3, "worthOf", "(IJ)I"⟩
abbrev cX3_allShares : ByteArray := prog_5_method_23_code
def yX3_allShares : MethodName := ⟨RX3, "allShares", "()I"⟩
abbrev cX3_surplusOf : ByteArray := prog_5_method_24_code
def yX3_surplusOf : MethodName := ⟨RX3, "surplusOf", "(IJ)I"⟩
abbrev cX3_slotOf : ByteArray := prog_5_method_25_code
def yX3_slotOf : MethodName := ⟨RX3, "slotOf", "(I)I"⟩
abbrev cX3_ownerAt : ByteArray := prog_5_method_26_code
def yX3_ownerAt : MethodName := ⟨RX3, "ownerAt", "(I)I"⟩
abbrev cX3_ownedByHeirs : ByteArray := prog_5_method_27_code
def yX3_ownedByHeirs : MethodName := ⟨RX3, "ownedByHeirs", "()I"⟩
abbrev cX3_takeOwners : ByteArray := prog_5_method_28_code
def yX3_takeOwners : MethodName := ⟨RX3, "takeOwners", "([J)I"⟩
abbrev cX3_withBeside : ByteArray := prog_5_method_29_code
def yX3_withBeside : MethodName := ⟨RX3, "withBeside", "(J)J"⟩
abbrev cX3_grown : ByteArray := prog_5_method_30_code
def yX3_grown : MethodName := ⟨RX3, "grown", "(JJ)J"⟩
abbrev cX3_piecesOf : ByteArray := prog_5_method_31_code
def yX3_piecesOf : MethodName := ⟨RX3, "piecesOf", "(J)I"⟩
abbrev cX3_hedgeOf : ByteArray := prog_5_method_32_code
def yX3_hedgeOf : MethodName := ⟨RX3, "hedgeOf", "([J)I"⟩
abbrev cX3_verdictOn : ByteArray := prog_5_method_33_code
def yX3_verdictOn : MethodName := ⟨RX3, "verdictOn", "([J)I"⟩
abbrev cX3_hasFault : ByteArray := prog_5_method_34_code
def yX3_hasFault : MethodName := ⟨RX3, "hasFault", "(IIJJ)Z"⟩
abbrev cX3_isContent : ByteArray := prog_5_method_35_code
def yX3_isContent : MethodName := ⟨RX3, "isContent", "(IJ)Z"⟩
abbrev cX3_reachOfRoad : ByteArray := prog_5_method_36_code
def yX3_reachOfRoad : MethodName := ⟨RX3, "reachOfRoad", "(J)J"⟩
abbrev cX3_roadSide : ByteArray := prog_5_method_37_code
def yX3_roadSide : MethodName := ⟨RX3, "roadSide", "()J"⟩
abbrev cX3_wellMatters : ByteArray := prog_5_method_38_code
def yX3_wellMatters : MethodName := ⟨RX3, "wellMatters", "(J)Z"⟩
abbrev cX3_toldBy : ByteArray := prog_5_method_39_code
def yX3_toldBy : MethodName := ⟨RX3, "toldBy", "(LBrothersField$Row;I)J"⟩
def RX4 : String := "BrothersField$From"
def TX4 : u_T := fun k => match k with
  | 0 => ("BrothersField$Cut", "code", "I", true)
  | 1 => ("BrothersField$Cut", "shelf", "I", true)
  | 2 => ("BrothersField$Cut", "a", "I", true)
  | 3 => ("BrothersField$Cut", "b", "I", true)
  | 4 => ("BrothersField$Cut", "c", "I", true)
  | _ => ("BrothersField$Cut", "trace", "LBrothersField$Row;", true)
def tyX4 : Nat → FieldType := fun k => match k with
  | 0 => .int
  | 1 => .int
  | 2 => .int
  | 3 => .int
  | 4 => .int
  | _ => .object "BrothersField$Row"
theorem nmX4 : ∀ a, a < 6 → ∀ b, b < 6 → a ≠ b → (TX4 a).2.1 ≠ (TX4 b).2.1 := by decide +kernel
theorem tyX4_ok : ∀ k, k < 6 → parseFieldDescriptor (TX4 k).2.2.1 = some (tyX4 k) := by decide +kernel
abbrev cX4_init : ByteArray := prog_6_method_1_code
def yX4_init : MethodName := ⟨RX4, "<init>", "(IILBrothersField$Row;)V"⟩
abbrev cX4_isOf : ByteArray := prog_6_method_2_code
def yX4_isOf : MethodName := ⟨RX4, "isOf", "(I)Z"⟩
abbrev cX4_firstIn : ByteArray := prog_6_method_3_code
def yX4_firstIn : MethodName := ⟨RX4, "firstIn", "(LBrothersField$Field;)J"⟩
abbrev cX4_hedgesBody : ByteArray := prog_6_method_4_code
def yX4_hedgesBody : MethodName := ⟨RX4, "hedgesBody", "(I)I"⟩
def RX5 : String := "BrothersField$Lane"
def TX5 : u_T := fun k => match k with
  | 0 => ("BrothersField$Cut", "code", "I", true)
  | 1 => ("BrothersField$Cut", "shelf", "I", true)
  | 2 => ("BrothersField$Cut", "a", "I", true)
  | 3 => ("BrothersField$Cut", "b", "I", true)
  | 4 => ("BrothersField$Cut", "c", "I", true)
  | _ => ("BrothersField$Cut", "trace", "LBrothersField$Row;", true)
def tyX5 : Nat → FieldType := fun k => match k with
  | 0 => .int
  | 1 => .int
  | 2 => .int
  | 3 => .int
  | 4 => .int
  | _ => .object "BrothersField$Row"
theorem nmX5 : ∀ a, a < 6 → ∀ b, b < 6 → a ≠ b → (TX5 a).2.1 ≠ (TX5 b).2.1 := by decide +kernel
theorem tyX5_ok : ∀ k, k < 6 → parseFieldDescriptor (TX5 k).2.2.1 = some (tyX5 k) := by decide +kernel
abbrev cX5_init : ByteArray := prog_7_method_1_code
def yX5_init : MethodName := ⟨RX5, "<init>", "(IILBrothersField$Row;)V"⟩
abbrev cX5_isOf : ByteArray := prog_7_method_2_code
def yX5_isOf : MethodName := ⟨RX5, "isOf", "(I)Z"⟩
abbrev cX5_firstIn : ByteArray := prog_7_method_3_code
def yX5_firstIn : MethodName := ⟨RX5, "firstIn", "(LBrothersField$Field;)J"⟩
abbrev cX5_laneIn : ByteArray := prog_7_method_4_code
def yX5_laneIn : MethodName := ⟨RX5, "laneIn", "(LBrothersField$Field;)J"⟩
abbrev cX5_hedgesBody : ByteArray := prog_7_method_5_code
def yX5_hedgesBody : MethodName := ⟨RX5, "hedgesBody", "(I)I"⟩
def RX6 : String := "BrothersField$Reader"
def TX6 : u_T := fun k => match k with
  | 0 => ("BrothersField$Reader", "fault", "I", false)
  | 1 => ("BrothersField$Reader", "text", "LBrothersField$Row;", true)
  | 2 => ("BrothersField$Reader", "field", "LBrothersField$Field;", true)
  | _ => ("BrothersField$Reader", "at", "I", false)
def tyX6 : Nat → FieldType := fun k => match k with
  | 0 => .int
  | 1 => .object "BrothersField$Row"
  | 2 => .object "BrothersField$Field"
  | _ => .int
theorem nmX6 : ∀ a, a < 4 → ∀ b, b < 4 → a ≠ b → (TX6 a).2.1 ≠ (TX6 b).2.1 := by decide +kernel
theorem tyX6_ok : ∀ k, k < 4 → parseFieldDescriptor (TX6 k).2.2.1 = some (tyX6 k) := by decide +kernel
abbrev cX6_init : ByteArray := prog_8_method_1_code
def yX6_init : MethodName := ⟨RX6, "<init>", "(LBrothersField$Row;LBrothersField$Field;)V"⟩
abbrev cX6_readItems : ByteArray := prog_8_method_2_code
def yX6_readItems : MethodName := ⟨RX6, "readItems", "()I"⟩
abbrev cX6_fails : ByteArray := prog_8_method_3_code
def yX6_fails : MethodName := ⟨RX6, "fails", "(I)Z"⟩
abbrev cX6_passes : ByteArray := prog_8_method_4_code
def yX6_passes : MethodName := ⟨RX6, "passes", "(C)Z"⟩
abbrev cX6_readItem : ByteArray := prog_8_method_5_code
def yX6_readItem : MethodName := ⟨RX6, "readItem", "()Z"⟩
abbrev cX6_wordOf : ByteArray := prog_8_method_6_code
def yX6_wordOf : MethodName := ⟨RX6, "wordOf", "(I)Ljava/lang/String;"⟩
abbrev cX6_readWord : ByteArray := prog_8_method_7_code
def yX6_readWord : MethodName := ⟨RX6, "readWord", "()I"⟩
abbrev cX6_lettersAlike : ByteArray := prog_8_method_8_code
def yX6_lettersAlike : MethodName := ⟨RX6, "lettersAlike", "(Ljava/lang/String;)I"⟩
abbrev cX6_readNumber : ByteArray := prog_8_method_9_code
def yX6_readNumber : MethodName := ⟨RX6, "readNumber", "(II)I"⟩
abbrev cX6_digitAt : ByteArray := prog_8_method_10_code
def yX6_digitAt : MethodName := ⟨RX6, "digitAt", "(I)I"⟩
abbrev cX6_readSize : ByteArray := prog_8_method_11_code
def yX6_readSize : MethodName := ⟨RX6, "readSize", "()Z"⟩
abbrev cX6_readSoil : ByteArray := prog_8_method_12_code
def yX6_readSoil : MethodName := ⟨RX6, "readSoil", "()Z"⟩
abbrev cX6_readPlace : ByteArray := prog_8_method_13_code
def yX6_readPlace : MethodName := ⟨RX6, "readPlace", "(III)Z"⟩
abbrev cX6_readHeir : ByteArray := prog_8_method_14_code
def yX6_readHeir : MethodName := ⟨RX6, "readHeir", "()Z"⟩
def RX7 : String := "BrothersField$Row"
def TX7 : u_T := fun k => match k with
  | 0 => ("BrothersField$Row", "sort", "I", false)
  | 1 => ("BrothersField$Row", "size", "I", false)
  | _ => ("BrothersField$Row", "elements", "[J", true)
def tyX7 : Nat → FieldType := fun k => match k with
  | 0 => .int
  | 1 => .int
  | _ => .array .long
theorem nmX7 : ∀ a, a < 3 → ∀ b, b < 3 → a ≠ b → (TX7 a).2.1 ≠ (TX7 b).2.1 := by decide +kernel
theorem tyX7_ok : ∀ k, k < 3 → parseFieldDescriptor (TX7 k).2.2.1 = some (tyX7 k) := by decide +kernel
abbrev cX7_init : ByteArray := prog_9_method_1_code
def yX7_init : MethodName := ⟨RX7, "<init>", "()V"⟩
abbrev cX7_renew : ByteArray := prog_9_method_2_code
def yX7_renew : MethodName := ⟨RX7, "renew", "(II)V"⟩
abbrev cX7_drop : ByteArray := prog_9_method_3_code
def yX7_drop : MethodName := ⟨RX7, "drop", "()V"⟩
abbrev cX7_isHeld : ByteArray := prog_9_method_4_code
def yX7_isHeld : MethodName := ⟨RX7, "isHeld", "()Z"⟩
abbrev cX7_has : ByteArray := prog_9_method_5_code
def yX7_has : MethodName := ⟨RX7, "has", "(I)Z"⟩
abbrev cX7_hasRange : ByteArray := prog_9_method_6_code
def yX7_hasRange : MethodName := ⟨RX7, "hasRange", "(II)Z"⟩
abbrev cX7_at : ByteArray := prog_9_method_7_code
def yX7_at : MethodName := ⟨RX7, "at", "(I)J"⟩
abbrev cX7_intAt : ByteArray := prog_9_method_8_code
def yX7_intAt : MethodName := ⟨RX7, "intAt", "(I)I"⟩
abbrev cX7_put : ByteArray := prog_9_method_9_code
def yX7_put : MethodName := ⟨RX7, "put", "(IJ)V"⟩
abbrev cX7_append : ByteArray := prog_9_method_10_code
def yX7_append : MethodName := ⟨RX7, "append", "(I)V"⟩
abbrev cX7_narrowed : ByteArray := prog_9_method_11_code
def yX7_narrowed : MethodName := ⟨RX7, "narrowed", "(J)J"⟩
def RX8 : String := "BrothersField$Search"
def TX8 : u_T := fun k => match k with
  | 0 => ("BrothersField$Search", "bestCode", "I", false)
  | 1 => ("BrothersField$Search", "fitting", "I", false)
  | 2 => ("BrothersField$Search", "sureFirst", "J", false)
  | 3 => ("BrothersField$Search", "sureSecond", "J", false)
  | 4 => ("BrothersField$Search", "bestOther", "I", false)
  | 5 => ("BrothersField$Search", "bestHedge", "I", false)
  | 6 => ("BrothersField$Search", "count", "I", false)
  | 7 => ("BrothersField$Search", "codes", "[I", true)
  | 8 => ("BrothersField$Search", "firsts", "[J", true)
  | _ => ("BrothersField$Search", "trial", "[J", true)
def tyX8 : Nat → FieldType := fun k => match k with
  | 0 => .int
  | 1 => .int
  | 2 => .long
  | 3 => .long
  | 4 => .int
  | 5 => .int
  | 6 => .int
  | 7 => .array .int
  | 8 => .array .long
  | _ => .array .long
theorem nmX8 : ∀ a, a < 10 → ∀ b, b < 10 → a ≠ b → (TX8 a).2.1 ≠ (TX8 b).2.1 := by decide +kernel
theorem tyX8_ok : ∀ k, k < 10 → parseFieldDescriptor (TX8 k).2.2.1 = some (tyX8 k) := by decide +kernel
abbrev cX8_init : ByteArray := prog_10_method_1_code
def yX8_init : MethodName := ⟨RX8, "<init>", "()V"⟩
abbrev cX8_best : ByteArray := prog_10_method_2_code
def yX8_best : MethodName := ⟨RX8, "best", "(I)I"⟩
abbrev cX8_addCut : ByteArray := prog_10_method_3_code
def yX8_addCut : MethodName := ⟨RX8, "addCut", "(IJ)V"⟩
abbrev cX8_listCuts : ByteArray := prog_10_method_4_code
def yX8_listCuts : MethodName := ⟨RX8, "listCuts", "(LBrothersField$Field;ZZ)V"⟩
abbrev cX8_addBent : ByteArray := prog_10_method_5_code
def yX8_addBent : MethodName := ⟨RX8, "addBent", "(LBrothersField$Field;)V"⟩
abbrev cX8_addFrom : ByteArray := prog_10_method_6_code
def yX8_addFrom : MethodName := ⟨RX8, "addFrom", "(LBrothersField$Field;)V"⟩
abbrev cX8_forget : ByteArray := prog_10_method_7_code
def yX8_forget : MethodName := ⟨RX8, "forget", "(I)V"⟩
abbrev cX8_tryTrial : ByteArray := prog_10_method_8_code
def yX8_tryTrial : MethodName := ⟨RX8, "tryTrial", "(LBrothersField$Field;II)V"⟩
abbrev cX8_findTwo : ByteArray := prog_10_method_9_code
def yX8_findTwo : MethodName := ⟨RX8, "findTwo", "(LBrothersField$Field;)Z"⟩
abbrev cX8_findThree : ByteArray := prog_10_method_10_code
def yX8_findThree : MethodName := ⟨RX8, "findThree", "(LBrothersField$Field;)Z"⟩
abbrev cX8_findFairest : ByteArray := prog_10_method_11_code
def yX8_findFairest : MethodName := ⟨RX8, "findFairest", "(LBrothersField$Field;I)J"⟩
abbrev cX8_findChange : ByteArray := prog_10_method_12_code
def yX8_findChange : MethodName := ⟨RX8, "findChange", "(LBrothersField$Field;)I"⟩
abbrev cX8_mayChange : ByteArray := prog_10_method_13_code
def yX8_mayChange : MethodName := ⟨RX8, "mayChange", "(LBrothersField$Field;II)Z"⟩
abbrev cX8_startFrom : ByteArray := prog_10_method_14_code
def yX8_startFrom : MethodName := ⟨RX8, "startFrom", "([J)V"⟩
abbrev cX8_findFitting : ByteArray := prog_10_method_15_code
def yX8_findFitting : MethodName := ⟨RX8, "findFitting", "(LBrothersField$Field;LBrothersField$Row;)V"⟩
def RX9 : String := "BrothersField$Straight"
def TX9 : u_T := fun k => match k with
  | 0 => ("BrothersField$Cut", "code", "I", true)
  | 1 => ("BrothersField$Cut", "shelf", "I", true)
  | 2 => ("BrothersField$Cut", "a", "I", true)
  | 3 => ("BrothersField$Cut", "b", "I", true)
  | 4 => ("BrothersField$Cut", "c", "I", true)
  | _ => ("BrothersField$Cut", "trace", "LBrothersField$Row;", true)
def tyX9 : Nat → FieldType := fun k => match k with
  | 0 => .int
  | 1 => .int
  | 2 => .int
  | 3 => .int
  | 4 => .int
  | _ => .object "BrothersField$Row"
theorem nmX9 : ∀ a, a < 6 → ∀ b, b < 6 → a ≠ b → (TX9 a).2.1 ≠ (TX9 b).2.1 := by decide +kernel
theorem tyX9_ok : ∀ k, k < 6 → parseFieldDescriptor (TX9 k).2.2.1 = some (tyX9 k) := by decide +kernel
abbrev cX9_init : ByteArray := prog_11_method_1_code
def yX9_init : MethodName := ⟨RX9, "<init>", "(IILBrothersField$Row;)V"⟩
abbrev cX9_isOf : ByteArray := prog_11_method_2_code
def yX9_isOf : MethodName := ⟨RX9, "isOf", "(I)Z"⟩
abbrev cX9_firstIn : ByteArray := prog_11_method_3_code
def yX9_firstIn : MethodName := ⟨RX9, "firstIn", "(LBrothersField$Field;)J"⟩
abbrev cX9_partsBody : ByteArray := prog_11_method_4_code
def yX9_partsBody : MethodName := ⟨RX9, "partsBody", "(I)I"⟩
def RX10 : String := "BrothersField$Told"
def TX10 : u_T := fun k => match k with
  | 0 => ("BrothersField$Cut", "code", "I", true)
  | 1 => ("BrothersField$Cut", "shelf", "I", true)
  | 2 => ("BrothersField$Cut", "a", "I", true)
  | 3 => ("BrothersField$Cut", "b", "I", true)
  | 4 => ("BrothersField$Cut", "c", "I", true)
  | _ => ("BrothersField$Cut", "trace", "LBrothersField$Row;", true)
def tyX10 : Nat → FieldType := fun k => match k with
  | 0 => .int
  | 1 => .int
  | 2 => .int
  | 3 => .int
  | 4 => .int
  | _ => .object "BrothersField$Row"
theorem nmX10 : ∀ a, a < 6 → ∀ b, b < 6 → a ≠ b → (TX10 a).2.1 ≠ (TX10 b).2.1 := by decide +kernel
theorem tyX10_ok : ∀ k, k < 6 → parseFieldDescriptor (TX10 k).2.2.1 = some (tyX10 k) := by decide +kernel
abbrev cX10_init : ByteArray := prog_12_method_1_code
def yX10_init : MethodName := ⟨RX10, "<init>", "(IILBrothersField$Row;)V"⟩
abbrev cX10_isOf : ByteArray := prog_12_method_2_code
def yX10_isOf : MethodName := ⟨RX10, "isOf", "(I)Z"⟩
abbrev cX10_firstIn : ByteArray := prog_12_method_3_code
def yX10_firstIn : MethodName := ⟨RX10, "firstIn", "(LBrothersField$Field;)J"⟩
abbrev cX10_partsBody : ByteArray := prog_12_method_4_code
def yX10_partsBody : MethodName := ⟨RX10, "partsBody", "(I)I"⟩
abbrev cX10_weighsBody : ByteArray := prog_12_method_5_code
def yX10_weighsBody : MethodName := ⟨RX10, "weighsBody", "(I)I"⟩
def RX11 : String := "BrothersField"
def TX11 : u_T := fun k => match k with
  | 0 => ("BrothersField", "heldRows", "[LBrothersField$Row;", true)
  | 1 => ("BrothersField", "heldCuts", "[LBrothersField$Cut;", true)
  | 2 => ("BrothersField", "trace", "LBrothersField$Row;", true)
  | 3 => ("BrothersField", "now", "LBrothersField$Field;", true)
  | 4 => ("BrothersField", "kept", "LBrothersField$Field;", true)
  | 5 => ("BrothersField", "draft", "LBrothersField$Field;", true)
  | 6 => ("BrothersField", "search", "LBrothersField$Search;", true)
  | 7 => ("BrothersField", "laid", "[J", true)
  | 8 => ("BrothersField", "refusals", "[I", true)
  | 9 => ("BrothersField", "imageTaken", "Z", false)
  | _ => ("BrothersField", "textFault", "I", false)
def tyX11 : Nat → FieldType := fun k => match k with
  | 0 => .array (.object "BrothersField$Row")
  | 1 => .array (.object "BrothersField$Cut")
  | 2 => .object "BrothersField$Row"
  | 3 => .object "BrothersField$Field"
  | 4 => .object "BrothersField$Field"
  | 5 => .object "BrothersField$Field"
  | 6 => .object "BrothersField$Search"
  | 7 => .array .long
  | 8 => .array .int
  | 9 => .boolean
  | _ => .int
theorem nmX11 : ∀ a, a < 11 → ∀ b, b < 11 → a ≠ b → (TX11 a).2.1 ≠ (TX11 b).2.1 := by decide +kernel
theorem tyX11_ok : ∀ k, k < 11 → parseFieldDescriptor (TX11 k).2.2.1 = some (tyX11 k) := by decide +kernel
abbrev cX11_init : ByteArray := prog_1_method_1_code
def yX11_init : MethodName := ⟨RX11, "<init>", "()V"⟩
abbrev cX11_row : ByteArray := prog_1_method_2_code
def yX11_row : MethodName := ⟨RX11, "row", "(III)I"⟩
abbrev cX11_set : ByteArray := prog_1_method_3_code
def yX11_set : MethodName := ⟨RX11, "set", "(IIJ)I"⟩
abbrev cX11_copy : ByteArray := prog_1_method_4_code
def yX11_copy : MethodName := ⟨RX11, "copy", "(IIIII)I"⟩
abbrev cX11_element : ByteArray := prog_1_method_5_code
def yX11_element : MethodName := ⟨RX11, "element", "(II)J"⟩
abbrev cX11_cut : ByteArray := prog_1_method_6_code
def yX11_cut : MethodName := ⟨RX11, "cut", "(II)I"⟩
abbrev cX11_holds : ByteArray := prog_1_method_7_code
def yX11_holds : MethodName := ⟨RX11, "holds", "(I)I"⟩
abbrev cX11_says : ByteArray := prog_1_method_8_code
def yX11_says : MethodName := ⟨RX11, "says", "(II)I"⟩
abbrev cX11_side : ByteArray := prog_1_method_9_code
def yX11_side : MethodName := ⟨RX11, "side", "(II)J"⟩
abbrev cX11_field : ByteArray := prog_1_method_10_code
def yX11_field : MethodName := ⟨RX11, "field", "(I)I"⟩
abbrev cX11_fault : ByteArray := prog_1_method_11_code
def yX11_fault : MethodName := ⟨RX11, "fault", "()I"⟩
abbrev cX11_size : ByteArray := prog_1_method_12_code
def yX11_size : MethodName := ⟨RX11, "size", "(II)I"⟩
abbrev cX11_soil : ByteArray := prog_1_method_13_code
def yX11_soil : MethodName := ⟨RX11, "soil", "(II)I"⟩
abbrev cX11_place : ByteArray := prog_1_method_14_code
def yX11_place : MethodName := ⟨RX11, "place", "(II)I"⟩
abbrev cX11_heir : ByteArray := prog_1_method_15_code
def yX11_heir : MethodName := ⟨RX11, "heir", "(I)I"⟩
abbrev cX11_worths : ByteArray := prog_1_method_16_code
def yX11_worths : MethodName := ⟨RX11, "worths", "(III)I"⟩
abbrev cX11_fond : ByteArray := prog_1_method_17_code
def yX11_fond : MethodName := ⟨RX11, "fond", "(IZ)I"⟩
abbrev cX11_heirOf : ByteArray := prog_1_method_18_code
def yX11_heirOf : MethodName := ⟨RX11, "heirOf", "(II)I"⟩
abbrev cX11_worth : ByteArray := prog_1_method_19_code
def yX11_worth : MethodName := ⟨RX11, "worth", "(IJ)I"⟩
abbrev cX11_owner : ByteArray := prog_1_method_20_code
def yX11_owner : MethodName := ⟨RX11, "owner", "(I)I"⟩
abbrev cX11_own : ByteArray := prog_1_method_21_code
def yX11_own : MethodName := ⟨RX11, "own", "(JI)I"⟩
abbrev cX11_lay : ByteArray := prog_1_method_22_code
def yX11_lay : MethodName := ⟨RX11, "lay", "(III)I"⟩
abbrev cX11_owners : ByteArray := prog_1_method_23_code
def yX11_owners : MethodName := ⟨RX11, "owners", "(I)I"⟩
abbrev cX11_piece : ByteArray := prog_1_method_24_code
def yX11_piece : MethodName := ⟨RX11, "piece", "(I)J"⟩
abbrev cX11_hedge : ByteArray := prog_1_method_25_code
def yX11_hedge : MethodName := ⟨RX11, "hedge", "()I"⟩
abbrev cX11_faulty : ByteArray := prog_1_method_26_code
def yX11_faulty : MethodName := ⟨RX11, "faulty", "()I"⟩
abbrev cX11_whose : ByteArray := prog_1_method_27_code
def yX11_whose : MethodName := ⟨RX11, "whose", "()I"⟩
abbrev cX11_parts : ByteArray := prog_1_method_28_code
def yX11_parts : MethodName := ⟨RX11, "parts", "(J)I"⟩
abbrev cX11_two : ByteArray := prog_1_method_29_code
def yX11_two : MethodName := ⟨RX11, "two", "(I)I"⟩
abbrev cX11_three : ByteArray := prog_1_method_30_code
def yX11_three : MethodName := ⟨RX11, "three", "(I)I"⟩
abbrev cX11_choose : ByteArray := prog_1_method_31_code
def yX11_choose : MethodName := ⟨RX11, "choose", "(III)I"⟩
abbrev cX11_envies : ByteArray := prog_1_method_32_code
def yX11_envies : MethodName := ⟨RX11, "envies", "(I)I"⟩
abbrev cX11_evens : ByteArray := prog_1_method_33_code
def yX11_evens : MethodName := ⟨RX11, "evens", "(I)I"⟩
abbrev cX11_better : ByteArray := prog_1_method_34_code
def yX11_better : MethodName := ⟨RX11, "better", "()I"⟩
abbrev cX11_mend : ByteArray := prog_1_method_35_code
def yX11_mend : MethodName := ⟨RX11, "mend", "(I)I"⟩
abbrev cX11_fits : ByteArray := prog_1_method_36_code
def yX11_fits : MethodName := ⟨RX11, "fits", "(II)I"⟩
abbrev cX11_old : ByteArray := prog_1_method_37_code
def yX11_old : MethodName := ⟨RX11, "old", "(I)I"⟩
abbrev cX11_sure : ByteArray := prog_1_method_38_code
def yX11_sure : MethodName := ⟨RX11, "sure", "(II)J"⟩
abbrev cX11_judge : ByteArray := prog_1_method_39_code
def yX11_judge : MethodName := ⟨RX11, "judge", "(I)I"⟩
abbrev cX11_act : ByteArray := prog_1_method_40_code
def yX11_act : MethodName := ⟨RX11, "act", "(III)I"⟩
abbrev cX11_trace : ByteArray := prog_1_method_41_code
def yX11_trace : MethodName := ⟨RX11, "trace", "(I)I"⟩
abbrev cX11_image : ByteArray := prog_1_method_42_code
def yX11_image : MethodName := ⟨RX11, "image", "()I"⟩
abbrev cX11_restore : ByteArray := prog_1_method_43_code
def yX11_restore : MethodName := ⟨RX11, "restore", "()I"⟩
abbrev cX11_status : ByteArray := prog_1_method_44_code
def yX11_status : MethodName := ⟨RX11, "status", "(I)I"⟩
abbrev cX11_refuse : ByteArray := prog_1_method_45_code
def yX11_refuse : MethodName := ⟨RX11, "refuse", "(I)I"⟩
abbrev cX11_refuseAs : ByteArray := prog_1_method_46_code
def yX11_refuseAs : MethodName := ⟨RX11, "refuseAs", "(II)I"⟩
abbrev cX11_earlier : ByteArray := prog_1_method_47_code
def yX11_earlier : MethodName := ⟨RX11, "earlier", "(II)I"⟩
abbrev cX11_isShelf : ByteArray := prog_1_method_48_code
def yX11_isShelf : MethodName := ⟨RX11, "isShelf", "(I)Z"⟩
abbrev cX11_noRow : ByteArray := prog_1_method_49_code
def yX11_noRow : MethodName := ⟨RX11, "noRow", "(I)I"⟩
abbrev cX11_noCut : ByteArray := prog_1_method_50_code
def yX11_noCut : MethodName := ⟨RX11, "noCut", "(I)I"⟩
abbrev cX11_hasCutNumbers : ByteArray := prog_1_method_51_code
def yX11_hasCutNumbers : MethodName := ⟨RX11, "hasCutNumbers", "(I)Z"⟩
abbrev cX11_newCut : ByteArray := prog_1_method_52_code
def yX11_newCut : MethodName := ⟨RX11, "newCut", "(II)LBrothersField$Cut;"⟩
abbrev cX11_sideOf : ByteArray := prog_1_method_53_code
def yX11_sideOf : MethodName := ⟨RX11, "sideOf", "(LBrothersField$Cut;I)J"⟩
abbrev cX11_toldAs : ByteArray := prog_1_method_54_code
def yX11_toldAs : MethodName := ⟨RX11, "toldAs", "(LBrothersField$Cut;I)I"⟩
abbrev cX11_mayStand : ByteArray := prog_1_method_55_code
def yX11_mayStand : MethodName := ⟨RX11, "mayStand", "(II)Z"⟩
def RX12 : String := "BrothersFieldModel"
def TX12 : u_T := fun k => match k with
  | 0 => ("BrothersFieldModel", "w", "I", false)
  | 1 => ("BrothersFieldModel", "h", "I", false)
  | 2 => ("BrothersFieldModel", "road", "I", false)
  | 3 => ("BrothersFieldModel", "well", "I", false)
  | 4 => ("BrothersFieldModel", "oak", "I", false)
  | 5 => ("BrothersFieldModel", "small", "I", false)
  | 6 => ("BrothersFieldModel", "heirs", "I", false)
  | 7 => ("BrothersFieldModel", "fault", "I", false)
  | 8 => ("BrothersFieldModel", "refused", "[I", true)
  | 9 => ("BrothersFieldModel", "soil", "[I", true)
  | 10 => ("BrothersFieldModel", "owner", "[I", true)
  | 11 => ("BrothersFieldModel", "share", "[I", true)
  | 12 => ("BrothersFieldModel", "fond", "[I", true)
  | 13 => ("BrothersFieldModel", "value", "[I", true)
  | 14 => ("BrothersFieldModel", "held", "[I", true)
  | 15 => ("BrothersFieldModel", "sort", "[I", true)
  | 16 => ("BrothersFieldModel", "size", "[I", true)
  | 17 => ("BrothersFieldModel", "code", "[I", true)
  | 18 => ("BrothersFieldModel", "cells", "[J", true)
  | 19 => ("BrothersFieldModel", "carried", "[J", true)
  | 20 => ("BrothersFieldModel", "words", "[I", true)
  | 21 => ("BrothersFieldModel", "base", "I", false)
  | 22 => ("BrothersFieldModel", "at", "I", false)
  | 23 => ("BrothersFieldModel", "end", "I", false)
  | 24 => ("BrothersFieldModel", "told", "I", false)
  | 25 => ("BrothersFieldModel", "wrongAt", "I", false)
  | 26 => ("BrothersFieldModel", "was", "[I", true)
  | 27 => ("BrothersFieldModel", "kept", "[I", true)
  | 28 => ("BrothersFieldModel", "culprit", "I", false)
  | 29 => ("BrothersFieldModel", "codes", "[I", true)
  | 30 => ("BrothersFieldModel", "spare", "[I", true)
  | 31 => ("BrothersFieldModel", "cuts", "I", false)
  | 32 => ("BrothersFieldModel", "one", "I", false)
  | 33 => ("BrothersFieldModel", "other", "I", false)
  | 34 => ("BrothersFieldModel", "least", "I", false)
  | 35 => ("BrothersFieldModel", "trace", "[I", true)
  | 36 => ("BrothersFieldModel", "ran", "I", false)
  | _ => ("BrothersFieldModel", "isKept", "Z", false)
def tyX12 : Nat → FieldType := fun k => match k with
  | 0 => .int
  | 1 => .int
  | 2 => .int
  | 3 => .int
  | 4 => .int
  | 5 => .int
  | 6 => .int
  | 7 => .int
  | 8 => .array .int
  | 9 => .array .int
  | 10 => .array .int
  | 11 => .array .int
  | 12 => .array .int
  | 13 => .array .int
  | 14 => .array .int
  | 15 => .array .int
  | 16 => .array .int
  | 17 => .array .int
  | 18 => .array .long
  | 19 => .array .long
  | 20 => .array .int
  | 21 => .int
  | 22 => .int
  | 23 => .int
  | 24 => .int
  | 25 => .int
  | 26 => .array .int
  | 27 => .array .int
  | 28 => .int
  | 29 => .array .int
  | 30 => .array .int
  | 31 => .int
  | 32 => .int
  | 33 => .int
  | 34 => .int
  | 35 => .array .int
  | 36 => .int
  | _ => .boolean
theorem nmX12 : ∀ a, a < 38 → ∀ b, b < 38 → a ≠ b → (TX12 a).2.1 ≠ (TX12 b).2.1 := by decide +kernel
theorem tyX12_ok : ∀ k, k < 38 → parseFieldDescriptor (TX12 k).2.2.1 = some (tyX12 k) := by decide +kernel
abbrev cX12_init : ByteArray := prog_14_method_1_code
def yX12_init : MethodName := ⟨RX12, "<init>", "()V"⟩
abbrev cX12_no : ByteArray := prog_14_method_2_code
def yX12_no : MethodName := ⟨RX12, "no", "(I)I"⟩
abbrev cX12_noTen : ByteArray := prog_14_method_3_code
def yX12_noTen : MethodName := ⟨RX12, "noTen", "(I)I"⟩
abbrev cX12_isShelf : ByteArray := prog_14_method_4_code
def yX12_isShelf : MethodName := ⟨RX12, "isShelf", "(I)Z"⟩
abbrev cX12_isSquare : ByteArray := prog_14_method_5_code
def yX12_isSquare : MethodName := ⟨RX12, "isSquare", "(I)Z"⟩
abbrev cX12_isHeir : ByteArray := prog_14_method_6_code
def yX12_isHeir : MethodName := ⟨RX12, "isHeir", "(I)Z"⟩
abbrev cX12_all : ByteArray := prog_14_method_7_code
def yX12_all : MethodName := ⟨RX12, "all", "()J"⟩
abbrev cX12_isSet : ByteArray := prog_14_method_8_code
def yX12_isSet : MethodName := ⟨RX12, "isSet", "(J)Z"⟩
abbrev cX12_many : ByteArray := prog_14_method_9_code
def yX12_many : MethodName := ⟨RX12, "many", "(J)I"⟩
abbrev cX12_has : ByteArray := prog_14_method_10_code
def yX12_has : MethodName := ⟨RX12, "has", "(JI)Z"⟩
abbrev cX12_row : ByteArray := prog_14_method_11_code
def yX12_row : MethodName := ⟨RX12, "row", "(III)I"⟩
abbrev cX12_set : ByteArray := prog_14_method_12_code
def yX12_set : MethodName := ⟨RX12, "set", "(IIJ)I"⟩
abbrev cX12_copy : ByteArray := prog_14_method_13_code
def yX12_copy : MethodName := ⟨RX12, "copy", "(IIIII)I"⟩
abbrev cX12_element : ByteArray := prog_14_method_14_code
def yX12_element : MethodName := ⟨RX12, "element", "(II)J"⟩
abbrev cX12_cut : ByteArray := prog_14_method_15_code
def yX12_cut : MethodName := ⟨RX12, "cut", "(II)I"⟩
abbrev cX12_holds : ByteArray := prog_14_method_16_code
def yX12_holds : MethodName := ⟨RX12, "holds", "(I)I"⟩
abbrev cX12_wants : ByteArray := prog_14_method_17_code
def yX12_wants : MethodName := ⟨RX12, "wants", "(II)I"⟩
abbrev cX12_intAt : ByteArray := prog_14_method_18_code
def yX12_intAt : MethodName := ⟨RX12, "intAt", "(II)I"⟩
abbrev cX12_isFirst : ByteArray := prog_14_method_19_code
def yX12_isFirst : MethodName := ⟨RX12, "isFirst", "(II)Z"⟩
abbrev cX12_sideOf : ByteArray := prog_14_method_20_code
def yX12_sideOf : MethodName := ⟨RX12, "sideOf", "(II)J"⟩
abbrev cX12_side : ByteArray := prog_14_method_21_code
def yX12_side : MethodName := ⟨RX12, "side", "(II)J"⟩
abbrev cX12_says : ByteArray := prog_14_method_22_code
def yX12_says : MethodName := ⟨RX12, "says", "(II)I"⟩
abbrev cX12_sizes : ByteArray := prog_14_method_23_code
def yX12_sizes : MethodName := ⟨RX12, "sizes", "(II)V"⟩
abbrev cX12_comes : ByteArray := prog_14_method_24_code
def yX12_comes : MethodName := ⟨RX12, "comes", "(I)I"⟩
abbrev cX12_wrong : ByteArray := prog_14_method_25_code
def yX12_wrong : MethodName := ⟨RX12, "wrong", "(I)Z"⟩
abbrev cX12_word : ByteArray := prog_14_method_26_code
def yX12_word : MethodName := ⟨RX12, "word", "()I"⟩
abbrev cX12_isDigit : ByteArray := prog_14_method_27_code
def yX12_isDigit : MethodName := ⟨RX12, "isDigit", "()Z"⟩
abbrev cX12_number : ByteArray := prog_14_method_28_code
def yX12_number : MethodName := ⟨RX12, "number", "(II)Z"⟩
abbrev cX12_next : ByteArray := prog_14_method_29_code
def yX12_next : MethodName := ⟨RX12, "next", "(II)Z"⟩
abbrev cX12_isWordFull : ByteArray := prog_14_method_30_code
def yX12_isWordFull : MethodName := ⟨RX12, "isWordFull", "(I)Z"⟩
abbrev cX12_isWordAt : ByteArray := prog_14_method_31_code
def yX12_isWordAt : MethodName := ⟨RX12, "isWordAt", "(I)Z"⟩
abbrev cX12_item : ByteArray := prog_14_method_32_code
def yX12_item : MethodName := ⟨RX12, "item", "()Z"⟩
abbrev cX12_keeps : ByteArray := prog_14_method_33_code
def yX12_keeps : MethodName := ⟨RX12, "keeps", "([II[IIZ)I"⟩
abbrev cX12_all_ : ByteArray := prog_14_method_34_code
def yX12_all_ : MethodName := ⟨RX12, "all", "([IZ)V"⟩
abbrev cX12_field : ByteArray := prog_14_method_35_code
def yX12_field : MethodName := ⟨RX12, "field", "(I)I"⟩
abbrev cX12_fault : ByteArray := prog_14_method_36_code
def yX12_fault : MethodName := ⟨RX12, "fault", "()I"⟩
abbrev cX12_size : ByteArray := prog_14_method_37_code
def yX12_size : MethodName := ⟨RX12, "size", "(II)I"⟩
abbrev cX12_soil : ByteArray := prog_14_method_38_code
def yX12_soil : MethodName := ⟨RX12, "soil", "(II)I"⟩
abbrev cX12_place : ByteArray := prog_14_method_39_code
def yX12_place : MethodName := ⟨RX12, "place", "(II)I"⟩
abbrev cX12_heir : ByteArray := prog_14_method_40_code
def yX12_heir : MethodName := ⟨RX12, "heir", "(I)I"⟩
abbrev cX12_worths : ByteArray := prog_14_method_41_code
def yX12_worths : MethodName := ⟨RX12, "worths", "(III)I"⟩
abbrev cX12_fond : ByteArray := prog_14_method_42_code
def yX12_fond : MethodName := ⟨RX12, "fond", "(IZ)I"⟩
abbrev cX12_heirOf : ByteArray := prog_14_method_43_code
def yX12_heirOf : MethodName := ⟨RX12, "heirOf", "(II)I"⟩
abbrev cX12_worthOf : ByteArray := prog_14_method_44_code
def yX12_worthOf : MethodName := ⟨RX12, "worthOf", "(IJ)I"⟩
abbrev cX12_worth : ByteArray := prog_14_method_45_code
def yX12_worth : MethodName := ⟨RX12, "worth", "(IJ)I"⟩
abbrev cX12_pieceOf : ByteArray := prog_14_method_46_code
def yX12_pieceOf : MethodName := ⟨RX12, "pieceOf", "(I)J"⟩
abbrev cX12_isOwner : ByteArray := prog_14_method_47_code
def yX12_isOwner : MethodName := ⟨RX12, "isOwner", "(I)Z"⟩
abbrev cX12_owner : ByteArray := prog_14_method_48_code
def yX12_owner : MethodName := ⟨RX12, "owner", "(I)I"⟩
abbrev cX12_own : ByteArray := prog_14_method_49_code
def yX12_own : MethodName := ⟨RX12, "own", "(JI)I"⟩
abbrev cX12_lay : ByteArray := prog_14_method_50_code
def yX12_lay : MethodName := ⟨RX12, "lay", "(III)I"⟩
abbrev cX12_owners : ByteArray := prog_14_method_51_code
def yX12_owners : MethodName := ⟨RX12, "owners", "(I)I"⟩
abbrev cX12_piece : ByteArray := prog_14_method_52_code
def yX12_piece : MethodName := ⟨RX12, "piece", "(I)J"⟩
abbrev cX12_hedgeOf : ByteArray := prog_14_method_53_code
def yX12_hedgeOf : MethodName := ⟨RX12, "hedgeOf", "()I"⟩
abbrev cX12_hedge : ByteArray := prog_14_method_54_code
def yX12_hedge : MethodName := ⟨RX12, "hedge", "()I"⟩
abbrev cX12_beside : ByteArray := prog_14_method_55_code
def yX12_beside : MethodName := ⟨RX12, "beside", "(J)J"⟩
abbrev cX12_grown : ByteArray := prog_14_method_56_code
def yX12_grown : MethodName := ⟨RX12, "grown", "(JJ)J"⟩
abbrev cX12_partsOf : ByteArray := prog_14_method_57_code
def yX12_partsOf : MethodName := ⟨RX12, "partsOf", "(J)I"⟩
abbrev cX12_parts : ByteArray := prog_14_method_58_code
def yX12_parts : MethodName := ⟨RX12, "parts", "(J)I"⟩
abbrev cX12_atRoad : ByteArray := prog_14_method_59_code
def yX12_atRoad : MethodName := ⟨RX12, "atRoad", "()J"⟩
abbrev cX12_faultyNow : ByteArray := prog_14_method_60_code
def yX12_faultyNow : MethodName := ⟨RX12, "faultyNow", "()I"⟩
abbrev cX12_shares : ByteArray := prog_14_method_61_code
def yX12_shares : MethodName := ⟨RX12, "shares", "()I"⟩
abbrev cX12_faulty : ByteArray := prog_14_method_62_code
def yX12_faulty : MethodName := ⟨RX12, "faulty", "()I"⟩
abbrev cX12_whose : ByteArray := prog_14_method_63_code
def yX12_whose : MethodName := ⟨RX12, "whose", "()I"⟩
abbrev cX12_lists : ByteArray := prog_14_method_64_code
def yX12_lists : MethodName := ⟨RX12, "lists", "(IZ)V"⟩
abbrev cX12_lists_ : ByteArray := prog_14_method_65_code
def yX12_lists_ : MethodName := ⟨RX12, "lists", "(I)V"⟩
abbrev cX12_spares : ByteArray := prog_14_method_66_code
def yX12_spares : MethodName := ⟨RX12, "spares", "(Z)V"⟩
abbrev cX12_tries : ByteArray := prog_14_method_67_code
def yX12_tries : MethodName := ⟨RX12, "tries", "(II)V"⟩
abbrev cX12_two : ByteArray := prog_14_method_68_code
def yX12_two : MethodName := ⟨RX12, "two", "(I)I"⟩
abbrev cX12_three : ByteArray := prog_14_method_69_code
def yX12_three : MethodName := ⟨RX12, "three", "(I)I"⟩
abbrev cX12_choose : ByteArray := prog_14_method_70_code
def yX12_choose : MethodName := ⟨RX12, "choose", "(III)I"⟩
abbrev cX12_envies : ByteArray := prog_14_method_71_code
def yX12_envies : MethodName := ⟨RX12, "envies", "(I)I"⟩
abbrev cX12_evens : ByteArray := prog_14_method_72_code
def yX12_evens : MethodName := ⟨RX12, "evens", "(I)I"⟩
abbrev cX12_bettered : ByteArray := prog_14_method_73_code
def yX12_bettered : MethodName := ⟨RX12, "bettered", "()I"⟩
abbrev cX12_better : ByteArray := prog_14_method_74_code
def yX12_better : MethodName := ⟨RX12, "better", "()I"⟩
abbrev cX12_mend : ByteArray := prog_14_method_75_code
def yX12_mend : MethodName := ⟨RX12, "mend", "(I)I"⟩
abbrev cX12_isFit : ByteArray := prog_14_method_76_code
def yX12_isFit : MethodName := ⟨RX12, "isFit", "(II)Z"⟩
abbrev cX12_fits : ByteArray := prog_14_method_77_code
def yX12_fits : MethodName := ⟨RX12, "fits", "(II)I"⟩
abbrev cX12_old : ByteArray := prog_14_method_78_code
def yX12_old : MethodName := ⟨RX12, "old", "(I)I"⟩
abbrev cX12_sure : ByteArray := prog_14_method_79_code
def yX12_sure : MethodName := ⟨RX12, "sure", "(II)J"⟩
abbrev cX12_judge : ByteArray := prog_14_method_80_code
def yX12_judge : MethodName := ⟨RX12, "judge", "(I)I"⟩
abbrev cX12_body : ByteArray := prog_14_method_81_code
def yX12_body : MethodName := ⟨RX12, "body", "(I)V"⟩
abbrev cX12_parting : ByteArray := prog_14_method_82_code
def yX12_parting : MethodName := ⟨RX12, "parting", "(II)I"⟩
abbrev cX12_weighing : ByteArray := prog_14_method_83_code
def yX12_weighing : MethodName := ⟨RX12, "weighing", "(II)I"⟩
abbrev cX12_hedging : ByteArray := prog_14_method_84_code
def yX12_hedging : MethodName := ⟨RX12, "hedging", "(II)I"⟩
abbrev cX12_act : ByteArray := prog_14_method_85_code
def yX12_act : MethodName := ⟨RX12, "act", "(III)I"⟩
abbrev cX12_trace : ByteArray := prog_14_method_86_code
def yX12_trace : MethodName := ⟨RX12, "trace", "(I)I"⟩
abbrev cX12_image : ByteArray := prog_14_method_87_code
def yX12_image : MethodName := ⟨RX12, "image", "()I"⟩
abbrev cX12_restore : ByteArray := prog_14_method_88_code
def yX12_restore : MethodName := ⟨RX12, "restore", "()I"⟩
abbrev cX12_status : ByteArray := prog_14_method_89_code
def yX12_status : MethodName := ⟨RX12, "status", "(I)I"⟩
def RJ13 : String := "java/lang/Long"
def TJ13 : u_T := fun k => match k with
  | _ => ("", "", "", false)
def tyJ13 : Nat → FieldType := fun k => match k with
  | _ => .int
theorem nmJ13 : ∀ a, a < 0 → ∀ b, b < 0 → a ≠ b → (TJ13 a).2.1 ≠ (TJ13 b).2.1 := by decide +kernel
theorem tyJ13_ok : ∀ k, k < 0 → parseFieldDescriptor (TJ13 k).2.2.1 = some (tyJ13 k) := by decide +kernel
abbrev cJ13_bitCount_95d88 : ByteArray := prog_15_method_50_code
def yJ13_bitCount_95d88 : MethodName := ⟨RJ13, "bitCount", "(J)I"⟩
def RJ9 : String := "java/lang/Math"
def TJ9 : u_T := fun k => match k with
  | _ => ("", "", "", false)
def tyJ9 : Nat → FieldType := fun k => match k with
  | _ => .int
theorem nmJ9 : ∀ a, a < 0 → ∀ b, b < 0 → a ≠ b → (TJ9 a).2.1 ≠ (TJ9 b).2.1 := by decide +kernel
theorem tyJ9_ok : ∀ k, k < 0 → parseFieldDescriptor (TJ9 k).2.2.1 = some (tyJ9 k) := by decide +kernel
abbrev cJ9_abs_0f7a4 : ByteArray := prog_16_method_59_code
def yJ9_abs_0f7a4 : MethodName := ⟨RJ9, "abs", "(I)I"⟩
abbrev cJ9_max_7cf53 : ByteArray := prog_16_method_65_code
def yJ9_max_7cf53 : MethodName := ⟨RJ9, "max", "(II)I"⟩
abbrev cJ9_min_7cf53 : ByteArray := prog_16_method_69_code
def yJ9_min_7cf53 : MethodName := ⟨RJ9, "min", "(II)I"⟩
def RJ0 : String := "java/lang/String"
def TJ0 : u_T := fun k => match k with
  | _ => ("", "", "", false)
def tyJ0 : Nat → FieldType := fun k => match k with
  | _ => .int
theorem nmJ0 : ∀ a, a < 0 → ∀ b, b < 0 → a ≠ b → (TJ0 a).2.1 ≠ (TJ0 b).2.1 := by decide +kernel
theorem tyJ0_ok : ∀ k, k < 0 → parseFieldDescriptor (TJ0 k).2.2.1 = some (tyJ0 k) := by decide +kernel
abbrev cJ0_length_8abf5 : ByteArray := prog_17_method_54_code
def yJ0_length_8abf5 : MethodName := ⟨RJ0, "length", "()I"⟩
abbrev cJ0_charAt_5068e : ByteArray := prog_17_method_56_code
def yJ0_charAt_5068e : MethodName := ⟨RJ0, "charAt", "(I)C"⟩
abbrev cJ0_coder_7d493 : ByteArray := prog_17_method_152_code
def yJ0_coder_7d493 : MethodName := ⟨RJ0, "coder", "()B"⟩
abbrev cJ0_isLatin1_aae02 : ByteArray := prog_17_method_154_code
def yJ0_isLatin1_aae02 : MethodName := ⟨RJ0, "isLatin1", "()Z"⟩
abbrev cJ0_checkIndex_df160 : ByteArray := prog_17_method_155_code
def yJ0_checkIndex_df160 : MethodName := ⟨RJ0, "checkIndex", "(II)V"⟩
def RJ1 : String := "java/lang/StringLatin1"
def TJ1 : u_T := fun k => match k with
  | _ => ("", "", "", false)
def tyJ1 : Nat → FieldType := fun k => match k with
  | _ => .int
theorem nmJ1 : ∀ a, a < 0 → ∀ b, b < 0 → a ≠ b → (TJ1 a).2.1 ≠ (TJ1 b).2.1 := by decide +kernel
theorem tyJ1_ok : ∀ k, k < 0 → parseFieldDescriptor (TJ1 k).2.2.1 = some (tyJ1 k) := by decide +kernel
abbrev cJ1_charAt_3b067 : ByteArray := prog_18_method_2_code
def yJ1_charAt_3b067 : MethodName := ⟨RJ1, "charAt", "([BI)C"⟩
def RJ2 : String := "java/lang/StringUTF16"
def TJ2 : u_T := fun k => match k with
  | _ => ("", "", "", false)
def tyJ2 : Nat → FieldType := fun k => match k with
  | _ => .int
theorem nmJ2 : ∀ a, a < 0 → ∀ b, b < 0 → a ≠ b → (TJ2 a).2.1 ≠ (TJ2 b).2.1 := by decide +kernel
theorem tyJ2_ok : ∀ k, k < 0 → parseFieldDescriptor (TJ2 k).2.2.1 = some (tyJ2 k) := by decide +kernel
abbrev cJ2_getChar_3b067 : ByteArray := prog_19_method_5_code
def yJ2_getChar_3b067 : MethodName := ⟨RJ2, "getChar", "([BI)C"⟩
abbrev cJ2_length_9d52b : ByteArray := prog_19_method_6_code
def yJ2_length_9d52b : MethodName := ⟨RJ2, "length", "([B)I"⟩
abbrev cJ2_charAt_3b067 : ByteArray := prog_19_method_83_code
def yJ2_charAt_3b067 : MethodName := ⟨RJ2, "charAt", "([BI)C"⟩
abbrev cJ2_checkIndex_2214a : ByteArray := prog_19_method_91_code
def yJ2_checkIndex_2214a : MethodName := ⟨RJ2, "checkIndex", "(I[B)V"⟩
def RJ10 : String := "java/lang/System"
def TJ10 : u_T := fun k => match k with
  | _ => ("", "", "", false)
def tyJ10 : Nat → FieldType := fun k => match k with
  | _ => .int
theorem nmJ10 : ∀ a, a < 0 → ∀ b, b < 0 → a ≠ b → (TJ10 a).2.1 ≠ (TJ10 b).2.1 := by decide +kernel
theorem tyJ10_ok : ∀ k, k < 0 → parseFieldDescriptor (TJ10 k).2.2.1 = some (tyJ10 k) := by decide +kernel
def RJ3 : String := "jdk/internal/util/Preconditions"
def TJ3 : u_T := fun k => match k with
  | _ => ("", "", "", false)
def tyJ3 : Nat → FieldType := fun k => match k with
  | _ => .int
theorem nmJ3 : ∀ a, a < 0 → ∀ b, b < 0 → a ≠ b → (TJ3 a).2.1 ≠ (TJ3 b).2.1 := by decide +kernel
theorem tyJ3_ok : ∀ k, k < 0 → parseFieldDescriptor (TJ3 k).2.2.1 = some (tyJ3 k) := by decide +kernel
abbrev cJ3_checkIndex_8e157 : ByteArray := prog_21_method_11_code
def yJ3_checkIndex_8e157 : MethodName := ⟨RJ3, "checkIndex", "(IILjava/util/function/BiFunction;)I"⟩
def RL : String := "BrothersFieldLaw"
abbrev cL_law : ByteArray := code
def yL_law : MethodName := ⟨RL, "law", "([I)Z"⟩
abbrev vwCl : List vw_C := [(RX0, TX0, 6), (RX1, TX1, 6), (RX2, TX2, 6), (RX3, TX3, 17), (RX4, TX4, 6), (RX5, TX5, 6), (RX6, TX6, 4), (RX7, TX7, 3), (RX8, TX8, 10), (RX9, TX9, 6), (RX10, TX10, 6), (RX11, TX11, 11), (RX12, TX12, 38)]
end
section
/-! ===== THE SIMPLE MACHINE: a run of the bytecode over cells that are known by their places ===== -/
abbrev sHp : Type := List va_E
abbrev sLo : Type := List (Option Value)
def sLen : Instr → Nat
  | .aload _ => 2
  | .iload _ => 2
  | .lload _ => 2
  | .istore _ => 2
  | .lstore _ => 2
  | .astore _ => 2
  | .bipush _ => 2
  | .ldc _ => 2
  | .newarray _ => 2
  | .sipush _ => 3
  | .getfield _ => 3
  | .putfield _ => 3
  | .goto _ => 3
  | .if_icmp _ _ => 3
  | .ifCond _ _ => 3
  | .iinc _ _ => 3
  | .invokevirtual _ => 3
  | .invokestatic _ => 3
  | .invokespecial _ => 3
  | .ldc2_w _ => 3
  | .ldc_w _ => 3
  | .new _ => 3
  | .anewarray _ => 3
  | .ifnull _ => 3
  | .ifnonnull _ => 3
  | .getstatic _ => 3
  | .multianewarray _ _ => 4
  | _ => 1
/-- stack shapes -/
def s2i (f : Int32 → Int32 → Option Value) (st : List Value) : Option (List Value) := match st with
  | .int y :: .int x :: r => (f x y).map (fun v => v :: r)
  | _ => none
def s2l (f : Int64 → Int64 → Option Value) (st : List Value) : Option (List Value) := match st with
  | .long y :: .long x :: r => (f x y).map (fun v => v :: r)
  | _ => none
def sil (f : Int64 → Int32 → Option Value) (st : List Value) : Option (List Value) := match st with
  | .int y :: .long x :: r => (f x y).map (fun v => v :: r)
  | _ => none
def s1i (f : Int32 → Value) (st : List Value) : Option (List Value) := match st with
  | .int x :: r => some (f x :: r)
  | _ => none
def s1l (f : Int64 → Value) (st : List Value) : Option (List Value) := match st with
  | .long x :: r => some (f x :: r)
  | _ => none
def sPure (ins : Instr) (st : List Value) : Option (List Value) := match ins with
  | .iconst n => some (.int (Int32.ofInt n) :: st)
  | .bipush n => some (.int (Int8.ofInt n).toInt32 :: st)
  | .sipush n => some (.int (Int16.ofInt n).toInt32 :: st)
  | .lconst n => some (.long (Int64.ofNat (n : Nat)) :: st)
  | .aconst_null => some (.null :: st)
  | .iadd => s2i (fun x y => some (.int (x + y))) st
  | .isub => s2i (fun x y => some (.int (x - y))) st
  | .imul => s2i (fun x y => some (.int (x * y))) st
  | .iand => s2i (fun x y => some (.int (x &&& y))) st
  | .ior => s2i (fun x y => some (.int (x ||| y))) st
  | .ixor => s2i (fun x y => some (.int (x ^^^ y))) st
  | .idiv => s2i (fun x y => if y = 0 then none else some (.int (x / y))) st
  | .irem => s2i (fun x y => if y = 0 then none else some (.int (x - x / y * y))) st
  | .ineg => s1i (fun x => .int (-x)) st
  | .ishl => s2i (fun x y => some (.int (x <<< (y &&& 31)))) st
  | .ishr => s2i (fun x y => some (.int (x >>> (y &&& 31)))) st
  | .ladd => s2l (fun x y => some (.long (x + y))) st
  | .lsub => s2l (fun x y => some (.long (x - y))) st
  | .land => s2l (fun x y => some (.long (x &&& y))) st
  | .lor => s2l (fun x y => some (.long (x ||| y))) st
  | .lxor => s2l (fun x y => some (.long (x ^^^ y))) st
  | .lneg => s1l (fun x => .long (-x)) st
  | .lshl => sil (fun x y => some (.long (x <<< (y.toInt64 &&& 63)))) st
  | .lshr => sil (fun x y => some (.long (x >>> (y.toInt64 &&& 63)))) st
  | .lushr => sil (fun x y => some (.long (x.toUInt64 >>> (y.toInt64.toUInt64 &&& Int64.toUInt64 63)).toInt64)) st
  | .lcmp => s2l (fun x y => some (.int (lg_cmp x y))) st
  | .i2l => s1i (fun x => .long x.toInt64) st
  | .l2i => s1l (fun x => .int x.toInt32) st
  | .i2b => s1i (fun x => .int x.toInt8.toInt32) st
  | .i2s => s1i (fun x => .int x.toInt16.toInt32) st
  | .i2c => s1i (fun x => .int (x.toUInt32 % 65536).toInt32) st
  | .dup => (match st with
    | a :: r => if a.category = 1 then some (a :: a :: r) else none
    | _ => none)
  | .dup_x1 => (match st with
    | a :: b :: r => if a.category = 1 ∧ b.category = 1 then some (a :: b :: a :: r) else none
    | _ => none)
  | .dup2 => (match st with
    | a :: b :: r => if a.category = 1 ∧ b.category = 1 then some (a :: b :: a :: b :: r) else none
    | _ => none)
  | .pop => (match st with
    | a :: r => if a.category = 1 then some r else none
    | _ => none)
  | _ => none
/-- locals -/
def sLdI (L : sLo) (i : Nat) (st : List Value) : Option (sLo × List Value) := match L[i]? with
  | some (some (.int x)) => some (L, .int x :: st)
  | _ => none
def sLdL (L : sLo) (i : Nat) (st : List Value) : Option (sLo × List Value) := match L[i]? with
  | some (some (.long x)) => some (L, .long x :: st)
  | _ => none
def sLdA (L : sLo) (i : Nat) (st : List Value) : Option (sLo × List Value) := match L[i]? with
  | some (some (.ref x)) => some (L, .ref x :: st)
  | some (some .null) => some (L, .null :: st)
  | _ => none
def sIsL : Option (Option Value) → Bool
  | some (some (.long _)) => true
  | _ => false
/-- the slot i takes a value; a long whose second half it was is gone -/
def sKill (L : sLo) (i : Nat) : sLo := match i with
  | 0 => L
  | j + 1 => if sIsL L[j]? then L.set j none else L
def sPut (L : sLo) (i : Nat) (v : Value) : sLo := (sKill L i).set i (some v)
def sPutL (L : sLo) (i : Nat) (v : Value) : sLo := (sPut L i v).set (i + 1) none
def sStI (L : sLo) (i : Nat) (st : List Value) : Option (sLo × List Value) := match st with
  | .int x :: r => if i < L.length then some (sPut L i (.int x), r) else none
  | _ => none
def sStL (L : sLo) (i : Nat) (st : List Value) : Option (sLo × List Value) := match st with
  | .long x :: r => if i + 1 < L.length then some (sPutL L i (.long x), r) else none
  | _ => none
def sStA (L : sLo) (i : Nat) (st : List Value) : Option (sLo × List Value) := match st with
  | .ref x :: r => if i < L.length then some (sPut L i (.ref x), r) else none
  | .null :: r => if i < L.length then some (sPut L i .null, r) else none
  | _ => none
def sInc (L : sLo) (i : Nat) (n : Int) (st : List Value) : Option (sLo × List Value) := match L[i]? with
  | some (some (.int x)) => some (sPut L i (.int (x + Int32.ofInt n)), st)
  | _ => none
def sLoc (ins : Instr) (L : sLo) (st : List Value) : Option (sLo × List Value) := match ins with
  | .iload i => sLdI L i st
  | .iload_n i => sLdI L i st
  | .lload i => sLdL L i st
  | .lload_n i => sLdL L i st
  | .aload i => sLdA L i st
  | .aload_n i => sLdA L i st
  | .istore i => sStI L i st
  | .istore_n i => sStI L i st
  | .lstore i => sStL L i st
  | .lstore_n i => sStL L i st
  | .astore i => sStA L i st
  | .astore_n i => sStA L i st
  | .iinc i n => sInc L i n st
  | _ => none
/-- cells: which group a class is of (its fields' places); an object's first fields; a field's type -/
def sGrp (ci : Nat) : Nat := if ci = 3 ∨ ci = 6 ∨ ci = 7 ∨ ci = 8 ∨ ci = 11 ∨ ci = 12 then ci else 2
def sTy (ci : Nat) : Nat → FieldType := match ci with
  | 0 => tyX0
  | 1 => tyX1
  | 2 => tyX2
  | 3 => tyX3
  | 4 => tyX4
  | 5 => tyX5
  | 6 => tyX6
  | 7 => tyX7
  | 8 => tyX8
  | 9 => tyX9
  | 10 => tyX10
  | 11 => tyX11
  | _ => tyX12
def sNF (ci : Nat) : Nat := match vwCl[ci]? with
  | some q => q.2.2
  | none => 0
def sDef (ci : Nat) : List Value := (List.range (sNF ci)).map (fun k => defaultValue (sTy ci k))
/-- the array types by their tags -/
def sAT : List FieldType := [.int, .long, .boolean, .object RX7, .object RX2, .array .int]
def sFit (ty : FieldType) (v : Value) : Bool := match ty, v with
  | .int, .int _ => true
  | .long, .long _ => true
  | .boolean, .int x => decide (x = 0 ∨ x = 1)
  | .object _, .ref _ => true
  | .object _, .null => true
  | .array _, .ref _ => true
  | .array _, .null => true
  | _, _ => false
def sGetF (k : Nat) (st : List Value) (h : sHp) : Option (List Value × sHp) := match st with
  | .ref a :: r => (match h[a]? with
    | some (.inr (ci, fs)) => if sGrp ci = k / 64 then (match fs[k % 64]? with
      | some v => some (v :: r, h)
      | none => none) else none
    | _ => none)
  | _ => none
def sPutF (k : Nat) (st : List Value) (h : sHp) : Option (List Value × sHp) := match st with
  | v :: .ref a :: r => (match h[a]? with
    | some (.inr (ci, fs)) => if sGrp ci = k / 64 ∧ k % 64 < fs.length ∧ sFit (sTy ci (k % 64)) v = true then some (r, h.set a (.inr (ci, fs.set (k % 64) v))) else none
    | _ => none)
  | _ => none
def sIn (i : Int32) (n : Nat) : Prop := ¬ (i < 0 ∨ n ≤ i.toNatClampNeg)
def sLdAI (tag : Nat) (st : List Value) (h : sHp) : Option (List Value × sHp) := match st with
  | .int i :: .ref a :: r => (match h[a]? with
    | some (.inl (t, n, .inl f)) => if t = tag ∧ ¬ (i < 0 ∨ n ≤ i.toNatClampNeg) then some (.int (f i.toNatClampNeg) :: r, h) else none
    | _ => none)
  | _ => none
def sLdAL (st : List Value) (h : sHp) : Option (List Value × sHp) := match st with
  | .int i :: .ref a :: r => (match h[a]? with
    | some (.inl (t, n, .inr (.inl f))) => if t = 1 ∧ ¬ (i < 0 ∨ n ≤ i.toNatClampNeg) then some (.long (f i.toNatClampNeg) :: r, h) else none
    | _ => none)
  | _ => none
def sLdAA (st : List Value) (h : sHp) : Option (List Value × sHp) := match st with
  | .int i :: .ref a :: r => (match h[a]? with
    | some (.inl (t, n, .inr (.inr (.inr (.inr f))))) => if (t = 3 ∨ t = 4 ∨ t = 5) ∧ ¬ (i < 0 ∨ n ≤ i.toNatClampNeg) then some (va_rf (f i.toNatClampNeg) :: r, h) else none
    | _ => none)
  | _ => none
def sStAI (st : List Value) (h : sHp) : Option (List Value × sHp) := match st with
  | .int x :: .int i :: .ref a :: r => (match h[a]? with
    | some (.inl (t, n, .inl f)) => if t = 0 ∧ ¬ (i < 0 ∨ n ≤ i.toNatClampNeg) then some (r, h.set a (.inl (t, n, .inl (upd f i.toNatClampNeg x)))) else none
    | _ => none)
  | _ => none
def sStAZ (st : List Value) (h : sHp) : Option (List Value × sHp) := match st with
  | .int x :: .int i :: .ref a :: r => (match h[a]? with
    | some (.inl (t, n, .inl f)) => if t = 2 ∧ (x = 0 ∨ x = 1) ∧ ¬ (i < 0 ∨ n ≤ i.toNatClampNeg) then some (r, h.set a (.inl (t, n, .inl (upd f i.toNatClampNeg x)))) else none
    | _ => none)
  | _ => none
def sStAL (st : List Value) (h : sHp) : Option (List Value × sHp) := match st with
  | .long x :: .int i :: .ref a :: r => (match h[a]? with
    | some (.inl (t, n, .inr (.inl f))) => if t = 1 ∧ ¬ (i < 0 ∨ n ≤ i.toNatClampNeg) then some (r, h.set a (.inl (t, n, .inr (.inl (vp_updL f i.toNatClampNeg x))))) else none
    | _ => none)
  | _ => none
def sIsObj (t : Nat) (c : Option va_E) : Bool := match c with
  | some (.inr (ci, _)) => (t == 3 && ci == 7) || (t == 4 && (sGrp ci == 2 && decide (ci < 11)))
  | _ => false
def sStAA (st : List Value) (h : sHp) : Option (List Value × sHp) := match st with
  | .ref q :: .int i :: .ref a :: r => (match h[a]? with
    | some (.inl (t, n, .inr (.inr (.inr (.inr f))))) => if sIsObj t h[q]? = true ∧ ¬ (i < 0 ∨ n ≤ i.toNatClampNeg) then some (r, h.set a (.inl (t, n, .inr (.inr (.inr (.inr (va_up f i.toNatClampNeg (some q)))))))) else none
    | _ => none)
  | .null :: .int i :: .ref a :: r => (match h[a]? with
    | some (.inl (t, n, .inr (.inr (.inr (.inr f))))) => if (t = 3 ∨ t = 4) ∧ ¬ (i < 0 ∨ n ≤ i.toNatClampNeg) then some (r, h.set a (.inl (t, n, .inr (.inr (.inr (.inr (va_up f i.toNatClampNeg none))))))) else none
    | _ => none)
  | _ => none
def sALen (st : List Value) (h : sHp) : Option (List Value × sHp) := match st with
  | .ref a :: r => (match h[a]? with
    | some (.inl (t, n, d)) => if t < 6 then some (.int (Int32.ofNat n) :: r, h) else none
    | _ => none)
  | _ => none
def sNew (k : Nat) (st : List Value) (h : sHp) : Option (List Value × sHp) := if k < 13 then some (.ref h.length :: st, h ++ [.inr (k, sDef k)]) else none
def sNewA (ty : ArrayType) (st : List Value) (h : sHp) : Option (List Value × sHp) := match st with
  | .int n :: r => if n < 0 ∨ 100000 < n.toNatClampNeg then none else (match ty with
    | .int => some (.ref h.length :: r, h ++ [.inl (0, n.toNatClampNeg, .inl (fun _ => 0))])
    | .long => some (.ref h.length :: r, h ++ [.inl (1, n.toNatClampNeg, .inr (.inl (fun _ => 0)))])
    | .boolean => some (.ref h.length :: r, h ++ [.inl (2, n.toNatClampNeg, .inl (fun _ => 0))])
    | _ => none)
  | _ => none
def sNewQ (k : Nat) (st : List Value) (h : sHp) : Option (List Value × sHp) := match st with
  | .int n :: r => if n < 0 ∨ 100000 < n.toNatClampNeg ∨ ¬ (k = 3 ∨ k = 4) then none else some (.ref h.length :: r, h ++ [.inl (k, n.toNatClampNeg, .inr (.inr (.inr (.inr (fun _ => none)))))])
  | _ => none
def sNewM (st : List Value) (h : sHp) : Option (List Value × sHp) := match st with
  | .int k :: .int n :: r => if n = 5 ∧ k = 6 then some (.ref h.length :: r, h ++ (.inl (5, 5, .inr (.inr (.inr (.inr (fun j => if j < 5 then some (h.length + 1 + j) else none))))) :: List.replicate 5 (.inl (0, 6, .inl (fun _ => 0))))) else none
  | _ => none
/-- the law's script: the row that no cell is; its place is 1000000 -/
abbrev sX : Type := Option (Nat × (Nat → Int32))
def sScr (X : sX) (ins : Instr) (st : List Value) : Option (List Value) := match X with
  | some (L, xs) => (match ins with
    | .arraylength => (match st with
      | .ref a :: r => if a = 1000000 then some (.int (Int32.ofNat L) :: r) else none
      | _ => none)
    | .iaload => (match st with
      | .int i :: .ref a :: r => if a = 1000000 ∧ ¬ (i < 0 ∨ L ≤ i.toNatClampNeg) then some (.int (xs i.toNatClampNeg) :: r) else none
      | _ => none)
    | _ => none)
  | none => none
def sHeap (ins : Instr) (st : List Value) (h : sHp) : Option (List Value × sHp) := match ins with
  | .getfield k => sGetF k st h
  | .putfield k => sPutF k st h
  | .iaload => sLdAI 0 st h
  | .baload => sLdAI 2 st h
  | .laload => sLdAL st h
  | .aaload => sLdAA st h
  | .iastore => sStAI st h
  | .bastore => sStAZ st h
  | .lastore => sStAL st h
  | .aastore => sStAA st h
  | .arraylength => sALen st h
  | .new k => sNew k st h
  | .newarray ty => sNewA ty st h
  | .anewarray k => sNewQ k st h
  | .multianewarray _ _ => sNewM st h
  | .ldc2_w k => some (.long (Int64.ofNat k) :: st, h)
  | .ldc k => some (.int (Int32.ofNat k) :: st, h)
  | .ldc_w k => some (.int (Int32.ofNat k) :: st, h)
  | _ => none
/-- jumps -/
def sTgt (pc : Nat) (off : Int) : Option Nat := match (pc : Int) + off with
  | .ofNat t => some t
  | _ => none
def sIf (pc : Nat) (off : Int) (b : Bool) (st : List Value) : Option (Nat × List Value) := match sTgt pc off with
  | some t => some (bif b then t else pc + 3, st)
  | none => none
def sC2 (c : Jvm.ClassFile.Cond) (x y : Int32) : Bool := match c with
  | .eq => decide (x = y)
  | .ne => !decide (x = y)
  | .lt => decide (x < y)
  | .ge => decide (y ≤ x)
  | .gt => decide (y < x)
  | .le => decide (x ≤ y)
def sJmp (ins : Instr) (pc : Nat) (st : List Value) : Option (Nat × List Value) := match ins with
  | .goto off => (sTgt pc off).map (fun t => (t, st))
  | .if_icmp c off => (match st with
    | .int y :: .int x :: r => sIf pc off (sC2 c x y) r
    | _ => none)
  | .ifCond c off => (match st with
    | .int x :: r => sIf pc off (sC2 c x 0) r
    | _ => none)
  | .ifnull off => (match st with
    | .null :: r => sIf pc off true r
    | .ref _ :: r => sIf pc off false r
    | _ => none)
  | .ifnonnull off => (match st with
    | .null :: r => sIf pc off false r
    | .ref _ :: r => sIf pc off true r
    | _ => none)
  | .tableswitch dflt lo hi offs => (match st with
    | .int x :: r => if x.toInt < lo ∨ hi < x.toInt then (sTgt pc dflt).map (fun t => (t, r)) else (match offs[(x.toInt - lo).toNat]? with
      | some off => (sTgt pc off).map (fun t => (t, r))
      | none => none)
    | _ => none)
  | .lookupswitch dflt ps => (match st with
    | .int x :: r => (sTgt pc (Op.lookupswitch.offset ps.toList dflt x.toInt)).map (fun t => (t, r))
    | _ => none)
  | _ => none
def sRet (rt : Option FieldType) (ins : Instr) (st : List Value) : Option (Option Value) := match ins with
  | .ireturn => (match st, rt with
    | [.int v], some ty => if narrow ty (.int v) = .int v then some (some (.int v)) else none
    | _, _ => none)
  | .lreturn => (match st, rt with
    | [.long v], some .long => some (some (.long v))
    | _, _ => none)
  | .areturn => (match st, rt with
    | [.ref v], some (.object _) => some (some (.ref v))
    | [.null], some (.object _) => some (some .null)
    | _, _ => none)
  | .return_ => (match st, rt with
    | [], none => some none
    | _, _ => none)
  | _ => none
/-- calls of the library's, with no frame of ours -/
def sSpec (ins : Instr) (st : List Value) : Option (List Value) := match ins with
  | .invokestatic k => if k = 1000 then s2i (fun x y => some (.int (if x < y then y else x))) st else if k = 1001 then s2i (fun x y => some (.int (if y < x then y else x))) st else if k = 1002 then s1i (fun x => .int (if 0 ≤ x then x else 0 - x)) st else none
  | .invokespecial k => if k = 2000 then (match st with
    | .ref _ :: r => some r
    | _ => none) else none
  | _ => none
/-- how many arguments, whose class: of the methods by number -/
def sPop (n : Nat) (st : List Value) : Option (List Value × List Value) := if n ≤ st.length then some ((st.take n).reverse, st.drop n) else none
def sCal (nA ow : Nat → Nat) (vt : Nat → Nat → Nat) (ins : Instr) (st : List Value) (h : sHp) : Option (Nat × List Value × List Value) := match ins with
  | .invokestatic k => (sPop (nA k) st).map (fun q => (k, q.1, q.2))
  | .invokespecial k => (sPop (nA k) st).bind (fun q => match q.2 with
    | .ref b :: r => some (k, .ref b :: q.1, r)
    | _ => none)
  | .invokevirtual k => if k < 1000 then (sPop (nA k) st).bind (fun q => match q.2 with
    | .ref b :: r => (match h[b]? with
      | some (.inr (ci, _)) => if ci = ow k then some (k, .ref b :: q.1, r) else none
      | _ => none)
    | _ => none) else (sPop (vt k 100) st).bind (fun q => match q.2 with
    | .ref b :: r => (match h[b]? with
      | some (.inr (ci, _)) => if sGrp ci = 2 ∧ ci < 11 then some (vt k ci, .ref b :: q.1, r) else none
      | _ => none)
    | _ => none)
  | _ => none
def sKnd (ins : Instr) : Nat := match ins with
  | .iload _ => 1
  | .iload_n _ => 1
  | .lload _ => 1
  | .lload_n _ => 1
  | .aload _ => 1
  | .aload_n _ => 1
  | .istore _ => 1
  | .istore_n _ => 1
  | .lstore _ => 1
  | .lstore_n _ => 1
  | .astore _ => 1
  | .astore_n _ => 1
  | .iinc _ _ => 1
  | .getfield _ => 2
  | .putfield _ => 2
  | .iaload => 2
  | .baload => 2
  | .laload => 2
  | .aaload => 2
  | .iastore => 2
  | .bastore => 2
  | .lastore => 2
  | .aastore => 2
  | .arraylength => 2
  | .new _ => 2
  | .newarray _ => 2
  | .anewarray _ => 2
  | .multianewarray _ _ => 2
  | .ldc2_w _ => 2
  | .ldc _ => 2
  | .ldc_w _ => 2
  | .goto _ => 3
  | .if_icmp _ _ => 3
  | .ifCond _ _ => 3
  | .ifnull _ => 3
  | .ifnonnull _ => 3
  | .tableswitch _ _ _ _ => 3
  | .lookupswitch _ _ => 3
  | .ireturn => 4
  | .lreturn => 4
  | .areturn => 4
  | .return_ => 4
  | .invokestatic k => if k < 1000 then 5 else 6
  | .invokespecial k => if k < 1000 then 5 else 6
  | .invokevirtual _ => 5
  | _ => 0
abbrev sOr : Type := Option (Option Value × sHp)
def sRun (X : sX) (F : Nat → Option Instr) (rt : Option FieldType) (cal : Instr → List Value → sHp → Option (Nat × List Value × List Value)) (call : Nat → List Value → sHp → sOr) : Nat → Nat → sLo → List Value → sHp → sOr
  | 0, _, _, _, _ => none
  | n + 1, pc, L, st, h => (match F pc with
    | none => none
    | some ins => (match sKnd ins with
      | 0 => (sPure ins st).bind fun st1 => sRun X F rt cal call n (pc + sLen ins) L st1 h
      | 1 => (sLoc ins L st).bind fun q => sRun X F rt cal call n (pc + sLen ins) q.1 q.2 h
      | 2 => (match sScr X ins st with
        | some st1 => sRun X F rt cal call n (pc + sLen ins) L st1 h
        | none => (sHeap ins st h).bind fun q => sRun X F rt cal call n (pc + sLen ins) L q.1 q.2)
      | 3 => (sJmp ins pc st).bind fun q => sRun X F rt cal call n q.1 L q.2 h
      | 4 => (sRet rt ins st).map fun v => (v, h)
      | 5 => (cal ins st h).bind fun q => (call q.1 q.2.1 h).bind fun z => sRun X F rt cal call n (pc + 3) L (z.1.toList ++ q.2.2) z.2
      | _ => (sSpec ins st).bind fun st1 => sRun X F rt cal call n (pc + 3) L st1 h))
/-- the locals with which a method begins -/
def sIniA : List Value → sLo
  | [] => []
  | v :: vs => if v.category = 2 then some v :: none :: sIniA vs else some v :: sIniA vs
def sIni (nL : Nat) (as : List Value) : Option sLo := if (sIniA as).length ≤ nL then some (sIniA as ++ List.replicate (nL - (sIniA as).length) none) else none
end
section
/-! ===== the words of the tables, by list and place ===== -/
def sTk (i : Nat) : List Jvm.Cond := match i with
  | 0 => k2_sels lw_privs
  | 1 => tables_1_1.filter goodWord
  | 2 => tables_1_2.filter goodWord
  | 3 => tables_1_3.filter goodWord
  | 4 => tables_1_4.filter goodWord
  | 5 => tables_1_5.filter goodWord
  | 6 => tables_1_6.filter goodWord
  | 7 => tables_1_7.filter goodWord
  | _ => []
def sTB : List Jvm.Cond := sTk 0 ++ (sTk 1 ++ (sTk 2 ++ (sTk 3 ++ (sTk 4 ++ (sTk 5 ++ (sTk 6 ++ sTk 7))))))
def sW (p : Nat) : Option Jvm.Cond := (sTk (p / 1000))[p % 1000]?
theorem sTk_in (i : Nat) (w : Jvm.Cond) (hw : w ∈ sTk i) : w ∈ sTB := by
  unfold sTB
  simp only [List.mem_append]
  match i, hw with
  | 0, hw => exact Or.inl hw
  | 1, hw => exact Or.inr (Or.inl hw)
  | 2, hw => exact Or.inr (Or.inr (Or.inl hw))
  | 3, hw => exact Or.inr (Or.inr (Or.inr (Or.inl hw)))
  | 4, hw => exact Or.inr (Or.inr (Or.inr (Or.inr (Or.inl hw))))
  | 5, hw => exact Or.inr (Or.inr (Or.inr (Or.inr (Or.inr (Or.inl hw)))))
  | 6, hw => exact Or.inr (Or.inr (Or.inr (Or.inr (Or.inr (Or.inr (Or.inl hw))))))
  | 7, hw => exact Or.inr (Or.inr (Or.inr (Or.inr (Or.inr (Or.inr (Or.inr hw))))))
  | n + 8, hw => cases hw
theorem sW_in {p : Nat} {w : Jvm.Cond} (h : sW p = some w) : w ∈ sTB := sTk_in _ w (List.mem_of_getElem? h)
theorem sTB_cases {P : Jvm.Cond → Prop} (h0 : ∀ w ∈ k2_sels lw_privs, P w) (h1 : ∀ w ∈ tables_1, goodWord w = true → P w) : ∀ w ∈ sTB, P w := by
  intro w hw
  have hh : w ∈ k2_sels lw_privs ∨ (w ∈ tables_1 ∧ goodWord w = true) := by
    unfold sTB at hw
    simp only [List.mem_append] at hw
    unfold tables_1
    simp only [List.mem_append]
    rcases hw with hw | hw | hw | hw | hw | hw | hw | hw
    · exact Or.inl hw
    all_goals
      have h2 := List.mem_filter.mp hw
      exact Or.inr ⟨by simp [h2.1], h2.2⟩
  rcases hh with h | h
  · exact h0 w h
  · exact h1 w h.1 h.2
theorem sTB_good : ∀ w ∈ sTB, goodWord w = true := sTB_cases (fun w hw => by
  obtain ⟨q, -, rfl⟩ := List.mem_map.mp hw
  rfl) (fun w _ h => h)
theorem sTB_lw : ∀ w ∈ sTB, w ∈ lw_tbl := sTB_cases (fun w hw => List.mem_append_left _ hw) (fun w hw _ => List.mem_append_right _ hw)
theorem sTB_in {ws : List Jvm.Cond} (h : ∀ w ∈ ws, w ∈ sTB) : GoodIn sTB ws := fun w hw => ⟨h w hw, good_of_word (sTB_good w (h w hw))⟩
/-! ===== what the places stand for ===== -/
def sAd (base b : Nat) (k : Nat) : Nat := if k = 1000000 then b else base + k
def rV (σ : Nat → Nat) : Value → Value
  | .ref k => .ref (σ k)
  | v => v
def rA (σ : Nat → Nat) (a : vp_A) : vp_A := match a with
  | (n, .inr (.inr (.inr (.inr f)))) => (n, .inr (.inr (.inr (.inr (fun j => (f j).map σ)))))
  | (n, x) => (n, x)
def rC (σ : Nat → Nat) (dA : Nat → ClassId) (c : va_E) : va_E := match c with
  | .inl (t, a) => .inl (dA t, rA σ a)
  | .inr (ci, fs) => .inr (ci, fs.map (rV σ))
def rW (σ : Nat → Nat) (dA : Nat → ClassId) (h : sHp) : va_W := h.mapIdx (fun k c => (σ k, rC σ dA c))
abbrev rS (σ : Nat → Nat) (st : List Value) : List Value := st.map (rV σ)
theorem rV_cat (σ : Nat → Nat) (v : Value) : (rV σ v).category = v.category := by cases v <;> rfl
theorem rV_rf (σ : Nat → Nat) (r : Option Nat) : rV σ (va_rf r) = va_rf (r.map σ) := by cases r <;> rfl
theorem rW_get (σ : Nat → Nat) (dA : Nat → ClassId) (h : sHp) (k : Nat) : (rW σ dA h)[k]? = (h[k]?).map (fun c => (σ k, rC σ dA c)) := by
  unfold rW
  rw [List.getElem?_mapIdx]
theorem rW_at {σ : Nat → Nat} {dA : Nat → ClassId} {h : sHp} {k : Nat} {c : va_E} (hk : h[k]? = some c) : (rW σ dA h)[k]? = some (σ k, rC σ dA c) := by rw [rW_get, hk]; rfl
theorem rW_len (σ : Nat → Nat) (dA : Nat → ClassId) (h : sHp) : (rW σ dA h).length = h.length := by unfold rW; rw [List.length_mapIdx]
theorem rW_set (σ : Nat → Nat) (dA : Nat → ClassId) (h : sHp) (k : Nat) (c : va_E) : (rW σ dA h).set k (σ k, rC σ dA c) = rW σ dA (h.set k c) := by
  apply List.ext_getElem?
  intro i
  rw [rW_get, List.getElem?_set, List.getElem?_set, rW_len]
  by_cases e : k = i
  · subst e
    by_cases hl : k < h.length
    · simp [hl]
    · simp [hl]
  · simp [e, rW_get]
theorem rW_app (σ : Nat → Nat) (dA : Nat → ClassId) (h : sHp) (c : va_E) : rW σ dA (h ++ [c]) = rW σ dA h ++ [(σ h.length, rC σ dA c)] := by
  unfold rW
  rw [List.mapIdx_concat]
theorem rW_apart {base b : Nat} {dA : Nat → ClassId} {h : sHp} (hl : h.length ≤ 1000000) : va_D (fun q => base ≤ q) (rW (sAd base b) dA h) := by
  have key : ∀ (i : Nat) (p : Nat × va_E), (rW (sAd base b) dA h)[i]? = some p → p.1 = base + i := by
    intro i p hi
    rw [rW_get] at hi
    cases hc : h[i]? with
    | none => rw [hc] at hi; cases hi
    | some c =>
      rw [hc] at hi
      cases hi
      have hlt := (List.getElem?_eq_some_iff.mp hc).1
      show sAd base b i = base + i
      unfold sAd
      rw [if_neg (by omega)]
  refine ⟨fun i j p q hi hj hpq => ?_, fun k q hk => ?_⟩
  · have h1 := key i p hi
    have h2 := key j q hj
    omega
  · have h1 := key k q hk
    show base ≤ q.1
    omega
theorem sAd_in {base b k : Nat} (h : k < 1000000) : sAd base b k = base + k := by unfold sAd; rw [if_neg (by omega)]
/-- sizes -/
def sSz (c : va_E) : Nat := match c with
  | .inl (_, a) => a.1
  | .inr (_, fs) => fs.length
def sSl : sHp → Nat
  | [] => 0
  | c :: t => sSz c + sSl t
theorem sSl_app (h g : sHp) : sSl (h ++ g) = sSl h + sSl g := by
  induction h with
  | nil => simp [sSl]
  | cons c t ih => rw [List.cons_append, sSl, ih, sSl]; omega
theorem sSl_set {h : sHp} {k : Nat} {c c0 : va_E} (hk : h[k]? = some c0) (hs : sSz c = sSz c0) : sSl (h.set k c) = sSl h := by
  induction h generalizing k with
  | nil => cases hk
  | cons a t ih =>
    cases k with
    | zero =>
      rw [List.getElem?_cons_zero] at hk
      have e := Option.some.inj hk
      show sSz c + sSl t = sSz a + sSl t
      rw [hs, e]
    | succ k =>
      rw [List.getElem?_cons_succ] at hk
      show sSz a + sSl (t.set k c) = sSz a + sSl t
      rw [ih hk]
/-! ===== locals ===== -/
def sEnt (σ : Nat → Nat) (L : sLo) : List (Nat × Value) := (List.range L.length).filterMap (fun i => match L[i]? with
  | some (some v) => some (i, rV σ v)
  | _ => none)
theorem sEnt_mem {σ : Nat → Nat} {L : sLo} {q : Nat × Value} : q ∈ sEnt σ L ↔ ∃ v, L[q.1]? = some (some v) ∧ q.2 = rV σ v := by
  unfold sEnt
  rw [List.mem_filterMap]
  constructor
  · rintro ⟨i, hi, h⟩
    cases hL : L[i]? with
    | none => rw [hL] at h; cases h
    | some o =>
      cases o with
      | none => rw [hL] at h; cases h
      | some v =>
        rw [hL] at h
        cases h
        exact ⟨v, hL, rfl⟩
  · rintro ⟨v, h1, h2⟩
    refine ⟨q.1, List.mem_range.mpr (List.getElem?_eq_some_iff.mp h1).1, ?_⟩
    rw [h1]
    show some (q.1, rV σ v) = some q
    rw [← h2]
theorem lv_mono {ls : Array Slot} {n : Nat} {l l' : List (Nat × Value)} (h : lv_has ls n l) (hs : ∀ q ∈ l', q ∈ l) : lv_has ls n l' := ⟨h.1, h.2.1, fun q hq => h.2.2 q (hs q hq)⟩
theorem sEnt_at {σ : Nat → Nat} {L : sLo} {ls : Array Slot} {n i : Nat} {v : Value} (h : lv_has ls n (sEnt σ L)) (hv : L[i]? = some (some v)) : ls[i]? = some (.val (rV σ v)) := h.2.2 (i, rV σ v) (sEnt_mem.mpr ⟨v, hv, rfl⟩)
theorem sKill_get (L : sLo) (i j : Nat) : (sKill L i)[j]? = if j + 1 = i ∧ sIsL L[j]? = true then some none else L[j]? := by
  unfold sKill
  cases i with
  | zero => simp
  | succ k =>
    show (if sIsL L[k]? = true then L.set k none else L)[j]? = _
    by_cases e : j = k
    · subst e
      by_cases hL : sIsL L[j]? = true
      · rw [if_pos hL, if_pos ⟨rfl, hL⟩, List.getElem?_set_self]
        cases hj : L[j]? with
        | none => rw [hj] at hL; cases hL
        | some o => exact (List.getElem?_eq_some_iff.mp hj).1
      · rw [if_neg hL, if_neg (fun q => hL q.2)]
    · rw [if_neg (show ¬ (j + 1 = k + 1 ∧ _) from fun q => e (by omega))]
      split
      · rw [List.getElem?_set_ne (fun q => e q.symm)]
      · rfl
theorem sKill_len (L : sLo) (i : Nat) : (sKill L i).length = L.length := by
  unfold sKill
  cases i with
  | zero => rfl
  | succ k => show (if _ then L.set k none else L).length = _; split <;> simp
theorem sPut_len (L : sLo) (i : Nat) (v : Value) : (sPut L i v).length = L.length := by unfold sPut; rw [List.length_set, sKill_len]
theorem sPutL_len (L : sLo) (i : Nat) (v : Value) : (sPutL L i v).length = L.length := by unfold sPutL; rw [List.length_set, sPut_len]
theorem sIsL_cat {o : Option (Option Value)} {v : Value} (σ : Nat → Nat) (h : o = some (some v)) (hL : ¬ sIsL o = true) (hd : ∀ x, v ≠ .double x) : ¬ (rV σ v).category = 2 := by
  subst h
  cases v <;> first | (exact fun q => hL rfl) | (exact fun q => hd _ rfl) | (intro q; cases q)
def sNoD (L : sLo) : Prop := ∀ (i : Nat) (x : UInt64), L[i]? ≠ some (some (.double x))
theorem sNoD_put {L : sLo} (h : sNoD L) (i : Nat) {v : Value} (hv : ∀ x, v ≠ .double x) : sNoD (sPut L i v) := by
  intro j x hj
  unfold sPut at hj
  rw [List.getElem?_set] at hj
  split at hj
  · split at hj
    · cases hj; exact hv _ rfl
    · cases hj
  · rw [sKill_get] at hj
    split at hj
    · cases hj
    · exact h j x hj
theorem sNoD_putL {L : sLo} (h : sNoD L) (i : Nat) {v : Value} (hv : ∀ x, v ≠ .double x) : sNoD (sPutL L i v) := by
  intro j x hj
  unfold sPutL at hj
  rw [List.getElem?_set] at hj
  split at hj
  · split at hj
    · cases hj
    · cases hj
  · exact sNoD_put h i hv j x hj
theorem sPut_has {σ : Nat → Nat} {L : sLo} {ls : Array Slot} {n i : Nat} {v : Value} (hd : sNoD L) (h : lv_has ls n ((i, rV σ v) :: (sEnt σ L).filter (fun q => !(q.1 == i) && !(q.1 + 1 == i && q.2.category == 2)))) : lv_has ls n (sEnt σ (sPut L i v)) := by
  refine lv_mono h fun q hq => ?_
  obtain ⟨w, h1, h2⟩ := sEnt_mem.mp hq
  unfold sPut at h1
  rw [List.getElem?_set] at h1
  split at h1
  · rename_i e
    split at h1
    · cases h1
      have : q = (i, rV σ v) := by rw [← h2, e]
      rw [this]
      exact List.mem_cons_self
    · cases h1
  · rename_i e
    rw [sKill_get] at h1
    split at h1
    · cases h1
    · rename_i hk
      refine List.mem_cons_of_mem _ (List.mem_filter.mpr ⟨sEnt_mem.mpr ⟨w, h1, h2⟩, ?_⟩)
      have e1 : (q.1 == i) = false := by rw [beq_eq_false_iff_ne]; exact fun z => e z.symm
      rw [e1]
      by_cases e2 : q.1 + 1 = i
      · have hL : ¬ sIsL L[q.1]? = true := fun z => hk ⟨e2, z⟩
        have hc := sIsL_cat σ h1 hL (fun x z => hd q.1 x (by rw [h1, z]))
        rw [← h2] at hc
        have e3 : (q.2.category == 2) = false := by rw [beq_eq_false_iff_ne]; exact hc
        rw [e3]
        simp
      · have e3 : (q.1 + 1 == i) = false := by rw [beq_eq_false_iff_ne]; exact e2
        rw [e3]
        simp
theorem sPutL_has {σ : Nat → Nat} {L : sLo} {ls : Array Slot} {n i : Nat} {v : Value} (hd : sNoD L) (h : lv_has ls n ((i, rV σ v) :: (sEnt σ L).filter (fun q => !(q.1 == i) && (!(q.1 == i + 1) && !(q.1 + 1 == i && q.2.category == 2))))) : lv_has ls n (sEnt σ (sPutL L i v)) := by
  refine lv_mono h fun q hq => ?_
  obtain ⟨w, h1, h2⟩ := sEnt_mem.mp hq
  unfold sPutL at h1
  rw [List.getElem?_set] at h1
  split at h1
  · split at h1
    · cases h1
    · cases h1
  · rename_i e0
    unfold sPut at h1
    rw [List.getElem?_set] at h1
    split at h1
    · rename_i e
      split at h1
      · cases h1
        have : q = (i, rV σ v) := by rw [← h2, e]
        rw [this]
        exact List.mem_cons_self
      · cases h1
    · rename_i e
      rw [sKill_get] at h1
      split at h1
      · cases h1
      · rename_i hk
        refine List.mem_cons_of_mem _ (List.mem_filter.mpr ⟨sEnt_mem.mpr ⟨w, h1, h2⟩, ?_⟩)
        have e1 : (q.1 == i) = false := by rw [beq_eq_false_iff_ne]; exact fun z => e z.symm
        have e4 : (q.1 == i + 1) = false := by rw [beq_eq_false_iff_ne]; exact fun z => e0 z.symm
        rw [e1, e4]
        by_cases e2 : q.1 + 1 = i
        · have hL : ¬ sIsL L[q.1]? = true := fun z => hk ⟨e2, z⟩
          have hc := sIsL_cat σ h1 hL (fun x z => hd q.1 x (by rw [h1, z]))
          rw [← h2] at hc
          have e3 : (q.2.category == 2) = false := by rw [beq_eq_false_iff_ne]; exact hc
          rw [e3]
          simp
        · have e3 : (q.1 + 1 == i) = false := by rw [beq_eq_false_iff_ne]; exact e2
          rw [e3]
          simp
end
section
/-! ===== the machine does what the simple one does: stack and locals ===== -/
section SND
variable {p : Program} {l : Launch} {e : Env} {R : Room} {s : State} {m : MethodId} {args : Array Value} {below : List Frame} {meth : Method} {c : Code} {H : Heap} {locs : List Loc} {cells slots : Nat} {Q : State → Prop} {cc : ByteArray} {pc : Nat} {ls : Array Slot} {σ : Nat → Nat}
theorem s2i_of {f : Int32 → Int32 → Option Value} {st st' : List Value} (h : s2i f st = some st') : ∃ x y v r, st = .int y :: .int x :: r ∧ f x y = some v ∧ st' = v :: r := by
  unfold s2i at h
  split at h
  · obtain ⟨v, h1, h2⟩ := Option.map_eq_some_iff.mp h
    exact ⟨_, _, v, _, rfl, h1, h2.symm⟩
  · cases h
theorem s2l_of {f : Int64 → Int64 → Option Value} {st st' : List Value} (h : s2l f st = some st') : ∃ x y v r, st = .long y :: .long x :: r ∧ f x y = some v ∧ st' = v :: r := by
  unfold s2l at h
  split at h
  · obtain ⟨v, h1, h2⟩ := Option.map_eq_some_iff.mp h
    exact ⟨_, _, v, _, rfl, h1, h2.symm⟩
  · cases h
theorem sil_of {f : Int64 → Int32 → Option Value} {st st' : List Value} (h : sil f st = some st') : ∃ x y v r, st = .int y :: .long x :: r ∧ f x y = some v ∧ st' = v :: r := by
  unfold sil at h
  split at h
  · obtain ⟨v, h1, h2⟩ := Option.map_eq_some_iff.mp h
    exact ⟨_, _, v, _, rfl, h1, h2.symm⟩
  · cases h
theorem s1i_of {f : Int32 → Value} {st st' : List Value} (h : s1i f st = some st') : ∃ x r, st = .int x :: r ∧ st' = f x :: r := by
  unfold s1i at h
  split at h
  · cases h; exact ⟨_, _, rfl, rfl⟩
  · cases h
theorem s1l_of {f : Int64 → Value} {st st' : List Value} (h : s1l f st = some st') : ∃ x r, st = .long x :: r ∧ st' = f x :: r := by
  unfold s1l at h
  split at h
  · cases h; exact ⟨_, _, rfl, rfl⟩
  · cases h
set_option maxHeartbeats 4000000 in
theorem s_pure (hx : p.tables.exec = Jvm.exec) (hb : c.code = cc) {ins : Instr} {st st' : List Value} (h : sPure ins st = some st') (hdg : decode cc pc = .ok (ins, sLen ins))
    (kk : W p l e R s m args below meth c H locs cells slots Q (F0 m (pc + sLen ins) ls (rS σ st'))) : W p l e R s m args below meth c H locs cells slots Q (F0 m pc ls (rS σ st)) := by
  unfold sPure at h
  split at h
  case h_1 n => cases h; exact lv_iconst hx hb hdg rfl kk
  case h_2 n => cases h; exact lv_bipush hx hb hdg rfl kk
  case h_3 n => cases h; exact lv_sipush hx hb hdg rfl kk
  case h_4 n => cases h; exact lv_lconst hx hb hdg rfl kk
  case h_5 => cases h; exact lv_null hx hb hdg kk
  case h_6 => obtain ⟨x, y, v, r, rfl, h1, rfl⟩ := s2i_of h; cases h1; exact lv_iadd hx hb hdg kk
  case h_7 => obtain ⟨x, y, v, r, rfl, h1, rfl⟩ := s2i_of h; cases h1; exact lv_isub hx hb hdg kk
  case h_8 => obtain ⟨x, y, v, r, rfl, h1, rfl⟩ := s2i_of h; cases h1; exact lv_imul hx hb hdg kk
  case h_9 => obtain ⟨x, y, v, r, rfl, h1, rfl⟩ := s2i_of h; cases h1; exact lv_iand hx hb hdg kk
  case h_10 => obtain ⟨x, y, v, r, rfl, h1, rfl⟩ := s2i_of h; cases h1; exact lv_ior hx hb hdg kk
  case h_11 => obtain ⟨x, y, v, r, rfl, h1, rfl⟩ := s2i_of h; cases h1; exact lv_ixor hx hb hdg kk
  case h_12 =>
    obtain ⟨x, y, v, r, rfl, h1, rfl⟩ := s2i_of h
    by_cases h0 : y = 0
    · rw [if_pos h0] at h1; cases h1
    · rw [if_neg h0] at h1; cases h1; exact lv_idiv hx hb hdg h0 kk
  case h_13 =>
    obtain ⟨x, y, v, r, rfl, h1, rfl⟩ := s2i_of h
    by_cases h0 : y = 0
    · rw [if_pos h0] at h1; cases h1
    · rw [if_neg h0] at h1; cases h1; exact lv_irem hx hb hdg h0 kk
  case h_14 => obtain ⟨x, r, rfl, rfl⟩ := s1i_of h; exact lv_ineg hx hb hdg kk
  case h_15 => obtain ⟨x, y, v, r, rfl, h1, rfl⟩ := s2i_of h; cases h1; exact lv_ishl hx hb hdg kk
  case h_16 => obtain ⟨x, y, v, r, rfl, h1, rfl⟩ := s2i_of h; cases h1; exact lv_ishr hx hb hdg kk
  case h_17 => obtain ⟨x, y, v, r, rfl, h1, rfl⟩ := s2l_of h; cases h1; exact lv_ladd hx hb hdg kk
  case h_18 => obtain ⟨x, y, v, r, rfl, h1, rfl⟩ := s2l_of h; cases h1; exact lv_lsub hx hb hdg kk
  case h_19 => obtain ⟨x, y, v, r, rfl, h1, rfl⟩ := s2l_of h; cases h1; exact lv_land hx hb hdg kk
  case h_20 => obtain ⟨x, y, v, r, rfl, h1, rfl⟩ := s2l_of h; cases h1; exact lv_lor hx hb hdg kk
  case h_21 => obtain ⟨x, y, v, r, rfl, h1, rfl⟩ := s2l_of h; cases h1; exact lv_lxor hx hb hdg kk
  case h_22 => obtain ⟨x, r, rfl, rfl⟩ := s1l_of h; exact lv_lneg hx hb hdg kk
  case h_23 => obtain ⟨x, y, v, r, rfl, h1, rfl⟩ := sil_of h; cases h1; exact lv_lshl hx hb hdg rfl kk
  case h_24 => obtain ⟨x, y, v, r, rfl, h1, rfl⟩ := sil_of h; cases h1; exact lv_lshr hx hb hdg rfl kk
  case h_25 => obtain ⟨x, y, v, r, rfl, h1, rfl⟩ := sil_of h; cases h1; exact lv_lushr hx hb hdg rfl kk
  case h_26 => obtain ⟨x, y, v, r, rfl, h1, rfl⟩ := s2l_of h; cases h1; exact W.lcmp hx hb hdg kk
  case h_27 => obtain ⟨x, r, rfl, rfl⟩ := s1i_of h; exact lv_i2l hx hb hdg rfl kk
  case h_28 => obtain ⟨x, r, rfl, rfl⟩ := s1l_of h; exact lv_l2i hx hb hdg rfl kk
  case h_29 => obtain ⟨x, r, rfl, rfl⟩ := s1i_of h; exact lv_i2b hx hb hdg rfl kk
  case h_30 => obtain ⟨x, r, rfl, rfl⟩ := s1i_of h; exact lv_i2s hx hb hdg rfl kk
  case h_31 => obtain ⟨x, r, rfl, rfl⟩ := s1i_of h; exact lv_i2c hx hb hdg rfl kk
  case h_32 =>
    split at h
    · split at h
      · rename_i hc
        cases h
        exact lv_dup hx hb hdg ((rV_cat σ _).trans hc) kk
      · cases h
    · cases h
  case h_33 =>
    split at h
    · split at h
      · rename_i hc
        cases h
        exact lv_dup_x1 hx hb hdg ((rV_cat σ _).trans hc.1) ((rV_cat σ _).trans hc.2) kk
      · cases h
    · cases h
  case h_34 =>
    split at h
    · split at h
      · rename_i hc
        cases h
        exact lv_dup2_11 hx hb hdg ((rV_cat σ _).trans hc.1) ((rV_cat σ _).trans hc.2) kk
      · cases h
    · cases h
  case h_35 =>
    split at h
    · split at h
      · rename_i hc
        cases h
        exact lv_pop hx hb hdg ((rV_cat σ _).trans hc) kk
      · cases h
    · cases h
  case h_36 => cases h
theorem sLdI_of {L L' : sLo} {i : Nat} {st st' : List Value} (h : sLdI L i st = some (L', st')) : ∃ x, L[i]? = some (some (.int x)) ∧ L' = L ∧ st' = .int x :: st := by
  unfold sLdI at h
  split at h
  · rename_i x hx; cases h; exact ⟨x, hx, rfl, rfl⟩
  · cases h
theorem sLdL_of {L L' : sLo} {i : Nat} {st st' : List Value} (h : sLdL L i st = some (L', st')) : ∃ x, L[i]? = some (some (.long x)) ∧ L' = L ∧ st' = .long x :: st := by
  unfold sLdL at h
  split at h
  · rename_i x hx; cases h; exact ⟨x, hx, rfl, rfl⟩
  · cases h
theorem sLdA_of {L L' : sLo} {i : Nat} {st st' : List Value} (h : sLdA L i st = some (L', st')) : (∃ x, L[i]? = some (some (.ref x)) ∧ L' = L ∧ st' = .ref x :: st) ∨ (L[i]? = some (some .null) ∧ L' = L ∧ st' = .null :: st) := by
  unfold sLdA at h
  split at h
  · rename_i x hx; cases h; exact Or.inl ⟨x, hx, rfl, rfl⟩
  · rename_i hx; cases h; exact Or.inr ⟨hx, rfl, rfl⟩
  · cases h
/-- the locals hold what the simple ones say -/
def sLs (σ : Nat → Nat) (nL : Nat) (L : sLo) (ls : Array Slot) : Prop := L.length = nL ∧ sNoD L ∧ lv_has ls nL (sEnt σ L)
set_option maxHeartbeats 4000000 in
theorem s_loc (hx : p.tables.exec = Jvm.exec) (hb : c.code = cc) {ins : Instr} {nL : Nat} {L L' : sLo} {st st' : List Value} (hl : sLs σ nL L ls) (h : sLoc ins L st = some (L', st')) (hdg : decode cc pc = .ok (ins, sLen ins))
    (kk : ∀ ls' : Array Slot, sLs σ nL L' ls' → W p l e R s m args below meth c H locs cells slots Q (F0 m (pc + sLen ins) ls' (rS σ st'))) : W p l e R s m args below meth c H locs cells slots Q (F0 m pc ls (rS σ st)) := by
  obtain ⟨hn, hd, hv⟩ := hl
  unfold sLoc at h
  split at h
  case h_1 i => obtain ⟨x, h1, rfl, rfl⟩ := sLdI_of h; exact lv_iload hx hb hdg (sEnt_at hv h1) (kk _ ⟨hn, hd, hv⟩)
  case h_2 i => obtain ⟨x, h1, rfl, rfl⟩ := sLdI_of h; exact lv_iload_n hx hb hdg rfl (sEnt_at hv h1) (kk _ ⟨hn, hd, hv⟩)
  case h_3 i => obtain ⟨x, h1, rfl, rfl⟩ := sLdL_of h; exact lv_lload hx hb hdg (sEnt_at hv h1) (kk _ ⟨hn, hd, hv⟩)
  case h_4 i => obtain ⟨x, h1, rfl, rfl⟩ := sLdL_of h; exact lv_lload_n hx hb hdg rfl (sEnt_at hv h1) (kk _ ⟨hn, hd, hv⟩)
  case h_5 i =>
    rcases sLdA_of h with ⟨x, h1, rfl, rfl⟩ | ⟨h1, rfl, rfl⟩
    · exact lv_aload hx hb hdg (sEnt_at hv h1) (kk _ ⟨hn, hd, hv⟩)
    · exact lv_aloadN hx hb hdg (sEnt_at hv h1) (kk _ ⟨hn, hd, hv⟩)
  case h_6 i =>
    rcases sLdA_of h with ⟨x, h1, rfl, rfl⟩ | ⟨h1, rfl, rfl⟩
    · exact lv_aload_n hx hb hdg rfl (sEnt_at hv h1) (kk _ ⟨hn, hd, hv⟩)
    · exact lv_aload_nN hx hb hdg rfl (sEnt_at hv h1) (kk _ ⟨hn, hd, hv⟩)
  case h_7 i =>
    unfold sStI at h
    split at h
    · split at h
      · rename_i hi
        cases h
        exact lv_istore hx hb hdg hv (hn ▸ hi) rfl fun ls' h' => kk ls' ⟨(sPut_len _ _ _).trans hn, sNoD_put hd _ (fun _ q => by cases q), sPut_has hd h'⟩
      · cases h
    · cases h
  case h_8 i =>
    unfold sStI at h
    split at h
    · split at h
      · rename_i hi
        cases h
        exact lv_istore_n hx hb hdg rfl hv (hn ▸ hi) rfl fun ls' h' => kk ls' ⟨(sPut_len _ _ _).trans hn, sNoD_put hd _ (fun _ q => by cases q), sPut_has hd h'⟩
      · cases h
    · cases h
  case h_9 i =>
    unfold sStL at h
    split at h
    · split at h
      · rename_i hi
        cases h
        exact lv_lstore hx hb hdg hv (hn ▸ hi) rfl fun ls' h' => kk ls' ⟨(sPutL_len _ _ _).trans hn, sNoD_putL hd _ (fun _ q => by cases q), sPutL_has hd h'⟩
      · cases h
    · cases h
  case h_10 i =>
    unfold sStL at h
    split at h
    · split at h
      · rename_i hi
        cases h
        exact lv_lstore_n hx hb hdg rfl hv (hn ▸ hi) rfl fun ls' h' => kk ls' ⟨(sPutL_len _ _ _).trans hn, sNoD_putL hd _ (fun _ q => by cases q), sPutL_has hd h'⟩
      · cases h
    · cases h
  case h_11 i =>
    unfold sStA at h
    split at h
    · split at h
      · rename_i hi
        cases h
        exact lv_astore hx hb hdg hv (hn ▸ hi) rfl fun ls' h' => kk ls' ⟨(sPut_len _ _ _).trans hn, sNoD_put hd _ (fun _ q => by cases q), sPut_has (v := .ref _) hd h'⟩
      · cases h
    · split at h
      · rename_i hi
        cases h
        exact lv_astoreN hx hb hdg hv (hn ▸ hi) rfl fun ls' h' => kk ls' ⟨(sPut_len _ _ _).trans hn, sNoD_put hd _ (fun _ q => by cases q), sPut_has (v := .null) hd h'⟩
      · cases h
    · cases h
  case h_12 i =>
    unfold sStA at h
    split at h
    · split at h
      · rename_i hi
        cases h
        exact lv_astore_n hx hb hdg rfl hv (hn ▸ hi) rfl fun ls' h' => kk ls' ⟨(sPut_len _ _ _).trans hn, sNoD_put hd _ (fun _ q => by cases q), sPut_has (v := .ref _) hd h'⟩
      · cases h
    · split at h
      · rename_i hi
        cases h
        exact lv_astore_nN hx hb hdg rfl hv (hn ▸ hi) rfl fun ls' h' => kk ls' ⟨(sPut_len _ _ _).trans hn, sNoD_put hd _ (fun _ q => by cases q), sPut_has (v := .null) hd h'⟩
      · cases h
    · cases h
  case h_13 i n =>
    unfold sInc at h
    split at h
    · rename_i x h1
      cases h
      have hi : i < nL := by rw [← hn]; exact (List.getElem?_eq_some_iff.mp h1).1
      obtain ⟨k, hk⟩ := List.getElem?_of_mem (sEnt_mem (σ := σ) (L := L) (q := (i, .int x)) |>.mpr ⟨_, h1, rfl⟩)
      exact lv_iinc hx hb hdg hv hk rfl hi rfl fun ls' h' => kk ls' ⟨(sPut_len _ _ _).trans hn, sNoD_put hd _ (fun _ q => by cases q), sPut_has (v := .int _) hd h'⟩
    · cases h
  case h_14 => cases h
end SND
end
section
/-! ===== each row of cells: its fields are among the words, their types, their names ===== -/
theorem sU0 : u_ws RX0 TX0 6 = ([2163, 2164, 2165, 2166, 2167, 2168] : List Nat).filterMap sW := by decide +kernel
theorem sU1 : u_ws RX1 TX1 6 = ([2137, 2138, 2139, 2140, 2141, 2142] : List Nat).filterMap sW := by decide +kernel
theorem sU2 : u_ws RX2 TX2 6 = ([2198, 2199, 2200, 2201, 2202, 2203] : List Nat).filterMap sW := by decide +kernel
theorem sU3 : u_ws RX3 TX3 17 = ([1102, 1104, 1106, 1108, 1110, 1112, 1114, 1116, 1118, 1120, 1122, 1124, 1126, 1128, 1130, 1132, 1134] : List Nat).filterMap sW := by decide +kernel
theorem sU4 : u_ws RX4 TX4 6 = ([2176, 2177, 2178, 2179, 2180, 2181] : List Nat).filterMap sW := by decide +kernel
theorem sU5 : u_ws RX5 TX5 6 = ([2150, 2151, 2152, 2153, 2154, 2155] : List Nat).filterMap sW := by decide +kernel
theorem sU6 : u_ws RX6 TX6 4 = ([3106, 3108, 3110, 3112] : List Nat).filterMap sW := by decide +kernel
theorem sU7 : u_ws RX7 TX7 3 = ([1043, 1045, 1047] : List Nat).filterMap sW := by decide +kernel
theorem sU8 : u_ws RX8 TX8 10 = ([1158, 1160, 1162, 1164, 1166, 1168, 1170, 1172, 1174, 1176] : List Nat).filterMap sW := by decide +kernel
theorem sU9 : u_ws RX9 TX9 6 = ([2118, 2120, 2122, 2124, 2126, 2128] : List Nat).filterMap sW := by decide +kernel
theorem sU10 : u_ws RX10 TX10 6 = ([2189, 2190, 2191, 2192, 2193, 2194] : List Nat).filterMap sW := by decide +kernel
theorem sU11 : u_ws RX11 TX11 11 = ([1190, 1192, 1194, 1196, 1198, 1200, 1202, 1204, 1206, 1208, 1210] : List Nat).filterMap sW := by decide +kernel
theorem sU12 : u_ws RX12 TX12 38 = ([5217, 5219, 5221, 5223, 5225, 5227, 5229, 5231, 5233, 5235, 6000, 6002, 6004, 6006, 6008, 6010, 6012, 6014, 6016, 6018, 6020, 6022, 6024, 6026, 6028, 6030, 6032, 6034, 6036, 6038, 6040, 6042, 6044, 6046, 6048, 6050, 6052, 6054] : List Nat).filterMap sW := by decide +kernel
theorem sU_in {ws : List Jvm.Cond} {ps : List Nat} (h : ws = ps.filterMap sW) : ∀ w ∈ ws, w ∈ sTB := by
  intro w hw
  rw [h] at hw
  obtain ⟨p, -, hp⟩ := List.mem_filterMap.mp hw
  exact sW_in hp
def sCF (ci : Nat) (q : vw_C) : Prop := (∀ w ∈ u_ws q.1 q.2.1 q.2.2, w ∈ sTB) ∧ (∀ k, k < q.2.2 → parseFieldDescriptor (q.2.1 k).2.2.1 = some (sTy ci k)) ∧ (∀ a, a < q.2.2 → ∀ b, b < q.2.2 → a ≠ b → (q.2.1 a).2.1 ≠ (q.2.1 b).2.1)
theorem sCF_all : ∀ (ci : Nat) (q : vw_C), vwCl[ci]? = some q → sCF ci q := by
  intro ci q h
  match ci, h with
  | 0, h => cases h; exact ⟨sU_in sU0, tyX0_ok, nmX0⟩
  | 1, h => cases h; exact ⟨sU_in sU1, tyX1_ok, nmX1⟩
  | 2, h => cases h; exact ⟨sU_in sU2, tyX2_ok, nmX2⟩
  | 3, h => cases h; exact ⟨sU_in sU3, tyX3_ok, nmX3⟩
  | 4, h => cases h; exact ⟨sU_in sU4, tyX4_ok, nmX4⟩
  | 5, h => cases h; exact ⟨sU_in sU5, tyX5_ok, nmX5⟩
  | 6, h => cases h; exact ⟨sU_in sU6, tyX6_ok, nmX6⟩
  | 7, h => cases h; exact ⟨sU_in sU7, tyX7_ok, nmX7⟩
  | 8, h => cases h; exact ⟨sU_in sU8, tyX8_ok, nmX8⟩
  | 9, h => cases h; exact ⟨sU_in sU9, tyX9_ok, nmX9⟩
  | 10, h => cases h; exact ⟨sU_in sU10, tyX10_ok, nmX10⟩
  | 11, h => cases h; exact ⟨sU_in sU11, tyX11_ok, nmX11⟩
  | 12, h => cases h; exact ⟨sU_in sU12, tyX12_ok, nmX12⟩
  | k + 13, h => simp [vwCl] at h
end
section
/-! ===== cells ===== -/
def sTys (dA : Nat → ClassId) : List (ClassId × FieldType) := [(dA 0, .int), (dA 1, .long), (dA 2, .boolean), (dA 3, .object RX7), (dA 4, .object RX2), (dA 5, .array .int)]
/-- words that are not carried by the tables alone -/
def sNwl : List Jvm.Cond := [.arrayOver (.object RX7), .arrayOver (.object RX2), .arrayOver (.array .int), .castable RX9 RX2, .castable RX1 RX2, .castable RX5 RX2, .castable RX0 RX2, .castable RX4 RX2, .castable RX10 RX2, .methodLinkNest RX11 21 yX7_init RX11, .methodLinkNest RX11 41 yX8_init RX11]
def sNw (U : State) : Prop := ∀ w ∈ sNwl, w.before #[] U = true
def sEnv (p : Program) (s : State) (m : MethodId) (c : Code) (args : Array Value) (cc : ByteArray) (nL base : Nat) (D : va_G) (dA : Nat → ClassId) (own : String) : Prop :=
  p.tables.exec = Jvm.exec ∧ c.code = cc ∧ c.maxLocals = nL ∧ s.vm.findClass own = some m.cls ∧ (∀ w ∈ sTB, w.before args s = true) ∧ va_K D vwCl (sTys dA) s ∧ base ≤ s.heap.size ∧ sNw s
def sSt (base b : Nat) (D : va_G) (dA : Nat → ClassId) (s : State) (h : sHp) (H : Heap) (locs : List Loc) : Prop := va_P D vwCl (rW (sAd base b) dA h) H ∧ va_S (fun q => base ≤ q) s.heap H locs ∧ h.length ≤ 1000000
section HEAP
variable {p : Program} {l : Launch} {e : Env} {R : Room} {s : State} {m : MethodId} {args : Array Value} {below : List Frame} {meth : Method} {c : Code} {H : Heap} {locs : List Loc} {cells slots : Nat} {Q : State → Prop} {cc : ByteArray} {pc : Nat} {ls : Array Slot} {nL base b : Nat} {D : va_G} {dA : Nat → ClassId} {own : String}
theorem sFit_ok {σ : Nat → Nat} {ty : FieldType} {v : Value} (h : sFit ty v = true) : narrow ty (rV σ v) = rV σ v ∧ fits ty (rV σ v) = true := by
  unfold sFit at h
  split at h
  · exact ⟨rfl, rfl⟩
  · exact ⟨rfl, rfl⟩
  · rcases of_decide_eq_true h with rfl | rfl
    · exact ⟨show narrow .boolean (.int 0) = .int 0 by decide, show fits .boolean (.int 0) = true by decide⟩
    · exact ⟨show narrow .boolean (.int 1) = .int 1 by decide, show fits .boolean (.int 1) = true by decide⟩
  · exact ⟨rfl, rfl⟩
  · exact ⟨rfl, rfl⟩
  · exact ⟨rfl, rfl⟩
  · exact ⟨rfl, rfl⟩
  · cases h
theorem s_cls {h : sHp} (S : sSt base b D dA s h H locs) {a ci : Nat} {fs : List Value} (ha : h[a]? = some (.inr (ci, fs))) : ∃ q, vwCl[ci]? = some q := by
  have h1 := S.1 a _ (rW_at ha)
  obtain ⟨q, hq, -⟩ := h1
  exact ⟨q, hq⟩
def sSame (ref : String) (q : vw_C) (j : Nat) : Prop := ref = (q.2.1 j).1 ∨ Jvm.Cond.sameField ref (q.2.1 j).1 (q.2.1 j).2.1 (q.2.1 j).2.2.1 ∈ sTB
theorem s_same (hts : ∀ w ∈ sTB, w.before args s = true) {ref : String} {q : vw_C} {j : Nat} (h : sSame ref q j) : ∀ x, s.fieldFound? (q.2.1 j).1 (q.2.1 j).2.1 (q.2.1 j).2.2.1 = some x → s.fieldFound? ref (q.2.1 j).2.1 (q.2.1 j).2.2.1 = some x := by
  intro x hx
  rcases h with e | e
  · rw [e]; exact hx
  · exact u_same (hts _ e) x hx
def sGetOk (own : String) (idx k : Nat) : Prop := ∃ ref : String, ∀ (ci : Nat) (q : vw_C), vwCl[ci]? = some q → sGrp ci = k / 64 → k % 64 < q.2.2 ∧ Jvm.Cond.fieldLink own idx ref (q.2.1 (k % 64)).2.1 (q.2.1 (k % 64)).2.2.1 ∈ sTB ∧ sSame ref q (k % 64)
theorem s_get (E : sEnv p s m c args cc nL base D dA own) {h h' : sHp} (S : sSt base b D dA s h H locs) {k idx : Nat} (hdg : decode cc pc = .ok (.getfield idx, 3)) (hf : sGetOk own idx k) {st st' : List Value} (hh : sGetF k st h = some (st', h'))
    (kk : h' = h → W p l e R s m args below meth c H locs cells slots Q (F0 m (pc + 3) ls (rS (sAd base b) st'))) : W p l e R s m args below meth c H locs cells slots Q (F0 m pc ls (rS (sAd base b) st)) := by
  obtain ⟨hx, hb, hml, hown, hts, hK, hbs, hnw⟩ := E
  obtain ⟨ref, hf⟩ := hf
  unfold sGetF at hh
  split at hh
  · split at hh
    · rename_i ci fs ha
      split at hh
      · rename_i hg
        split at hh
        · rename_i v hv
          cases hh
          obtain ⟨q, hq⟩ := s_cls S ha
          obtain ⟨f1, f2, f3⟩ := hf ci q hq hg
          obtain ⟨C, T, N⟩ := q
          exact va_get hx hb hts (sCF_all ci _ hq).1 hown hK S.1 _ (rW_at ha) hq (k % 64) f1 (hts _ f2) (s_same hts f3) (v := rV (sAd base b) v) (by rw [List.getElem?_map, hv]; rfl) hdg (kk rfl)
        · cases hh
      · cases hh
    · cases hh
  · cases hh
def sPutOk (own : String) (ini : Prop) (idx k : Nat) : Prop := ∃ ref : String, ∀ (ci : Nat) (q : vw_C), vwCl[ci]? = some q → sGrp ci = k / 64 → k % 64 < q.2.2 ∧ Jvm.Cond.fieldLink own idx ref (q.2.1 (k % 64)).2.1 (q.2.1 (k % 64)).2.2.1 ∈ sTB ∧ sSame ref q (k % 64) ∧ ((q.2.1 (k % 64)).2.2.2 = true → ini ∧ (q.2.1 (k % 64)).1 = own)
theorem s_put (E : sEnv p s m c args cc nL base D dA own) {h h' : sHp} (S : sSt base b D dA s h H locs) {k idx : Nat} (hdg : decode cc pc = .ok (.putfield idx, 3)) {ini : Prop} (hini : ini → meth.name = "<init>") (hf : sPutOk own ini idx k) {st st' : List Value} (hh : sPutF k st h = some (st', h'))
    (kk : ∀ (H1 : Heap) (locs1 : List Loc), sSt base b D dA s h' H1 locs1 → h'.length = h.length → sSl h' = sSl h → W p l e R s m args below meth c H1 locs1 cells slots Q (F0 m (pc + 3) ls (rS (sAd base b) st'))) : W p l e R s m args below meth c H locs cells slots Q (F0 m pc ls (rS (sAd base b) st)) := by
  obtain ⟨hx, hb, hml, hown, hts, hK, hbs, hnw⟩ := E
  obtain ⟨ref, hf⟩ := hf
  unfold sPutF at hh
  split at hh
  · rename_i v a r
    split at hh
    · rename_i ci fs ha
      split at hh
      · rename_i hg
        cases hh
        obtain ⟨hg, hl, hfit⟩ := hg
        obtain ⟨q, hq⟩ := s_cls S ha
        obtain ⟨f1, f2, f3, f4⟩ := hf ci q hq hg
        obtain ⟨C, T, N⟩ := q
        obtain ⟨c1, c2, c3⟩ := sCF_all ci _ hq
        obtain ⟨n1, n2⟩ := sFit_ok (σ := sAd base b) hfit
        have fin : ∀ (H1 : Heap) (locs1 : List Loc), va_P D vwCl ((rW (sAd base b) dA h).set a (sAd base b a, .inr (ci, (fs.map (rV (sAd base b))).set (k % 64) (rV (sAd base b) v)))) H1 → va_D (fun q => base ≤ q) ((rW (sAd base b) dA h).set a (sAd base b a, .inr (ci, (fs.map (rV (sAd base b))).set (k % 64) (rV (sAd base b) v)))) → va_S (fun q => base ≤ q) s.heap H1 locs1 → W p l e R s m args below meth c H1 locs1 cells slots Q (F0 m (pc + 3) ls (rS (sAd base b) st')) := by
          intro H1 l1 P1 _ S1
          refine kk H1 l1 ⟨?_, S1, by rw [List.length_set]; exact S.2.2⟩ (by rw [List.length_set]) (sSl_set ha (by show (fs.set _ _).length = fs.length; rw [List.length_set]))
          rw [← rW_set]
          show va_P D vwCl ((rW (sAd base b) dA h).set a (sAd base b a, .inr (ci, (fs.set (k % 64) v).map (rV (sAd base b))))) H1
          rw [List.map_set]
          exact P1
        cases hfl : (T (k % 64)).2.2.2 with
        | false => exact va_put hx hb hts c1 (sTy ci) c2 c3 hown hK S.1 (rW_apart S.2.2) S.2.1 a (rW_at ha) hq (k % 64) f1 (hts _ f2) (s_same hts f3) hfl (c2 _ f1) n1 n2 (by rw [List.length_map]; exact hl) hdg fin
        | true =>
          obtain ⟨g1, g2⟩ := f4 hfl
          exact va_putF hx hb hts c1 (sTy ci) c2 c3 hown hK S.1 (rW_apart S.2.2) S.2.1 a (rW_at ha) hq (k % 64) f1 (hts _ f2) (s_same hts f3) hfl (hini g1) g2 (c2 _ f1) n1 n2 (by rw [List.length_map]; exact hl) hdg fin
      · cases hh
    · cases hh
  · cases hh
theorem sUpd_map (σ : Nat → Nat) (f : Nat → Option Nat) (i : Nat) (r : Option Nat) : (fun j => (va_up f i r j).map σ) = va_up (fun j => (f j).map σ) i (r.map σ) := by
  funext j
  unfold va_up
  by_cases e : j = i <;> simp [e]
theorem s_ldAI (E : sEnv p s m c args cc nL base D dA own) {h h' : sHp} (S : sSt base b D dA s h H locs) (hdg : decode cc pc = .ok (.iaload, 1)) {st st' : List Value} (hh : sLdAI 0 st h = some (st', h'))
    (kk : h' = h → W p l e R s m args below meth c H locs cells slots Q (F0 m (pc + 1) ls (rS (sAd base b) st'))) : W p l e R s m args below meth c H locs cells slots Q (F0 m pc ls (rS (sAd base b) st)) := by
  obtain ⟨hx, hb, hml, hown, hts, hK, hbs, hnw⟩ := E
  unfold sLdAI at hh
  split at hh
  · split at hh
    · rename_i t n f ha
      split at hh
      · rename_i hg
        cases hh
        obtain ⟨rfl, hin⟩ := hg
        exact va_iald hx hb hK S.1 _ 0 (rW_at ha) rfl hin hdg (kk rfl)
      · cases hh
    · cases hh
  · cases hh
theorem s_ldAZ (E : sEnv p s m c args cc nL base D dA own) {h h' : sHp} (S : sSt base b D dA s h H locs) (hdg : decode cc pc = .ok (.baload, 1)) {st st' : List Value} (hh : sLdAI 2 st h = some (st', h'))
    (kk : h' = h → W p l e R s m args below meth c H locs cells slots Q (F0 m (pc + 1) ls (rS (sAd base b) st'))) : W p l e R s m args below meth c H locs cells slots Q (F0 m pc ls (rS (sAd base b) st)) := by
  obtain ⟨hx, hb, hml, hown, hts, hK, hbs, hnw⟩ := E
  unfold sLdAI at hh
  split at hh
  · split at hh
    · rename_i t n f ha
      split at hh
      · rename_i hg
        cases hh
        obtain ⟨rfl, hin⟩ := hg
        exact va_zald hx hb hK S.1 _ 2 (rW_at ha) rfl hin hdg (kk rfl)
      · cases hh
    · cases hh
  · cases hh
theorem s_ldAL (E : sEnv p s m c args cc nL base D dA own) {h h' : sHp} (S : sSt base b D dA s h H locs) (hdg : decode cc pc = .ok (.laload, 1)) {st st' : List Value} (hh : sLdAL st h = some (st', h'))
    (kk : h' = h → W p l e R s m args below meth c H locs cells slots Q (F0 m (pc + 1) ls (rS (sAd base b) st'))) : W p l e R s m args below meth c H locs cells slots Q (F0 m pc ls (rS (sAd base b) st)) := by
  obtain ⟨hx, hb, hml, hown, hts, hK, hbs, hnw⟩ := E
  unfold sLdAL at hh
  split at hh
  · split at hh
    · rename_i t n f ha
      split at hh
      · rename_i hg
        cases hh
        obtain ⟨rfl, hin⟩ := hg
        exact va_lald hx hb hK S.1 _ 1 (rW_at ha) rfl hin hdg (kk rfl)
      · cases hh
    · cases hh
  · cases hh
theorem s_ldAA (E : sEnv p s m c args cc nL base D dA own) {h h' : sHp} (S : sSt base b D dA s h H locs) (hdg : decode cc pc = .ok (.aaload, 1)) {st st' : List Value} (hh : sLdAA st h = some (st', h'))
    (kk : h' = h → W p l e R s m args below meth c H locs cells slots Q (F0 m (pc + 1) ls (rS (sAd base b) st'))) : W p l e R s m args below meth c H locs cells slots Q (F0 m pc ls (rS (sAd base b) st)) := by
  obtain ⟨hx, hb, hml, hown, hts, hK, hbs, hnw⟩ := E
  unfold sLdAA at hh
  split at hh
  · rename_i i a r
    split at hh
    · rename_i t n f ha
      split at hh
      · rename_i hg
        cases hh
        obtain ⟨ht, hin⟩ := hg
        have hlt : i.toNatClampNeg < n := Nat.not_le.mp fun q => hin (Or.inr q)
        have key : ∀ (t0 : Nat) (ty : FieldType), (sTys dA)[t0]? = some (dA t, ty) → ty.isReference = true → W p l e R s m args below meth c H locs cells slots Q (F0 m pc ls (rS (sAd base b) (.int i :: .ref a :: r))) := by
          intro t0 ty h1 h2
          have hPa : H[sAd base b a]? = some (vp_cell (dA t) (n, .inr (.inr (.inr (.inr (fun j => (f j).map (sAd base b))))))) := S.1 _ _ (rW_at ha)
          rw [vp_cell_q] at hPa
          refine W.aald (v := va_rf ((f i.toNatClampNeg).map (sAd base b))) (ty := ty) hx hb hPa ((hK.2 t0 _ h1).1 n (fun j => va_rf ((f j).map (sAd base b)))) h2 (fun q => by cases q) (by rw [arrV_size]; exact hin) (by rw [arrV_read _ _ hlt]) rfl rfl hdg ?_
          have k2 := kk rfl
          rw [rS, List.map_cons, rV_rf] at k2
          exact k2
        rcases ht with rfl | rfl | rfl
        · exact key 3 (.object RX7) rfl rfl
        · exact key 4 (.object RX2) rfl rfl
        · exact key 5 (.array .int) rfl rfl
      · cases hh
    · cases hh
  · cases hh
theorem s_stAI (E : sEnv p s m c args cc nL base D dA own) {h h' : sHp} (S : sSt base b D dA s h H locs) (hdg : decode cc pc = .ok (.iastore, 1)) {st st' : List Value} (hh : sStAI st h = some (st', h'))
    (kk : ∀ (H1 : Heap) (locs1 : List Loc), sSt base b D dA s h' H1 locs1 → h'.length = h.length → sSl h' = sSl h → W p l e R s m args below meth c H1 locs1 cells slots Q (F0 m (pc + 1) ls (rS (sAd base b) st'))) : W p l e R s m args below meth c H locs cells slots Q (F0 m pc ls (rS (sAd base b) st)) := by
  obtain ⟨hx, hb, hml, hown, hts, hK, hbs, hnw⟩ := E
  unfold sStAI at hh
  split at hh
  · split at hh
    · rename_i t n f ha
      split at hh
      · rename_i hg
        cases hh
        obtain ⟨rfl, hin⟩ := hg
        refine va_iast hx hb hK S.1 (rW_apart S.2.2) S.2.1 _ 0 (rW_at ha) rfl hin hdg fun H1 l1 P1 _ S1 => kk H1 l1 ⟨?_, S1, by rw [List.length_set]; exact S.2.2⟩ (by rw [List.length_set]) (sSl_set ha rfl)
        rw [← rW_set]
        exact P1
      · cases hh
    · cases hh
  · cases hh
theorem s_stAZ (E : sEnv p s m c args cc nL base D dA own) {h h' : sHp} (S : sSt base b D dA s h H locs) (hdg : decode cc pc = .ok (.bastore, 1)) {st st' : List Value} (hh : sStAZ st h = some (st', h'))
    (kk : ∀ (H1 : Heap) (locs1 : List Loc), sSt base b D dA s h' H1 locs1 → h'.length = h.length → sSl h' = sSl h → W p l e R s m args below meth c H1 locs1 cells slots Q (F0 m (pc + 1) ls (rS (sAd base b) st'))) : W p l e R s m args below meth c H locs cells slots Q (F0 m pc ls (rS (sAd base b) st)) := by
  obtain ⟨hx, hb, hml, hown, hts, hK, hbs, hnw⟩ := E
  unfold sStAZ at hh
  split at hh
  · rename_i x i a r
    split at hh
    · rename_i t n f ha
      split at hh
      · rename_i hg
        cases hh
        obtain ⟨rfl, hx01, hin⟩ := hg
        refine va_zast hx hb hK S.1 (rW_apart S.2.2) S.2.1 _ 2 (rW_at ha) rfl hin hdg fun H1 l1 P1 _ S1 => kk H1 l1 ⟨?_, S1, by rw [List.length_set]; exact S.2.2⟩ (by rw [List.length_set]) (sSl_set ha rfl)
        have hz : vp_nar .boolean x = x := by rcases hx01 with rfl | rfl <;> decide
        rw [hz] at P1
        rw [← rW_set]
        exact P1
      · cases hh
    · cases hh
  · cases hh
theorem s_stAL (E : sEnv p s m c args cc nL base D dA own) {h h' : sHp} (S : sSt base b D dA s h H locs) (hdg : decode cc pc = .ok (.lastore, 1)) {st st' : List Value} (hh : sStAL st h = some (st', h'))
    (kk : ∀ (H1 : Heap) (locs1 : List Loc), sSt base b D dA s h' H1 locs1 → h'.length = h.length → sSl h' = sSl h → W p l e R s m args below meth c H1 locs1 cells slots Q (F0 m (pc + 1) ls (rS (sAd base b) st'))) : W p l e R s m args below meth c H locs cells slots Q (F0 m pc ls (rS (sAd base b) st)) := by
  obtain ⟨hx, hb, hml, hown, hts, hK, hbs, hnw⟩ := E
  unfold sStAL at hh
  split at hh
  · split at hh
    · rename_i t n f ha
      split at hh
      · rename_i hg
        cases hh
        obtain ⟨rfl, hin⟩ := hg
        refine va_last hx hb hK S.1 (rW_apart S.2.2) S.2.1 _ 1 (rW_at ha) rfl hin hdg fun H1 l1 P1 _ S1 => kk H1 l1 ⟨?_, S1, by rw [List.length_set]; exact S.2.2⟩ (by rw [List.length_set]) (sSl_set ha rfl)
        rw [← rW_set]
        exact P1
      · cases hh
    · cases hh
  · cases hh
theorem s_castOk (hnw : sNw s) {ci : Nat} {q : vw_C} (hq : vwCl[ci]? = some q) (hg : sGrp ci = 2) (hl : ci < 11) : ci = 2 ∨ (Jvm.Cond.castable q.1 RX2).before #[] s = true := by
  match ci, hq, hg, hl with
  | 0, hq, _, _ => cases hq; exact Or.inr (hnw _ (by simp [sNwl]))
  | 1, hq, _, _ => cases hq; exact Or.inr (hnw _ (by simp [sNwl]))
  | 2, hq, _, _ => exact Or.inl rfl
  | 3, hq, hg, _ => exact absurd hg (by decide)
  | 4, hq, _, _ => cases hq; exact Or.inr (hnw _ (by simp [sNwl]))
  | 5, hq, _, _ => cases hq; exact Or.inr (hnw _ (by simp [sNwl]))
  | 6, hq, hg, _ => exact absurd hg (by decide)
  | 7, hq, hg, _ => exact absurd hg (by decide)
  | 8, hq, hg, _ => exact absurd hg (by decide)
  | 9, hq, _, _ => cases hq; exact Or.inr (hnw _ (by simp [sNwl]))
  | 10, hq, _, _ => cases hq; exact Or.inr (hnw _ (by simp [sNwl]))
  | k + 11, _, _, hl => omega
theorem s_stAA (E : sEnv p s m c args cc nL base D dA own) {h h' : sHp} (S : sSt base b D dA s h H locs) (hdg : decode cc pc = .ok (.aastore, 1)) {st st' : List Value} (hh : sStAA st h = some (st', h'))
    (kk : ∀ (H1 : Heap) (locs1 : List Loc), sSt base b D dA s h' H1 locs1 → h'.length = h.length → sSl h' = sSl h → W p l e R s m args below meth c H1 locs1 cells slots Q (F0 m (pc + 1) ls (rS (sAd base b) st'))) : W p l e R s m args below meth c H locs cells slots Q (F0 m pc ls (rS (sAd base b) st)) := by
  obtain ⟨hx, hb, hml, hown, hts, hK, hbs, hnw⟩ := E
  unfold sStAA at hh
  split at hh
  · rename_i q i a r
    split at hh
    · rename_i t n f ha
      split at hh
      · rename_i hg
        cases hh
        obtain ⟨hob, hin⟩ := hg
        have fin : ∀ (H1 : Heap) (l1 : List Loc), va_P D vwCl ((rW (sAd base b) dA h).set a (sAd base b a, .inl (dA t, n, .inr (.inr (.inr (.inr (va_up (fun j => (f j).map (sAd base b)) i.toNatClampNeg (some (sAd base b q))))))))) H1 → va_D (fun q => base ≤ q) ((rW (sAd base b) dA h).set a (sAd base b a, .inl (dA t, n, .inr (.inr (.inr (.inr (va_up (fun j => (f j).map (sAd base b)) i.toNatClampNeg (some (sAd base b q))))))))) → va_S (fun q => base ≤ q) s.heap H1 l1 → W p l e R s m args below meth c H1 l1 cells slots Q (F0 m (pc + 1) ls (rS (sAd base b) st')) := by
          intro H1 l1 P1 _ S1
          refine kk H1 l1 ⟨?_, S1, by rw [List.length_set]; exact S.2.2⟩ (by rw [List.length_set]) (sSl_set ha rfl)
          rw [← rW_set]
          show va_P D vwCl ((rW (sAd base b) dA h).set a (sAd base b a, .inl (dA t, n, .inr (.inr (.inr (.inr (fun j => (va_up f i.toNatClampNeg (some q) j).map (sAd base b)))))))) H1
          rw [sUpd_map]
          exact P1
        unfold sIsObj at hob
        split at hob
        · rename_i ci fs hq
          simp only [Bool.or_eq_true, Bool.and_eq_true, beq_iff_eq, decide_eq_true_eq] at hob
          obtain ⟨qc, hqc⟩ := s_cls S hq
          rcases hob with ⟨rfl, rfl⟩ | ⟨rfl, hg2, hl⟩
          · cases hqc
            refine va_astqM (E := RX7) hx hb hK S.1 (rW_apart S.2.2) S.2.1 _ 3 (rW_at ha) rfl (va_rAny hK S.1 (rW_at hq) rfl ?_) hin hdg fin
            intro comp c0 h1 h2
            cases h1.symm.trans h2
            have h3 := (hK.1 7 _ rfl).2
            cases h3.1.symm.trans h1
            exact va_assign h3
          · refine va_astqM (E := RX2) hx hb hK S.1 (rW_apart S.2.2) S.2.1 _ 4 (rW_at ha) rfl (va_rAny hK S.1 (rW_at hq) hqc ?_) hin hdg fin
            intro comp c0 h1 h2
            rcases s_castOk hnw hqc hg2 hl with rfl | hc
            · cases hqc
              cases h1.symm.trans h2
              have h3 := (hK.1 2 _ rfl).2
              cases h3.1.symm.trans h1
              exact va_assign h3
            · obtain ⟨c3, c4, e3, e4, hasg⟩ := Cond.castable_spec hc
              cases h2.symm.trans e3
              cases h1.symm.trans e4
              exact hasg
        · cases hob
      · cases hh
    · cases hh
  · rename_i i a r
    split at hh
    · rename_i t n f ha
      split at hh
      · rename_i hg
        cases hh
        obtain ⟨ht, hin⟩ := hg
        have fin : ∀ (H1 : Heap) (l1 : List Loc), va_P D vwCl ((rW (sAd base b) dA h).set a (sAd base b a, .inl (dA t, n, .inr (.inr (.inr (.inr (va_up (fun j => (f j).map (sAd base b)) i.toNatClampNeg none))))))) H1 → va_D (fun q => base ≤ q) ((rW (sAd base b) dA h).set a (sAd base b a, .inl (dA t, n, .inr (.inr (.inr (.inr (va_up (fun j => (f j).map (sAd base b)) i.toNatClampNeg none))))))) → va_S (fun q => base ≤ q) s.heap H1 l1 → W p l e R s m args below meth c H1 l1 cells slots Q (F0 m (pc + 1) ls (rS (sAd base b) st')) := by
          intro H1 l1 P1 _ S1
          refine kk H1 l1 ⟨?_, S1, by rw [List.length_set]; exact S.2.2⟩ (by rw [List.length_set]) (sSl_set ha rfl)
          rw [← rW_set]
          show va_P D vwCl ((rW (sAd base b) dA h).set a (sAd base b a, .inl (dA t, n, .inr (.inr (.inr (.inr (fun j => (va_up f i.toNatClampNeg none j).map (sAd base b)))))))) H1
          rw [sUpd_map]
          exact P1
        rcases ht with rfl | rfl
        · exact va_astqN hx hb hK S.1 (rW_apart S.2.2) S.2.1 _ 3 (rW_at ha) rfl hin hdg fin
        · exact va_astqN hx hb hK S.1 (rW_apart S.2.2) S.2.1 _ 4 (rW_at ha) rfl hin hdg fin
      · cases hh
    · cases hh
  · cases hh
theorem rA_len (σ : Nat → Nat) (a : vp_A) : (rA σ a).1 = a.1 := by
  obtain ⟨n, d⟩ := a
  rcases d with d | d | d | d | d <;> rfl
theorem s_alen (E : sEnv p s m c args cc nL base D dA own) {h h' : sHp} (S : sSt base b D dA s h H locs) (hdg : decode cc pc = .ok (.arraylength, 1)) {st st' : List Value} (hh : sALen st h = some (st', h'))
    (kk : h' = h → W p l e R s m args below meth c H locs cells slots Q (F0 m (pc + 1) ls (rS (sAd base b) st'))) : W p l e R s m args below meth c H locs cells slots Q (F0 m pc ls (rS (sAd base b) st)) := by
  obtain ⟨hx, hb, hml, hown, hts, hK, hbs, hnw⟩ := E
  unfold sALen at hh
  split at hh
  · split at hh
    · rename_i t n d ha
      split at hh
      · rename_i ht
        cases hh
        have hty : ∃ ty, (sTys dA)[t]? = some (dA t, ty) := by
          match t, ht with
          | 0, _ => exact ⟨_, rfl⟩
          | 1, _ => exact ⟨_, rfl⟩
          | 2, _ => exact ⟨_, rfl⟩
          | 3, _ => exact ⟨_, rfl⟩
          | 4, _ => exact ⟨_, rfl⟩
          | 5, _ => exact ⟨_, rfl⟩
        obtain ⟨ty, hty⟩ := hty
        exact va_alen hx hb hK S.1 _ t (rW_at ha) hty (by rw [rA_len]) hdg (kk rfl)
      · cases hh
    · cases hh
  · cases hh
end HEAP
end
section
/-! ===== new cells, constants, jumps, ends ===== -/
section NEW
variable {p : Program} {l : Launch} {e : Env} {R : Room} {s : State} {m : MethodId} {args : Array Value} {below : List Frame} {meth : Method} {c : Code} {H : Heap} {locs : List Loc} {cells slots : Nat} {Q : State → Prop} {cc : ByteArray} {pc : Nat} {ls : Array Slot} {nL base b : Nat} {D : va_G} {dA : Nat → ClassId} {own : String}
theorem W_size {g : JFrame} (k : H.size ≤ s.heap.size + cells → W p l e R s m args below meth c H locs cells slots Q g) : W p l e R s m args below meth c H locs cells slots Q g := fun T hT X => k (by rw [← hT]; exact X.heapSize) T hT X
theorem s_size {h : sHp} (S : sSt base b D dA s h H locs) (hb : base ≤ s.heap.size) (ac : s.heap.size + cells = base + h.length) (hz : H.size ≤ s.heap.size + cells) : H.size = base + h.length := by
  cases hl : h.length with
  | zero =>
    have := S.2.1.1
    omega
  | succ n =>
    have hn : n < h.length := by omega
    have h1 := (S.1 n _ (rW_at (List.getElem?_eq_getElem hn))).lt
    have h2 : sAd base b n = base + n := sAd_in (by have := S.2.2; omega)
    have h3 : sAd base b n < H.size := h1
    omega
theorem rV_def (σ : Nat → Nat) (ty : FieldType) : rV σ (defaultValue ty) = defaultValue ty := by cases ty <;> rfl
theorem s_push {h : sHp} (S : sSt base b D dA s h H locs) (hs : H.size = base + h.length) (hl : h.length < 1000000) {x : va_E} {H1 : Heap} (hx : va_at D vwCl (base + h.length, rC (sAd base b) dA x) H1) (ho : ∀ q, q < base + h.length → H1[q]? = H[q]?) (hz : H.size ≤ H1.size) : sSt base b D dA s (h ++ [x]) H1 locs := by
  refine ⟨?_, ⟨Nat.le_trans S.2.1.1 hz, fun q h1 h2 => (ho q (by have := S.2.1.1; omega)).trans (S.2.1.2.1 q h1 h2), S.2.1.2.2⟩, by rw [List.length_append]; exact hl⟩
  rw [rW_app, sAd_in hl]
  refine (S.1.kept fun k y hk => ho y.1 (by have := (S.1 k y hk).lt; omega)).app fun k y hk => ?_
  have h0 : k < 1 := (List.getElem?_eq_some_iff.mp hk).1
  rw [show k = 0 by omega] at hk
  cases hk
  exact hx
def sNewOk (own : String) (idx k : Nat) : Prop := ∃ q, vwCl[k]? = some q ∧ Jvm.Cond.classLink own idx q.1 ∈ sTB ∧ Jvm.Cond.instantiable q.1 q.2.2 ∈ sTB ∧ Jvm.Cond.initialized q.1 ∈ sTB
theorem s_new (E : sEnv p s m c args cc nL base D dA own) {h h' : sHp} (S : sSt base b D dA s h H locs) (ac : s.heap.size + cells = base + h.length) {k idx : Nat} (hdg : decode cc pc = .ok (.new idx, 3)) (hf : sNewOk own idx k) {st st' : List Value} (hh : sNew k st h = some (st', h')) (hl : h'.length ≤ 1000000)
    (hc : cells + (h'.length - h.length) ≤ R.cells) (hs : slots + (sSl h' - sSl h) ≤ R.slots)
    (kk : ∀ (H1 : Heap), sSt base b D dA s h' H1 locs → W p l e R s m args below meth c H1 locs (cells + (h'.length - h.length)) (slots + (sSl h' - sSl h)) Q (F0 m (pc + 3) ls (rS (sAd base b) st'))) : W p l e R s m args below meth c H locs cells slots Q (F0 m pc ls (rS (sAd base b) st)) := by
  obtain ⟨hx, hb, hml, hown, hts, hK, hbs, hnw⟩ := E
  obtain ⟨q, hq, f1, f2, f3⟩ := hf
  unfold sNew at hh
  split at hh
  · cases hh
    have hsz : sSl (h ++ [.inr (k, sDef k)]) - sSl h = q.2.2 := by
      rw [sSl_app]
      show sSl h + ((sDef k).length + 0) - sSl h = _
      have : (sDef k).length = q.2.2 := by unfold sDef sNF; rw [hq, List.length_map, List.length_range]
      omega
    have hln : (h ++ [(.inr (k, sDef k) : va_E)]).length - h.length = 1 := by rw [List.length_append]; simp
    rw [hln] at hc kk
    rw [hsz] at hs kk
    have hl1 : h.length < 1000000 := by rw [List.length_append] at hl; exact hl
    refine W_size fun hz => ?_
    have hH := s_size S hbs ac hz
    obtain ⟨C, T, N⟩ := q
    obtain ⟨c1, c2, c3⟩ := sCF_all k _ hq
    have hKn := hK.1 k _ hq
    refine W.newcK hx hb hown (hts _ f1) (hts _ f2) (hts _ f3) rfl hdg hc hs hKn.2.1 hH fun H1 kC hkC e1 z1 o1 => ?_
    have h2 := kk H1 (s_push S hH hl1 ⟨_, hq, (u_born (sTy k) hts c1 hKn hkC e1 c2).to fun j hj => ?_⟩ o1 (by omega))
    · rw [rS, List.map_cons] at h2
      have e5 : rV (sAd base b) (.ref h.length) = .ref (base + h.length) := by show Value.ref (sAd base b h.length) = _; rw [sAd_in hl1]
      rw [e5] at h2
      exact h2
    · have hN : sNF k = N := by unfold sNF; rw [hq]
      show defaultValue (sTy k j) = vp_V ((sDef k).map (rV (sAd base b))) j
      unfold vp_V sDef
      rw [hN, List.map_map, List.getD_eq_getElem?_getD, List.getElem?_map, List.getElem?_range hj]
      show _ = rV (sAd base b) (defaultValue (sTy k j))
      rw [rV_def]
  · cases hh
theorem s_newAt (E : sEnv p s m c args cc nL base D dA own) {h : sHp} (S : sSt base b D dA s h H locs) (ac : s.heap.size + cells = base + h.length) {aty : ArrayType} (hdg : decode cc pc = .ok (.newarray aty, 2)) (hw : Jvm.Cond.arrayClass (newarray.typeOf aty) ∈ sTB) {n : Int32} {r : List Value} (hn : ¬ (n < 0 ∨ 100000 < n.toNatClampNeg)) (hl : h.length < 1000000)
    (hc : cells + 1 ≤ R.cells) (hs : slots + n.toNatClampNeg ≤ R.slots) {t : Nat} {d : vp_A} (ht : s.vm.findClass ("[" ++ (newarray.typeOf aty).toString) = some (dA t)) (hb8 : componentBytes (newarray.typeOf aty) ≤ 8) (hd : ∀ cA, vp_cell cA (rA (sAd base b) d) = arrV cA n.toNatClampNeg (fun _ => defaultValue (newarray.typeOf aty)))
    (kk : ∀ (H1 : Heap), sSt base b D dA s (h ++ [.inl (t, d)]) H1 locs → W p l e R s m args below meth c H1 locs (cells + 1) (slots + n.toNatClampNeg) Q (F0 m (pc + 2) ls (rS (sAd base b) (.ref h.length :: r)))) : W p l e R s m args below meth c H locs cells slots Q (F0 m pc ls (rS (sAd base b) (.int n :: r))) := by
  obtain ⟨hx, hb, hml, hown, hts, hK, hbs, hnw⟩ := E
  refine W_size fun hz => ?_
  have hH := s_size S hbs ac hz
  have hn1 : ¬ n < 0 := fun q => hn (Or.inl q)
  have hn2 : n.toNatClampNeg ≤ 100000 := by
    rcases Nat.lt_or_ge 100000 n.toNatClampNeg with q | q
    · exact absurd (Or.inr q) hn
    · exact q
  refine va_newaK hx hb (hts _ hw) rfl hdg rfl hn1 rfl (Nat.le_trans (Nat.mul_le_mul hn2 hb8) (by decide)) hc hs hH fun H1 cA e1 z1 o1 hAr hNm => ?_
  have e : cA = dA t := Option.some.inj (hNm.symm.trans ht)
  subst e
  have h2 := kk H1 (s_push S hH hl (by
    show H1[base + h.length]? = some (vp_cell (dA t) (rA (sAd base b) d))
    rw [hd]
    exact e1) o1 (by omega))
  rw [rS, List.map_cons] at h2
  have e5 : rV (sAd base b) (.ref h.length) = .ref (base + h.length) := by show Value.ref (sAd base b h.length) = _; rw [sAd_in hl]
  rw [e5] at h2
  exact h2
theorem s_newA (E : sEnv p s m c args cc nL base D dA own) {h h' : sHp} (S : sSt base b D dA s h H locs) (ac : s.heap.size + cells = base + h.length) {aty : ArrayType} (hdg : decode cc pc = .ok (.newarray aty, 2)) (hw : Jvm.Cond.arrayClass (newarray.typeOf aty) ∈ sTB) {st st' : List Value} (hh : sNewA aty st h = some (st', h')) (hl : h'.length ≤ 1000000)
    (hc : cells + (h'.length - h.length) ≤ R.cells) (hs : slots + (sSl h' - sSl h) ≤ R.slots)
    (kk : ∀ (H1 : Heap), sSt base b D dA s h' H1 locs → W p l e R s m args below meth c H1 locs (cells + (h'.length - h.length)) (slots + (sSl h' - sSl h)) Q (F0 m (pc + 2) ls (rS (sAd base b) st'))) : W p l e R s m args below meth c H locs cells slots Q (F0 m pc ls (rS (sAd base b) st)) := by
  have hK : va_K D vwCl (sTys dA) s := E.2.2.2.2.2.1
  have key : ∀ (x : va_E) (n : Nat), sSz x = n → (h ++ [x]).length - h.length = 1 ∧ sSl (h ++ [x]) - sSl h = n := by
    intro x n hx
    refine ⟨by rw [List.length_append]; simp, ?_⟩
    rw [sSl_app]
    show sSl h + (sSz x + 0) - sSl h = n
    omega
  unfold sNewA at hh
  split at hh
  · rename_i n r
    split at hh
    · cases hh
    · rename_i hn
      split at hh
      · cases hh
        obtain ⟨k1, k2⟩ := key (.inl (0, n.toNatClampNeg, .inl (fun _ => 0))) _ rfl
        rw [k1] at hc kk
        rw [k2] at hs kk
        rw [List.length_append] at hl
        exact s_newAt E S ac hdg hw hn hl hc hs (hK.2 0 _ rfl).2 (by decide) (fun cA => rfl) kk
      · cases hh
        obtain ⟨k1, k2⟩ := key (.inl (1, n.toNatClampNeg, .inr (.inl (fun _ => 0)))) _ rfl
        rw [k1] at hc kk
        rw [k2] at hs kk
        rw [List.length_append] at hl
        exact s_newAt E S ac hdg hw hn hl hc hs (hK.2 1 _ rfl).2 (by decide) (fun cA => rfl) kk
      · cases hh
        obtain ⟨k1, k2⟩ := key (.inl (2, n.toNatClampNeg, .inl (fun _ => 0))) _ rfl
        rw [k1] at hc kk
        rw [k2] at hs kk
        rw [List.length_append] at hl
        exact s_newAt E S ac hdg hw hn hl hc hs (hK.2 2 _ rfl).2 (by decide) (fun cA => rfl) kk
      · cases hh
  · cases hh
def sNewQOk (own : String) (idx k : Nat) : Prop := (k = 3 ∧ Jvm.Cond.classLink own idx RX7 ∈ sTB) ∨ (k = 4 ∧ Jvm.Cond.classLink own idx RX2 ∈ sTB)
theorem s_newQ (E : sEnv p s m c args cc nL base D dA own) {h h' : sHp} (S : sSt base b D dA s h H locs) (ac : s.heap.size + cells = base + h.length) {k idx : Nat} (hdg : decode cc pc = .ok (.anewarray idx, 3)) (hf : sNewQOk own idx k) {st st' : List Value} (hh : sNewQ k st h = some (st', h')) (hl : h'.length ≤ 1000000)
    (hc : cells + (h'.length - h.length) ≤ R.cells) (hs : slots + (sSl h' - sSl h) ≤ R.slots)
    (kk : ∀ (H1 : Heap), sSt base b D dA s h' H1 locs → W p l e R s m args below meth c H1 locs (cells + (h'.length - h.length)) (slots + (sSl h' - sSl h)) Q (F0 m (pc + 3) ls (rS (sAd base b) st'))) : W p l e R s m args below meth c H locs cells slots Q (F0 m pc ls (rS (sAd base b) st)) := by
  obtain ⟨hx, hb, hml, hown, hts, hK, hbs, hnw⟩ := E
  unfold sNewQ at hh
  split at hh
  · rename_i n r
    split at hh
    · cases hh
    · rename_i hn
      cases hh
      have hn1 : ¬ n < 0 := fun q => hn (Or.inl q)
      have hn2 : n.toNatClampNeg ≤ 100000 := by
        rcases Nat.lt_or_ge 100000 n.toNatClampNeg with q | q
        · exact absurd (Or.inr (Or.inl q)) hn
        · exact q
      have k1 : (h ++ [(.inl (k, n.toNatClampNeg, .inr (.inr (.inr (.inr (fun _ => none))))) : va_E)]).length - h.length = 1 := by rw [List.length_append]; simp
      have k2 : sSl (h ++ [(.inl (k, n.toNatClampNeg, .inr (.inr (.inr (.inr (fun _ => none))))) : va_E)]) - sSl h = n.toNatClampNeg := by
        rw [sSl_app]
        show sSl h + (n.toNatClampNeg + 0) - sSl h = _
        omega
      rw [k1] at hc kk
      rw [k2] at hs kk
      rw [List.length_append] at hl
      have hl1 : h.length < 1000000 := hl
      refine W_size fun hz => ?_
      have hH := s_size S hbs ac hz
      have go : ∀ (C : String), Jvm.Cond.classLink own idx C ∈ sTB → (Jvm.Cond.arrayOver (.object C)).before #[] s = true → s.vm.findClass ("[" ++ (FieldType.object C).toString) = some (dA k) → W p l e R s m args below meth c H locs cells slots Q (F0 m pc ls (rS (sAd base b) (.int n :: r))) := by
        intro C w1 w2 w3
        refine W.anew hx hb hown (hts _ w1) (va_AO.use w2) rfl hdg rfl hn1 (by omega) hc hs fun cA kA comp f1 f2 f3 f4 => ?_
        have e : cA = dA k := Option.some.inj (f1.symm.trans w3)
        subst e
        have h2 := kk _ (s_push (H1 := H.push { cls := dA k, slots := Array.replicate n.toNatClampNeg .null, vm := .none }) S hH hl1 (by
          show (H.push _)[base + h.length]? = some (vp_cell (dA k) (n.toNatClampNeg, .inr (.inr (.inr (.inr (fun _ => none))))))
          rw [vp_cell_q, ← hH, Array.getElem?_push_size, arrV_new]
          rfl) (fun q hq => by rw [Array.getElem?_push, if_neg (by omega)]) (by rw [Array.size_push]; omega))
        rw [rS, List.map_cons] at h2
        have e5 : rV (sAd base b) (.ref h.length) = .ref H.size := by show Value.ref (sAd base b h.length) = _; rw [sAd_in hl1, hH]
        rw [e5] at h2
        exact h2
      rcases hf with ⟨rfl, hf⟩ | ⟨rfl, hf⟩
      · obtain ⟨_, _, _, _, _, w⟩ := (hK.2 3 _ rfl).2
        exact go RX7 hf (hnw _ (by simp [sNwl])) w
      · obtain ⟨_, _, _, _, _, w⟩ := (hK.2 4 _ rfl).2
        exact go RX2 hf (hnw _ (by simp [sNwl])) w
  · cases hh
/-! jumps -/
theorem sTgt_of {off : Int} {t : Nat} (h : sTgt pc off = some t) : (pc : Int) + off = (t : Int) := by
  unfold sTgt at h
  split at h
  · rename_i t' e
    cases h
    exact e
  · cases h
theorem sIf_of {off : Int} {bb : Bool} {r st' : List Value} {pc' : Nat} (h : sIf pc off bb r = some (pc', st'))   : ∃ t : Nat, (pc : Int) + off = (t : Int) ∧ pc' = (bif bb then t else pc + 3) ∧ st' = r := by
  unfold sIf at h
  split at h
  · rename_i t e
    cases h
    exact ⟨t, sTgt_of e, rfl, rfl⟩
  · cases h
set_option maxHeartbeats 4000000 in
theorem s_jmp (hx : p.tables.exec = Jvm.exec) (hb : c.code = cc) {σ : Nat → Nat} {ins : Instr} {pc' len : Nat} {st st' : List Value} (h : sJmp ins pc st = some (pc', st')) (hdg : decode cc pc = .ok (ins, len)) (hlen : (∃ d lo hi o, ins = .tableswitch d lo hi o) ∨ (∃ d ps, ins = .lookupswitch d ps ∧ (ps.toList.zip (ps.toList.drop 1)).all (fun (a, next) => a.1 < next.1) = true) ∨ (len = 3 ∧ ∀ d ps, ins ≠ .lookupswitch d ps))
    (kk : W p l e R s m args below meth c H locs cells slots Q (F0 m pc' ls (rS σ st'))) : W p l e R s m args below meth c H locs cells slots Q (F0 m pc ls (rS σ st)) := by
  unfold sJmp at h
  split at h
  · rename_i off
    rcases hlen with ⟨_, _, _, _, q⟩ | ⟨_, _, q, _⟩ | ⟨rfl, -⟩
    · cases q
    · cases q
    obtain ⟨t, h1, h2⟩ := Option.map_eq_some_iff.mp h
    cases h2
    exact lv_goto hx hb hdg (sTgt_of h1) kk
  · rename_i cnd off
    rcases hlen with ⟨_, _, _, _, q⟩ | ⟨_, _, q, _⟩ | ⟨rfl, -⟩
    · cases q
    · cases q
    split at h
    · rename_i y x r
      obtain ⟨t, ht, h2, rfl⟩ := sIf_of h
      subst h2
      cases cnd
      · exact lv_icmp_eq hx hb hdg ht (fun q => by rw [show sC2 .eq x y = true from decide_eq_true q] at kk; exact kk) (fun q => by rw [show sC2 .eq x y = false from decide_eq_false q] at kk; exact kk)
      · exact lv_icmp_ne hx hb hdg ht (fun q => by rw [show sC2 .ne x y = true from by show (!decide (x = y)) = true; rw [decide_eq_false q]; rfl] at kk; exact kk) (fun q => by rw [show sC2 .ne x y = false from by show (!decide (x = y)) = false; rw [decide_eq_true q]; rfl] at kk; exact kk)
      · exact lv_icmp_lt hx hb hdg ht (fun q => by rw [show sC2 .lt x y = true from decide_eq_true q] at kk; exact kk) (fun q => by rw [show sC2 .lt x y = false from decide_eq_false q] at kk; exact kk)
      · exact lv_icmp_ge hx hb hdg ht (fun q => by rw [show sC2 .ge x y = true from decide_eq_true q] at kk; exact kk) (fun q => by rw [show sC2 .ge x y = false from decide_eq_false q] at kk; exact kk)
      · exact lv_icmp_gt hx hb hdg ht (fun q => by rw [show sC2 .gt x y = true from decide_eq_true q] at kk; exact kk) (fun q => by rw [show sC2 .gt x y = false from decide_eq_false q] at kk; exact kk)
      · exact lv_icmp_le hx hb hdg ht (fun q => by rw [show sC2 .le x y = true from decide_eq_true q] at kk; exact kk) (fun q => by rw [show sC2 .le x y = false from decide_eq_false q] at kk; exact kk)
    · cases h
  · rename_i cnd off
    rcases hlen with ⟨_, _, _, _, q⟩ | ⟨_, _, q, _⟩ | ⟨rfl, -⟩
    · cases q
    · cases q
    split at h
    · rename_i x r
      obtain ⟨t, ht, h2, rfl⟩ := sIf_of h
      subst h2
      cases cnd
      · exact lv_if_eq hx hb hdg ht (fun q => by rw [show sC2 .eq x 0 = true from decide_eq_true q] at kk; exact kk) (fun q => by rw [show sC2 .eq x 0 = false from decide_eq_false q] at kk; exact kk)
      · exact lv_if_ne hx hb hdg ht (fun q => by rw [show sC2 .ne x 0 = true from by show (!decide (x = 0)) = true; rw [decide_eq_false q]; rfl] at kk; exact kk) (fun q => by rw [show sC2 .ne x 0 = false from by show (!decide (x = 0)) = false; rw [decide_eq_true q]; rfl] at kk; exact kk)
      · exact lv_if_lt hx hb hdg ht (fun q => by rw [show sC2 .lt x 0 = true from decide_eq_true q] at kk; exact kk) (fun q => by rw [show sC2 .lt x 0 = false from decide_eq_false q] at kk; exact kk)
      · exact lv_if_ge hx hb hdg ht (fun q => by rw [show sC2 .ge x 0 = true from decide_eq_true q] at kk; exact kk) (fun q => by rw [show sC2 .ge x 0 = false from decide_eq_false q] at kk; exact kk)
      · exact lv_if_gt hx hb hdg ht (fun q => by rw [show sC2 .gt x 0 = true from decide_eq_true q] at kk; exact kk) (fun q => by rw [show sC2 .gt x 0 = false from decide_eq_false q] at kk; exact kk)
      · exact lv_if_le hx hb hdg ht (fun q => by rw [show sC2 .le x 0 = true from decide_eq_true q] at kk; exact kk) (fun q => by rw [show sC2 .le x 0 = false from decide_eq_false q] at kk; exact kk)
    · cases h
  · rename_i off
    rcases hlen with ⟨_, _, _, _, q⟩ | ⟨_, _, q, _⟩ | ⟨rfl, -⟩
    · cases q
    · cases q
    split at h
    · obtain ⟨t, ht, h2, rfl⟩ := sIf_of h
      subst h2
      exact lv_ifnullN hx hb hdg ht kk
    · obtain ⟨t, ht, h2, rfl⟩ := sIf_of h
      subst h2
      exact lv_ifnull hx hb hdg kk
    · cases h
  · rename_i off
    rcases hlen with ⟨_, _, _, _, q⟩ | ⟨_, _, q, _⟩ | ⟨rfl, -⟩
    · cases q
    · cases q
    split at h
    · obtain ⟨t, ht, h2, rfl⟩ := sIf_of h
      subst h2
      exact lv_ifnonnullN hx hb hdg kk
    · obtain ⟨t, ht, h2, rfl⟩ := sIf_of h
      subst h2
      exact lv_ifnonnull hx hb hdg ht kk
    · cases h
  · rename_i dflt lo hi offs
    split at h
    · rename_i x r
      split at h
      · rename_i hc
        obtain ⟨t, h1, h2⟩ := Option.map_eq_some_iff.mp h
        cases h2
        exact lv_tableOut hx hb hdg hc (sTgt_of h1) kk
      · rename_i hc
        split at h
        · rename_i off ho
          obtain ⟨t, h1, h2⟩ := Option.map_eq_some_iff.mp h
          cases h2
          exact lv_tableIn hx hb hdg (fun q => hc (Or.inl q)) (fun q => hc (Or.inr q)) ho (sTgt_of h1) kk
        · cases h
    · cases h
  · rename_i dflt ps
    rcases hlen with ⟨_, _, _, _, q⟩ | ⟨_, _, q, hp⟩ | ⟨-, q⟩
    · cases q
    · cases q
      split at h
      · rename_i x r
        obtain ⟨t, h1, h2⟩ := Option.map_eq_some_iff.mp h
        cases h2
        exact lv_lookup hx hb hdg hp rfl (sTgt_of h1) kk
      · cases h
    · exact absurd rfl (q _ _)
  · cases h
/-! ends -/
theorem s_ret (hx : p.tables.exec = Jvm.exec) (hb : c.code = cc) {σ : Nat → Nat} {Qc : Array Value → State → Outcome → State → Prop} {free : Addr → Prop} {rt : Option FieldType} {ins : Instr} {st : List Value} {v : Option Value} (h : sRet rt ins st = some v) (hr : meth.sig.returnType = rt) (hlocks : meth.locks = false)
    (hq : ∀ t : State, t.heap = H → s.WarmedH t.vm → Qc args s (.returned (v.map (rV σ))) t) (hf : ∀ q ∈ locs, free q.base) (hdg : decode cc pc = .ok (ins, 1)) : W p l e R s m args below meth c H locs cells slots (MQ below Qc args s cells slots free) (F0 m pc ls (rS σ st)) := by
  unfold sRet at h
  split at h
  · split at h
    · split at h
      · rename_i hn
        cases h
        exact W.zret hx hb hr hn hq hf hdg hlocks
      · cases h
    · cases h
  · split at h
    · cases h
      exact W.lret hx hb hr hq hf hdg hlocks
    · cases h
  · split at h
    · cases h
      exact W.aret hx hb hr (Or.inl ⟨_, rfl⟩) (Or.inr ⟨_, rfl⟩) hq hf hdg hlocks
    · cases h
      exact W.aret hx hb hr (Or.inl ⟨_, rfl⟩) (Or.inl rfl) hq hf hdg hlocks
    · cases h
  · split at h
    · cases h
      exact W.vret hx hb hr hq hf hdg hlocks
    · cases h
  · cases h
end NEW
end
