section
-- ===== PART A: goes FIRST, ahead of the names: the tables' words, and 'selects' of the private methods out of them =====
/-- a private method of a class that the tables say can be made, by its rows of tables_1 -/
def lw_okq (q : MethodName × Nat) : Prop := (q.1.cls ≠ "java/lang/invoke/MethodHandle" ∧ q.1.cls ≠ "java/lang/invoke/VarHandle") ∧ Cond.instantiable q.1.cls q.2 ∈ tables_1 ∧ Cond.privateMethod q.1 ∈ tables_1 ∧ Cond.instanceMethod q.1 ∈ tables_1
theorem lw_p0 : lw_okq (⟨"BrothersField", "refuse", "(I)I"⟩, 11) := ⟨⟨by decide +kernel, by decide +kernel⟩, List.mem_of_getElem? (i := 22) (by decide +kernel), List.mem_of_getElem? (i := 226) (by decide +kernel), List.mem_of_getElem? (i := 227) (by decide +kernel)⟩
theorem lw_p1 : lw_okq (⟨"BrothersField", "refuseAs", "(II)I"⟩, 11) := ⟨⟨by decide +kernel, by decide +kernel⟩, List.mem_of_getElem? (i := 22) (by decide +kernel), List.mem_of_getElem? (i := 230) (by decide +kernel), List.mem_of_getElem? (i := 231) (by decide +kernel)⟩
theorem lw_p2 : lw_okq (⟨"BrothersField", "noRow", "(I)I"⟩, 11) := ⟨⟨by decide +kernel, by decide +kernel⟩, List.mem_of_getElem? (i := 22) (by decide +kernel), List.mem_of_getElem? (i := 248) (by decide +kernel), List.mem_of_getElem? (i := 249) (by decide +kernel)⟩
theorem lw_p3 : lw_okq (⟨"BrothersField", "newCut", "(II)LBrothersField$Cut;"⟩, 11) := ⟨⟨by decide +kernel, by decide +kernel⟩, List.mem_of_getElem? (i := 22) (by decide +kernel), List.mem_of_getElem? (i := 303) (by decide +kernel), List.mem_of_getElem? (i := 304) (by decide +kernel)⟩
theorem lw_p4 : lw_okq (⟨"BrothersField", "noCut", "(I)I"⟩, 11) := ⟨⟨by decide +kernel, by decide +kernel⟩, List.mem_of_getElem? (i := 22) (by decide +kernel), List.mem_of_getElem? (i := 456) (by decide +kernel), List.mem_of_getElem? (i := 457) (by decide +kernel)⟩
theorem lw_p5 : lw_okq (⟨"BrothersField", "toldAs", "(LBrothersField$Cut;I)I"⟩, 11) := ⟨⟨by decide +kernel, by decide +kernel⟩, List.mem_of_getElem? (i := 22) (by decide +kernel), List.mem_of_getElem? (i := 489) (by decide +kernel), List.mem_of_getElem? (i := 490) (by decide +kernel)⟩
theorem lw_p6 : lw_okq (⟨"BrothersField", "sideOf", "(LBrothersField$Cut;I)J"⟩, 11) := ⟨⟨by decide +kernel, by decide +kernel⟩, List.mem_of_getElem? (i := 22) (by decide +kernel), List.mem_of_getElem? (i := 493) (by decide +kernel), List.mem_of_getElem? (i := 494) (by decide +kernel)⟩
theorem lw_p7 : lw_okq (⟨"BrothersField", "mayStand", "(II)Z"⟩, 11) := ⟨⟨by decide +kernel, by decide +kernel⟩, List.mem_of_getElem? (i := 22) (by decide +kernel), List.mem_of_getElem? (i := 768) (by decide +kernel), List.mem_of_getElem? (i := 769) (by decide +kernel)⟩
theorem lw_p8 : lw_okq (⟨"BrothersFieldModel", "isShelf", "(I)Z"⟩, 38) := ⟨⟨by decide +kernel, by decide +kernel⟩, List.mem_of_getElem? (i := 1137) (by decide +kernel), List.mem_of_getElem? (i := 1262) (by decide +kernel), List.mem_of_getElem? (i := 1263) (by decide +kernel)⟩
theorem lw_p9 : lw_okq (⟨"BrothersFieldModel", "no", "(I)I"⟩, 38) := ⟨⟨by decide +kernel, by decide +kernel⟩, List.mem_of_getElem? (i := 1137) (by decide +kernel), List.mem_of_getElem? (i := 1266) (by decide +kernel), List.mem_of_getElem? (i := 1267) (by decide +kernel)⟩
theorem lw_p10 : lw_okq (⟨"BrothersFieldModel", "sideOf", "(II)J"⟩, 38) := ⟨⟨by decide +kernel, by decide +kernel⟩, List.mem_of_getElem? (i := 1137) (by decide +kernel), List.mem_of_getElem? (i := 1294) (by decide +kernel), List.mem_of_getElem? (i := 1295) (by decide +kernel)⟩
theorem lw_p11 : lw_okq (⟨"BrothersFieldModel", "isFirst", "(II)Z"⟩, 38) := ⟨⟨by decide +kernel, by decide +kernel⟩, List.mem_of_getElem? (i := 1137) (by decide +kernel), List.mem_of_getElem? (i := 1298) (by decide +kernel), List.mem_of_getElem? (i := 1299) (by decide +kernel)⟩
theorem lw_p12 : lw_okq (⟨"BrothersFieldModel", "many", "(J)I"⟩, 38) := ⟨⟨by decide +kernel, by decide +kernel⟩, List.mem_of_getElem? (i := 1137) (by decide +kernel), List.mem_of_getElem? (i := 1306) (by decide +kernel), List.mem_of_getElem? (i := 1307) (by decide +kernel)⟩
theorem lw_p13 : lw_okq (⟨"BrothersFieldModel", "wants", "(II)I"⟩, 38) := ⟨⟨by decide +kernel, by decide +kernel⟩, List.mem_of_getElem? (i := 1137) (by decide +kernel), List.mem_of_getElem? (i := 1314) (by decide +kernel), List.mem_of_getElem? (i := 1315) (by decide +kernel)⟩
theorem lw_p14 : lw_okq (⟨"BrothersFieldModel", "all", "([IZ)V"⟩, 38) := ⟨⟨by decide +kernel, by decide +kernel⟩, List.mem_of_getElem? (i := 1137) (by decide +kernel), List.mem_of_getElem? (i := 1318) (by decide +kernel), List.mem_of_getElem? (i := 1319) (by decide +kernel)⟩
theorem lw_p15 : lw_okq (⟨"BrothersFieldModel", "keeps", "([II[IIZ)I"⟩, 38) := ⟨⟨by decide +kernel, by decide +kernel⟩, List.mem_of_getElem? (i := 1137) (by decide +kernel), List.mem_of_getElem? (i := 1322) (by decide +kernel), List.mem_of_getElem? (i := 1323) (by decide +kernel)⟩
def lw_privs_1 : List (MethodName × Nat) := [(⟨"BrothersField", "refuse", "(I)I"⟩, 11), (⟨"BrothersField", "refuseAs", "(II)I"⟩, 11), (⟨"BrothersField", "noRow", "(I)I"⟩, 11), (⟨"BrothersField", "newCut", "(II)LBrothersField$Cut;"⟩, 11), (⟨"BrothersField", "noCut", "(I)I"⟩, 11), (⟨"BrothersField", "toldAs", "(LBrothersField$Cut;I)I"⟩, 11), (⟨"BrothersField", "sideOf", "(LBrothersField$Cut;I)J"⟩, 11), (⟨"BrothersField", "mayStand", "(II)Z"⟩, 11), (⟨"BrothersFieldModel", "isShelf", "(I)Z"⟩, 38), (⟨"BrothersFieldModel", "no", "(I)I"⟩, 38), (⟨"BrothersFieldModel", "sideOf", "(II)J"⟩, 38), (⟨"BrothersFieldModel", "isFirst", "(II)Z"⟩, 38), (⟨"BrothersFieldModel", "many", "(J)I"⟩, 38), (⟨"BrothersFieldModel", "wants", "(II)I"⟩, 38), (⟨"BrothersFieldModel", "all", "([IZ)V"⟩, 38), (⟨"BrothersFieldModel", "keeps", "([II[IIZ)I"⟩, 38)]
theorem lw_r1 : ∀ q ∈ lw_privs_1, lw_okq q := List.forall_mem_cons.mpr ⟨lw_p0, List.forall_mem_cons.mpr ⟨lw_p1, List.forall_mem_cons.mpr ⟨lw_p2, List.forall_mem_cons.mpr ⟨lw_p3, List.forall_mem_cons.mpr ⟨lw_p4, List.forall_mem_cons.mpr ⟨lw_p5, List.forall_mem_cons.mpr ⟨lw_p6, List.forall_mem_cons.mpr ⟨lw_p7, List.forall_mem_cons.mpr ⟨lw_p8, List.forall_mem_cons.mpr ⟨lw_p9, List.forall_mem_cons.mpr ⟨lw_p10, List.forall_mem_cons.mpr ⟨lw_p11, List.forall_mem_cons.mpr ⟨lw_p12, List.forall_mem_cons.mpr ⟨lw_p13, List.forall_mem_cons.mpr ⟨lw_p14, List.forall_mem_cons.mpr ⟨lw_p15, fun _ h => absurd h List.not_mem_nil⟩⟩⟩⟩⟩⟩⟩⟩⟩⟩⟩⟩⟩⟩⟩⟩
theorem lw_p16 : lw_okq (⟨"BrothersFieldModel", "item", "()Z"⟩, 38) := ⟨⟨by decide +kernel, by decide +kernel⟩, List.mem_of_getElem? (i := 1137) (by decide +kernel), List.mem_of_getElem? (i := 1326) (by decide +kernel), List.mem_of_getElem? (i := 1327) (by decide +kernel)⟩
theorem lw_p17 : lw_okq (⟨"BrothersFieldModel", "isWordAt", "(I)Z"⟩, 38) := ⟨⟨by decide +kernel, by decide +kernel⟩, List.mem_of_getElem? (i := 1137) (by decide +kernel), List.mem_of_getElem? (i := 1330) (by decide +kernel), List.mem_of_getElem? (i := 1331) (by decide +kernel)⟩
theorem lw_p18 : lw_okq (⟨"BrothersFieldModel", "isWordFull", "(I)Z"⟩, 38) := ⟨⟨by decide +kernel, by decide +kernel⟩, List.mem_of_getElem? (i := 1137) (by decide +kernel), List.mem_of_getElem? (i := 1334) (by decide +kernel), List.mem_of_getElem? (i := 1335) (by decide +kernel)⟩
theorem lw_p19 : lw_okq (⟨"BrothersFieldModel", "wrong", "(I)Z"⟩, 38) := ⟨⟨by decide +kernel, by decide +kernel⟩, List.mem_of_getElem? (i := 1137) (by decide +kernel), List.mem_of_getElem? (i := 1338) (by decide +kernel), List.mem_of_getElem? (i := 1339) (by decide +kernel)⟩
theorem lw_p20 : lw_okq (⟨"BrothersFieldModel", "word", "()I"⟩, 38) := ⟨⟨by decide +kernel, by decide +kernel⟩, List.mem_of_getElem? (i := 1137) (by decide +kernel), List.mem_of_getElem? (i := 1342) (by decide +kernel), List.mem_of_getElem? (i := 1343) (by decide +kernel)⟩
theorem lw_p21 : lw_okq (⟨"BrothersFieldModel", "number", "(II)Z"⟩, 38) := ⟨⟨by decide +kernel, by decide +kernel⟩, List.mem_of_getElem? (i := 1137) (by decide +kernel), List.mem_of_getElem? (i := 1346) (by decide +kernel), List.mem_of_getElem? (i := 1347) (by decide +kernel)⟩
theorem lw_p22 : lw_okq (⟨"BrothersFieldModel", "isDigit", "()Z"⟩, 38) := ⟨⟨by decide +kernel, by decide +kernel⟩, List.mem_of_getElem? (i := 1137) (by decide +kernel), List.mem_of_getElem? (i := 1350) (by decide +kernel), List.mem_of_getElem? (i := 1351) (by decide +kernel)⟩
theorem lw_p23 : lw_okq (⟨"BrothersFieldModel", "next", "(II)Z"⟩, 38) := ⟨⟨by decide +kernel, by decide +kernel⟩, List.mem_of_getElem? (i := 1137) (by decide +kernel), List.mem_of_getElem? (i := 1354) (by decide +kernel), List.mem_of_getElem? (i := 1355) (by decide +kernel)⟩
theorem lw_p24 : lw_okq (⟨"BrothersFieldModel", "sizes", "(II)V"⟩, 38) := ⟨⟨by decide +kernel, by decide +kernel⟩, List.mem_of_getElem? (i := 1137) (by decide +kernel), List.mem_of_getElem? (i := 1358) (by decide +kernel), List.mem_of_getElem? (i := 1359) (by decide +kernel)⟩
theorem lw_p25 : lw_okq (⟨"BrothersFieldModel", "comes", "(I)I"⟩, 38) := ⟨⟨by decide +kernel, by decide +kernel⟩, List.mem_of_getElem? (i := 1137) (by decide +kernel), List.mem_of_getElem? (i := 1362) (by decide +kernel), List.mem_of_getElem? (i := 1363) (by decide +kernel)⟩
theorem lw_p26 : lw_okq (⟨"BrothersFieldModel", "isSquare", "(I)Z"⟩, 38) := ⟨⟨by decide +kernel, by decide +kernel⟩, List.mem_of_getElem? (i := 1137) (by decide +kernel), List.mem_of_getElem? (i := 1378) (by decide +kernel), List.mem_of_getElem? (i := 1379) (by decide +kernel)⟩
theorem lw_p27 : lw_okq (⟨"BrothersFieldModel", "noTen", "(I)I"⟩, 38) := ⟨⟨by decide +kernel, by decide +kernel⟩, List.mem_of_getElem? (i := 1137) (by decide +kernel), List.mem_of_getElem? (i := 1386) (by decide +kernel), List.mem_of_getElem? (i := 1387) (by decide +kernel)⟩
theorem lw_p28 : lw_okq (⟨"BrothersFieldModel", "isHeir", "(I)Z"⟩, 38) := ⟨⟨by decide +kernel, by decide +kernel⟩, List.mem_of_getElem? (i := 1137) (by decide +kernel), List.mem_of_getElem? (i := 1398) (by decide +kernel), List.mem_of_getElem? (i := 1399) (by decide +kernel)⟩
theorem lw_p29 : lw_okq (⟨"BrothersFieldModel", "pieceOf", "(I)J"⟩, 38) := ⟨⟨by decide +kernel, by decide +kernel⟩, List.mem_of_getElem? (i := 1137) (by decide +kernel), List.mem_of_getElem? (i := 1410) (by decide +kernel), List.mem_of_getElem? (i := 1411) (by decide +kernel)⟩
theorem lw_p30 : lw_okq (⟨"BrothersFieldModel", "isSet", "(J)Z"⟩, 38) := ⟨⟨by decide +kernel, by decide +kernel⟩, List.mem_of_getElem? (i := 1137) (by decide +kernel), List.mem_of_getElem? (i := 1418) (by decide +kernel), List.mem_of_getElem? (i := 1419) (by decide +kernel)⟩
theorem lw_p31 : lw_okq (⟨"BrothersFieldModel", "all", "()J"⟩, 38) := ⟨⟨by decide +kernel, by decide +kernel⟩, List.mem_of_getElem? (i := 1137) (by decide +kernel), List.mem_of_getElem? (i := 1422) (by decide +kernel), List.mem_of_getElem? (i := 1423) (by decide +kernel)⟩
def lw_privs_2 : List (MethodName × Nat) := [(⟨"BrothersFieldModel", "item", "()Z"⟩, 38), (⟨"BrothersFieldModel", "isWordAt", "(I)Z"⟩, 38), (⟨"BrothersFieldModel", "isWordFull", "(I)Z"⟩, 38), (⟨"BrothersFieldModel", "wrong", "(I)Z"⟩, 38), (⟨"BrothersFieldModel", "word", "()I"⟩, 38), (⟨"BrothersFieldModel", "number", "(II)Z"⟩, 38), (⟨"BrothersFieldModel", "isDigit", "()Z"⟩, 38), (⟨"BrothersFieldModel", "next", "(II)Z"⟩, 38), (⟨"BrothersFieldModel", "sizes", "(II)V"⟩, 38), (⟨"BrothersFieldModel", "comes", "(I)I"⟩, 38), (⟨"BrothersFieldModel", "isSquare", "(I)Z"⟩, 38), (⟨"BrothersFieldModel", "noTen", "(I)I"⟩, 38), (⟨"BrothersFieldModel", "isHeir", "(I)Z"⟩, 38), (⟨"BrothersFieldModel", "pieceOf", "(I)J"⟩, 38), (⟨"BrothersFieldModel", "isSet", "(J)Z"⟩, 38), (⟨"BrothersFieldModel", "all", "()J"⟩, 38)]
theorem lw_r2 : ∀ q ∈ lw_privs_2, lw_okq q := List.forall_mem_cons.mpr ⟨lw_p16, List.forall_mem_cons.mpr ⟨lw_p17, List.forall_mem_cons.mpr ⟨lw_p18, List.forall_mem_cons.mpr ⟨lw_p19, List.forall_mem_cons.mpr ⟨lw_p20, List.forall_mem_cons.mpr ⟨lw_p21, List.forall_mem_cons.mpr ⟨lw_p22, List.forall_mem_cons.mpr ⟨lw_p23, List.forall_mem_cons.mpr ⟨lw_p24, List.forall_mem_cons.mpr ⟨lw_p25, List.forall_mem_cons.mpr ⟨lw_p26, List.forall_mem_cons.mpr ⟨lw_p27, List.forall_mem_cons.mpr ⟨lw_p28, List.forall_mem_cons.mpr ⟨lw_p29, List.forall_mem_cons.mpr ⟨lw_p30, List.forall_mem_cons.mpr ⟨lw_p31, fun _ h => absurd h List.not_mem_nil⟩⟩⟩⟩⟩⟩⟩⟩⟩⟩⟩⟩⟩⟩⟩⟩
theorem lw_p32 : lw_okq (⟨"BrothersFieldModel", "worthOf", "(IJ)I"⟩, 38) := ⟨⟨by decide +kernel, by decide +kernel⟩, List.mem_of_getElem? (i := 1137) (by decide +kernel), List.mem_of_getElem? (i := 1427) (by decide +kernel), List.mem_of_getElem? (i := 1428) (by decide +kernel)⟩
theorem lw_p33 : lw_okq (⟨"BrothersFieldModel", "has", "(JI)Z"⟩, 38) := ⟨⟨by decide +kernel, by decide +kernel⟩, List.mem_of_getElem? (i := 1137) (by decide +kernel), List.mem_of_getElem? (i := 1431) (by decide +kernel), List.mem_of_getElem? (i := 1432) (by decide +kernel)⟩
theorem lw_p34 : lw_okq (⟨"BrothersFieldModel", "isOwner", "(I)Z"⟩, 38) := ⟨⟨by decide +kernel, by decide +kernel⟩, List.mem_of_getElem? (i := 1137) (by decide +kernel), List.mem_of_getElem? (i := 1443) (by decide +kernel), List.mem_of_getElem? (i := 1444) (by decide +kernel)⟩
theorem lw_p35 : lw_okq (⟨"BrothersFieldModel", "intAt", "(II)I"⟩, 38) := ⟨⟨by decide +kernel, by decide +kernel⟩, List.mem_of_getElem? (i := 1137) (by decide +kernel), List.mem_of_getElem? (i := 1455) (by decide +kernel), List.mem_of_getElem? (i := 1456) (by decide +kernel)⟩
theorem lw_p36 : lw_okq (⟨"BrothersFieldModel", "hedgeOf", "()I"⟩, 38) := ⟨⟨by decide +kernel, by decide +kernel⟩, List.mem_of_getElem? (i := 1137) (by decide +kernel), List.mem_of_getElem? (i := 1467) (by decide +kernel), List.mem_of_getElem? (i := 1468) (by decide +kernel)⟩
theorem lw_p37 : lw_okq (⟨"BrothersFieldModel", "partsOf", "(J)I"⟩, 38) := ⟨⟨by decide +kernel, by decide +kernel⟩, List.mem_of_getElem? (i := 1137) (by decide +kernel), List.mem_of_getElem? (i := 1475) (by decide +kernel), List.mem_of_getElem? (i := 1476) (by decide +kernel)⟩
theorem lw_p38 : lw_okq (⟨"BrothersFieldModel", "grown", "(JJ)J"⟩, 38) := ⟨⟨by decide +kernel, by decide +kernel⟩, List.mem_of_getElem? (i := 1137) (by decide +kernel), List.mem_of_getElem? (i := 1479) (by decide +kernel), List.mem_of_getElem? (i := 1480) (by decide +kernel)⟩
theorem lw_p39 : lw_okq (⟨"BrothersFieldModel", "beside", "(J)J"⟩, 38) := ⟨⟨by decide +kernel, by decide +kernel⟩, List.mem_of_getElem? (i := 1137) (by decide +kernel), List.mem_of_getElem? (i := 1483) (by decide +kernel), List.mem_of_getElem? (i := 1484) (by decide +kernel)⟩
theorem lw_p40 : lw_okq (⟨"BrothersFieldModel", "faultyNow", "()I"⟩, 38) := ⟨⟨by decide +kernel, by decide +kernel⟩, List.mem_of_getElem? (i := 1137) (by decide +kernel), List.mem_of_getElem? (i := 1491) (by decide +kernel), List.mem_of_getElem? (i := 1492) (by decide +kernel)⟩
theorem lw_p41 : lw_okq (⟨"BrothersFieldModel", "atRoad", "()J"⟩, 38) := ⟨⟨by decide +kernel, by decide +kernel⟩, List.mem_of_getElem? (i := 1137) (by decide +kernel), List.mem_of_getElem? (i := 1495) (by decide +kernel), List.mem_of_getElem? (i := 1496) (by decide +kernel)⟩
theorem lw_p42 : lw_okq (⟨"BrothersFieldModel", "shares", "()I"⟩, 38) := ⟨⟨by decide +kernel, by decide +kernel⟩, List.mem_of_getElem? (i := 1137) (by decide +kernel), List.mem_of_getElem? (i := 1499) (by decide +kernel), List.mem_of_getElem? (i := 1500) (by decide +kernel)⟩
theorem lw_p43 : lw_okq (⟨"BrothersFieldModel", "spares", "(Z)V"⟩, 38) := ⟨⟨by decide +kernel, by decide +kernel⟩, List.mem_of_getElem? (i := 1137) (by decide +kernel), List.mem_of_getElem? (i := 1511) (by decide +kernel), List.mem_of_getElem? (i := 1512) (by decide +kernel)⟩
theorem lw_p44 : lw_okq (⟨"BrothersFieldModel", "lists", "(I)V"⟩, 38) := ⟨⟨by decide +kernel, by decide +kernel⟩, List.mem_of_getElem? (i := 1137) (by decide +kernel), List.mem_of_getElem? (i := 1515) (by decide +kernel), List.mem_of_getElem? (i := 1516) (by decide +kernel)⟩
theorem lw_p45 : lw_okq (⟨"BrothersFieldModel", "lists", "(IZ)V"⟩, 38) := ⟨⟨by decide +kernel, by decide +kernel⟩, List.mem_of_getElem? (i := 1137) (by decide +kernel), List.mem_of_getElem? (i := 1519) (by decide +kernel), List.mem_of_getElem? (i := 1520) (by decide +kernel)⟩
theorem lw_p46 : lw_okq (⟨"BrothersFieldModel", "tries", "(II)V"⟩, 38) := ⟨⟨by decide +kernel, by decide +kernel⟩, List.mem_of_getElem? (i := 1137) (by decide +kernel), List.mem_of_getElem? (i := 1523) (by decide +kernel), List.mem_of_getElem? (i := 1524) (by decide +kernel)⟩
theorem lw_p47 : lw_okq (⟨"BrothersFieldModel", "bettered", "()I"⟩, 38) := ⟨⟨by decide +kernel, by decide +kernel⟩, List.mem_of_getElem? (i := 1137) (by decide +kernel), List.mem_of_getElem? (i := 1548) (by decide +kernel), List.mem_of_getElem? (i := 1549) (by decide +kernel)⟩
def lw_privs_3 : List (MethodName × Nat) := [(⟨"BrothersFieldModel", "worthOf", "(IJ)I"⟩, 38), (⟨"BrothersFieldModel", "has", "(JI)Z"⟩, 38), (⟨"BrothersFieldModel", "isOwner", "(I)Z"⟩, 38), (⟨"BrothersFieldModel", "intAt", "(II)I"⟩, 38), (⟨"BrothersFieldModel", "hedgeOf", "()I"⟩, 38), (⟨"BrothersFieldModel", "partsOf", "(J)I"⟩, 38), (⟨"BrothersFieldModel", "grown", "(JJ)J"⟩, 38), (⟨"BrothersFieldModel", "beside", "(J)J"⟩, 38), (⟨"BrothersFieldModel", "faultyNow", "()I"⟩, 38), (⟨"BrothersFieldModel", "atRoad", "()J"⟩, 38), (⟨"BrothersFieldModel", "shares", "()I"⟩, 38), (⟨"BrothersFieldModel", "spares", "(Z)V"⟩, 38), (⟨"BrothersFieldModel", "lists", "(I)V"⟩, 38), (⟨"BrothersFieldModel", "lists", "(IZ)V"⟩, 38), (⟨"BrothersFieldModel", "tries", "(II)V"⟩, 38), (⟨"BrothersFieldModel", "bettered", "()I"⟩, 38)]
theorem lw_r3 : ∀ q ∈ lw_privs_3, lw_okq q := List.forall_mem_cons.mpr ⟨lw_p32, List.forall_mem_cons.mpr ⟨lw_p33, List.forall_mem_cons.mpr ⟨lw_p34, List.forall_mem_cons.mpr ⟨lw_p35, List.forall_mem_cons.mpr ⟨lw_p36, List.forall_mem_cons.mpr ⟨lw_p37, List.forall_mem_cons.mpr ⟨lw_p38, List.forall_mem_cons.mpr ⟨lw_p39, List.forall_mem_cons.mpr ⟨lw_p40, List.forall_mem_cons.mpr ⟨lw_p41, List.forall_mem_cons.mpr ⟨lw_p42, List.forall_mem_cons.mpr ⟨lw_p43, List.forall_mem_cons.mpr ⟨lw_p44, List.forall_mem_cons.mpr ⟨lw_p45, List.forall_mem_cons.mpr ⟨lw_p46, List.forall_mem_cons.mpr ⟨lw_p47, fun _ h => absurd h List.not_mem_nil⟩⟩⟩⟩⟩⟩⟩⟩⟩⟩⟩⟩⟩⟩⟩⟩
theorem lw_p48 : lw_okq (⟨"BrothersFieldModel", "isFit", "(II)Z"⟩, 38) := ⟨⟨by decide +kernel, by decide +kernel⟩, List.mem_of_getElem? (i := 1137) (by decide +kernel), List.mem_of_getElem? (i := 1560) (by decide +kernel), List.mem_of_getElem? (i := 1561) (by decide +kernel)⟩
theorem lw_p49 : lw_okq (⟨"BrothersFieldModel", "parting", "(II)I"⟩, 38) := ⟨⟨by decide +kernel, by decide +kernel⟩, List.mem_of_getElem? (i := 1137) (by decide +kernel), List.mem_of_getElem? (i := 1580) (by decide +kernel), List.mem_of_getElem? (i := 1581) (by decide +kernel)⟩
theorem lw_p50 : lw_okq (⟨"BrothersFieldModel", "body", "(I)V"⟩, 38) := ⟨⟨by decide +kernel, by decide +kernel⟩, List.mem_of_getElem? (i := 1137) (by decide +kernel), List.mem_of_getElem? (i := 1584) (by decide +kernel), List.mem_of_getElem? (i := 1585) (by decide +kernel)⟩
theorem lw_p51 : lw_okq (⟨"BrothersFieldModel", "weighing", "(II)I"⟩, 38) := ⟨⟨by decide +kernel, by decide +kernel⟩, List.mem_of_getElem? (i := 1137) (by decide +kernel), List.mem_of_getElem? (i := 1588) (by decide +kernel), List.mem_of_getElem? (i := 1589) (by decide +kernel)⟩
theorem lw_p52 : lw_okq (⟨"BrothersFieldModel", "hedging", "(II)I"⟩, 38) := ⟨⟨by decide +kernel, by decide +kernel⟩, List.mem_of_getElem? (i := 1137) (by decide +kernel), List.mem_of_getElem? (i := 1592) (by decide +kernel), List.mem_of_getElem? (i := 1593) (by decide +kernel)⟩
def lw_privs_4 : List (MethodName × Nat) := [(⟨"BrothersFieldModel", "isFit", "(II)Z"⟩, 38), (⟨"BrothersFieldModel", "parting", "(II)I"⟩, 38), (⟨"BrothersFieldModel", "body", "(I)V"⟩, 38), (⟨"BrothersFieldModel", "weighing", "(II)I"⟩, 38), (⟨"BrothersFieldModel", "hedging", "(II)I"⟩, 38)]
theorem lw_r4 : ∀ q ∈ lw_privs_4, lw_okq q := List.forall_mem_cons.mpr ⟨lw_p48, List.forall_mem_cons.mpr ⟨lw_p49, List.forall_mem_cons.mpr ⟨lw_p50, List.forall_mem_cons.mpr ⟨lw_p51, List.forall_mem_cons.mpr ⟨lw_p52, fun _ h => absurd h List.not_mem_nil⟩⟩⟩⟩⟩
def lw_privs : List (MethodName × Nat) := lw_privs_1 ++ (lw_privs_2 ++ (lw_privs_3 ++ (lw_privs_4)))
def lw_tbl : List Cond := k2_sels lw_privs ++ tables_1
theorem lw_privs_ok : ∀ q ∈ lw_privs, lw_okq q := by
  show ∀ q ∈ lw_privs_1 ++ (lw_privs_2 ++ (lw_privs_3 ++ (lw_privs_4))), lw_okq q
  exact List.forall_mem_append.mpr ⟨lw_r1, List.forall_mem_append.mpr ⟨lw_r2, List.forall_mem_append.mpr ⟨lw_r3, lw_r4⟩⟩⟩
def RX0 : String := "BrothersField$Along"
def TX0 : u_T := fun k => match k with
  | 0 => ("BrothersField$Cut", "code", "I", true)
  | 1 => ("BrothersField$Cut", "shelf", "I", true)
  | 2 => ("BrothersField$Cut", "a", "I", true)
  | 3 => ("BrothersField$Cut", "b", "I", true)
  | 4 => ("BrothersField$Cut", "c", "I", true)
  | _ => ("BrothersField$Cut", "trace", "LBrothersField$Row;", true)
def tyX0 : Nat → FieldType := fun k => match k with
  | 0 => .int
  | 1 => .int
  | 2 => .int
  | 3 => .int
  | 4 => .int
  | _ => .object "BrothersField$Row"
theorem nmX0 : ∀ a, a < 6 → ∀ b, b < 6 → a ≠ b → (TX0 a).2.1 ≠ (TX0 b).2.1 := by decide +kernel
theorem tyX0_ok : ∀ k, k < 6 → parseFieldDescriptor (TX0 k).2.2.1 = some (tyX0 k) := by decide +kernel
abbrev cX0_init : ByteArray := prog_2_method_1_code
def yX0_init : MethodName := ⟨RX0, "<init>", "(IILBrothersField$Row;)V"⟩
abbrev cX0_isOf : ByteArray := prog_2_method_2_code
def yX0_isOf : MethodName := ⟨RX0, "isOf", "(I)Z"⟩
abbrev cX0_firstIn : ByteArray := prog_2_method_3_code
def yX0_firstIn : MethodName := ⟨RX0, "firstIn", "(LBrothersField$Field;)J"⟩
abbrev cX0_weighsBody : ByteArray := prog_2_method_4_code
def yX0_weighsBody : MethodName := ⟨RX0, "weighsBody", "(I)I"⟩
abbrev cX0_partsBody : ByteArray := prog_2_method_5_code
def yX0_partsBody : MethodName := ⟨RX0, "partsBody", "(I)I"⟩
def RX1 : String := "BrothersField$Bent"
def TX1 : u_T := fun k => match k with
  | 0 => ("BrothersField$Cut", "code", "I", true)
  | 1 => ("BrothersField$Cut", "shelf", "I", true)
  | 2 => ("BrothersField$Cut", "a", "I", true)
  | 3 => ("BrothersField$Cut", "b", "I", true)
  | 4 => ("BrothersField$Cut", "c", "I", true)
  | _ => ("BrothersField$Cut", "trace", "LBrothersField$Row;", true)
def tyX1 : Nat → FieldType := fun k => match k with
  | 0 => .int
  | 1 => .int
  | 2 => .int
  | 3 => .int
  | 4 => .int
  | _ => .object "BrothersField$Row"
theorem nmX1 : ∀ a, a < 6 → ∀ b, b < 6 → a ≠ b → (TX1 a).2.1 ≠ (TX1 b).2.1 := by decide +kernel
theorem tyX1_ok : ∀ k, k < 6 → parseFieldDescriptor (TX1 k).2.2.1 = some (tyX1 k) := by decide +kernel
abbrev cX1_init : ByteArray := prog_3_method_1_code
def yX1_init : MethodName := ⟨RX1, "<init>", "(IILBrothersField$Row;)V"⟩
abbrev cX1_isOf : ByteArray := prog_3_method_2_code
def yX1_isOf : MethodName := ⟨RX1, "isOf", "(I)Z"⟩
abbrev cX1_firstIn : ByteArray := prog_3_method_3_code
def yX1_firstIn : MethodName := ⟨RX1, "firstIn", "(LBrothersField$Field;)J"⟩
abbrev cX1_weighsBody : ByteArray := prog_3_method_4_code
def yX1_weighsBody : MethodName := ⟨RX1, "weighsBody", "(I)I"⟩
def RX2 : String := "BrothersField$Cut"
def TX2 : u_T := fun k => match k with
  | 0 => ("BrothersField$Cut", "code", "I", true)
  | 1 => ("BrothersField$Cut", "shelf", "I", true)
  | 2 => ("BrothersField$Cut", "a", "I", true)
  | 3 => ("BrothersField$Cut", "b", "I", true)
  | 4 => ("BrothersField$Cut", "c", "I", true)
  | _ => ("BrothersField$Cut", "trace", "LBrothersField$Row;", true)
def tyX2 : Nat → FieldType := fun k => match k with
  | 0 => .int
  | 1 => .int
  | 2 => .int
  | 3 => .int
  | 4 => .int
  | _ => .object "BrothersField$Row"
theorem nmX2 : ∀ a, a < 6 → ∀ b, b < 6 → a ≠ b → (TX2 a).2.1 ≠ (TX2 b).2.1 := by decide +kernel
theorem tyX2_ok : ∀ k, k < 6 → parseFieldDescriptor (TX2 k).2.2.1 = some (tyX2 k) := by decide +kernel
abbrev cX2_init : ByteArray := prog_4_method_1_code
def yX2_init : MethodName := ⟨RX2, "<init>", "(IILBrothersField$Row;)V"⟩
abbrev cX2_isOf : ByteArray := prog_4_method_2_code
def yX2_isOf : MethodName := ⟨RX2, "isOf", "(I)Z"⟩
abbrev cX2_firstIn : ByteArray := prog_4_method_3_code
def yX2_firstIn : MethodName := ⟨RX2, "firstIn", "(LBrothersField$Field;)J"⟩
abbrev cX2_laneIn : ByteArray := prog_4_method_4_code
def yX2_laneIn : MethodName := ⟨RX2, "laneIn", "(LBrothersField$Field;)J"⟩
abbrev cX2_partsBody : ByteArray := prog_4_method_5_code
def yX2_partsBody : MethodName := ⟨RX2, "partsBody", "(I)I"⟩
abbrev cX2_weighsBody : ByteArray := prog_4_method_6_code
def yX2_weighsBody : MethodName := ⟨RX2, "weighsBody", "(I)I"⟩
abbrev cX2_hedgesBody : ByteArray := prog_4_method_7_code
def yX2_hedgesBody : MethodName := ⟨RX2, "hedgesBody", "(I)I"⟩
def RX3 : String := "BrothersField$Field"
def TX3 : u_T := fun k => match k with
  | 0 => ("BrothersField$Field", "w", "I", false)
  | 1 => ("BrothersField$Field", "h", "I", false)
  | 2 => ("BrothersField$Field", "all", "J", false)
  | 3 => ("BrothersField$Field", "firstColumn", "J", false)
  | 4 => ("BrothersField$Field", "lastColumn", "J", false)
  | 5 => ("BrothersField$Field", "firstRow", "J", false)
  | 6 => ("BrothersField$Field", "lastRow", "J", false)
  | 7 => ("BrothersField$Field", "road", "I", false)
  | 8 => ("BrothersField$Field", "well", "I", false)
  | 9 => ("BrothersField$Field", "oak", "I", false)
  | 10 => ("BrothersField$Field", "small", "I", false)
  | 11 => ("BrothersField$Field", "heirs", "I", false)
  | 12 => ("BrothersField$Field", "soils", "[J", true)
  | 13 => ("BrothersField$Field", "shares", "[I", true)
  | 14 => ("BrothersField$Field", "soilWorths", "[[I", true)
  | 15 => ("BrothersField$Field", "isFond", "[Z", true)
  | _ => ("BrothersField$Field", "owned", "[J", true)
def tyX3 : Nat → FieldType := fun k => match k with
  | 0 => .int
  | 1 => .int
  | 2 => .long
  | 3 => .long
  | 4 => .long
  | 5 => .long
  | 6 => .long
  | 7 => .int
  | 8 => .int
  | 9 => .int
  | 10 => .int
  | 11 => .int
  | 12 => .array .long
  | 13 => .array .int
  | 14 => .array (.array .int)
  | 15 => .array .boolean
  | _ => .array .long
theorem nmX3 : ∀ a, a < 17 → ∀ b, b < 17 → a ≠ b → (TX3 a).2.1 ≠ (TX3 b).2.1 := by decide +kernel
theorem tyX3_ok : ∀ k, k < 17 → parseFieldDescriptor (TX3 k).2.2.1 = some (tyX3 k) := by decide +kernel
abbrev cX3_init : ByteArray := prog_5_method_1_code
def yX3_init : MethodName := ⟨RX3, "<init>", "()V"⟩
abbrev cX3_resize : ByteArray := prog_5_method_2_code
def yX3_resize : MethodName := ⟨RX3, "resize", "(II)V"⟩
abbrev cX3_become : ByteArray := prog_5_method_3_code
def yX3_become : MethodName := ⟨RX3, "become", "(LBrothersField$Field;)V"⟩
abbrev cX3_give : ByteArray := prog_5_method_4_code
def yX3_give : MethodName := ⟨RX3, "give", "([JJI)V"⟩
abbrev cX3_empty : ByteArray := prog_5_method_5_code
def yX3_empty : MethodName := ⟨RX3, "empty", "([J)V"⟩
abbrev cX3_squares : ByteArray := prog_5_method_6_code
def yX3_squares : MethodName := ⟨RX3, "squares", "()I"⟩
abbrev cX3_isSquare : ByteArray := prog_5_method_7_code
def yX3_isSquare : MethodName := ⟨RX3, "isSquare", "(I)Z"⟩
abbrev cX3_isHeir : ByteArray := prog_5_method_8_code
def yX3_isHeir : MethodName := ⟨RX3, "isHeir", "(I)Z"⟩
abbrev cX3_hasAll : ByteArray := prog_5_method_9_code
def yX3_hasAll : MethodName := ⟨RX3, "hasAll", "(J)Z"⟩
abbrev cX3_only : ByteArray := prog_5_method_10_code
def yX3_only : MethodName := ⟨RX3, "only", "(I)J"⟩
abbrev cX3_lowest : ByteArray := prog_5_method_11_code
def yX3_lowest : MethodName := ⟨RX3, "lowest", "(I)J"⟩
abbrev cX3_below : ByteArray := prog_5_method_12_code
def yX3_below : MethodName := ⟨RX3, "below", "(I)J"⟩
abbrev cX3_rowsBelow : ByteArray := prog_5_method_13_code
def yX3_rowsBelow : MethodName := ⟨RX3, "rowsBelow", "(I)J"⟩
abbrev cX3_columns : ByteArray := prog_5_method_14_code
def yX3_columns : MethodName := ⟨RX3, "columns", "(I)J"⟩
abbrev cX3_corner : ByteArray := prog_5_method_15_code
def yX3_corner : MethodName := ⟨RX3, "corner", "(II)J"⟩
abbrev cX3_bent : ByteArray := prog_5_method_16_code
def yX3_bent : MethodName := ⟨RX3, "bent", "(III)J"⟩
abbrev cX3_soilAt : ByteArray := prog_5_method_17_code
def yX3_soilAt : MethodName := ⟨RX3, "soilAt", "(I)I"⟩
abbrev cX3_laySoil : ByteArray := prog_5_method_18_code
def yX3_laySoil : MethodName := ⟨RX3, "laySoil", "(JI)V"⟩
abbrev cX3_placeOf : ByteArray := prog_5_method_19_code
def yX3_placeOf : MethodName := ⟨RX3, "placeOf", "(I)I"⟩
abbrev cX3_setPlace : ByteArray := prog_5_method_20_code
def yX3_setPlace : MethodName := ⟨RX3, "setPlace", "(II)V"⟩
abbrev cX3_addHeir : ByteArray := prog_5_method_21_code
def yX3_addHeir : MethodName := ⟨RX3, "addHeir", "(I)I"⟩
abbrev cX3_worthOf : ByteArray := prog_5_method_22_code
def yX3_worthOf : MethodName := ⟨RX3, "worthOf", "(IJ)I"⟩
abbrev cX3_allShares : ByteArray := prog_5_method_23_code
def yX3_allShares : MethodName := ⟨RX3, "allShares", "()I"⟩
abbrev cX3_surplusOf : ByteArray := prog_5_method_24_code
def yX3_surplusOf : MethodName := ⟨RX3, "surplusOf", "(IJ)I"⟩
abbrev cX3_slotOf : ByteArray := prog_5_method_25_code
def yX3_slotOf : MethodName := ⟨RX3, "slotOf", "(I)I"⟩
abbrev cX3_ownerAt : ByteArray := prog_5_method_26_code
def yX3_ownerAt : MethodName := ⟨RX3, "ownerAt", "(I)I"⟩
abbrev cX3_ownedByHeirs : ByteArray := prog_5_method_27_code
def yX3_ownedByHeirs : MethodName := ⟨RX3, "ownedByHeirs", "()I"⟩
abbrev cX3_takeOwners : ByteArray := prog_5_method_28_code
def yX3_takeOwners : MethodName := ⟨RX3, "takeOwners", "([J)I"⟩
abbrev cX3_withBeside : ByteArray := prog_5_method_29_code
def yX3_withBeside : MethodName := ⟨RX3, "withBeside", "(J)J"⟩
abbrev cX3_grown : ByteArray := prog_5_method_30_code
def yX3_grown : MethodName := ⟨RX3, "grown", "(JJ)J"⟩
abbrev cX3_piecesOf : ByteArray := prog_5_method_31_code
def yX3_piecesOf : MethodName := ⟨RX3, "piecesOf", "(J)I"⟩
abbrev cX3_hedgeOf : ByteArray := prog_5_method_32_code
def yX3_hedgeOf : MethodName := ⟨RX3, "hedgeOf", "([J)I"⟩
abbrev cX3_verdictOn : ByteArray := prog_5_method_33_code
def yX3_verdictOn : MethodName := ⟨RX3, "verdictOn", "([J)I"⟩
abbrev cX3_hasFault : ByteArray := prog_5_method_34_code
def yX3_hasFault : MethodName := ⟨RX3, "hasFault", "(IIJJ)Z"⟩
abbrev cX3_isContent : ByteArray := prog_5_method_35_code
def yX3_isContent : MethodName := ⟨RX3, "isContent", "(IJ)Z"⟩
abbrev cX3_reachOfRoad : ByteArray := prog_5_method_36_code
def yX3_reachOfRoad : MethodName := ⟨RX3, "reachOfRoad", "(J)J"⟩
abbrev cX3_roadSide : ByteArray := prog_5_method_37_code
def yX3_roadSide : MethodName := ⟨RX3, "roadSide", "()J"⟩
abbrev cX3_wellMatters : ByteArray := prog_5_method_38_code
def yX3_wellMatters : MethodName := ⟨RX3, "wellMatters", "(J)Z"⟩
abbrev cX3_toldBy : ByteArray := prog_5_method_39_code
def yX3_toldBy : MethodName := ⟨RX3, "toldBy", "(LBrothersField$Row;I)J"⟩
def RX4 : String := "BrothersField$From"
def TX4 : u_T := fun k => match k with
  | 0 => ("BrothersField$Cut", "code", "I", true)
  | 1 => ("BrothersField$Cut", "shelf", "I", true)
  | 2 => ("BrothersField$Cut", "a", "I", true)
  | 3 => ("BrothersField$Cut", "b", "I", true)
  | 4 => ("BrothersField$Cut", "c", "I", true)
  | _ => ("BrothersField$Cut", "trace", "LBrothersField$Row;", true)
def tyX4 : Nat → FieldType := fun k => match k with
  | 0 => .int
  | 1 => .int
  | 2 => .int
  | 3 => .int
  | 4 => .int
  | _ => .object "BrothersField$Row"
theorem nmX4 : ∀ a, a < 6 → ∀ b, b < 6 → a ≠ b → (TX4 a).2.1 ≠ (TX4 b).2.1 := by decide +kernel
theorem tyX4_ok : ∀ k, k < 6 → parseFieldDescriptor (TX4 k).2.2.1 = some (tyX4 k) := by decide +kernel
abbrev cX4_init : ByteArray := prog_6_method_1_code
def yX4_init : MethodName := ⟨RX4, "<init>", "(IILBrothersField$Row;)V"⟩
abbrev cX4_isOf : ByteArray := prog_6_method_2_code
def yX4_isOf : MethodName := ⟨RX4, "isOf", "(I)Z"⟩
abbrev cX4_firstIn : ByteArray := prog_6_method_3_code
def yX4_firstIn : MethodName := ⟨RX4, "firstIn", "(LBrothersField$Field;)J"⟩
abbrev cX4_hedgesBody : ByteArray := prog_6_method_4_code
def yX4_hedgesBody : MethodName := ⟨RX4, "hedgesBody", "(I)I"⟩
def RX5 : String := "BrothersField$Lane"
def TX5 : u_T := fun k => match k with
  | 0 => ("BrothersField$Cut", "code", "I", true)
  | 1 => ("BrothersField$Cut", "shelf", "I", true)
  | 2 => ("BrothersField$Cut", "a", "I", true)
  | 3 => ("BrothersField$Cut", "b", "I", true)
  | 4 => ("BrothersField$Cut", "c", "I", true)
  | _ => ("BrothersField$Cut", "trace", "LBrothersField$Row;", true)
def tyX5 : Nat → FieldType := fun k => match k with
  | 0 => .int
  | 1 => .int
  | 2 => .int
  | 3 => .int
  | 4 => .int
  | _ => .object "BrothersField$Row"
theorem nmX5 : ∀ a, a < 6 → ∀ b, b < 6 → a ≠ b → (TX5 a).2.1 ≠ (TX5 b).2.1 := by decide +kernel
theorem tyX5_ok : ∀ k, k < 6 → parseFieldDescriptor (TX5 k).2.2.1 = some (tyX5 k) := by decide +kernel
abbrev cX5_init : ByteArray := prog_7_method_1_code
def yX5_init : MethodName := ⟨RX5, "<init>", "(IILBrothersField$Row;)V"⟩
abbrev cX5_isOf : ByteArray := prog_7_method_2_code
def yX5_isOf : MethodName := ⟨RX5, "isOf", "(I)Z"⟩
abbrev cX5_firstIn : ByteArray := prog_7_method_3_code
def yX5_firstIn : MethodName := ⟨RX5, "firstIn", "(LBrothersField$Field;)J"⟩
abbrev cX5_laneIn : ByteArray := prog_7_method_4_code
def yX5_laneIn : MethodName := ⟨RX5, "laneIn", "(LBrothersField$Field;)J"⟩
abbrev cX5_hedgesBody : ByteArray := prog_7_method_5_code
def yX5_hedgesBody : MethodName := ⟨RX5, "hedgesBody", "(I)I"⟩
def RX6 : String := "BrothersField$Reader"
def TX6 : u_T := fun k => match k with
  | 0 => ("BrothersField$Reader", "fault", "I", false)
  | 1 => ("BrothersField$Reader", "text", "LBrothersField$Row;", true)
  | 2 => ("BrothersField$Reader", "field", "LBrothersField$Field;", true)
  | _ => ("BrothersField$Reader", "at", "I", false)
def tyX6 : Nat → FieldType := fun k => match k with
  | 0 => .int
  | 1 => .object "BrothersField$Row"
  | 2 => .object "BrothersField$Field"
  | _ => .int
theorem nmX6 : ∀ a, a < 4 → ∀ b, b < 4 → a ≠ b → (TX6 a).2.1 ≠ (TX6 b).2.1 := by decide +kernel
theorem tyX6_ok : ∀ k, k < 4 → parseFieldDescriptor (TX6 k).2.2.1 = some (tyX6 k) := by decide +kernel
abbrev cX6_init : ByteArray := prog_8_method_1_code
def yX6_init : MethodName := ⟨RX6, "<init>", "(LBrothersField$Row;LBrothersField$Field;)V"⟩
abbrev cX6_readItems : ByteArray := prog_8_method_2_code
def yX6_readItems : MethodName := ⟨RX6, "readItems", "()I"⟩
abbrev cX6_fails : ByteArray := prog_8_method_3_code
def yX6_fails : MethodName := ⟨RX6, "fails", "(I)Z"⟩
abbrev cX6_passes : ByteArray := prog_8_method_4_code
def yX6_passes : MethodName := ⟨RX6, "passes", "(C)Z"⟩
abbrev cX6_readItem : ByteArray := prog_8_method_5_code
def yX6_readItem : MethodName := ⟨RX6, "readItem", "()Z"⟩
abbrev cX6_wordOf : ByteArray := prog_8_method_6_code
def yX6_wordOf : MethodName := ⟨RX6, "wordOf", "(I)Ljava/lang/String;"⟩
abbrev cX6_readWord : ByteArray := prog_8_method_7_code
def yX6_readWord : MethodName := ⟨RX6, "readWord", "()I"⟩
abbrev cX6_lettersAlike : ByteArray := prog_8_method_8_code
def yX6_lettersAlike : MethodName := ⟨RX6, "lettersAlike", "(Ljava/lang/String;)I"⟩
abbrev cX6_readNumber : ByteArray := prog_8_method_9_code
def yX6_readNumber : MethodName := ⟨RX6, "readNumber", "(II)I"⟩
abbrev cX6_digitAt : ByteArray := prog_8_method_10_code
def yX6_digitAt : MethodName := ⟨RX6, "digitAt", "(I)I"⟩
abbrev cX6_readSize : ByteArray := prog_8_method_11_code
def yX6_readSize : MethodName := ⟨RX6, "readSize", "()Z"⟩
abbrev cX6_readSoil : ByteArray := prog_8_method_12_code
def yX6_readSoil : MethodName := ⟨RX6, "readSoil", "()Z"⟩
abbrev cX6_readPlace : ByteArray := prog_8_method_13_code
def yX6_readPlace : MethodName := ⟨RX6, "readPlace", "(III)Z"⟩
abbrev cX6_readHeir : ByteArray := prog_8_method_14_code
def yX6_readHeir : MethodName := ⟨RX6, "readHeir", "()Z"⟩
def RX7 : String := "BrothersField$Row"
def TX7 : u_T := fun k => match k with
  | 0 => ("BrothersField$Row", "sort", "I", false)
  | 1 => ("BrothersField$Row", "size", "I", false)
  | _ => ("BrothersField$Row", "elements", "[J", true)
def tyX7 : Nat → FieldType := fun k => match k with
  | 0 => .int
  | 1 => .int
  | _ => .array .long
theorem nmX7 : ∀ a, a < 3 → ∀ b, b < 3 → a ≠ b → (TX7 a).2.1 ≠ (TX7 b).2.1 := by decide +kernel
theorem tyX7_ok : ∀ k, k < 3 → parseFieldDescriptor (TX7 k).2.2.1 = some (tyX7 k) := by decide +kernel
abbrev cX7_init : ByteArray := prog_9_method_1_code
def yX7_init : MethodName := ⟨RX7, "<init>", "()V"⟩
abbrev cX7_renew : ByteArray := prog_9_method_2_code
def yX7_renew : MethodName := ⟨RX7, "renew", "(II)V"⟩
abbrev cX7_drop : ByteArray := prog_9_method_3_code
def yX7_drop : MethodName := ⟨RX7, "drop", "()V"⟩
abbrev cX7_isHeld : ByteArray := prog_9_method_4_code
def yX7_isHeld : MethodName := ⟨RX7, "isHeld", "()Z"⟩
abbrev cX7_has : ByteArray := prog_9_method_5_code
def yX7_has : MethodName := ⟨RX7, "has", "(I)Z"⟩
abbrev cX7_hasRange : ByteArray := prog_9_method_6_code
def yX7_hasRange : MethodName := ⟨RX7, "hasRange", "(II)Z"⟩
abbrev cX7_at : ByteArray := prog_9_method_7_code
def yX7_at : MethodName := ⟨RX7, "at", "(I)J"⟩
abbrev cX7_intAt : ByteArray := prog_9_method_8_code
def yX7_intAt : MethodName := ⟨RX7, "intAt", "(I)I"⟩
abbrev cX7_put : ByteArray := prog_9_method_9_code
def yX7_put : MethodName := ⟨RX7, "put", "(IJ)V"⟩
abbrev cX7_append : ByteArray := prog_9_method_10_code
def yX7_append : MethodName := ⟨RX7, "append", "(I)V"⟩
abbrev cX7_narrowed : ByteArray := prog_9_method_11_code
def yX7_narrowed : MethodName := ⟨RX7, "narrowed", "(J)J"⟩
def RX8 : String := "BrothersField$Search"
def TX8 : u_T := fun k => match k with
  | 0 => ("BrothersField$Search", "bestCode", "I", false)
  | 1 => ("BrothersField$Search", "fitting", "I", false)
  | 2 => ("BrothersField$Search", "sureFirst", "J", false)
  | 3 => ("BrothersField$Search", "sureSecond", "J", false)
  | 4 => ("BrothersField$Search", "bestOther", "I", false)
  | 5 => ("BrothersField$Search", "bestHedge", "I", false)
  | 6 => ("BrothersField$Search", "count", "I", false)
  | 7 => ("BrothersField$Search", "codes", "[I", true)
  | 8 => ("BrothersField$Search", "firsts", "[J", true)
  | _ => ("BrothersField$Search", "trial", "[J", true)
def tyX8 : Nat → FieldType := fun k => match k with
  | 0 => .int
  | 1 => .int
  | 2 => .long
  | 3 => .long
  | 4 => .int
  | 5 => .int
  | 6 => .int
  | 7 => .array .int
  | 8 => .array .long
  | _ => .array .long
theorem nmX8 : ∀ a, a < 10 → ∀ b, b < 10 → a ≠ b → (TX8 a).2.1 ≠ (TX8 b).2.1 := by decide +kernel
theorem tyX8_ok : ∀ k, k < 10 → parseFieldDescriptor (TX8 k).2.2.1 = some (tyX8 k) := by decide +kernel
abbrev cX8_init : ByteArray := prog_10_method_1_code
def yX8_init : MethodName := ⟨RX8, "<init>", "()V"⟩
abbrev cX8_best : ByteArray := prog_10_method_2_code
def yX8_best : MethodName := ⟨RX8, "best", "(I)I"⟩
abbrev cX8_addCut : ByteArray := prog_10_method_3_code
def yX8_addCut : MethodName := ⟨RX8, "addCut", "(IJ)V"⟩
abbrev cX8_listCuts : ByteArray := prog_10_method_4_code
def yX8_listCuts : MethodName := ⟨RX8, "listCuts", "(LBrothersField$Field;ZZ)V"⟩
abbrev cX8_addBent : ByteArray := prog_10_method_5_code
def yX8_addBent : MethodName := ⟨RX8, "addBent", "(LBrothersField$Field;)V"⟩
abbrev cX8_addFrom : ByteArray := prog_10_method_6_code
def yX8_addFrom : MethodName := ⟨RX8, "addFrom", "(LBrothersField$Field;)V"⟩
abbrev cX8_forget : ByteArray := prog_10_method_7_code
def yX8_forget : MethodName := ⟨RX8, "forget", "(I)V"⟩
abbrev cX8_tryTrial : ByteArray := prog_10_method_8_code
def yX8_tryTrial : MethodName := ⟨RX8, "tryTrial", "(LBrothersField$Field;II)V"⟩
abbrev cX8_findTwo : ByteArray := prog_10_method_9_code
def yX8_findTwo : MethodName := ⟨RX8, "findTwo", "(LBrothersField$Field;)Z"⟩
abbrev cX8_findThree : ByteArray := prog_10_method_10_code
def yX8_findThree : MethodName := ⟨RX8, "findThree", "(LBrothersField$Field;)Z"⟩
abbrev cX8_findFairest : ByteArray := prog_10_method_11_code
def yX8_findFairest : MethodName := ⟨RX8, "findFairest", "(LBrothersField$Field;I)J"⟩
abbrev cX8_findChange : ByteArray := prog_10_method_12_code
def yX8_findChange : MethodName := ⟨RX8, "findChange", "(LBrothersField$Field;)I"⟩
abbrev cX8_mayChange : ByteArray := prog_10_method_13_code
def yX8_mayChange : MethodName := ⟨RX8, "mayChange", "(LBrothersField$Field;II)Z"⟩
abbrev cX8_startFrom : ByteArray := prog_10_method_14_code
def yX8_startFrom : MethodName := ⟨RX8, "startFrom", "([J)V"⟩
abbrev cX8_findFitting : ByteArray := prog_10_method_15_code
def yX8_findFitting : MethodName := ⟨RX8, "findFitting", "(LBrothersField$Field;LBrothersField$Row;)V"⟩
def RX9 : String := "BrothersField$Straight"
def TX9 : u_T := fun k => match k with
  | 0 => ("BrothersField$Cut", "code", "I", true)
  | 1 => ("BrothersField$Cut", "shelf", "I", true)
  | 2 => ("BrothersField$Cut", "a", "I", true)
  | 3 => ("BrothersField$Cut", "b", "I", true)
  | 4 => ("BrothersField$Cut", "c", "I", true)
  | _ => ("BrothersField$Cut", "trace", "LBrothersField$Row;", true)
def tyX9 : Nat → FieldType := fun k => match k with
  | 0 => .int
  | 1 => .int
  | 2 => .int
  | 3 => .int
  | 4 => .int
  | _ => .object "BrothersField$Row"
theorem nmX9 : ∀ a, a < 6 → ∀ b, b < 6 → a ≠ b → (TX9 a).2.1 ≠ (TX9 b).2.1 := by decide +kernel
theorem tyX9_ok : ∀ k, k < 6 → parseFieldDescriptor (TX9 k).2.2.1 = some (tyX9 k) := by decide +kernel
abbrev cX9_init : ByteArray := prog_11_method_1_code
def yX9_init : MethodName := ⟨RX9, "<init>", "(IILBrothersField$Row;)V"⟩
abbrev cX9_isOf : ByteArray := prog_11_method_2_code
def yX9_isOf : MethodName := ⟨RX9, "isOf", "(I)Z"⟩
abbrev cX9_firstIn : ByteArray := prog_11_method_3_code
def yX9_firstIn : MethodName := ⟨RX9, "firstIn", "(LBrothersField$Field;)J"⟩
abbrev cX9_partsBody : ByteArray := prog_11_method_4_code
def yX9_partsBody : MethodName := ⟨RX9, "partsBody", "(I)I"⟩
def RX10 : String := "BrothersField$Told"
def TX10 : u_T := fun k => match k with
  | 0 => ("BrothersField$Cut", "code", "I", true)
  | 1 => ("BrothersField$Cut", "shelf", "I", true)
  | 2 => ("BrothersField$Cut", "a", "I", true)
  | 3 => ("BrothersField$Cut", "b", "I", true)
  | 4 => ("BrothersField$Cut", "c", "I", true)
  | _ => ("BrothersField$Cut", "trace", "LBrothersField$Row;", true)
def tyX10 : Nat → FieldType := fun k => match k with
  | 0 => .int
  | 1 => .int
  | 2 => .int
  | 3 => .int
  | 4 => .int
  | _ => .object "BrothersField$Row"
theorem nmX10 : ∀ a, a < 6 → ∀ b, b < 6 → a ≠ b → (TX10 a).2.1 ≠ (TX10 b).2.1 := by decide +kernel
theorem tyX10_ok : ∀ k, k < 6 → parseFieldDescriptor (TX10 k).2.2.1 = some (tyX10 k) := by decide +kernel
abbrev cX10_init : ByteArray := prog_12_method_1_code
def yX10_init : MethodName := ⟨RX10, "<init>", "(IILBrothersField$Row;)V"⟩
abbrev cX10_isOf : ByteArray := prog_12_method_2_code
def yX10_isOf : MethodName := ⟨RX10, "isOf", "(I)Z"⟩
abbrev cX10_firstIn : ByteArray := prog_12_method_3_code
def yX10_firstIn : MethodName := ⟨RX10, "firstIn", "(LBrothersField$Field;)J"⟩
abbrev cX10_partsBody : ByteArray := prog_12_method_4_code
def yX10_partsBody : MethodName := ⟨RX10, "partsBody", "(I)I"⟩
abbrev cX10_weighsBody : ByteArray := prog_12_method_5_code
def yX10_weighsBody : MethodName := ⟨RX10, "weighsBody", "(I)I"⟩
def RX11 : String := "BrothersField"
def TX11 : u_T := fun k => match k with
  | 0 => ("BrothersField", "heldRows", "[LBrothersField$Row;", true)
  | 1 => ("BrothersField", "heldCuts", "[LBrothersField$Cut;", true)
  | 2 => ("BrothersField", "trace", "LBrothersField$Row;", true)
  | 3 => ("BrothersField", "now", "LBrothersField$Field;", true)
  | 4 => ("BrothersField", "kept", "LBrothersField$Field;", true)
  | 5 => ("BrothersField", "draft", "LBrothersField$Field;", true)
  | 6 => ("BrothersField", "search", "LBrothersField$Search;", true)
  | 7 => ("BrothersField", "laid", "[J", true)
  | 8 => ("BrothersField", "refusals", "[I", true)
  | 9 => ("BrothersField", "imageTaken", "Z", false)
  | _ => ("BrothersField", "textFault", "I", false)
def tyX11 : Nat → FieldType := fun k => match k with
  | 0 => .array (.object "BrothersField$Row")
  | 1 => .array (.object "BrothersField$Cut")
  | 2 => .object "BrothersField$Row"
  | 3 => .object "BrothersField$Field"
  | 4 => .object "BrothersField$Field"
  | 5 => .object "BrothersField$Field"
  | 6 => .object "BrothersField$Search"
  | 7 => .array .long
  | 8 => .array .int
  | 9 => .boolean
  | _ => .int
theorem nmX11 : ∀ a, a < 11 → ∀ b, b < 11 → a ≠ b → (TX11 a).2.1 ≠ (TX11 b).2.1 := by decide +kernel
theorem tyX11_ok : ∀ k, k < 11 → parseFieldDescriptor (TX11 k).2.2.1 = some (tyX11 k) := by decide +kernel
abbrev cX11_init : ByteArray := prog_1_method_1_code
def yX11_init : MethodName := ⟨RX11, "<init>", "()V"⟩
abbrev cX11_row : ByteArray := prog_1_method_2_code
def yX11_row : MethodName := ⟨RX11, "row", "(III)I"⟩
abbrev cX11_set : ByteArray := prog_1_method_3_code
def yX11_set : MethodName := ⟨RX11, "set", "(IIJ)I"⟩
abbrev cX11_copy : ByteArray := prog_1_method_4_code
def yX11_copy : MethodName := ⟨RX11, "copy", "(IIIII)I"⟩
abbrev cX11_element : ByteArray := prog_1_method_5_code
def yX11_element : MethodName := ⟨RX11, "element", "(II)J"⟩
abbrev cX11_cut : ByteArray := prog_1_method_6_code
def yX11_cut : MethodName := ⟨RX11, "cut", "(II)I"⟩
abbrev cX11_holds : ByteArray := prog_1_method_7_code
def yX11_holds : MethodName := ⟨RX11, "holds", "(I)I"⟩
abbrev cX11_says : ByteArray := prog_1_method_8_code
def yX11_says : MethodName := ⟨RX11, "says", "(II)I"⟩
abbrev cX11_side : ByteArray := prog_1_method_9_code
def yX11_side : MethodName := ⟨RX11, "side", "(II)J"⟩
abbrev cX11_field : ByteArray := prog_1_method_10_code
def yX11_field : MethodName := ⟨RX11, "field", "(I)I"⟩
abbrev cX11_fault : ByteArray := prog_1_method_11_code
def yX11_fault : MethodName := ⟨RX11, "fault", "()I"⟩
abbrev cX11_size : ByteArray := prog_1_method_12_code
def yX11_size : MethodName := ⟨RX11, "size", "(II)I"⟩
abbrev cX11_soil : ByteArray := prog_1_method_13_code
def yX11_soil : MethodName := ⟨RX11, "soil", "(II)I"⟩
abbrev cX11_place : ByteArray := prog_1_method_14_code
def yX11_place : MethodName := ⟨RX11, "place", "(II)I"⟩
abbrev cX11_heir : ByteArray := prog_1_method_15_code
def yX11_heir : MethodName := ⟨RX11, "heir", "(I)I"⟩
abbrev cX11_worths : ByteArray := prog_1_method_16_code
def yX11_worths : MethodName := ⟨RX11, "worths", "(III)I"⟩
abbrev cX11_fond : ByteArray := prog_1_method_17_code
def yX11_fond : MethodName := ⟨RX11, "fond", "(IZ)I"⟩
abbrev cX11_heirOf : ByteArray := prog_1_method_18_code
def yX11_heirOf : MethodName := ⟨RX11, "heirOf", "(II)I"⟩
abbrev cX11_worth : ByteArray := prog_1_method_19_code
def yX11_worth : MethodName := ⟨RX11, "worth", "(IJ)I"⟩
abbrev cX11_owner : ByteArray := prog_1_method_20_code
def yX11_owner : MethodName := ⟨RX11, "owner", "(I)I"⟩
abbrev cX11_own : ByteArray := prog_1_method_21_code
def yX11_own : MethodName := ⟨RX11, "own", "(JI)I"⟩
abbrev cX11_lay : ByteArray := prog_1_method_22_code
def yX11_lay : MethodName := ⟨RX11, "lay", "(III)I"⟩
abbrev cX11_owners : ByteArray := prog_1_method_23_code
def yX11_owners : MethodName := ⟨RX11, "owners", "(I)I"⟩
abbrev cX11_piece : ByteArray := prog_1_method_24_code
def yX11_piece : MethodName := ⟨RX11, "piece", "(I)J"⟩
abbrev cX11_hedge : ByteArray := prog_1_method_25_code
def yX11_hedge : MethodName := ⟨RX11, "hedge", "()I"⟩
abbrev cX11_faulty : ByteArray := prog_1_method_26_code
def yX11_faulty : MethodName := ⟨RX11, "faulty", "()I"⟩
abbrev cX11_whose : ByteArray := prog_1_method_27_code
def yX11_whose : MethodName := ⟨RX11, "whose", "()I"⟩
abbrev cX11_parts : ByteArray := prog_1_method_28_code
def yX11_parts : MethodName := ⟨RX11, "parts", "(J)I"⟩
abbrev cX11_two : ByteArray := prog_1_method_29_code
def yX11_two : MethodName := ⟨RX11, "two", "(I)I"⟩
abbrev cX11_three : ByteArray := prog_1_method_30_code
def yX11_three : MethodName := ⟨RX11, "three", "(I)I"⟩
abbrev cX11_choose : ByteArray := prog_1_method_31_code
def yX11_choose : MethodName := ⟨RX11, "choose", "(III)I"⟩
abbrev cX11_envies : ByteArray := prog_1_method_32_code
def yX11_envies : MethodName := ⟨RX11, "envies", "(I)I"⟩
abbrev cX11_evens : ByteArray := prog_1_method_33_code
def yX11_evens : MethodName := ⟨RX11, "evens", "(I)I"⟩
abbrev cX11_better : ByteArray := prog_1_method_34_code
def yX11_better : MethodName := ⟨RX11, "better", "()I"⟩
abbrev cX11_mend : ByteArray := prog_1_method_35_code
def yX11_mend : MethodName := ⟨RX11, "mend", "(I)I"⟩
abbrev cX11_fits : ByteArray := prog_1_method_36_code
def yX11_fits : MethodName := ⟨RX11, "fits", "(II)I"⟩
abbrev cX11_old : ByteArray := prog_1_method_37_code
def yX11_old : MethodName := ⟨RX11, "old", "(I)I"⟩
abbrev cX11_sure : ByteArray := prog_1_method_38_code
def yX11_sure : MethodName := ⟨RX11, "sure", "(II)J"⟩
abbrev cX11_judge : ByteArray := prog_1_method_39_code
def yX11_judge : MethodName := ⟨RX11, "judge", "(I)I"⟩
abbrev cX11_act : ByteArray := prog_1_method_40_code
def yX11_act : MethodName := ⟨RX11, "act", "(III)I"⟩
abbrev cX11_trace : ByteArray := prog_1_method_41_code
def yX11_trace : MethodName := ⟨RX11, "trace", "(I)I"⟩
abbrev cX11_image : ByteArray := prog_1_method_42_code
def yX11_image : MethodName := ⟨RX11, "image", "()I"⟩
abbrev cX11_restore : ByteArray := prog_1_method_43_code
def yX11_restore : MethodName := ⟨RX11, "restore", "()I"⟩
abbrev cX11_status : ByteArray := prog_1_method_44_code
def yX11_status : MethodName := ⟨RX11, "status", "(I)I"⟩
abbrev cX11_refuse : ByteArray := prog_1_method_45_code
def yX11_refuse : MethodName := ⟨RX11, "refuse", "(I)I"⟩
abbrev cX11_refuseAs : ByteArray := prog_1_method_46_code
def yX11_refuseAs : MethodName := ⟨RX11, "refuseAs", "(II)I"⟩
abbrev cX11_earlier : ByteArray := prog_1_method_47_code
def yX11_earlier : MethodName := ⟨RX11, "earlier", "(II)I"⟩
abbrev cX11_isShelf : ByteArray := prog_1_method_48_code
def yX11_isShelf : MethodName := ⟨RX11, "isShelf", "(I)Z"⟩
abbrev cX11_noRow : ByteArray := prog_1_method_49_code
def yX11_noRow : MethodName := ⟨RX11, "noRow", "(I)I"⟩
abbrev cX11_noCut : ByteArray := prog_1_method_50_code
def yX11_noCut : MethodName := ⟨RX11, "noCut", "(I)I"⟩
abbrev cX11_hasCutNumbers : ByteArray := prog_1_method_51_code
def yX11_hasCutNumbers : MethodName := ⟨RX11, "hasCutNumbers", "(I)Z"⟩
abbrev cX11_newCut : ByteArray := prog_1_method_52_code
def yX11_newCut : MethodName := ⟨RX11, "newCut", "(II)LBrothersField$Cut;"⟩
abbrev cX11_sideOf : ByteArray := prog_1_method_53_code
def yX11_sideOf : MethodName := ⟨RX11, "sideOf", "(LBrothersField$Cut;I)J"⟩
abbrev cX11_toldAs : ByteArray := prog_1_method_54_code
def yX11_toldAs : MethodName := ⟨RX11, "toldAs", "(LBrothersField$Cut;I)I"⟩
abbrev cX11_mayStand : ByteArray := prog_1_method_55_code
def yX11_mayStand : MethodName := ⟨RX11, "mayStand", "(II)Z"⟩
def RX12 : String := "BrothersFieldModel"
def TX12 : u_T := fun k => match k with
  | 0 => ("BrothersFieldModel", "w", "I", false)
  | 1 => ("BrothersFieldModel", "h", "I", false)
  | 2 => ("BrothersFieldModel", "road", "I", false)
  | 3 => ("BrothersFieldModel", "well", "I", false)
  | 4 => ("BrothersFieldModel", "oak", "I", false)
  | 5 => ("BrothersFieldModel", "small", "I", false)
  | 6 => ("BrothersFieldModel", "heirs", "I", false)
  | 7 => ("BrothersFieldModel", "fault", "I", false)
  | 8 => ("BrothersFieldModel", "refused", "[I", true)
  | 9 => ("BrothersFieldModel", "soil", "[I", true)
  | 10 => ("BrothersFieldModel", "owner", "[I", true)
  | 11 => ("BrothersFieldModel", "share", "[I", true)
  | 12 => ("BrothersFieldModel", "fond", "[I", true)
  | 13 => ("BrothersFieldModel", "value", "[I", true)
  | 14 => ("BrothersFieldModel", "held", "[I", true)
  | 15 => ("BrothersFieldModel", "sort", "[I", true)
  | 16 => ("BrothersFieldModel", "size", "[I", true)
  | 17 => ("BrothersFieldModel", "code", "[I", true)
  | 18 => ("BrothersFieldModel", "cells", "[J", true)
  | 19 => ("BrothersFieldModel", "carried", "[J", true)
  | 20 => ("BrothersFieldModel", "words", "[I", true)
  | 21 => ("BrothersFieldModel", "base", "I", false)
  | 22 => ("BrothersFieldModel", "at", "I", false)
  | 23 => ("BrothersFieldModel", "end", "I", false)
  | 24 => ("BrothersFieldModel", "told", "I", false)
  | 25 => ("BrothersFieldModel", "wrongAt", "I", false)
  | 26 => ("BrothersFieldModel", "was", "[I", true)
  | 27 => ("BrothersFieldModel", "kept", "[I", true)
  | 28 => ("BrothersFieldModel", "culprit", "I", false)
  | 29 => ("BrothersFieldModel", "codes", "[I", true)
  | 30 => ("BrothersFieldModel", "spare", "[I", true)
  | 31 => ("BrothersFieldModel", "cuts", "I", false)
  | 32 => ("BrothersFieldModel", "one", "I", false)
  | 33 => ("BrothersFieldModel", "other", "I", false)
  | 34 => ("BrothersFieldModel", "least", "I", false)
  | 35 => ("BrothersFieldModel", "trace", "[I", true)
  | 36 => ("BrothersFieldModel", "ran", "I", false)
  | _ => ("BrothersFieldModel", "isKept", "Z", false)
def tyX12 : Nat → FieldType := fun k => match k with
  | 0 => .int
  | 1 => .int
  | 2 => .int
  | 3 => .int
  | 4 => .int
  | 5 => .int
  | 6 => .int
  | 7 => .int
  | 8 => .array .int
  | 9 => .array .int
  | 10 => .array .int
  | 11 => .array .int
  | 12 => .array .int
  | 13 => .array .int
  | 14 => .array .int
  | 15 => .array .int
  | 16 => .array .int
  | 17 => .array .int
  | 18 => .array .long
  | 19 => .array .long
  | 20 => .array .int
  | 21 => .int
  | 22 => .int
  | 23 => .int
  | 24 => .int
  | 25 => .int
  | 26 => .array .int
  | 27 => .array .int
  | 28 => .int
  | 29 => .array .int
  | 30 => .array .int
  | 31 => .int
  | 32 => .int
  | 33 => .int
  | 34 => .int
  | 35 => .array .int
  | 36 => .int
  | _ => .boolean
theorem nmX12 : ∀ a, a < 38 → ∀ b, b < 38 → a ≠ b → (TX12 a).2.1 ≠ (TX12 b).2.1 := by decide +kernel
theorem tyX12_ok : ∀ k, k < 38 → parseFieldDescriptor (TX12 k).2.2.1 = some (tyX12 k) := by decide +kernel
abbrev cX12_init : ByteArray := prog_14_method_1_code
def yX12_init : MethodName := ⟨RX12, "<init>", "()V"⟩
abbrev cX12_no : ByteArray := prog_14_method_2_code
def yX12_no : MethodName := ⟨RX12, "no", "(I)I"⟩
abbrev cX12_noTen : ByteArray := prog_14_method_3_code
def yX12_noTen : MethodName := ⟨RX12, "noTen", "(I)I"⟩
abbrev cX12_isShelf : ByteArray := prog_14_method_4_code
def yX12_isShelf : MethodName := ⟨RX12, "isShelf", "(I)Z"⟩
abbrev cX12_isSquare : ByteArray := prog_14_method_5_code
def yX12_isSquare : MethodName := ⟨RX12, "isSquare", "(I)Z"⟩
abbrev cX12_isHeir : ByteArray := prog_14_method_6_code
def yX12_isHeir : MethodName := ⟨RX12, "isHeir", "(I)Z"⟩
abbrev cX12_all : ByteArray := prog_14_method_7_code
def yX12_all : MethodName := ⟨RX12, "all", "()J"⟩
abbrev cX12_isSet : ByteArray := prog_14_method_8_code
def yX12_isSet : MethodName := ⟨RX12, "isSet", "(J)Z"⟩
abbrev cX12_many : ByteArray := prog_14_method_9_code
def yX12_many : MethodName := ⟨RX12, "many", "(J)I"⟩
abbrev cX12_has : ByteArray := prog_14_method_10_code
def yX12_has : MethodName := ⟨RX12, "has", "(JI)Z"⟩
abbrev cX12_row : ByteArray := prog_14_method_11_code
def yX12_row : MethodName := ⟨RX12, "row", "(III)I"⟩
abbrev cX12_set : ByteArray := prog_14_method_12_code
def yX12_set : MethodName := ⟨RX12, "set", "(IIJ)I"⟩
abbrev cX12_copy : ByteArray := prog_14_method_13_code
def yX12_copy : MethodName := ⟨RX12, "copy", "(IIIII)I"⟩
abbrev cX12_element : ByteArray := prog_14_method_14_code
def yX12_element : MethodName := ⟨RX12, "element", "(II)J"⟩
abbrev cX12_cut : ByteArray := prog_14_method_15_code
def yX12_cut : MethodName := ⟨RX12, "cut", "(II)I"⟩
abbrev cX12_holds : ByteArray := prog_14_method_16_code
def yX12_holds : MethodName := ⟨RX12, "holds", "(I)I"⟩
abbrev cX12_wants : ByteArray := prog_14_method_17_code
def yX12_wants : MethodName := ⟨RX12, "wants", "(II)I"⟩
abbrev cX12_intAt : ByteArray := prog_14_method_18_code
def yX12_intAt : MethodName := ⟨RX12, "intAt", "(II)I"⟩
abbrev cX12_isFirst : ByteArray := prog_14_method_19_code
def yX12_isFirst : MethodName := ⟨RX12, "isFirst", "(II)Z"⟩
abbrev cX12_sideOf : ByteArray := prog_14_method_20_code
def yX12_sideOf : MethodName := ⟨RX12, "sideOf", "(II)J"⟩
abbrev cX12_side : ByteArray := prog_14_method_21_code
def yX12_side : MethodName := ⟨RX12, "side", "(II)J"⟩
abbrev cX12_says : ByteArray := prog_14_method_22_code
def yX12_says : MethodName := ⟨RX12, "says", "(II)I"⟩
abbrev cX12_sizes : ByteArray := prog_14_method_23_code
def yX12_sizes : MethodName := ⟨RX12, "sizes", "(II)V"⟩
abbrev cX12_comes : ByteArray := prog_14_method_24_code
def yX12_comes : MethodName := ⟨RX12, "comes", "(I)I"⟩
abbrev cX12_wrong : ByteArray := prog_14_method_25_code
def yX12_wrong : MethodName := ⟨RX12, "wrong", "(I)Z"⟩
abbrev cX12_word : ByteArray := prog_14_method_26_code
def yX12_word : MethodName := ⟨RX12, "word", "()I"⟩
abbrev cX12_isDigit : ByteArray := prog_14_method_27_code
def yX12_isDigit : MethodName := ⟨RX12, "isDigit", "()Z"⟩
abbrev cX12_number : ByteArray := prog_14_method_28_code
def yX12_number : MethodName := ⟨RX12, "number", "(II)Z"⟩
abbrev cX12_next : ByteArray := prog_14_method_29_code
def yX12_next : MethodName := ⟨RX12, "next", "(II)Z"⟩
abbrev cX12_isWordFull : ByteArray := prog_14_method_30_code
def yX12_isWordFull : MethodName := ⟨RX12, "isWordFull", "(I)Z"⟩
abbrev cX12_isWordAt : ByteArray := prog_14_method_31_code
def yX12_isWordAt : MethodName := ⟨RX12, "isWordAt", "(I)Z"⟩
abbrev cX12_item : ByteArray := prog_14_method_32_code
def yX12_item : MethodName := ⟨RX12, "item", "()Z"⟩
abbrev cX12_keeps : ByteArray := prog_14_method_33_code
def yX12_keeps : MethodName := ⟨RX12, "keeps", "([II[IIZ)I"⟩
abbrev cX12_all_ : ByteArray := prog_14_method_34_code
def yX12_all_ : MethodName := ⟨RX12, "all", "([IZ)V"⟩
abbrev cX12_field : ByteArray := prog_14_method_35_code
def yX12_field : MethodName := ⟨RX12, "field", "(I)I"⟩
abbrev cX12_fault : ByteArray := prog_14_method_36_code
def yX12_fault : MethodName := ⟨RX12, "fault", "()I"⟩
abbrev cX12_size : ByteArray := prog_14_method_37_code
def yX12_size : MethodName := ⟨RX12, "size", "(II)I"⟩
abbrev cX12_soil : ByteArray := prog_14_method_38_code
def yX12_soil : MethodName := ⟨RX12, "soil", "(II)I"⟩
abbrev cX12_place : ByteArray := prog_14_method_39_code
def yX12_place : MethodName := ⟨RX12, "place", "(II)I"⟩
abbrev cX12_heir : ByteArray := prog_14_method_40_code
def yX12_heir : MethodName := ⟨RX12, "heir", "(I)I"⟩
abbrev cX12_worths : ByteArray := prog_14_method_41_code
def yX12_worths : MethodName := ⟨RX12, "worths", "(III)I"⟩
abbrev cX12_fond : ByteArray := prog_14_method_42_code
def yX12_fond : MethodName := ⟨RX12, "fond", "(IZ)I"⟩
abbrev cX12_heirOf : ByteArray := prog_14_method_43_code
def yX12_heirOf : MethodName := ⟨RX12, "heirOf", "(II)I"⟩
abbrev cX12_worthOf : ByteArray := prog_14_method_44_code
def yX12_worthOf : MethodName := ⟨RX12, "worthOf", "(IJ)I"⟩
abbrev cX12_worth : ByteArray := prog_14_method_45_code
def yX12_worth : MethodName := ⟨RX12, "worth", "(IJ)I"⟩
abbrev cX12_pieceOf : ByteArray := prog_14_method_46_code
def yX12_pieceOf : MethodName := ⟨RX12, "pieceOf", "(I)J"⟩
abbrev cX12_isOwner : ByteArray := prog_14_method_47_code
def yX12_isOwner : MethodName := ⟨RX12, "isOwner", "(I)Z"⟩
abbrev cX12_owner : ByteArray := prog_14_method_48_code
def yX12_owner : MethodName := ⟨RX12, "owner", "(I)I"⟩
abbrev cX12_own : ByteArray := prog_14_method_49_code
def yX12_own : MethodName := ⟨RX12, "own", "(JI)I"⟩
abbrev cX12_lay : ByteArray := prog_14_method_50_code
def yX12_lay : MethodName := ⟨RX12, "lay", "(III)I"⟩
abbrev cX12_owners : ByteArray := prog_14_method_51_code
def yX12_owners : MethodName := ⟨RX12, "owners", "(I)I"⟩
abbrev cX12_piece : ByteArray := prog_14_method_52_code
def yX12_piece : MethodName := ⟨RX12, "piece", "(I)J"⟩
abbrev cX12_hedgeOf : ByteArray := prog_14_method_53_code
def yX12_hedgeOf : MethodName := ⟨RX12, "hedgeOf", "()I"⟩
abbrev cX12_hedge : ByteArray := prog_14_method_54_code
def yX12_hedge : MethodName := ⟨RX12, "hedge", "()I"⟩
abbrev cX12_beside : ByteArray := prog_14_method_55_code
def yX12_beside : MethodName := ⟨RX12, "beside", "(J)J"⟩
abbrev cX12_grown : ByteArray := prog_14_method_56_code
def yX12_grown : MethodName := ⟨RX12, "grown", "(JJ)J"⟩
abbrev cX12_partsOf : ByteArray := prog_14_method_57_code
def yX12_partsOf : MethodName := ⟨RX12, "partsOf", "(J)I"⟩
abbrev cX12_parts : ByteArray := prog_14_method_58_code
def yX12_parts : MethodName := ⟨RX12, "parts", "(J)I"⟩
abbrev cX12_atRoad : ByteArray := prog_14_method_59_code
def yX12_atRoad : MethodName := ⟨RX12, "atRoad", "()J"⟩
abbrev cX12_faultyNow : ByteArray := prog_14_method_60_code
def yX12_faultyNow : MethodName := ⟨RX12, "faultyNow", "()I"⟩
abbrev cX12_shares : ByteArray := prog_14_method_61_code
def yX12_shares : MethodName := ⟨RX12, "shares", "()I"⟩
abbrev cX12_faulty : ByteArray := prog_14_method_62_code
def yX12_faulty : MethodName := ⟨RX12, "faulty", "()I"⟩
abbrev cX12_whose : ByteArray := prog_14_method_63_code
def yX12_whose : MethodName := ⟨RX12, "whose", "()I"⟩
abbrev cX12_lists : ByteArray := prog_14_method_64_code
def yX12_lists : MethodName := ⟨RX12, "lists", "(IZ)V"⟩
abbrev cX12_lists_ : ByteArray := prog_14_method_65_code
def yX12_lists_ : MethodName := ⟨RX12, "lists", "(I)V"⟩
abbrev cX12_spares : ByteArray := prog_14_method_66_code
def yX12_spares : MethodName := ⟨RX12, "spares", "(Z)V"⟩
abbrev cX12_tries : ByteArray := prog_14_method_67_code
def yX12_tries : MethodName := ⟨RX12, "tries", "(II)V"⟩
abbrev cX12_two : ByteArray := prog_14_method_68_code
def yX12_two : MethodName := ⟨RX12, "two", "(I)I"⟩
abbrev cX12_three : ByteArray := prog_14_method_69_code
def yX12_three : MethodName := ⟨RX12, "three", "(I)I"⟩
abbrev cX12_choose : ByteArray := prog_14_method_70_code
def yX12_choose : MethodName := ⟨RX12, "choose", "(III)I"⟩
abbrev cX12_envies : ByteArray := prog_14_method_71_code
def yX12_envies : MethodName := ⟨RX12, "envies", "(I)I"⟩
abbrev cX12_evens : ByteArray := prog_14_method_72_code
def yX12_evens : MethodName := ⟨RX12, "evens", "(I)I"⟩
abbrev cX12_bettered : ByteArray := prog_14_method_73_code
def yX12_bettered : MethodName := ⟨RX12, "bettered", "()I"⟩
abbrev cX12_better : ByteArray := prog_14_method_74_code
def yX12_better : MethodName := ⟨RX12, "better", "()I"⟩
abbrev cX12_mend : ByteArray := prog_14_method_75_code
def yX12_mend : MethodName := ⟨RX12, "mend", "(I)I"⟩
abbrev cX12_isFit : ByteArray := prog_14_method_76_code
def yX12_isFit : MethodName := ⟨RX12, "isFit", "(II)Z"⟩
abbrev cX12_fits : ByteArray := prog_14_method_77_code
def yX12_fits : MethodName := ⟨RX12, "fits", "(II)I"⟩
abbrev cX12_old : ByteArray := prog_14_method_78_code
def yX12_old : MethodName := ⟨RX12, "old", "(I)I"⟩
abbrev cX12_sure : ByteArray := prog_14_method_79_code
def yX12_sure : MethodName := ⟨RX12, "sure", "(II)J"⟩
abbrev cX12_judge : ByteArray := prog_14_method_80_code
def yX12_judge : MethodName := ⟨RX12, "judge", "(I)I"⟩
abbrev cX12_body : ByteArray := prog_14_method_81_code
def yX12_body : MethodName := ⟨RX12, "body", "(I)V"⟩
abbrev cX12_parting : ByteArray := prog_14_method_82_code
def yX12_parting : MethodName := ⟨RX12, "parting", "(II)I"⟩
abbrev cX12_weighing : ByteArray := prog_14_method_83_code
def yX12_weighing : MethodName := ⟨RX12, "weighing", "(II)I"⟩
abbrev cX12_hedging : ByteArray := prog_14_method_84_code
def yX12_hedging : MethodName := ⟨RX12, "hedging", "(II)I"⟩
abbrev cX12_act : ByteArray := prog_14_method_85_code
def yX12_act : MethodName := ⟨RX12, "act", "(III)I"⟩
abbrev cX12_trace : ByteArray := prog_14_method_86_code
def yX12_trace : MethodName := ⟨RX12, "trace", "(I)I"⟩
abbrev cX12_image : ByteArray := prog_14_method_87_code
def yX12_image : MethodName := ⟨RX12, "image", "()I"⟩
abbrev cX12_restore : ByteArray := prog_14_method_88_code
def yX12_restore : MethodName := ⟨RX12, "restore", "()I"⟩
abbrev cX12_status : ByteArray := prog_14_method_89_code
def yX12_status : MethodName := ⟨RX12, "status", "(I)I"⟩
def RJ13 : String := "java/lang/Long"
def TJ13 : u_T := fun k => match k with
  | _ => ("", "", "", false)
def tyJ13 : Nat → FieldType := fun k => match k with
  | _ => .int
theorem nmJ13 : ∀ a, a < 0 → ∀ b, b < 0 → a ≠ b → (TJ13 a).2.1 ≠ (TJ13 b).2.1 := by decide +kernel
theorem tyJ13_ok : ∀ k, k < 0 → parseFieldDescriptor (TJ13 k).2.2.1 = some (tyJ13 k) := by decide +kernel
abbrev cJ13_bitCount_95d88 : ByteArray := prog_15_method_50_code
def yJ13_bitCount_95d88 : MethodName := ⟨RJ13, "bitCount", "(J)I"⟩
def RJ9 : String := "java/lang/Math"
def TJ9 : u_T := fun k => match k with
  | _ => ("", "", "", false)
def tyJ9 : Nat → FieldType := fun k => match k with
  | _ => .int
theorem nmJ9 : ∀ a, a < 0 → ∀ b, b < 0 → a ≠ b → (TJ9 a).2.1 ≠ (TJ9 b).2.1 := by decide +kernel
theorem tyJ9_ok : ∀ k, k < 0 → parseFieldDescriptor (TJ9 k).2.2.1 = some (tyJ9 k) := by decide +kernel
abbrev cJ9_abs_0f7a4 : ByteArray := prog_16_method_59_code
def yJ9_abs_0f7a4 : MethodName := ⟨RJ9, "abs", "(I)I"⟩
abbrev cJ9_max_7cf53 : ByteArray := prog_16_method_65_code
def yJ9_max_7cf53 : MethodName := ⟨RJ9, "max", "(II)I"⟩
abbrev cJ9_min_7cf53 : ByteArray := prog_16_method_69_code
def yJ9_min_7cf53 : MethodName := ⟨RJ9, "min", "(II)I"⟩
def RJ0 : String := "java/lang/String"
def TJ0 : u_T := fun k => match k with
  | _ => ("", "", "", false)
def tyJ0 : Nat → FieldType := fun k => match k with
  | _ => .int
theorem nmJ0 : ∀ a, a < 0 → ∀ b, b < 0 → a ≠ b → (TJ0 a).2.1 ≠ (TJ0 b).2.1 := by decide +kernel
theorem tyJ0_ok : ∀ k, k < 0 → parseFieldDescriptor (TJ0 k).2.2.1 = some (tyJ0 k) := by decide +kernel
abbrev cJ0_length_8abf5 : ByteArray := prog_17_method_54_code
def yJ0_length_8abf5 : MethodName := ⟨RJ0, "length", "()I"⟩
abbrev cJ0_charAt_5068e : ByteArray := prog_17_method_56_code
def yJ0_charAt_5068e : MethodName := ⟨RJ0, "charAt", "(I)C"⟩
abbrev cJ0_coder_7d493 : ByteArray := prog_17_method_152_code
def yJ0_coder_7d493 : MethodName := ⟨RJ0, "coder", "()B"⟩
abbrev cJ0_isLatin1_aae02 : ByteArray := prog_17_method_154_code
def yJ0_isLatin1_aae02 : MethodName := ⟨RJ0, "isLatin1", "()Z"⟩
abbrev cJ0_checkIndex_df160 : ByteArray := prog_17_method_155_code
def yJ0_checkIndex_df160 : MethodName := ⟨RJ0, "checkIndex", "(II)V"⟩
def RJ1 : String := "java/lang/StringLatin1"
def TJ1 : u_T := fun k => match k with
  | _ => ("", "", "", false)
def tyJ1 : Nat → FieldType := fun k => match k with
  | _ => .int
theorem nmJ1 : ∀ a, a < 0 → ∀ b, b < 0 → a ≠ b → (TJ1 a).2.1 ≠ (TJ1 b).2.1 := by decide +kernel
theorem tyJ1_ok : ∀ k, k < 0 → parseFieldDescriptor (TJ1 k).2.2.1 = some (tyJ1 k) := by decide +kernel
abbrev cJ1_charAt_3b067 : ByteArray := prog_18_method_2_code
def yJ1_charAt_3b067 : MethodName := ⟨RJ1, "charAt", "([BI)C"⟩
def RJ2 : String := "java/lang/StringUTF16"
def TJ2 : u_T := fun k => match k with
  | _ => ("", "", "", false)
def tyJ2 : Nat → FieldType := fun k => match k with
  | _ => .int
theorem nmJ2 : ∀ a, a < 0 → ∀ b, b < 0 → a ≠ b → (TJ2 a).2.1 ≠ (TJ2 b).2.1 := by decide +kernel
theorem tyJ2_ok : ∀ k, k < 0 → parseFieldDescriptor (TJ2 k).2.2.1 = some (tyJ2 k) := by decide +kernel
abbrev cJ2_getChar_3b067 : ByteArray := prog_19_method_5_code
def yJ2_getChar_3b067 : MethodName := ⟨RJ2, "getChar", "([BI)C"⟩
abbrev cJ2_length_9d52b : ByteArray := prog_19_method_6_code
def yJ2_length_9d52b : MethodName := ⟨RJ2, "length", "([B)I"⟩
abbrev cJ2_charAt_3b067 : ByteArray := prog_19_method_83_code
def yJ2_charAt_3b067 : MethodName := ⟨RJ2, "charAt", "([BI)C"⟩
abbrev cJ2_checkIndex_2214a : ByteArray := prog_19_method_91_code
def yJ2_checkIndex_2214a : MethodName := ⟨RJ2, "checkIndex", "(I[B)V"⟩
def RJ10 : String := "java/lang/System"
def TJ10 : u_T := fun k => match k with
  | _ => ("", "", "", false)
def tyJ10 : Nat → FieldType := fun k => match k with
  | _ => .int
theorem nmJ10 : ∀ a, a < 0 → ∀ b, b < 0 → a ≠ b → (TJ10 a).2.1 ≠ (TJ10 b).2.1 := by decide +kernel
theorem tyJ10_ok : ∀ k, k < 0 → parseFieldDescriptor (TJ10 k).2.2.1 = some (tyJ10 k) := by decide +kernel
def RJ3 : String := "jdk/internal/util/Preconditions"
def TJ3 : u_T := fun k => match k with
  | _ => ("", "", "", false)
def tyJ3 : Nat → FieldType := fun k => match k with
  | _ => .int
theorem nmJ3 : ∀ a, a < 0 → ∀ b, b < 0 → a ≠ b → (TJ3 a).2.1 ≠ (TJ3 b).2.1 := by decide +kernel
theorem tyJ3_ok : ∀ k, k < 0 → parseFieldDescriptor (TJ3 k).2.2.1 = some (tyJ3 k) := by decide +kernel
abbrev cJ3_checkIndex_8e157 : ByteArray := prog_21_method_11_code
def yJ3_checkIndex_8e157 : MethodName := ⟨RJ3, "checkIndex", "(IILjava/util/function/BiFunction;)I"⟩
def RL : String := "BrothersFieldLaw"
abbrev cL_law : ByteArray := code
def yL_law : MethodName := ⟨RL, "law", "([I)Z"⟩
abbrev vwCl : List vw_C := [(RX0, TX0, 6), (RX1, TX1, 6), (RX2, TX2, 6), (RX3, TX3, 17), (RX4, TX4, 6), (RX5, TX5, 6), (RX6, TX6, 4), (RX7, TX7, 3), (RX8, TX8, 10), (RX9, TX9, 6), (RX10, TX10, 6), (RX11, TX11, 11), (RX12, TX12, 38)]
end
section
/-! ===== the methods by number, the rows of each: place, length, what it does, where its words stand ===== -/
abbrev sEt : Type := Nat × Nat × Instr × List Nat
def sT0 : List sEt := [(0, 1, .aload_n 0, []), (1, 1, .iload_n 1, []), (2, 1, .iload_n 2, []), (3, 1, .aload_n 3, []), (4, 3, .invokespecial 104, [1, 2162]), (7, 1, .return_, [])]
def sT1 : List sEt := [(0, 1, .iload_n 1, []), (1, 1, .iconst 4, []), (2, 3, .if_icmp .eq 11, []), (5, 1, .aload_n 0, []), (6, 1, .iload_n 1, []), (7, 3, .invokespecial 105, [7, 2223, 7153, 2169]), (10, 3, .ifCond .eq 7, []), (13, 1, .iconst 1, []), (14, 3, .goto 4, []), (17, 1, .iconst 0, []), (18, 1, .ireturn, [])]
def sT2 : List sEt := [(0, 1, .aload_n 1, []), (1, 1, .aload_n 0, []), (2, 3, .getfield 130, [11, 2079, 0, 2080]), (5, 3, .invokevirtual 28, [17, 3021]), (8, 1, .lreturn, [])]
def sT3 : List sEt := [(0, 1, .aload_n 0, []), (1, 3, .getfield 133, [23, 2110, 0, 2111]), (4, 2, .bipush 50, []), (6, 3, .invokevirtual 87, [27, 5092]), (9, 1, .aload_n 0, []), (10, 1, .iload_n 1, []), (11, 1, .iconst 1, []), (12, 1, .iadd, []), (13, 3, .invokespecial 14, [33, 5120, 5121, 2169, 2130]), (16, 1, .ireturn, [])]
def sT4 : List sEt := [(0, 1, .aload_n 0, []), (1, 3, .getfield 133, [23, 2110, 0, 2111]), (4, 2, .bipush 51, []), (6, 3, .invokevirtual 87, [27, 5092]), (9, 1, .aload_n 0, []), (10, 1, .iload_n 1, []), (11, 3, .invokespecial 107, [37, 5096, 7155, 2169]), (14, 1, .ineg, []), (15, 1, .ireturn, [])]
def sT5 : List sEt := [(0, 1, .aload_n 0, []), (1, 1, .iload_n 1, []), (2, 1, .iload_n 2, []), (3, 1, .aload_n 3, []), (4, 3, .invokespecial 9, [1, 2136]), (7, 1, .return_, [])]
def sT6 : List sEt := [(0, 1, .iload_n 1, []), (1, 1, .iconst 2, []), (2, 3, .if_icmp .eq 11, []), (5, 1, .aload_n 0, []), (6, 1, .iload_n 1, []), (7, 3, .invokespecial 10, [7, 2230, 2219, 2143]), (10, 3, .ifCond .eq 7, []), (13, 1, .iconst 1, []), (14, 3, .goto 4, []), (17, 1, .iconst 0, []), (18, 1, .ireturn, [])]
def sT7 : List sEt := [(0, 1, .aload_n 1, []), (1, 1, .aload_n 0, []), (2, 3, .getfield 130, [11, 2081, 1, 2082]), (5, 1, .aload_n 0, []), (6, 3, .getfield 131, [17, 2093, 1, 2094]), (9, 1, .aload_n 0, []), (10, 3, .getfield 132, [20, 2101, 1, 2102]), (13, 3, .invokevirtual 31, [23, 3028]), (16, 1, .lreturn, [])]
def sT8 : List sEt := [(0, 1, .aload_n 0, []), (1, 3, .getfield 133, [29, 2112, 1, 2113]), (4, 2, .bipush 30, []), (6, 3, .invokevirtual 87, [33, 5125]), (9, 1, .aload_n 0, []), (10, 1, .iload_n 1, []), (11, 3, .invokespecial 14, [39, 5126, 5116, 2143]), (14, 1, .iconst 3, []), (15, 1, .imul, []), (16, 1, .ireturn, [])]
def sT9 : List sEt := [(0, 1, .aload_n 0, []), (1, 3, .invokespecial 2000, [1, 2072, 1027, 1028]), (4, 1, .aload_n 0, []), (5, 1, .iload_n 2, []), (6, 3, .putfield 128, [7, 2073, 2, 0]), (9, 1, .aload_n 0, []), (10, 1, .iload_n 1, []), (11, 3, .putfield 129, [13, 2075, 2, 0]), (14, 1, .aload_n 0, []), (15, 1, .iload_n 2, []), (16, 2, .bipush 100, []), (18, 1, .idiv, []), (19, 2, .bipush 10, []), (21, 1, .irem, []), (22, 3, .putfield 130, [16, 2078, 2, 0]), (25, 1, .aload_n 0, []), (26, 1, .iload_n 2, []), (27, 2, .bipush 10, []), (29, 1, .idiv, []), (30, 2, .bipush 10, []), (32, 1, .irem, []), (33, 3, .putfield 131, [19, 2092, 2, 0]), (36, 1, .aload_n 0, []), (37, 1, .iload_n 2, []), (38, 2, .bipush 10, []), (40, 1, .irem, []), (41, 3, .putfield 132, [22, 2100, 2, 0]), (44, 1, .aload_n 0, []), (45, 1, .aload_n 3, []), (46, 3, .putfield 133, [25, 2105, 2, 0]), (49, 1, .return_, [])]
def sT10 : List sEt := [(0, 1, .iload_n 1, []), (1, 3, .ifCond .ne 7, []), (4, 1, .iconst 1, []), (5, 3, .goto 4, []), (8, 1, .iconst 0, []), (9, 1, .ireturn, [])]
def sT11 : List sEt := [(0, 1, .aload_n 1, []), (1, 2, .bipush 8, []), (3, 1, .aload_n 0, []), (4, 3, .getfield 130, [16, 2078, 2, 0]), (7, 1, .imul, []), (8, 1, .aload_n 0, []), (9, 3, .getfield 131, [19, 2092, 2, 0]), (12, 1, .iadd, []), (13, 3, .invokevirtual 27, [29, 3058]), (16, 1, .lreturn, [])]
def sT12 : List sEt := [(0, 1, .lconst 0, []), (1, 1, .lreturn, [])]
def sT13 : List sEt := [(0, 1, .aload_n 0, []), (1, 3, .getfield 133, [25, 2105, 2, 0]), (4, 2, .bipush 10, []), (6, 3, .invokevirtual 87, [35, 5112]), (9, 1, .iload_n 1, []), (10, 1, .aload_n 0, []), (11, 3, .getfield 129, [13, 2075, 2, 0]), (14, 1, .iadd, []), (15, 1, .ireturn, [])]
def sT14 : List sEt := [(0, 1, .aload_n 0, []), (1, 3, .getfield 133, [25, 2105, 2, 0]), (4, 2, .bipush 11, []), (6, 3, .invokevirtual 87, [35, 5112]), (9, 1, .aload_n 0, []), (10, 1, .iload_n 1, []), (11, 3, .invokevirtual 1003, [41, 5135]), (14, 1, .iconst 2, []), (15, 1, .imul, []), (16, 1, .ireturn, [])]
def sT15 : List sEt := [(0, 1, .aload_n 0, []), (1, 3, .getfield 133, [25, 2105, 2, 0]), (4, 2, .bipush 12, []), (6, 3, .invokevirtual 87, [35, 5112]), (9, 1, .aload_n 0, []), (10, 1, .iload_n 1, []), (11, 3, .invokevirtual 1004, [45, 5156]), (14, 1, .aload_n 0, []), (15, 1, .iload_n 1, []), (16, 1, .aload_n 0, []), (17, 3, .getfield 130, [16, 2078, 2, 0]), (20, 1, .isub, []), (21, 3, .invokevirtual 1003, [41, 5135]), (24, 1, .ixor, []), (25, 1, .ireturn, [])]
def sT16 : List sEt := [(0, 1, .aload_n 0, []), (1, 3, .invokespecial 2000, [3, 1056, 1027, 1028]), (4, 1, .aload_n 0, []), (5, 1, .iconst 0, []), (6, 3, .putfield 192, [9, 1069, 3, 0]), (9, 1, .aload_n 0, []), (10, 1, .iconst 0, []), (11, 3, .putfield 193, [15, 1072, 3, 0]), (14, 1, .aload_n 0, []), (15, 1, .lconst 0, []), (16, 3, .putfield 194, [18, 1075, 3, 0]), (19, 1, .aload_n 0, []), (20, 1, .lconst 0, []), (21, 3, .putfield 195, [22, 1079, 3, 0]), (24, 1, .aload_n 0, []), (25, 1, .lconst 0, []), (26, 3, .putfield 196, [25, 1080, 3, 0]), (29, 1, .aload_n 0, []), (30, 1, .lconst 0, []), (31, 3, .putfield 197, [28, 1081, 3, 0]), (34, 1, .aload_n 0, []), (35, 1, .lconst 0, []), (36, 3, .putfield 198, [31, 1082, 3, 0]), (39, 1, .aload_n 0, []), (40, 1, .iconst 0, []), (41, 3, .putfield 199, [34, 1083, 3, 0]), (44, 1, .aload_n 0, []), (45, 1, .iconst (-1), []), (46, 3, .putfield 200, [37, 1084, 3, 0]), (49, 1, .aload_n 0, []), (50, 1, .iconst (-1), []), (51, 3, .putfield 201, [40, 1085, 3, 0]), (54, 1, .aload_n 0, []), (55, 1, .iconst 1, []), (56, 3, .putfield 202, [43, 1086, 3, 0]), (59, 1, .aload_n 0, []), (60, 1, .iconst 0, []), (61, 3, .putfield 203, [46, 1087, 3, 0]), (64, 1, .aload_n 0, []), (65, 2, .bipush 6, []), (67, 2, .newarray .long, [1050]), (69, 3, .putfield 204, [49, 1091, 3, 0]), (72, 1, .aload_n 0, []), (73, 1, .iconst 5, []), (74, 2, .newarray .int, [1137]), (76, 3, .putfield 205, [53, 1092, 3, 0]), (79, 1, .aload_n 0, []), (80, 1, .iconst 5, []), (81, 2, .bipush 6, []), (83, 4, .multianewarray 0 2, [57, 1057, 1137]), (87, 3, .putfield 206, [59, 1094, 3, 0]), (90, 1, .aload_n 0, []), (91, 1, .iconst 5, []), (92, 2, .newarray .boolean, [1138]), (94, 3, .putfield 207, [62, 1097, 3, 0]), (97, 1, .aload_n 0, []), (98, 2, .bipush 7, []), (100, 2, .newarray .long, [1050]), (102, 3, .putfield 208, [66, 1099, 3, 0]), (105, 1, .aload_n 0, []), (106, 1, .iconst 4, []), (107, 1, .iconst 4, []), (108, 3, .invokevirtual 17, [69, 1058]), (111, 1, .return_, [])]
def sT17 : List sEt := [(0, 1, .aload_n 0, []), (1, 1, .iload_n 1, []), (2, 3, .putfield 192, [9, 1069, 3, 0]), (5, 1, .aload_n 0, []), (6, 1, .iload_n 2, []), (7, 3, .putfield 193, [15, 1072, 3, 0]), (10, 1, .aload_n 0, []), (11, 1, .aload_n 0, []), (12, 3, .getfield 192, [9, 1069, 3, 0]), (15, 1, .aload_n 0, []), (16, 3, .getfield 193, [15, 1072, 3, 0]), (19, 1, .imul, []), (20, 3, .invokestatic 26, [73, 1062]), (23, 3, .putfield 194, [18, 1075, 3, 0]), (26, 1, .aload_n 0, []), (27, 1, .lconst 0, []), (28, 3, .putfield 195, [22, 1079, 3, 0]), (31, 1, .iconst 0, []), (32, 1, .istore_n 3, []), (33, 1, .iload_n 3, []), (34, 1, .aload_n 0, []), (35, 3, .getfield 193, [15, 1072, 3, 0]), (38, 3, .if_icmp .ge 26, []), (41, 1, .aload_n 0, []), (42, 1, .dup, []), (43, 3, .getfield 195, [22, 1079, 3, 0]), (46, 1, .lconst 1, []), (47, 1, .iload_n 3, []), (48, 1, .aload_n 0, []), (49, 3, .getfield 192, [9, 1069, 3, 0]), (52, 1, .imul, []), (53, 1, .lshl, []), (54, 1, .lor, []), (55, 3, .putfield 195, [22, 1079, 3, 0]), (58, 3, .iinc 3 1, []), (61, 3, .goto (-28), []), (64, 1, .aload_n 0, []), (65, 1, .aload_n 0, []), (66, 3, .getfield 195, [22, 1079, 3, 0]), (69, 1, .aload_n 0, []), (70, 3, .getfield 192, [9, 1069, 3, 0]), (73, 1, .iconst 1, []), (74, 1, .isub, []), (75, 1, .lshl, []), (76, 3, .putfield 196, [25, 1080, 3, 0]), (79, 1, .aload_n 0, []), (80, 1, .aload_n 0, []), (81, 3, .getfield 192, [9, 1069, 3, 0]), (84, 3, .invokestatic 26, [73, 1062]), (87, 3, .putfield 197, [28, 1081, 3, 0]), (90, 1, .aload_n 0, []), (91, 1, .aload_n 0, []), (92, 3, .getfield 197, [28, 1081, 3, 0]), (95, 1, .aload_n 0, []), (96, 3, .getfield 192, [9, 1069, 3, 0]), (99, 1, .aload_n 0, []), (100, 3, .getfield 193, [15, 1072, 3, 0]), (103, 1, .iconst 1, []), (104, 1, .isub, []), (105, 1, .imul, []), (106, 1, .lshl, []), (107, 3, .putfield 198, [31, 1082, 3, 0]), (110, 1, .aload_n 0, []), (111, 1, .iconst (-1), []), (112, 3, .putfield 200, [37, 1084, 3, 0]), (115, 1, .aload_n 0, []), (116, 1, .iconst (-1), []), (117, 3, .putfield 201, [40, 1085, 3, 0]), (120, 1, .aload_n 0, []), (121, 3, .getfield 204, [49, 1091, 3, 0]), (124, 3, .invokestatic 20, [77, 1066]), (127, 1, .aload_n 0, []), (128, 3, .getfield 204, [49, 1091, 3, 0]), (131, 1, .iconst 0, []), (132, 1, .aload_n 0, []), (133, 3, .getfield 194, [18, 1075, 3, 0]), (136, 1, .lastore, []), (137, 1, .aload_n 0, []), (138, 3, .getfield 208, [66, 1099, 3, 0]), (141, 3, .invokestatic 20, [77, 1066]), (144, 1, .aload_n 0, []), (145, 3, .getfield 208, [66, 1099, 3, 0]), (148, 2, .bipush 6, []), (150, 1, .aload_n 0, []), (151, 3, .getfield 194, [18, 1075, 3, 0]), (154, 1, .lastore, []), (155, 1, .return_, [])]
def sT18 : List sEt := [(0, 1, .aload_n 0, []), (1, 1, .aload_n 1, []), (2, 3, .getfield 192, [9, 1069, 3, 0]), (5, 3, .putfield 192, [9, 1069, 3, 0]), (8, 1, .aload_n 0, []), (9, 1, .aload_n 1, []), (10, 3, .getfield 193, [15, 1072, 3, 0]), (13, 3, .putfield 193, [15, 1072, 3, 0]), (16, 1, .aload_n 0, []), (17, 1, .aload_n 1, []), (18, 3, .getfield 194, [18, 1075, 3, 0]), (21, 3, .putfield 194, [18, 1075, 3, 0]), (24, 1, .aload_n 0, []), (25, 1, .aload_n 1, []), (26, 3, .getfield 195, [22, 1079, 3, 0]), (29, 3, .putfield 195, [22, 1079, 3, 0]), (32, 1, .aload_n 0, []), (33, 1, .aload_n 1, []), (34, 3, .getfield 196, [25, 1080, 3, 0]), (37, 3, .putfield 196, [25, 1080, 3, 0]), (40, 1, .aload_n 0, []), (41, 1, .aload_n 1, []), (42, 3, .getfield 197, [28, 1081, 3, 0]), (45, 3, .putfield 197, [28, 1081, 3, 0]), (48, 1, .aload_n 0, []), (49, 1, .aload_n 1, []), (50, 3, .getfield 198, [31, 1082, 3, 0]), (53, 3, .putfield 198, [31, 1082, 3, 0]), (56, 1, .aload_n 0, []), (57, 1, .aload_n 1, []), (58, 3, .getfield 199, [34, 1083, 3, 0]), (61, 3, .putfield 199, [34, 1083, 3, 0]), (64, 1, .aload_n 0, []), (65, 1, .aload_n 1, []), (66, 3, .getfield 200, [37, 1084, 3, 0]), (69, 3, .putfield 200, [37, 1084, 3, 0]), (72, 1, .aload_n 0, []), (73, 1, .aload_n 1, []), (74, 3, .getfield 201, [40, 1085, 3, 0]), (77, 3, .putfield 201, [40, 1085, 3, 0]), (80, 1, .aload_n 0, []), (81, 1, .aload_n 1, []), (82, 3, .getfield 202, [43, 1086, 3, 0]), (85, 3, .putfield 202, [43, 1086, 3, 0]), (88, 1, .aload_n 0, []), (89, 1, .aload_n 1, []), (90, 3, .getfield 203, [46, 1087, 3, 0]), (93, 3, .putfield 203, [46, 1087, 3, 0]), (96, 1, .iconst 0, []), (97, 1, .istore_n 2, []), (98, 1, .iload_n 2, []), (99, 2, .bipush 6, []), (101, 3, .if_icmp .ge 21, []), (104, 1, .aload_n 0, []), (105, 3, .getfield 204, [49, 1091, 3, 0]), (108, 1, .iload_n 2, []), (109, 1, .aload_n 1, []), (110, 3, .getfield 204, [49, 1091, 3, 0]), (113, 1, .iload_n 2, []), (114, 1, .laload, []), (115, 1, .lastore, []), (116, 3, .iinc 2 1, []), (119, 3, .goto (-21), []), (122, 1, .iconst 0, []), (123, 1, .istore_n 2, []), (124, 1, .iload_n 2, []), (125, 2, .bipush 7, []), (127, 3, .if_icmp .ge 21, []), (130, 1, .aload_n 0, []), (131, 3, .getfield 208, [66, 1099, 3, 0]), (134, 1, .iload_n 2, []), (135, 1, .aload_n 1, []), (136, 3, .getfield 208, [66, 1099, 3, 0]), (139, 1, .iload_n 2, []), (140, 1, .laload, []), (141, 1, .lastore, []), (142, 3, .iinc 2 1, []), (145, 3, .goto (-21), []), (148, 1, .iconst 0, []), (149, 1, .istore_n 2, []), (150, 1, .iload_n 2, []), (151, 1, .iconst 5, []), (152, 3, .if_icmp .ge 63, []), (155, 1, .aload_n 0, []), (156, 3, .getfield 205, [53, 1092, 3, 0]), (159, 1, .iload_n 2, []), (160, 1, .aload_n 1, []), (161, 3, .getfield 205, [53, 1092, 3, 0]), (164, 1, .iload_n 2, []), (165, 1, .iaload, []), (166, 1, .iastore, []), (167, 1, .aload_n 0, []), (168, 3, .getfield 207, [62, 1097, 3, 0]), (171, 1, .iload_n 2, []), (172, 1, .aload_n 1, []), (173, 3, .getfield 207, [62, 1097, 3, 0]), (176, 1, .iload_n 2, []), (177, 1, .baload, []), (178, 1, .bastore, []), (179, 1, .iconst 0, []), (180, 1, .istore_n 3, []), (181, 1, .iload_n 3, []), (182, 2, .bipush 6, []), (184, 3, .if_icmp .ge 25, []), (187, 1, .aload_n 0, []), (188, 3, .getfield 206, [59, 1094, 3, 0]), (191, 1, .iload_n 2, []), (192, 1, .aaload, []), (193, 1, .iload_n 3, []), (194, 1, .aload_n 1, []), (195, 3, .getfield 206, [59, 1094, 3, 0]), (198, 1, .iload_n 2, []), (199, 1, .aaload, []), (200, 1, .iload_n 3, []), (201, 1, .iaload, []), (202, 1, .iastore, []), (203, 3, .iinc 3 1, []), (206, 3, .goto (-25), []), (209, 3, .iinc 2 1, []), (212, 3, .goto (-62), []), (215, 1, .return_, [])]
def sT19 : List sEt := [(0, 1, .iload_n 3, []), (1, 3, .ifCond .lt 9, []), (4, 1, .iload_n 3, []), (5, 1, .aload_n 0, []), (6, 1, .arraylength, []), (7, 3, .if_icmp .lt 4, []), (10, 1, .return_, []), (11, 1, .iconst 0, []), (12, 2, .istore 4, []), (14, 2, .iload 4, []), (16, 1, .aload_n 0, []), (17, 1, .arraylength, []), (18, 3, .if_icmp .ge 21, []), (21, 1, .aload_n 0, []), (22, 2, .iload 4, []), (24, 1, .dup2, []), (25, 1, .laload, []), (26, 1, .lload_n 1, []), (27, 3, .ldc2_w 18446744073709551615, [81, 1065]), (30, 1, .lxor, []), (31, 1, .land, []), (32, 1, .lastore, []), (33, 3, .iinc 4 1, []), (36, 3, .goto (-22), []), (39, 1, .aload_n 0, []), (40, 1, .iload_n 3, []), (41, 1, .dup2, []), (42, 1, .laload, []), (43, 1, .lload_n 1, []), (44, 1, .lor, []), (45, 1, .lastore, []), (46, 1, .return_, [])]
def sT20 : List sEt := [(0, 1, .iconst 0, []), (1, 1, .istore_n 1, []), (2, 1, .iload_n 1, []), (3, 1, .aload_n 0, []), (4, 1, .arraylength, []), (5, 3, .if_icmp .ge 13, []), (8, 1, .aload_n 0, []), (9, 1, .iload_n 1, []), (10, 1, .lconst 0, []), (11, 1, .lastore, []), (12, 3, .iinc 1 1, []), (15, 3, .goto (-13), []), (18, 1, .return_, [])]
def sT21 : List sEt := [(0, 1, .aload_n 0, []), (1, 3, .getfield 192, [9, 1069, 3, 0]), (4, 1, .aload_n 0, []), (5, 3, .getfield 193, [15, 1072, 3, 0]), (8, 1, .imul, []), (9, 1, .ireturn, [])]
def sT22 : List sEt := [(0, 1, .iload_n 1, []), (1, 3, .ifCond .lt 20, []), (4, 1, .iload_n 1, []), (5, 1, .aload_n 0, []), (6, 3, .getfield 192, [9, 1069, 3, 0]), (9, 1, .aload_n 0, []), (10, 3, .getfield 193, [15, 1072, 3, 0]), (13, 1, .imul, []), (14, 3, .if_icmp .ge 7, []), (17, 1, .iconst 1, []), (18, 3, .goto 4, []), (21, 1, .iconst 0, []), (22, 1, .ireturn, [])]
def sT23 : List sEt := [(0, 1, .iload_n 1, []), (1, 3, .ifCond .lt 20, []), (4, 1, .iload_n 1, []), (5, 1, .aload_n 0, []), (6, 3, .getfield 203, [46, 1087, 3, 0]), (9, 3, .if_icmp .ge 12, []), (12, 1, .iload_n 1, []), (13, 1, .iconst 5, []), (14, 3, .if_icmp .ge 7, []), (17, 1, .iconst 1, []), (18, 3, .goto 4, []), (21, 1, .iconst 0, []), (22, 1, .ireturn, [])]
def sT24 : List sEt := [(0, 1, .lload_n 1, []), (1, 1, .aload_n 0, []), (2, 3, .getfield 194, [18, 1075, 3, 0]), (5, 3, .ldc2_w 18446744073709551615, [81, 1065]), (8, 1, .lxor, []), (9, 1, .land, []), (10, 1, .lconst 0, []), (11, 1, .lcmp, []), (12, 3, .ifCond .ne 7, []), (15, 1, .iconst 1, []), (16, 3, .goto 4, []), (19, 1, .iconst 0, []), (20, 1, .ireturn, [])]
def sT25 : List sEt := [(0, 1, .aload_n 0, []), (1, 1, .iload_n 1, []), (2, 3, .invokevirtual 22, [83, 4040]), (5, 3, .ifCond .eq 9, []), (8, 1, .lconst 1, []), (9, 1, .iload_n 1, []), (10, 1, .lshl, []), (11, 3, .goto 4, []), (14, 1, .lconst 0, []), (15, 1, .lreturn, [])]
def sT26 : List sEt := [(0, 1, .iload_n 0, []), (1, 3, .ifCond .gt 5, []), (4, 1, .lconst 0, []), (5, 1, .lreturn, []), (6, 1, .iload_n 0, []), (7, 2, .bipush 64, []), (9, 3, .if_icmp .lt 9, []), (12, 3, .ldc2_w 18446744073709551615, [81, 1065]), (15, 3, .goto 8, []), (18, 1, .lconst 1, []), (19, 1, .iload_n 0, []), (20, 1, .lshl, []), (21, 1, .lconst 1, []), (22, 1, .lsub, []), (23, 1, .lreturn, [])]
def sT27 : List sEt := [(0, 1, .iload_n 1, []), (1, 3, .invokestatic 26, [73, 1062]), (4, 1, .aload_n 0, []), (5, 3, .getfield 194, [18, 1075, 3, 0]), (8, 1, .land, []), (9, 1, .lreturn, [])]
def sT28 : List sEt := [(0, 1, .iload_n 1, []), (1, 1, .aload_n 0, []), (2, 3, .getfield 192, [9, 1069, 3, 0]), (5, 1, .imul, []), (6, 3, .invokestatic 26, [73, 1062]), (9, 1, .aload_n 0, []), (10, 3, .getfield 194, [18, 1075, 3, 0]), (13, 1, .land, []), (14, 1, .lreturn, [])]
def sT29 : List sEt := [(0, 1, .lconst 0, []), (1, 1, .lstore_n 2, []), (2, 1, .iconst 0, []), (3, 2, .istore 4, []), (5, 2, .iload 4, []), (7, 1, .aload_n 0, []), (8, 3, .getfield 192, [9, 1069, 3, 0]), (11, 3, .if_icmp .ge 25, []), (14, 2, .iload 4, []), (16, 1, .iload_n 1, []), (17, 3, .if_icmp .ge 19, []), (20, 1, .lload_n 2, []), (21, 1, .aload_n 0, []), (22, 3, .getfield 195, [22, 1079, 3, 0]), (25, 2, .iload 4, []), (27, 1, .lshl, []), (28, 1, .lor, []), (29, 1, .lstore_n 2, []), (30, 3, .iinc 4 1, []), (33, 3, .goto (-28), []), (36, 1, .lload_n 2, []), (37, 1, .lreturn, [])]
def sT30 : List sEt := [(0, 1, .aload_n 0, []), (1, 1, .iload_n 1, []), (2, 3, .invokevirtual 29, [87, 3033]), (5, 1, .aload_n 0, []), (6, 1, .iload_n 2, []), (7, 3, .invokevirtual 28, [90, 3032]), (10, 1, .land, []), (11, 1, .lreturn, [])]
def sT31 : List sEt := [(0, 1, .aload_n 0, []), (1, 1, .iload_n 2, []), (2, 3, .invokevirtual 28, [90, 3032]), (5, 2, .lstore 4, []), (7, 1, .aload_n 0, []), (8, 1, .iload_n 1, []), (9, 3, .invokevirtual 29, [87, 3033]), (12, 2, .lload 4, []), (14, 1, .land, []), (15, 1, .aload_n 0, []), (16, 1, .iload_n 3, []), (17, 3, .invokevirtual 29, [87, 3033]), (20, 2, .lload 4, []), (22, 3, .ldc2_w 18446744073709551615, [81, 1065]), (25, 1, .lxor, []), (26, 1, .land, []), (27, 1, .lor, []), (28, 1, .lreturn, [])]
def sT32 : List sEt := [(0, 1, .iconst 0, []), (1, 1, .istore_n 2, []), (2, 1, .iload_n 2, []), (3, 2, .bipush 6, []), (5, 3, .if_icmp .ge 28, []), (8, 1, .aload_n 0, []), (9, 3, .getfield 204, [49, 1091, 3, 0]), (12, 1, .iload_n 2, []), (13, 1, .laload, []), (14, 1, .aload_n 0, []), (15, 1, .iload_n 1, []), (16, 3, .invokevirtual 25, [93, 4036]), (19, 1, .land, []), (20, 1, .lconst 0, []), (21, 1, .lcmp, []), (22, 3, .ifCond .eq 5, []), (25, 1, .iload_n 2, []), (26, 1, .ireturn, []), (27, 3, .iinc 2 1, []), (30, 3, .goto (-28), []), (33, 1, .iconst 0, []), (34, 1, .ireturn, [])]
def sT33 : List sEt := [(0, 1, .aload_n 0, []), (1, 3, .getfield 204, [49, 1091, 3, 0]), (4, 1, .lload_n 1, []), (5, 1, .iload_n 3, []), (6, 3, .invokestatic 19, [96, 3217]), (9, 1, .return_, [])]
def sT34 : List sEt := [(0, 1, .iload_n 1, []), (1, 27, .tableswitch 42 0 2 #[27, 32, 37], []), (28, 1, .aload_n 0, []), (29, 3, .getfield 199, [34, 1083, 3, 0]), (32, 1, .ireturn, []), (33, 1, .aload_n 0, []), (34, 3, .getfield 200, [37, 1084, 3, 0]), (37, 1, .ireturn, []), (38, 1, .aload_n 0, []), (39, 3, .getfield 201, [40, 1085, 3, 0]), (42, 1, .ireturn, []), (43, 1, .aload_n 0, []), (44, 3, .getfield 202, [43, 1086, 3, 0]), (47, 1, .ireturn, [])]
def sT35 : List sEt := [(0, 1, .iload_n 1, []), (1, 27, .tableswitch 51 0 2 #[27, 35, 43], []), (28, 1, .aload_n 0, []), (29, 1, .iload_n 2, []), (30, 3, .putfield 199, [34, 1083, 3, 0]), (33, 3, .goto 24, []), (36, 1, .aload_n 0, []), (37, 1, .iload_n 2, []), (38, 3, .putfield 200, [37, 1084, 3, 0]), (41, 3, .goto 16, []), (44, 1, .aload_n 0, []), (45, 1, .iload_n 2, []), (46, 3, .putfield 201, [40, 1085, 3, 0]), (49, 3, .goto 8, []), (52, 1, .aload_n 0, []), (53, 1, .iload_n 2, []), (54, 3, .putfield 202, [43, 1086, 3, 0]), (57, 1, .return_, [])]
def sT36 : List sEt := [(0, 1, .aload_n 0, []), (1, 3, .getfield 203, [46, 1087, 3, 0]), (4, 3, .ifCond .lt 11, []), (7, 1, .aload_n 0, []), (8, 3, .getfield 203, [46, 1087, 3, 0]), (11, 1, .iconst 5, []), (12, 3, .if_icmp .lt 5, []), (15, 1, .iconst (-1), []), (16, 1, .ireturn, []), (17, 1, .aload_n 0, []), (18, 3, .getfield 205, [53, 1092, 3, 0]), (21, 1, .aload_n 0, []), (22, 3, .getfield 203, [46, 1087, 3, 0]), (25, 1, .iload_n 1, []), (26, 1, .iastore, []), (27, 1, .aload_n 0, []), (28, 3, .getfield 207, [62, 1097, 3, 0]), (31, 1, .aload_n 0, []), (32, 3, .getfield 203, [46, 1087, 3, 0]), (35, 1, .iconst 0, []), (36, 1, .bastore, []), (37, 1, .iconst 0, []), (38, 1, .istore_n 2, []), (39, 1, .iload_n 2, []), (40, 2, .bipush 6, []), (42, 3, .if_icmp .ge 22, []), (45, 1, .aload_n 0, []), (46, 3, .getfield 206, [59, 1094, 3, 0]), (49, 1, .aload_n 0, []), (50, 3, .getfield 203, [46, 1087, 3, 0]), (53, 1, .aaload, []), (54, 1, .iload_n 2, []), (55, 2, .bipush 10, []), (57, 1, .iastore, []), (58, 3, .iinc 2 1, []), (61, 3, .goto (-22), []), (64, 1, .aload_n 0, []), (65, 1, .dup, []), (66, 3, .getfield 203, [46, 1087, 3, 0]), (69, 1, .iconst 1, []), (70, 1, .iadd, []), (71, 3, .putfield 203, [46, 1087, 3, 0]), (74, 1, .aload_n 0, []), (75, 3, .getfield 203, [46, 1087, 3, 0]), (78, 1, .iconst 1, []), (79, 1, .isub, []), (80, 1, .ireturn, [])]
def sT37 : List sEt := [(0, 1, .aload_n 0, []), (1, 1, .iload_n 1, []), (2, 3, .invokevirtual 23, [100, 4085]), (5, 3, .ifCond .ne 5, []), (8, 1, .iconst 0, []), (9, 1, .ireturn, []), (10, 1, .iconst 0, []), (11, 2, .istore 4, []), (13, 1, .iconst 0, []), (14, 2, .istore 5, []), (16, 2, .iload 5, []), (18, 2, .bipush 6, []), (20, 3, .if_icmp .ge 36, []), (23, 2, .iload 4, []), (25, 1, .aload_n 0, []), (26, 3, .getfield 206, [59, 1094, 3, 0]), (29, 1, .iload_n 1, []), (30, 1, .aaload, []), (31, 2, .iload 5, []), (33, 1, .iaload, []), (34, 1, .lload_n 2, []), (35, 1, .aload_n 0, []), (36, 3, .getfield 204, [49, 1091, 3, 0]), (39, 2, .iload 5, []), (41, 1, .laload, []), (42, 1, .land, []), (43, 3, .invokestatic 257, [103, 4086]), (46, 1, .imul, []), (47, 1, .iadd, []), (48, 2, .istore 4, []), (50, 3, .iinc 5 1, []), (53, 3, .goto (-37), []), (56, 1, .aload_n 0, []), (57, 3, .getfield 201, [40, 1085, 3, 0]), (60, 1, .iconst (-1), []), (61, 3, .if_icmp .eq 20, []), (64, 1, .lload_n 2, []), (65, 1, .aload_n 0, []), (66, 3, .getfield 201, [40, 1085, 3, 0]), (69, 1, .lushr, []), (70, 1, .lconst 1, []), (71, 1, .land, []), (72, 1, .lconst 0, []), (73, 1, .lcmp, []), (74, 3, .ifCond .eq 7, []), (77, 1, .iconst 1, []), (78, 3, .goto 4, []), (81, 1, .iconst 0, []), (82, 2, .istore 5, []), (84, 2, .iload 5, []), (86, 3, .ifCond .eq 20, []), (89, 1, .aload_n 0, []), (90, 3, .getfield 207, [62, 1097, 3, 0]), (93, 1, .iload_n 1, []), (94, 1, .baload, []), (95, 3, .ifCond .eq 11, []), (98, 2, .iload 4, []), (100, 2, .bipush 20, []), (102, 1, .iadd, []), (103, 3, .goto 5, []), (106, 2, .iload 4, []), (108, 1, .ireturn, [])]
def sT38 : List sEt := [(0, 1, .iconst 0, []), (1, 1, .istore_n 1, []), (2, 1, .iconst 0, []), (3, 1, .istore_n 2, []), (4, 1, .iload_n 2, []), (5, 1, .aload_n 0, []), (6, 3, .getfield 203, [46, 1087, 3, 0]), (9, 3, .if_icmp .ge 23, []), (12, 1, .iload_n 2, []), (13, 1, .iconst 5, []), (14, 3, .if_icmp .ge 18, []), (17, 1, .iload_n 1, []), (18, 1, .aload_n 0, []), (19, 3, .getfield 205, [53, 1092, 3, 0]), (22, 1, .iload_n 2, []), (23, 1, .iaload, []), (24, 1, .iadd, []), (25, 1, .istore_n 1, []), (26, 3, .iinc 2 1, []), (29, 3, .goto (-25), []), (32, 1, .iload_n 1, []), (33, 1, .ireturn, [])]
def sT39 : List sEt := [(0, 1, .aload_n 0, []), (1, 1, .iload_n 1, []), (2, 3, .invokevirtual 23, [100, 4085]), (5, 3, .ifCond .ne 5, []), (8, 1, .iconst 0, []), (9, 1, .ireturn, []), (10, 1, .aload_n 0, []), (11, 1, .iload_n 1, []), (12, 1, .lload_n 2, []), (13, 3, .invokevirtual 37, [109, 4171]), (16, 1, .aload_n 0, []), (17, 3, .invokevirtual 38, [113, 4172]), (20, 1, .imul, []), (21, 1, .aload_n 0, []), (22, 3, .getfield 205, [53, 1092, 3, 0]), (25, 1, .iload_n 1, []), (26, 1, .iaload, []), (27, 1, .aload_n 0, []), (28, 1, .iload_n 1, []), (29, 1, .aload_n 0, []), (30, 3, .getfield 194, [18, 1075, 3, 0]), (33, 3, .invokevirtual 37, [109, 4171]), (36, 1, .imul, []), (37, 1, .isub, []), (38, 1, .ireturn, [])]
def sT40 : List sEt := [(0, 1, .iload_n 1, []), (1, 2, .bipush 9, []), (3, 3, .if_icmp .ne 5, []), (6, 1, .iconst 5, []), (7, 1, .ireturn, []), (8, 1, .iload_n 1, []), (9, 1, .iconst (-1), []), (10, 3, .if_icmp .ne 6, []), (13, 2, .bipush 6, []), (15, 1, .ireturn, []), (16, 1, .aload_n 0, []), (17, 1, .iload_n 1, []), (18, 3, .invokevirtual 23, [100, 4085]), (21, 3, .ifCond .eq 7, []), (24, 1, .iload_n 1, []), (25, 3, .goto 4, []), (28, 1, .iconst (-1), []), (29, 1, .ireturn, [])]
def sT41 : List sEt := [(0, 1, .aload_n 0, []), (1, 1, .iload_n 1, []), (2, 3, .invokevirtual 25, [93, 4036]), (5, 1, .lstore_n 2, []), (6, 1, .aload_n 0, []), (7, 3, .getfield 208, [66, 1099, 3, 0]), (10, 1, .iconst 5, []), (11, 1, .laload, []), (12, 1, .lload_n 2, []), (13, 1, .land, []), (14, 1, .lconst 0, []), (15, 1, .lcmp, []), (16, 3, .ifCond .eq 6, []), (19, 2, .bipush 9, []), (21, 1, .ireturn, []), (22, 1, .iconst 0, []), (23, 2, .istore 4, []), (25, 2, .iload 4, []), (27, 1, .iconst 5, []), (28, 3, .if_icmp .ge 26, []), (31, 1, .aload_n 0, []), (32, 3, .getfield 208, [66, 1099, 3, 0]), (35, 2, .iload 4, []), (37, 1, .laload, []), (38, 1, .lload_n 2, []), (39, 1, .land, []), (40, 1, .lconst 0, []), (41, 1, .lcmp, []), (42, 3, .ifCond .eq 6, []), (45, 2, .iload 4, []), (47, 1, .ireturn, []), (48, 3, .iinc 4 1, []), (51, 3, .goto (-26), []), (54, 1, .iconst (-1), []), (55, 1, .ireturn, [])]
def sT42 : List sEt := [(0, 1, .aload_n 0, []), (1, 3, .getfield 194, [18, 1075, 3, 0]), (4, 1, .aload_n 0, []), (5, 3, .getfield 208, [66, 1099, 3, 0]), (8, 1, .iconst 5, []), (9, 1, .laload, []), (10, 3, .ldc2_w 18446744073709551615, [81, 1065]), (13, 1, .lxor, []), (14, 1, .land, []), (15, 1, .aload_n 0, []), (16, 3, .getfield 208, [66, 1099, 3, 0]), (19, 2, .bipush 6, []), (21, 1, .laload, []), (22, 3, .ldc2_w 18446744073709551615, [81, 1065]), (25, 1, .lxor, []), (26, 1, .land, []), (27, 3, .invokestatic 257, [103, 4086]), (30, 1, .ireturn, [])]
def sT43 : List sEt := [(0, 1, .iconst 0, []), (1, 1, .istore_n 2, []), (2, 1, .iconst 0, []), (3, 1, .istore_n 3, []), (4, 1, .iload_n 3, []), (5, 2, .bipush 7, []), (7, 3, .if_icmp .ge 44, []), (10, 1, .iload_n 3, []), (11, 1, .aload_n 1, []), (12, 1, .arraylength, []), (13, 3, .if_icmp .ge 38, []), (16, 1, .iload_n 2, []), (17, 1, .aload_n 1, []), (18, 1, .iload_n 3, []), (19, 1, .laload, []), (20, 1, .aload_n 0, []), (21, 3, .getfield 208, [66, 1099, 3, 0]), (24, 1, .iload_n 3, []), (25, 1, .laload, []), (26, 3, .ldc2_w 18446744073709551615, [81, 1065]), (29, 1, .lxor, []), (30, 1, .land, []), (31, 3, .invokestatic 257, [103, 4086]), (34, 1, .iadd, []), (35, 1, .istore_n 2, []), (36, 1, .aload_n 0, []), (37, 3, .getfield 208, [66, 1099, 3, 0]), (40, 1, .iload_n 3, []), (41, 1, .aload_n 1, []), (42, 1, .iload_n 3, []), (43, 1, .laload, []), (44, 1, .lastore, []), (45, 3, .iinc 3 1, []), (48, 3, .goto (-44), []), (51, 1, .iload_n 2, []), (52, 1, .ireturn, [])]
def sT44 : List sEt := [(0, 1, .lload_n 1, []), (1, 1, .aload_n 0, []), (2, 3, .getfield 192, [9, 1069, 3, 0]), (5, 1, .lshl, []), (6, 1, .lload_n 1, []), (7, 1, .aload_n 0, []), (8, 3, .getfield 192, [9, 1069, 3, 0]), (11, 1, .lushr, []), (12, 1, .lor, []), (13, 1, .lload_n 1, []), (14, 1, .aload_n 0, []), (15, 3, .getfield 196, [25, 1080, 3, 0]), (18, 3, .ldc2_w 18446744073709551615, [81, 1065]), (21, 1, .lxor, []), (22, 1, .land, []), (23, 1, .iconst 1, []), (24, 1, .lshl, []), (25, 1, .lor, []), (26, 1, .lload_n 1, []), (27, 1, .aload_n 0, []), (28, 3, .getfield 195, [22, 1079, 3, 0]), (31, 3, .ldc2_w 18446744073709551615, [81, 1065]), (34, 1, .lxor, []), (35, 1, .land, []), (36, 1, .iconst 1, []), (37, 1, .lushr, []), (38, 1, .lor, []), (39, 1, .lstore_n 3, []), (40, 1, .lload_n 1, []), (41, 1, .lload_n 3, []), (42, 1, .lor, []), (43, 1, .aload_n 0, []), (44, 3, .getfield 194, [18, 1075, 3, 0]), (47, 1, .land, []), (48, 1, .lreturn, [])]
def sT45 : List sEt := [(0, 1, .lload_n 1, []), (1, 1, .lload_n 3, []), (2, 1, .land, []), (3, 2, .lstore 5, []), (5, 1, .iconst 0, []), (6, 2, .istore 7, []), (8, 2, .iload 7, []), (10, 2, .bipush 64, []), (12, 3, .if_icmp .ge 34, []), (15, 1, .aload_n 0, []), (16, 2, .lload 5, []), (18, 3, .invokevirtual 44, [117, 4151]), (21, 1, .lload_n 3, []), (22, 1, .land, []), (23, 2, .lstore 8, []), (25, 2, .lload 8, []), (27, 2, .lload 5, []), (29, 1, .lcmp, []), (30, 3, .ifCond .ne 6, []), (33, 2, .lload 5, []), (35, 1, .lreturn, []), (36, 2, .lload 8, []), (38, 2, .lstore 5, []), (40, 3, .iinc 7 1, []), (43, 3, .goto (-35), []), (46, 2, .lload 5, []), (48, 1, .lreturn, [])]
def sT46 : List sEt := [(0, 1, .lload_n 1, []), (1, 1, .aload_n 0, []), (2, 3, .getfield 194, [18, 1075, 3, 0]), (5, 1, .land, []), (6, 1, .lstore_n 3, []), (7, 1, .iconst 0, []), (8, 2, .istore 5, []), (10, 1, .lload_n 3, []), (11, 1, .lconst 0, []), (12, 1, .lcmp, []), (13, 3, .ifCond .eq 32, []), (16, 2, .iload 5, []), (18, 2, .bipush 64, []), (20, 3, .if_icmp .ge 25, []), (23, 1, .lload_n 3, []), (24, 1, .aload_n 0, []), (25, 1, .lload_n 3, []), (26, 1, .lload_n 3, []), (27, 1, .lneg, []), (28, 1, .land, []), (29, 1, .lload_n 3, []), (30, 3, .invokevirtual 45, [121, 4147]), (33, 3, .ldc2_w 18446744073709551615, [81, 1065]), (36, 1, .lxor, []), (37, 1, .land, []), (38, 1, .lstore_n 3, []), (39, 3, .iinc 5 1, []), (42, 3, .goto (-32), []), (45, 2, .iload 5, []), (47, 1, .ireturn, [])]
def sT47 : List sEt := [(0, 1, .iconst 0, []), (1, 1, .istore_n 2, []), (2, 1, .iconst 0, []), (3, 1, .istore_n 3, []), (4, 1, .iload_n 3, []), (5, 1, .aload_n 1, []), (6, 1, .arraylength, []), (7, 3, .if_icmp .ge 50, []), (10, 1, .aload_n 1, []), (11, 1, .iload_n 3, []), (12, 1, .laload, []), (13, 2, .lstore 4, []), (15, 1, .iload_n 2, []), (16, 2, .lload 4, []), (18, 1, .aload_n 0, []), (19, 3, .getfield 196, [25, 1080, 3, 0]), (22, 3, .ldc2_w 18446744073709551615, [81, 1065]), (25, 1, .lxor, []), (26, 1, .land, []), (27, 2, .lload 4, []), (29, 1, .iconst 1, []), (30, 1, .lushr, []), (31, 1, .land, []), (32, 3, .invokestatic 257, [103, 4086]), (35, 2, .lload 4, []), (37, 2, .lload 4, []), (39, 1, .aload_n 0, []), (40, 3, .getfield 192, [9, 1069, 3, 0]), (43, 1, .lushr, []), (44, 1, .land, []), (45, 3, .invokestatic 257, [103, 4086]), (48, 1, .iadd, []), (49, 1, .iadd, []), (50, 1, .istore_n 2, []), (51, 3, .iinc 3 1, []), (54, 3, .goto (-50), []), (57, 1, .aload_n 0, []), (58, 3, .getfield 193, [15, 1072, 3, 0]), (61, 1, .aload_n 0, []), (62, 3, .getfield 192, [9, 1069, 3, 0]), (65, 1, .iconst 1, []), (66, 1, .isub, []), (67, 1, .imul, []), (68, 1, .aload_n 0, []), (69, 3, .getfield 192, [9, 1069, 3, 0]), (72, 1, .aload_n 0, []), (73, 3, .getfield 193, [15, 1072, 3, 0]), (76, 1, .iconst 1, []), (77, 1, .isub, []), (78, 1, .imul, []), (79, 1, .iadd, []), (80, 1, .iload_n 2, []), (81, 1, .isub, []), (82, 1, .ireturn, [])]
def sT48 : List sEt := [(0, 1, .aload_n 1, []), (1, 1, .arraylength, []), (2, 2, .bipush 7, []), (4, 3, .if_icmp .ge 5, []), (7, 1, .iconst 0, []), (8, 1, .ireturn, []), (9, 1, .aload_n 1, []), (10, 2, .bipush 6, []), (12, 1, .laload, []), (13, 1, .lstore_n 2, []), (14, 1, .lload_n 2, []), (15, 1, .lconst 0, []), (16, 1, .lcmp, []), (17, 3, .ifCond .eq 16, []), (20, 2, .bipush 100, []), (22, 1, .lload_n 2, []), (23, 1, .lload_n 2, []), (24, 1, .lneg, []), (25, 1, .land, []), (26, 1, .lconst 1, []), (27, 1, .lsub, []), (28, 3, .invokestatic 257, [103, 4086]), (31, 1, .iadd, []), (32, 1, .ireturn, []), (33, 1, .iconst 2, []), (34, 2, .istore 4, []), (36, 2, .iload 4, []), (38, 1, .iconst 5, []), (39, 3, .if_icmp .gt 60, []), (42, 1, .iconst 0, []), (43, 2, .istore 5, []), (45, 2, .iload 5, []), (47, 1, .aload_n 0, []), (48, 3, .getfield 203, [46, 1087, 3, 0]), (51, 3, .if_icmp .ge 42, []), (54, 2, .iload 5, []), (56, 1, .iconst 5, []), (57, 3, .if_icmp .ge 36, []), (60, 1, .aload_n 0, []), (61, 2, .iload 4, []), (63, 2, .iload 5, []), (65, 1, .aload_n 1, []), (66, 2, .iload 5, []), (68, 1, .laload, []), (69, 1, .aload_n 1, []), (70, 1, .iconst 5, []), (71, 1, .laload, []), (72, 3, .invokevirtual 49, [125, 4143]), (75, 3, .ifCond .eq 12, []), (78, 2, .bipush 100, []), (80, 2, .iload 4, []), (82, 1, .imul, []), (83, 2, .iload 5, []), (85, 1, .iadd, []), (86, 1, .ireturn, []), (87, 3, .iinc 5 1, []), (90, 3, .goto (-45), []), (93, 3, .iinc 4 1, []), (96, 3, .goto (-60), []), (99, 1, .iconst 0, []), (100, 1, .ireturn, [])]
def sT49 : List sEt := [(0, 1, .iload_n 1, []), (1, 27, .tableswitch 111 2 4 #[27, 58, 77], []), (28, 1, .lload_n 3, []), (29, 3, .invokestatic 257, [103, 4086]), (32, 1, .aload_n 0, []), (33, 3, .getfield 202, [43, 1086, 3, 0]), (36, 3, .if_icmp .lt 17, []), (39, 1, .aload_n 0, []), (40, 1, .lload_n 3, []), (41, 1, .lload_n 3, []), (42, 1, .lneg, []), (43, 1, .land, []), (44, 1, .lload_n 3, []), (45, 3, .invokevirtual 45, [121, 4147]), (48, 1, .lload_n 3, []), (49, 1, .lcmp, []), (50, 3, .ifCond .eq 7, []), (53, 1, .iconst 1, []), (54, 3, .goto 4, []), (57, 1, .iconst 0, []), (58, 1, .ireturn, []), (59, 1, .lload_n 3, []), (60, 1, .aload_n 0, []), (61, 2, .lload 5, []), (63, 3, .invokevirtual 51, [129, 4155]), (66, 1, .land, []), (67, 1, .lconst 0, []), (68, 1, .lcmp, []), (69, 3, .ifCond .ne 7, []), (72, 1, .iconst 1, []), (73, 3, .goto 4, []), (76, 1, .iconst 0, []), (77, 1, .ireturn, []), (78, 1, .aload_n 0, []), (79, 2, .lload 5, []), (81, 3, .invokevirtual 53, [132, 4163]), (84, 3, .ifCond .eq 26, []), (87, 1, .lload_n 3, []), (88, 1, .aload_n 0, []), (89, 1, .aload_n 0, []), (90, 1, .aload_n 0, []), (91, 3, .getfield 200, [37, 1084, 3, 0]), (94, 3, .invokevirtual 25, [93, 4036]), (97, 3, .invokevirtual 44, [117, 4151]), (100, 1, .land, []), (101, 1, .lconst 0, []), (102, 1, .lcmp, []), (103, 3, .ifCond .ne 7, []), (106, 1, .iconst 1, []), (107, 3, .goto 4, []), (110, 1, .iconst 0, []), (111, 1, .ireturn, []), (112, 1, .aload_n 0, []), (113, 1, .iload_n 2, []), (114, 1, .lload_n 3, []), (115, 3, .invokevirtual 39, [136, 4167]), (118, 3, .ifCond .ge 7, []), (121, 1, .iconst 1, []), (122, 3, .goto 4, []), (125, 1, .iconst 0, []), (126, 1, .ireturn, [])]
def sT50 : List sEt := [(0, 1, .iconst 2, []), (1, 2, .istore 4, []), (3, 2, .iload 4, []), (5, 1, .iconst 5, []), (6, 3, .if_icmp .gt 23, []), (9, 1, .aload_n 0, []), (10, 2, .iload 4, []), (12, 1, .iload_n 1, []), (13, 1, .lload_n 2, []), (14, 1, .lconst 0, []), (15, 3, .invokevirtual 49, [125, 4143]), (18, 3, .ifCond .eq 5, []), (21, 1, .iconst 0, []), (22, 1, .ireturn, []), (23, 3, .iinc 4 1, []), (26, 3, .goto (-23), []), (29, 1, .iconst 1, []), (30, 1, .ireturn, [])]
def sT51 : List sEt := [(0, 1, .aload_n 0, []), (1, 3, .invokevirtual 52, [139, 4159]), (4, 1, .lstore_n 3, []), (5, 1, .lload_n 3, []), (6, 1, .aload_n 0, []), (7, 1, .aload_n 0, []), (8, 1, .lload_n 1, []), (9, 1, .lload_n 3, []), (10, 1, .land, []), (11, 1, .lload_n 1, []), (12, 3, .invokevirtual 45, [121, 4147]), (15, 3, .invokevirtual 44, [117, 4151]), (18, 1, .lor, []), (19, 1, .lreturn, [])]
def sT52 : List sEt := [(0, 1, .aload_n 0, []), (1, 3, .getfield 199, [34, 1083, 3, 0]), (4, 28, .tableswitch 43 0 2 #[28, 33, 38], []), (32, 1, .aload_n 0, []), (33, 3, .getfield 197, [28, 1081, 3, 0]), (36, 1, .lreturn, []), (37, 1, .aload_n 0, []), (38, 3, .getfield 196, [25, 1080, 3, 0]), (41, 1, .lreturn, []), (42, 1, .aload_n 0, []), (43, 3, .getfield 198, [31, 1082, 3, 0]), (46, 1, .lreturn, []), (47, 1, .aload_n 0, []), (48, 3, .getfield 195, [22, 1079, 3, 0]), (51, 1, .lreturn, [])]
def sT53 : List sEt := [(0, 1, .aload_n 0, []), (1, 1, .aload_n 0, []), (2, 3, .getfield 200, [37, 1084, 3, 0]), (5, 3, .invokevirtual 22, [83, 4040]), (8, 3, .ifCond .eq 22, []), (11, 1, .lload_n 1, []), (12, 1, .aload_n 0, []), (13, 1, .aload_n 0, []), (14, 3, .getfield 200, [37, 1084, 3, 0]), (17, 3, .invokevirtual 25, [93, 4036]), (20, 1, .land, []), (21, 1, .lconst 0, []), (22, 1, .lcmp, []), (23, 3, .ifCond .ne 7, []), (26, 1, .iconst 1, []), (27, 3, .goto 4, []), (30, 1, .iconst 0, []), (31, 1, .ireturn, [])]
def sT54 : List sEt := [(0, 1, .lconst 0, []), (1, 1, .lstore_n 3, []), (2, 1, .iconst 0, []), (3, 2, .istore 5, []), (5, 2, .iload 5, []), (7, 1, .aload_n 0, []), (8, 3, .invokevirtual 21, [143, 5062]), (11, 3, .if_icmp .ge 37, []), (14, 2, .iload 5, []), (16, 1, .aload_n 1, []), (17, 3, .getfield 449, [146, 1039, 7, 0]), (20, 3, .if_icmp .ge 28, []), (23, 1, .aload_n 1, []), (24, 2, .iload 5, []), (26, 3, .invokevirtual 85, [151, 5063]), (29, 1, .iload_n 2, []), (30, 3, .if_icmp .ne 12, []), (33, 1, .lload_n 3, []), (34, 1, .aload_n 0, []), (35, 2, .iload 5, []), (37, 3, .invokevirtual 25, [93, 4036]), (40, 1, .lor, []), (41, 1, .lstore_n 3, []), (42, 3, .iinc 5 1, []), (45, 3, .goto (-40), []), (48, 1, .lload_n 3, []), (49, 1, .lreturn, [])]
def sT55 : List sEt := [(0, 1, .aload_n 0, []), (1, 1, .iload_n 1, []), (2, 1, .iload_n 2, []), (3, 1, .aload_n 3, []), (4, 3, .invokespecial 104, [1, 2175]), (7, 1, .return_, [])]
def sT56 : List sEt := [(0, 1, .iload_n 1, []), (1, 1, .iconst 5, []), (2, 3, .if_icmp .eq 11, []), (5, 1, .aload_n 0, []), (6, 1, .iload_n 1, []), (7, 3, .invokespecial 105, [7, 2234, 7153, 2182]), (10, 3, .ifCond .eq 7, []), (13, 1, .iconst 1, []), (14, 3, .goto 4, []), (17, 1, .iconst 0, []), (18, 1, .ireturn, [])]
def sT57 : List sEt := [(0, 1, .aload_n 1, []), (1, 1, .aload_n 0, []), (2, 3, .getfield 130, [11, 2083, 4, 2084]), (5, 1, .aload_n 0, []), (6, 3, .getfield 131, [17, 2095, 4, 2096]), (9, 3, .invokevirtual 30, [20, 3040]), (12, 1, .lreturn, [])]
def sT58 : List sEt := [(0, 1, .aload_n 0, []), (1, 3, .getfield 133, [26, 2114, 4, 2115]), (4, 2, .bipush 60, []), (6, 3, .invokevirtual 87, [30, 5145]), (9, 1, .aload_n 0, []), (10, 1, .iload_n 1, []), (11, 3, .invokespecial 15, [36, 5146, 5147, 2182, 2130]), (14, 1, .iconst 5, []), (15, 1, .ixor, []), (16, 1, .ireturn, [])]
def sT59 : List sEt := [(0, 1, .aload_n 0, []), (1, 1, .iload_n 1, []), (2, 1, .iload_n 2, []), (3, 1, .aload_n 3, []), (4, 3, .invokespecial 9, [1, 2149]), (7, 1, .return_, [])]
def sT60 : List sEt := [(0, 1, .iload_n 1, []), (1, 1, .iconst 3, []), (2, 3, .if_icmp .eq 11, []), (5, 1, .aload_n 0, []), (6, 1, .iload_n 1, []), (7, 3, .invokespecial 10, [7, 3001, 2219, 2156]), (10, 3, .ifCond .eq 7, []), (13, 1, .iconst 1, []), (14, 3, .goto 4, []), (17, 1, .iconst 0, []), (18, 1, .ireturn, [])]
def sT61 : List sEt := [(0, 1, .aload_n 1, []), (1, 1, .aload_n 0, []), (2, 3, .getfield 130, [11, 2085, 5, 2086]), (5, 3, .invokevirtual 29, [17, 3047]), (8, 1, .lreturn, [])]
def sT62 : List sEt := [(0, 1, .aload_n 1, []), (1, 1, .aload_n 0, []), (2, 3, .getfield 130, [11, 2085, 5, 2086]), (5, 1, .iconst 1, []), (6, 1, .iadd, []), (7, 3, .invokevirtual 29, [17, 3047]), (10, 1, .aload_n 1, []), (11, 1, .aload_n 0, []), (12, 3, .getfield 130, [11, 2085, 5, 2086]), (15, 3, .invokevirtual 29, [17, 3047]), (18, 3, .ldc2_w 18446744073709551615, [23, 3072]), (21, 1, .lxor, []), (22, 1, .land, []), (23, 1, .lreturn, [])]
def sT63 : List sEt := [(0, 1, .aload_n 0, []), (1, 3, .getfield 133, [25, 2116, 5, 2117]), (4, 2, .bipush 40, []), (6, 3, .invokevirtual 87, [29, 5151]), (9, 1, .aload_n 0, []), (10, 1, .iload_n 1, []), (11, 3, .invokespecial 15, [35, 5152, 5139, 2156]), (14, 1, .aload_n 0, []), (15, 3, .getfield 129, [39, 2076, 5, 2077]), (18, 1, .isub, []), (19, 1, .ireturn, [])]
def sT64 : List sEt := [(0, 1, .aload_n 0, []), (1, 3, .invokespecial 2000, [3, 3100, 1027, 1028]), (4, 1, .aload_n 0, []), (5, 1, .iconst (-1), []), (6, 3, .putfield 384, [9, 3101, 6, 0]), (9, 1, .aload_n 0, []), (10, 1, .iconst 0, []), (11, 3, .putfield 387, [15, 3105, 6, 0]), (14, 1, .aload_n 0, []), (15, 1, .aload_n 1, []), (16, 3, .putfield 385, [18, 3103, 6, 0]), (19, 1, .aload_n 0, []), (20, 1, .aload_n 2, []), (21, 3, .putfield 386, [22, 3104, 6, 0]), (24, 1, .return_, [])]
def sT65 : List sEt := [(0, 1, .iconst 0, []), (1, 1, .istore_n 1, []), (2, 1, .iload_n 1, []), (3, 2, .bipush 100, []), (5, 3, .if_icmp .gt 38, []), (8, 1, .aload_n 0, []), (9, 3, .invokevirtual 68, [26, 3119]), (12, 3, .ifCond .eq 31, []), (15, 3, .iinc 1 1, []), (18, 1, .aload_n 0, []), (19, 3, .getfield 387, [15, 3105, 6, 0]), (22, 1, .aload_n 0, []), (23, 3, .getfield 385, [18, 3103, 6, 0]), (26, 3, .getfield 449, [30, 1038, 7, 0]), (29, 3, .if_icmp .ge 12, []), (32, 1, .aload_n 0, []), (33, 2, .bipush 59, []), (35, 3, .invokevirtual 67, [35, 3194]), (38, 3, .ifCond .ne (-36), []), (41, 1, .iload_n 1, []), (42, 1, .ireturn, []), (43, 1, .iload_n 1, []), (44, 1, .ireturn, [])]
def sT66 : List sEt := [(0, 1, .aload_n 0, []), (1, 1, .iload_n 1, []), (2, 3, .putfield 384, [9, 3101, 6, 0]), (5, 1, .iconst 0, []), (6, 1, .ireturn, [])]
def sT67 : List sEt := [(0, 1, .aload_n 0, []), (1, 3, .getfield 385, [18, 3103, 6, 0]), (4, 1, .aload_n 0, []), (5, 3, .getfield 387, [15, 3105, 6, 0]), (8, 3, .invokevirtual 85, [39, 3143]), (11, 1, .iload_n 1, []), (12, 3, .if_icmp .eq 12, []), (15, 1, .aload_n 0, []), (16, 1, .aload_n 0, []), (17, 3, .getfield 387, [15, 3105, 6, 0]), (20, 3, .invokevirtual 66, [43, 3182]), (23, 1, .ireturn, []), (24, 1, .aload_n 0, []), (25, 1, .dup, []), (26, 3, .getfield 387, [15, 3105, 6, 0]), (29, 1, .iconst 1, []), (30, 1, .iadd, []), (31, 3, .putfield 387, [15, 3105, 6, 0]), (34, 1, .iconst 1, []), (35, 1, .ireturn, [])]
def sT68 : List sEt := [(0, 1, .aload_n 0, []), (1, 3, .invokevirtual 70, [47, 3123]), (4, 44, .tableswitch 108 0 6 #[44, 49, 54, 62, 78, 94, 103], []), (48, 1, .aload_n 0, []), (49, 3, .invokevirtual 74, [51, 3186]), (52, 1, .ireturn, []), (53, 1, .aload_n 0, []), (54, 3, .invokevirtual 75, [54, 3203]), (57, 1, .ireturn, []), (58, 1, .aload_n 0, []), (59, 1, .iconst 0, []), (60, 1, .iconst 0, []), (61, 1, .iconst 3, []), (62, 3, .invokevirtual 76, [57, 3220]), (65, 1, .ireturn, []), (66, 1, .aload_n 0, []), (67, 1, .iconst 1, []), (68, 1, .iconst 0, []), (69, 1, .aload_n 0, []), (70, 3, .getfield 386, [22, 3104, 6, 0]), (73, 3, .invokevirtual 21, [61, 3207]), (76, 1, .iconst 1, []), (77, 1, .isub, []), (78, 3, .invokevirtual 76, [57, 3220]), (81, 1, .ireturn, []), (82, 1, .aload_n 0, []), (83, 1, .iconst 2, []), (84, 1, .iconst 0, []), (85, 1, .aload_n 0, []), (86, 3, .getfield 386, [22, 3104, 6, 0]), (89, 3, .invokevirtual 21, [61, 3207]), (92, 1, .iconst 1, []), (93, 1, .isub, []), (94, 3, .invokevirtual 76, [57, 3220]), (97, 1, .ireturn, []), (98, 1, .aload_n 0, []), (99, 1, .iconst 3, []), (100, 1, .iconst 0, []), (101, 2, .bipush 20, []), (103, 3, .invokevirtual 76, [57, 3220]), (106, 1, .ireturn, []), (107, 1, .aload_n 0, []), (108, 3, .invokevirtual 77, [66, 4002]), (111, 1, .ireturn, []), (112, 1, .iconst 0, []), (113, 1, .ireturn, [])]
def sT69 : List sEt := [(0, 1, .iload_n 0, []), (1, 39, .tableswitch 57 0 5 #[39, 42, 45, 48, 51, 54], []), (40, 2, .ldc 4294967296, [69]), (42, 1, .areturn, []), (43, 2, .ldc 4294967297, [70]), (45, 1, .areturn, []), (46, 2, .ldc 4294967298, [72]), (48, 1, .areturn, []), (49, 2, .ldc 4294967299, [74]), (51, 1, .areturn, []), (52, 2, .ldc 4294967300, [76]), (54, 1, .areturn, []), (55, 2, .ldc 4294967301, [78]), (57, 1, .areturn, []), (58, 2, .ldc 4294967302, [80]), (60, 1, .areturn, [])]
def sT70 : List sEt := [(0, 1, .aload_n 0, []), (1, 3, .getfield 386, [22, 3104, 6, 0]), (4, 3, .getfield 203, [82, 1088, 3, 0]), (7, 1, .iconst 5, []), (8, 3, .if_icmp .ge 8, []), (11, 2, .bipush 7, []), (13, 3, .goto 5, []), (16, 2, .bipush 6, []), (18, 1, .istore_n 1, []), (19, 1, .iconst 0, []), (20, 1, .istore_n 2, []), (21, 1, .iconst 0, []), (22, 1, .istore_n 3, []), (23, 1, .iload_n 3, []), (24, 1, .iload_n 1, []), (25, 3, .if_icmp .ge 53, []), (28, 1, .iload_n 3, []), (29, 3, .invokestatic 69, [85, 3127]), (32, 2, .astore 4, []), (34, 1, .aload_n 0, []), (35, 2, .aload 4, []), (37, 3, .invokevirtual 71, [89, 3130]), (40, 2, .istore 5, []), (42, 2, .iload 5, []), (44, 2, .aload 4, []), (46, 3, .invokeinterface 3000 0, [93, 3134]), (49, 3, .if_icmp .ne 16, []), (52, 1, .aload_n 0, []), (53, 1, .dup, []), (54, 3, .getfield 387, [15, 3105, 6, 0]), (57, 2, .iload 5, []), (59, 1, .iadd, []), (60, 3, .putfield 387, [15, 3105, 6, 0]), (63, 1, .iload_n 3, []), (64, 1, .ireturn, []), (65, 1, .iload_n 2, []), (66, 2, .iload 5, []), (68, 3, .invokestatic 1000, [98, 3181, 2001, 1006, 2002]), (71, 1, .istore_n 2, []), (72, 3, .iinc 3 1, []), (75, 3, .goto (-52), []), (78, 1, .aload_n 0, []), (79, 1, .aload_n 0, []), (80, 3, .getfield 387, [15, 3105, 6, 0]), (83, 1, .iload_n 2, []), (84, 1, .iadd, []), (85, 3, .invokevirtual 66, [43, 3182]), (88, 1, .pop, []), (89, 1, .iconst (-1), []), (90, 1, .ireturn, [])]
def sT71 : List sEt := [(0, 1, .iconst 0, []), (1, 1, .istore_n 2, []), (2, 1, .iload_n 2, []), (3, 1, .aload_n 1, []), (4, 3, .invokeinterface 3000 0, [93, 3134]), (7, 3, .if_icmp .ge 32, []), (10, 1, .aload_n 0, []), (11, 3, .getfield 385, [18, 3103, 6, 0]), (14, 1, .aload_n 0, []), (15, 3, .getfield 387, [15, 3105, 6, 0]), (18, 1, .iload_n 2, []), (19, 1, .iadd, []), (20, 3, .invokevirtual 85, [39, 3143]), (23, 1, .aload_n 1, []), (24, 1, .iload_n 2, []), (25, 3, .invokeinterface 3001 0, [104, 3147]), (28, 3, .if_icmp .eq 5, []), (31, 1, .iload_n 2, []), (32, 1, .ireturn, []), (33, 3, .iinc 2 1, []), (36, 3, .goto (-34), []), (39, 1, .aload_n 1, []), (40, 3, .invokeinterface 3000 0, [93, 3134]), (43, 1, .ireturn, [])]
def sT72 : List sEt := [(0, 1, .aload_n 0, []), (1, 2, .bipush 32, []), (3, 3, .invokevirtual 67, [35, 3194]), (6, 3, .ifCond .ne 5, []), (9, 1, .iconst (-1), []), (10, 1, .ireturn, []), (11, 1, .aload_n 0, []), (12, 3, .getfield 387, [15, 3105, 6, 0]), (15, 1, .istore_n 3, []), (16, 1, .aload_n 0, []), (17, 1, .aload_n 0, []), (18, 3, .getfield 387, [15, 3105, 6, 0]), (21, 3, .invokevirtual 73, [108, 3198]), (24, 2, .istore 4, []), (26, 2, .iload 4, []), (28, 1, .iconst (-1), []), (29, 3, .if_icmp .ne 14, []), (32, 1, .aload_n 0, []), (33, 1, .aload_n 0, []), (34, 3, .getfield 387, [15, 3105, 6, 0]), (37, 3, .invokevirtual 66, [43, 3182]), (40, 1, .pop, []), (41, 1, .iconst (-1), []), (42, 1, .ireturn, []), (43, 1, .aload_n 0, []), (44, 1, .dup, []), (45, 3, .getfield 387, [15, 3105, 6, 0]), (48, 1, .iconst 1, []), (49, 1, .iadd, []), (50, 3, .putfield 387, [15, 3105, 6, 0]), (53, 1, .aload_n 0, []), (54, 1, .aload_n 0, []), (55, 3, .getfield 387, [15, 3105, 6, 0]), (58, 3, .invokevirtual 73, [108, 3198]), (61, 2, .istore 5, []), (63, 2, .iload 5, []), (65, 1, .iconst (-1), []), (66, 3, .if_icmp .eq 23, []), (69, 2, .bipush 10, []), (71, 2, .iload 4, []), (73, 1, .imul, []), (74, 2, .iload 5, []), (76, 1, .iadd, []), (77, 2, .istore 4, []), (79, 1, .aload_n 0, []), (80, 1, .dup, []), (81, 3, .getfield 387, [15, 3105, 6, 0]), (84, 1, .iconst 1, []), (85, 1, .iadd, []), (86, 3, .putfield 387, [15, 3105, 6, 0]), (89, 2, .iload 4, []), (91, 1, .iload_n 1, []), (92, 3, .if_icmp .lt 9, []), (95, 2, .iload 4, []), (97, 1, .iload_n 2, []), (98, 3, .if_icmp .le 11, []), (101, 1, .aload_n 0, []), (102, 1, .iload_n 3, []), (103, 3, .invokevirtual 66, [43, 3182]), (106, 1, .pop, []), (107, 1, .iconst (-1), []), (108, 1, .ireturn, []), (109, 2, .iload 4, []), (111, 1, .ireturn, [])]
def sT73 : List sEt := [(0, 1, .aload_n 0, []), (1, 3, .getfield 385, [18, 3103, 6, 0]), (4, 1, .iload_n 1, []), (5, 3, .invokevirtual 85, [39, 3143]), (8, 1, .istore_n 2, []), (9, 1, .iload_n 2, []), (10, 2, .bipush 48, []), (12, 3, .if_icmp .lt 16, []), (15, 1, .iload_n 2, []), (16, 2, .bipush 57, []), (18, 3, .if_icmp .gt 10, []), (21, 1, .iload_n 2, []), (22, 2, .bipush 48, []), (24, 1, .isub, []), (25, 3, .goto 4, []), (28, 1, .iconst (-1), []), (29, 1, .ireturn, [])]
def sT74 : List sEt := [(0, 1, .aload_n 0, []), (1, 1, .iconst 2, []), (2, 2, .bipush 8, []), (4, 3, .invokevirtual 72, [111, 3190]), (7, 1, .istore_n 1, []), (8, 1, .iload_n 1, []), (9, 1, .iconst (-1), []), (10, 3, .if_icmp .ne 7, []), (13, 1, .iconst (-1), []), (14, 3, .goto 10, []), (17, 1, .aload_n 0, []), (18, 1, .iconst 2, []), (19, 2, .bipush 8, []), (21, 3, .invokevirtual 72, [111, 3190]), (24, 1, .istore_n 2, []), (25, 1, .iload_n 2, []), (26, 1, .iconst (-1), []), (27, 3, .if_icmp .ne 5, []), (30, 1, .iconst 0, []), (31, 1, .ireturn, []), (32, 1, .aload_n 0, []), (33, 3, .getfield 386, [22, 3104, 6, 0]), (36, 1, .iload_n 1, []), (37, 1, .iload_n 2, []), (38, 3, .invokevirtual 17, [114, 3202]), (41, 1, .iconst 1, []), (42, 1, .ireturn, [])]
def sT75 : List sEt := [(0, 1, .aload_n 0, []), (1, 1, .iconst 0, []), (2, 1, .iconst 5, []), (3, 3, .invokevirtual 72, [111, 3190]), (6, 1, .istore_n 1, []), (7, 1, .iload_n 1, []), (8, 1, .iconst (-1), []), (9, 3, .if_icmp .ne 7, []), (12, 1, .iconst (-1), []), (13, 3, .goto 17, []), (16, 1, .aload_n 0, []), (17, 1, .iconst 0, []), (18, 1, .aload_n 0, []), (19, 3, .getfield 386, [22, 3104, 6, 0]), (22, 3, .invokevirtual 21, [61, 3207]), (25, 1, .iconst 1, []), (26, 1, .isub, []), (27, 3, .invokevirtual 72, [111, 3190]), (30, 1, .istore_n 2, []), (31, 1, .iload_n 2, []), (32, 1, .iconst (-1), []), (33, 3, .if_icmp .ne 7, []), (36, 1, .iconst (-1), []), (37, 3, .goto 17, []), (40, 1, .aload_n 0, []), (41, 1, .iload_n 2, []), (42, 1, .aload_n 0, []), (43, 3, .getfield 386, [22, 3104, 6, 0]), (46, 3, .invokevirtual 21, [61, 3207]), (49, 1, .iconst 1, []), (50, 1, .isub, []), (51, 3, .invokevirtual 72, [111, 3190]), (54, 1, .istore_n 3, []), (55, 1, .iload_n 3, []), (56, 1, .iconst (-1), []), (57, 3, .if_icmp .ne 5, []), (60, 1, .iconst 0, []), (61, 1, .ireturn, []), (62, 1, .aload_n 0, []), (63, 3, .getfield 386, [22, 3104, 6, 0]), (66, 1, .aload_n 0, []), (67, 3, .getfield 386, [22, 3104, 6, 0]), (70, 1, .iload_n 3, []), (71, 1, .iconst 1, []), (72, 1, .iadd, []), (73, 3, .invokevirtual 27, [118, 3211]), (76, 1, .aload_n 0, []), (77, 3, .getfield 386, [22, 3104, 6, 0]), (80, 1, .iload_n 2, []), (81, 3, .invokevirtual 27, [118, 3211]), (84, 3, .ldc2_w 18446744073709551615, [122, 3212]), (87, 1, .lxor, []), (88, 1, .land, []), (89, 1, .iload_n 1, []), (90, 3, .invokevirtual 33, [124, 3213]), (93, 1, .iconst 1, []), (94, 1, .ireturn, [])]
def sT76 : List sEt := [(0, 1, .aload_n 0, []), (1, 1, .iload_n 2, []), (2, 1, .iload_n 3, []), (3, 3, .invokevirtual 72, [111, 3190]), (6, 2, .istore 4, []), (8, 2, .iload 4, []), (10, 1, .iconst (-1), []), (11, 3, .if_icmp .ne 5, []), (14, 1, .iconst 0, []), (15, 1, .ireturn, []), (16, 1, .aload_n 0, []), (17, 3, .getfield 386, [22, 3104, 6, 0]), (20, 1, .iload_n 1, []), (21, 2, .iload 4, []), (23, 3, .invokevirtual 35, [128, 3224]), (26, 1, .iconst 1, []), (27, 1, .ireturn, [])]
def sT77 : List sEt := [(0, 1, .aload_n 0, []), (1, 1, .iconst 1, []), (2, 2, .bipush 9, []), (4, 3, .invokevirtual 72, [111, 3190]), (7, 1, .istore_n 1, []), (8, 1, .iload_n 1, []), (9, 1, .iconst (-1), []), (10, 3, .if_icmp .ne 7, []), (13, 1, .iconst (-1), []), (14, 3, .goto 11, []), (17, 1, .aload_n 0, []), (18, 3, .getfield 386, [22, 3104, 6, 0]), (21, 1, .iload_n 1, []), (22, 3, .invokevirtual 36, [131, 4006]), (25, 1, .istore_n 2, []), (26, 1, .aload_n 0, []), (27, 3, .getfield 386, [22, 3104, 6, 0]), (30, 1, .iload_n 2, []), (31, 3, .invokevirtual 23, [134, 4010]), (34, 3, .ifCond .ne 5, []), (37, 1, .iconst 0, []), (38, 1, .ireturn, []), (39, 1, .iconst 0, []), (40, 1, .istore_n 3, []), (41, 1, .iload_n 3, []), (42, 2, .bipush 6, []), (44, 3, .if_icmp .ge 39, []), (47, 1, .aload_n 0, []), (48, 1, .iconst 0, []), (49, 2, .bipush 99, []), (51, 3, .invokevirtual 72, [111, 3190]), (54, 2, .istore 4, []), (56, 2, .iload 4, []), (58, 1, .iconst (-1), []), (59, 3, .if_icmp .ne 5, []), (62, 1, .iconst 0, []), (63, 1, .ireturn, []), (64, 1, .aload_n 0, []), (65, 3, .getfield 386, [22, 3104, 6, 0]), (68, 3, .getfield 206, [137, 1095, 3, 0]), (71, 1, .iload_n 2, []), (72, 1, .aaload, []), (73, 1, .iload_n 3, []), (74, 2, .iload 4, []), (76, 1, .iastore, []), (77, 3, .iinc 3 1, []), (80, 3, .goto (-39), []), (83, 1, .iconst 1, []), (84, 1, .ireturn, [])]
def sT78 : List sEt := [(0, 1, .aload_n 0, []), (1, 3, .invokespecial 2000, [3, 1034, 1027, 1028]), (4, 1, .aload_n 0, []), (5, 1, .iconst (-1), []), (6, 3, .putfield 448, [9, 1035, 7, 0]), (9, 1, .aload_n 0, []), (10, 1, .iconst 0, []), (11, 3, .putfield 449, [15, 1037, 7, 0]), (14, 1, .aload_n 0, []), (15, 2, .bipush 100, []), (17, 2, .newarray .long, [1050]), (19, 3, .putfield 450, [18, 1041, 7, 0]), (22, 1, .return_, [])]
def sT79 : List sEt := [(0, 1, .aload_n 0, []), (1, 1, .iload_n 1, []), (2, 3, .putfield 448, [9, 1035, 7, 0]), (5, 1, .aload_n 0, []), (6, 1, .iconst 0, []), (7, 1, .iload_n 2, []), (8, 2, .bipush 100, []), (10, 3, .invokestatic 1001, [22, 1230, 1231, 1006, 1232]), (13, 3, .invokestatic 1000, [28, 2000, 2001, 1006, 2002]), (16, 3, .putfield 449, [15, 1037, 7, 0]), (19, 1, .iconst 0, []), (20, 1, .istore_n 3, []), (21, 1, .iload_n 3, []), (22, 1, .aload_n 0, []), (23, 3, .getfield 449, [15, 1037, 7, 0]), (26, 3, .if_icmp .ge 16, []), (29, 1, .aload_n 0, []), (30, 3, .getfield 450, [18, 1041, 7, 0]), (33, 1, .iload_n 3, []), (34, 1, .lconst 0, []), (35, 1, .lastore, []), (36, 3, .iinc 3 1, []), (39, 3, .goto (-18), []), (42, 1, .return_, [])]
def sT80 : List sEt := [(0, 1, .aload_n 0, []), (1, 1, .iconst (-1), []), (2, 3, .putfield 448, [9, 1035, 7, 0]), (5, 1, .aload_n 0, []), (6, 1, .iconst 0, []), (7, 3, .putfield 449, [15, 1037, 7, 0]), (10, 1, .return_, [])]
def sT81 : List sEt := [(0, 1, .aload_n 0, []), (1, 3, .getfield 448, [9, 1035, 7, 0]), (4, 1, .iconst (-1), []), (5, 3, .if_icmp .eq 7, []), (8, 1, .iconst 1, []), (9, 3, .goto 4, []), (12, 1, .iconst 0, []), (13, 1, .ireturn, [])]
def sT82 : List sEt := [(0, 1, .iload_n 1, []), (1, 3, .ifCond .lt 15, []), (4, 1, .iload_n 1, []), (5, 1, .aload_n 0, []), (6, 3, .getfield 449, [15, 1037, 7, 0]), (9, 3, .if_icmp .ge 7, []), (12, 1, .iconst 1, []), (13, 3, .goto 4, []), (16, 1, .iconst 0, []), (17, 1, .ireturn, [])]
def sT83 : List sEt := [(0, 1, .iload_n 1, []), (1, 3, .ifCond .lt 21, []), (4, 1, .iload_n 2, []), (5, 3, .ifCond .lt 17, []), (8, 1, .iload_n 1, []), (9, 1, .aload_n 0, []), (10, 3, .getfield 449, [15, 1037, 7, 0]), (13, 1, .iload_n 2, []), (14, 1, .isub, []), (15, 3, .if_icmp .gt 7, []), (18, 1, .iconst 1, []), (19, 3, .goto 4, []), (22, 1, .iconst 0, []), (23, 1, .ireturn, [])]
def sT84 : List sEt := [(0, 1, .aload_n 0, []), (1, 1, .iload_n 1, []), (2, 3, .invokevirtual 82, [31, 2022]), (5, 3, .ifCond .eq 12, []), (8, 1, .aload_n 0, []), (9, 3, .getfield 450, [18, 1041, 7, 0]), (12, 1, .iload_n 1, []), (13, 1, .laload, []), (14, 3, .goto 4, []), (17, 1, .lconst 0, []), (18, 1, .lreturn, [])]
def sT85 : List sEt := [(0, 1, .aload_n 0, []), (1, 1, .iload_n 1, []), (2, 3, .invokevirtual 82, [31, 2022]), (5, 3, .ifCond .eq 13, []), (8, 1, .aload_n 0, []), (9, 3, .getfield 450, [18, 1041, 7, 0]), (12, 1, .iload_n 1, []), (13, 1, .laload, []), (14, 1, .l2i, []), (15, 3, .goto 4, []), (18, 1, .iconst 0, []), (19, 1, .ireturn, [])]
def sT86 : List sEt := [(0, 1, .aload_n 0, []), (1, 1, .iload_n 1, []), (2, 3, .invokevirtual 82, [31, 2022]), (5, 3, .ifCond .eq 14, []), (8, 1, .aload_n 0, []), (9, 3, .getfield 450, [18, 1041, 7, 0]), (12, 1, .iload_n 1, []), (13, 1, .aload_n 0, []), (14, 1, .lload_n 2, []), (15, 3, .invokevirtual 88, [35, 2023]), (18, 1, .lastore, []), (19, 1, .return_, [])]
def sT87 : List sEt := [(0, 1, .aload_n 0, []), (1, 3, .getfield 449, [15, 1037, 7, 0]), (4, 2, .bipush 100, []), (6, 3, .if_icmp .ge 24, []), (9, 1, .aload_n 0, []), (10, 3, .getfield 450, [18, 1041, 7, 0]), (13, 1, .aload_n 0, []), (14, 3, .getfield 449, [15, 1037, 7, 0]), (17, 1, .iload_n 1, []), (18, 1, .i2l, []), (19, 1, .lastore, []), (20, 1, .aload_n 0, []), (21, 1, .dup, []), (22, 3, .getfield 449, [15, 1037, 7, 0]), (25, 1, .iconst 1, []), (26, 1, .iadd, []), (27, 3, .putfield 449, [15, 1037, 7, 0]), (30, 1, .return_, [])]
def sT88 : List sEt := [(0, 1, .aload_n 0, []), (1, 3, .getfield 448, [9, 1035, 7, 0]), (4, 28, .tableswitch 42 0 2 #[28, 33, 38], []), (32, 1, .lload_n 1, []), (33, 1, .l2i, []), (34, 1, .i2b, []), (35, 1, .i2l, []), (36, 1, .lreturn, []), (37, 1, .lload_n 1, []), (38, 1, .l2i, []), (39, 1, .i2s, []), (40, 1, .i2l, []), (41, 1, .lreturn, []), (42, 1, .lload_n 1, []), (43, 1, .l2i, []), (44, 1, .i2l, []), (45, 1, .lreturn, []), (46, 1, .lload_n 1, []), (47, 1, .lreturn, [])]
def sT89 : List sEt := [(0, 1, .aload_n 0, []), (1, 3, .invokespecial 2000, [3, 1143, 1027, 1028]), (4, 1, .aload_n 0, []), (5, 1, .iconst (-1), []), (6, 3, .putfield 512, [9, 1144, 8, 0]), (9, 1, .aload_n 0, []), (10, 1, .iconst 0, []), (11, 3, .putfield 513, [15, 1146, 8, 0]), (14, 1, .aload_n 0, []), (15, 1, .lconst 0, []), (16, 3, .putfield 514, [18, 1148, 8, 0]), (19, 1, .aload_n 0, []), (20, 1, .lconst 0, []), (21, 3, .putfield 515, [22, 1150, 8, 0]), (24, 1, .aload_n 0, []), (25, 1, .iconst 0, []), (26, 3, .putfield 516, [25, 1152, 8, 0]), (29, 1, .aload_n 0, []), (30, 3, .sipush 1000, []), (33, 3, .putfield 517, [28, 1153, 8, 0]), (36, 1, .aload_n 0, []), (37, 1, .iconst 0, []), (38, 3, .putfield 518, [31, 1154, 8, 0]), (41, 1, .aload_n 0, []), (42, 3, .sipush 644, []), (45, 2, .newarray .int, [1137]), (47, 3, .putfield 519, [34, 1155, 8, 0]), (50, 1, .aload_n 0, []), (51, 3, .sipush 644, []), (54, 2, .newarray .long, [1050]), (56, 3, .putfield 520, [38, 1156, 8, 0]), (59, 1, .aload_n 0, []), (60, 2, .bipush 7, []), (62, 2, .newarray .long, [1050]), (64, 3, .putfield 521, [42, 1157, 8, 0]), (67, 1, .return_, [])]
def sT90 : List sEt := [(0, 1, .iload_n 1, []), (1, 27, .lookupswitch 37 #[(0, 27), (1, 32)], []), (28, 1, .aload_n 0, []), (29, 3, .getfield 512, [9, 1144, 8, 0]), (32, 1, .ireturn, []), (33, 1, .aload_n 0, []), (34, 3, .getfield 516, [25, 1152, 8, 0]), (37, 1, .ireturn, []), (38, 1, .aload_n 0, []), (39, 3, .getfield 517, [28, 1153, 8, 0]), (42, 1, .ireturn, [])]
def sT91 : List sEt := [(0, 1, .aload_n 0, []), (1, 3, .getfield 518, [31, 1154, 8, 0]), (4, 3, .sipush 644, []), (7, 3, .if_icmp .ge 33, []), (10, 1, .aload_n 0, []), (11, 3, .getfield 519, [34, 1155, 8, 0]), (14, 1, .aload_n 0, []), (15, 3, .getfield 518, [31, 1154, 8, 0]), (18, 1, .iload_n 1, []), (19, 1, .iastore, []), (20, 1, .aload_n 0, []), (21, 3, .getfield 520, [38, 1156, 8, 0]), (24, 1, .aload_n 0, []), (25, 3, .getfield 518, [31, 1154, 8, 0]), (28, 1, .lload_n 2, []), (29, 1, .lastore, []), (30, 1, .aload_n 0, []), (31, 1, .dup, []), (32, 3, .getfield 518, [31, 1154, 8, 0]), (35, 1, .iconst 1, []), (36, 1, .iadd, []), (37, 3, .putfield 518, [31, 1154, 8, 0]), (40, 1, .return_, [])]
def sT92 : List sEt := [(0, 1, .aload_n 0, []), (1, 1, .iconst 0, []), (2, 3, .putfield 518, [31, 1154, 8, 0]), (5, 1, .iconst 1, []), (6, 2, .istore 4, []), (8, 2, .iload 4, []), (10, 1, .aload_n 1, []), (11, 3, .getfield 192, [45, 1070, 3, 0]), (14, 3, .if_icmp .ge 28, []), (17, 1, .aload_n 0, []), (18, 3, .sipush 1000, []), (21, 2, .bipush 100, []), (23, 2, .iload 4, []), (25, 1, .imul, []), (26, 1, .iadd, []), (27, 1, .aload_n 1, []), (28, 2, .iload 4, []), (30, 3, .invokevirtual 29, [50, 4204]), (33, 3, .invokevirtual 91, [54, 4205]), (36, 3, .iinc 4 1, []), (39, 3, .goto (-31), []), (42, 1, .iload_n 2, []), (43, 3, .ifCond .eq 8, []), (46, 1, .aload_n 0, []), (47, 1, .aload_n 1, []), (48, 3, .invokevirtual 93, [58, 4209]), (51, 1, .iconst 1, []), (52, 2, .istore 4, []), (54, 2, .iload 4, []), (56, 1, .aload_n 1, []), (57, 3, .getfield 193, [62, 1073, 3, 0]), (60, 3, .if_icmp .ge 28, []), (63, 1, .aload_n 0, []), (64, 3, .sipush 4000, []), (67, 2, .bipush 100, []), (69, 2, .iload 4, []), (71, 1, .imul, []), (72, 1, .iadd, []), (73, 1, .aload_n 1, []), (74, 2, .iload 4, []), (76, 3, .invokevirtual 28, [65, 4214]), (79, 3, .invokevirtual 91, [54, 4205]), (82, 3, .iinc 4 1, []), (85, 3, .goto (-31), []), (88, 1, .iload_n 3, []), (89, 3, .ifCond .eq 8, []), (92, 1, .aload_n 0, []), (93, 1, .aload_n 1, []), (94, 3, .invokevirtual 94, [68, 4215]), (97, 1, .return_, [])]
def sT93 : List sEt := [(0, 1, .iconst 0, []), (1, 1, .istore_n 2, []), (2, 1, .iload_n 2, []), (3, 1, .aload_n 1, []), (4, 3, .getfield 192, [45, 1070, 3, 0]), (7, 3, .if_icmp .gt 71, []), (10, 1, .iconst 1, []), (11, 1, .istore_n 3, []), (12, 1, .iload_n 3, []), (13, 1, .aload_n 1, []), (14, 3, .getfield 193, [62, 1073, 3, 0]), (17, 3, .if_icmp .ge 55, []), (20, 1, .iconst 0, []), (21, 2, .istore 4, []), (23, 2, .iload 4, []), (25, 1, .aload_n 1, []), (26, 3, .getfield 192, [45, 1070, 3, 0]), (29, 3, .if_icmp .gt 37, []), (32, 1, .aload_n 0, []), (33, 3, .sipush 2000, []), (36, 2, .bipush 100, []), (38, 1, .iload_n 2, []), (39, 1, .imul, []), (40, 1, .iadd, []), (41, 2, .bipush 10, []), (43, 1, .iload_n 3, []), (44, 1, .imul, []), (45, 1, .iadd, []), (46, 2, .iload 4, []), (48, 1, .iadd, []), (49, 1, .aload_n 1, []), (50, 1, .iload_n 2, []), (51, 1, .iload_n 3, []), (52, 2, .iload 4, []), (54, 3, .invokevirtual 31, [71, 4213]), (57, 3, .invokevirtual 91, [54, 4205]), (60, 3, .iinc 4 1, []), (63, 3, .goto (-40), []), (66, 3, .iinc 3 1, []), (69, 3, .goto (-57), []), (72, 3, .iinc 2 1, []), (75, 3, .goto (-73), []), (78, 1, .return_, [])]
def sT94 : List sEt := [(0, 1, .iconst 1, []), (1, 1, .istore_n 2, []), (2, 1, .iload_n 2, []), (3, 1, .aload_n 1, []), (4, 3, .getfield 192, [45, 1070, 3, 0]), (7, 3, .if_icmp .gt 64, []), (10, 1, .iconst 1, []), (11, 1, .istore_n 3, []), (12, 1, .iload_n 3, []), (13, 1, .aload_n 1, []), (14, 3, .getfield 193, [62, 1073, 3, 0]), (17, 3, .if_icmp .gt 48, []), (20, 1, .iload_n 2, []), (21, 1, .aload_n 1, []), (22, 3, .getfield 192, [45, 1070, 3, 0]), (25, 3, .if_icmp .lt 11, []), (28, 1, .iload_n 3, []), (29, 1, .aload_n 1, []), (30, 3, .getfield 193, [62, 1073, 3, 0]), (33, 3, .if_icmp .ge 26, []), (36, 1, .aload_n 0, []), (37, 3, .sipush 5000, []), (40, 2, .bipush 100, []), (42, 1, .iload_n 2, []), (43, 1, .imul, []), (44, 1, .iadd, []), (45, 2, .bipush 10, []), (47, 1, .iload_n 3, []), (48, 1, .imul, []), (49, 1, .iadd, []), (50, 1, .aload_n 1, []), (51, 1, .iload_n 2, []), (52, 1, .iload_n 3, []), (53, 3, .invokevirtual 30, [75, 4219]), (56, 3, .invokevirtual 91, [54, 4205]), (59, 3, .iinc 3 1, []), (62, 3, .goto (-50), []), (65, 3, .iinc 2 1, []), (68, 3, .goto (-66), []), (71, 1, .return_, [])]
def sT95 : List sEt := [(0, 1, .aload_n 0, []), (1, 1, .iconst (-1), []), (2, 3, .putfield 512, [9, 1144, 8, 0]), (5, 1, .aload_n 0, []), (6, 1, .iconst 0, []), (7, 3, .putfield 516, [25, 1152, 8, 0]), (10, 1, .aload_n 0, []), (11, 1, .iload_n 1, []), (12, 3, .putfield 517, [28, 1153, 8, 0]), (15, 1, .return_, [])]
def sT96 : List sEt := [(0, 1, .aload_n 1, []), (1, 1, .aload_n 0, []), (2, 3, .getfield 521, [42, 1157, 8, 0]), (5, 3, .invokevirtual 47, [79, 4226]), (8, 2, .istore 4, []), (10, 2, .iload 4, []), (12, 1, .aload_n 0, []), (13, 3, .getfield 517, [28, 1153, 8, 0]), (16, 3, .if_icmp .ge 30, []), (19, 1, .aload_n 1, []), (20, 1, .aload_n 0, []), (21, 3, .getfield 521, [42, 1157, 8, 0]), (24, 3, .invokevirtual 48, [83, 4227]), (27, 3, .ifCond .ne 19, []), (30, 1, .aload_n 0, []), (31, 1, .iload_n 2, []), (32, 3, .putfield 512, [9, 1144, 8, 0]), (35, 1, .aload_n 0, []), (36, 1, .iload_n 3, []), (37, 3, .putfield 516, [25, 1152, 8, 0]), (40, 1, .aload_n 0, []), (41, 2, .iload 4, []), (43, 3, .putfield 517, [28, 1153, 8, 0]), (46, 1, .return_, [])]
def sT97 : List sEt := [(0, 1, .aload_n 0, []), (1, 3, .sipush 1000, []), (4, 3, .invokevirtual 95, [86, 4196]), (7, 1, .aload_n 1, []), (8, 3, .getfield 203, [90, 1089, 3, 0]), (11, 1, .iconst 2, []), (12, 3, .if_icmp .eq 5, []), (15, 1, .iconst 0, []), (16, 1, .ireturn, []), (17, 1, .aload_n 0, []), (18, 1, .aload_n 1, []), (19, 1, .iconst 1, []), (20, 1, .iconst 0, []), (21, 3, .invokevirtual 92, [93, 4200]), (24, 1, .aload_n 0, []), (25, 3, .getfield 521, [42, 1157, 8, 0]), (28, 3, .invokestatic 20, [97, 4220]), (31, 1, .iconst 0, []), (32, 1, .istore_n 2, []), (33, 1, .iload_n 2, []), (34, 1, .aload_n 0, []), (35, 3, .getfield 518, [31, 1154, 8, 0]), (38, 3, .if_icmp .ge 69, []), (41, 1, .iconst 0, []), (42, 1, .istore_n 3, []), (43, 1, .iload_n 3, []), (44, 1, .iconst 2, []), (45, 3, .if_icmp .ge 56, []), (48, 1, .aload_n 0, []), (49, 3, .getfield 521, [42, 1157, 8, 0]), (52, 1, .iload_n 3, []), (53, 1, .aload_n 0, []), (54, 3, .getfield 520, [38, 1156, 8, 0]), (57, 1, .iload_n 2, []), (58, 1, .laload, []), (59, 1, .lastore, []), (60, 1, .aload_n 0, []), (61, 3, .getfield 521, [42, 1157, 8, 0]), (64, 1, .iconst 1, []), (65, 1, .iload_n 3, []), (66, 1, .isub, []), (67, 1, .aload_n 1, []), (68, 3, .getfield 194, [101, 1077, 3, 0]), (71, 1, .aload_n 0, []), (72, 3, .getfield 520, [38, 1156, 8, 0]), (75, 1, .iload_n 2, []), (76, 1, .laload, []), (77, 3, .ldc2_w 18446744073709551615, [104, 4221]), (80, 1, .lxor, []), (81, 1, .land, []), (82, 1, .lastore, []), (83, 1, .aload_n 0, []), (84, 1, .aload_n 1, []), (85, 1, .aload_n 0, []), (86, 3, .getfield 519, [34, 1155, 8, 0]), (89, 1, .iload_n 2, []), (90, 1, .iaload, []), (91, 1, .iload_n 3, []), (92, 3, .invokevirtual 96, [106, 4222]), (95, 3, .iinc 3 1, []), (98, 3, .goto (-55), []), (101, 3, .iinc 2 1, []), (104, 3, .goto (-71), []), (107, 1, .aload_n 0, []), (108, 3, .getfield 512, [9, 1144, 8, 0]), (111, 1, .iconst (-1), []), (112, 3, .if_icmp .eq 7, []), (115, 1, .iconst 1, []), (116, 3, .goto 4, []), (119, 1, .iconst 0, []), (120, 1, .ireturn, [])]
def sT98 : List sEt := [(0, 1, .aload_n 0, []), (1, 3, .sipush 1000, []), (4, 3, .invokevirtual 95, [86, 4196]), (7, 1, .aload_n 1, []), (8, 3, .getfield 203, [90, 1089, 3, 0]), (11, 1, .iconst 3, []), (12, 3, .if_icmp .eq 5, []), (15, 1, .iconst 0, []), (16, 1, .ireturn, []), (17, 1, .aload_n 0, []), (18, 1, .aload_n 1, []), (19, 1, .iconst 0, []), (20, 1, .iconst 1, []), (21, 3, .invokevirtual 92, [93, 4200]), (24, 1, .aload_n 0, []), (25, 3, .getfield 521, [42, 1157, 8, 0]), (28, 3, .invokestatic 20, [97, 4220]), (31, 1, .iconst 0, []), (32, 1, .istore_n 2, []), (33, 1, .iload_n 2, []), (34, 1, .aload_n 0, []), (35, 3, .getfield 518, [31, 1154, 8, 0]), (38, 3, .if_icmp .ge 126, []), (41, 1, .aload_n 1, []), (42, 1, .iconst 0, []), (43, 1, .aload_n 0, []), (44, 3, .getfield 520, [38, 1156, 8, 0]), (47, 1, .iload_n 2, []), (48, 1, .laload, []), (49, 3, .invokevirtual 50, [110, 5001]), (52, 3, .ifCond .ne 6, []), (55, 3, .goto 103, []), (58, 1, .iconst 0, []), (59, 1, .istore_n 3, []), (60, 1, .iload_n 3, []), (61, 1, .aload_n 0, []), (62, 3, .getfield 518, [31, 1154, 8, 0]), (65, 3, .if_icmp .ge 93, []), (68, 1, .aload_n 0, []), (69, 3, .getfield 521, [42, 1157, 8, 0]), (72, 1, .iconst 0, []), (73, 1, .aload_n 0, []), (74, 3, .getfield 520, [38, 1156, 8, 0]), (77, 1, .iload_n 2, []), (78, 1, .laload, []), (79, 1, .lastore, []), (80, 1, .aload_n 0, []), (81, 3, .getfield 521, [42, 1157, 8, 0]), (84, 1, .iconst 1, []), (85, 1, .aload_n 0, []), (86, 3, .getfield 520, [38, 1156, 8, 0]), (89, 1, .iload_n 3, []), (90, 1, .laload, []), (91, 1, .aload_n 0, []), (92, 3, .getfield 520, [38, 1156, 8, 0]), (95, 1, .iload_n 2, []), (96, 1, .laload, []), (97, 3, .ldc2_w 18446744073709551615, [104, 4221]), (100, 1, .lxor, []), (101, 1, .land, []), (102, 1, .lastore, []), (103, 1, .aload_n 0, []), (104, 3, .getfield 521, [42, 1157, 8, 0]), (107, 1, .iconst 2, []), (108, 1, .aload_n 1, []), (109, 3, .getfield 194, [101, 1077, 3, 0]), (112, 1, .aload_n 0, []), (113, 3, .getfield 520, [38, 1156, 8, 0]), (116, 1, .iload_n 2, []), (117, 1, .laload, []), (118, 3, .ldc2_w 18446744073709551615, [104, 4221]), (121, 1, .lxor, []), (122, 1, .land, []), (123, 1, .aload_n 0, []), (124, 3, .getfield 520, [38, 1156, 8, 0]), (127, 1, .iload_n 3, []), (128, 1, .laload, []), (129, 3, .ldc2_w 18446744073709551615, [104, 4221]), (132, 1, .lxor, []), (133, 1, .land, []), (134, 1, .lastore, []), (135, 1, .aload_n 0, []), (136, 1, .aload_n 1, []), (137, 1, .aload_n 0, []), (138, 3, .getfield 519, [34, 1155, 8, 0]), (141, 1, .iload_n 2, []), (142, 1, .iaload, []), (143, 1, .aload_n 0, []), (144, 3, .getfield 519, [34, 1155, 8, 0]), (147, 1, .iload_n 3, []), (148, 1, .iaload, []), (149, 3, .invokevirtual 96, [106, 4222]), (152, 3, .iinc 3 1, []), (155, 3, .goto (-95), []), (158, 3, .iinc 2 1, []), (161, 3, .goto (-128), []), (164, 1, .aload_n 0, []), (165, 3, .getfield 512, [9, 1144, 8, 0]), (168, 1, .iconst (-1), []), (169, 3, .if_icmp .eq 7, []), (172, 1, .iconst 1, []), (173, 3, .goto 4, []), (176, 1, .iconst 0, []), (177, 1, .ireturn, [])]
def sT99 : List sEt := [(0, 1, .aload_n 0, []), (1, 3, .sipush 1000, []), (4, 3, .invokevirtual 95, [86, 4196]), (7, 1, .aload_n 0, []), (8, 1, .aload_n 1, []), (9, 1, .iconst 1, []), (10, 1, .iconst 0, []), (11, 3, .invokevirtual 92, [93, 4200]), (14, 1, .lconst 0, []), (15, 1, .lstore_n 3, []), (16, 2, .ldc 1000000, [114, 5013]), (18, 2, .istore 5, []), (20, 1, .iconst 0, []), (21, 2, .istore 6, []), (23, 2, .iload 6, []), (25, 1, .aload_n 0, []), (26, 3, .getfield 518, [31, 1154, 8, 0]), (29, 3, .if_icmp .ge 82, []), (32, 1, .aload_n 1, []), (33, 3, .getfield 194, [101, 1077, 3, 0]), (36, 1, .aload_n 0, []), (37, 3, .getfield 520, [38, 1156, 8, 0]), (40, 2, .iload 6, []), (42, 1, .laload, []), (43, 3, .ldc2_w 18446744073709551615, [104, 4221]), (46, 1, .lxor, []), (47, 1, .land, []), (48, 2, .lstore 7, []), (50, 1, .aload_n 1, []), (51, 1, .iload_n 2, []), (52, 1, .aload_n 0, []), (53, 3, .getfield 520, [38, 1156, 8, 0]), (56, 2, .iload 6, []), (58, 1, .laload, []), (59, 3, .invokevirtual 37, [115, 5014]), (62, 1, .aload_n 1, []), (63, 1, .iload_n 2, []), (64, 2, .lload 7, []), (66, 3, .invokevirtual 37, [115, 5014]), (69, 1, .isub, []), (70, 3, .invokestatic 1002, [119, 5015, 5016, 1006, 5017]), (73, 2, .istore 9, []), (75, 2, .iload 9, []), (77, 2, .iload 5, []), (79, 3, .if_icmp .ge 26, []), (82, 2, .iload 9, []), (84, 2, .istore 5, []), (86, 1, .aload_n 0, []), (87, 1, .aload_n 0, []), (88, 3, .getfield 519, [34, 1155, 8, 0]), (91, 2, .iload 6, []), (93, 1, .iaload, []), (94, 3, .putfield 512, [9, 1144, 8, 0]), (97, 1, .aload_n 0, []), (98, 3, .getfield 520, [38, 1156, 8, 0]), (101, 2, .iload 6, []), (103, 1, .laload, []), (104, 1, .lstore_n 3, []), (105, 3, .iinc 6 1, []), (108, 3, .goto (-85), []), (111, 1, .lload_n 3, []), (112, 1, .lreturn, [])]
def sT100 : List sEt := [(0, 1, .aload_n 0, []), (1, 1, .aload_n 1, []), (2, 1, .aload_n 1, []), (3, 3, .getfield 208, [125, 1100, 3, 0]), (6, 3, .invokevirtual 47, [79, 4226]), (9, 3, .invokevirtual 95, [86, 4196]), (12, 1, .iconst 0, []), (13, 1, .istore_n 2, []), (14, 1, .iload_n 2, []), (15, 1, .aload_n 1, []), (16, 3, .invokevirtual 21, [128, 5037]), (19, 3, .if_icmp .ge 72, []), (22, 1, .iconst 0, []), (23, 1, .istore_n 3, []), (24, 1, .iload_n 3, []), (25, 1, .aload_n 1, []), (26, 3, .getfield 203, [90, 1089, 3, 0]), (29, 3, .if_icmp .ge 56, []), (32, 1, .iload_n 3, []), (33, 1, .iconst 5, []), (34, 3, .if_icmp .ge 51, []), (37, 1, .aload_n 1, []), (38, 1, .iload_n 2, []), (39, 1, .iload_n 3, []), (40, 3, .invokestatic 101, [132, 5038]), (43, 3, .ifCond .eq 36, []), (46, 1, .aload_n 0, []), (47, 1, .aload_n 1, []), (48, 3, .getfield 208, [125, 1100, 3, 0]), (51, 3, .invokevirtual 102, [136, 5045]), (54, 1, .aload_n 0, []), (55, 3, .getfield 521, [42, 1157, 8, 0]), (58, 1, .aload_n 1, []), (59, 1, .iload_n 2, []), (60, 3, .invokevirtual 25, [139, 5042]), (63, 1, .iload_n 3, []), (64, 3, .invokestatic 19, [142, 5049]), (67, 1, .aload_n 0, []), (68, 1, .aload_n 1, []), (69, 2, .bipush 10, []), (71, 1, .iload_n 2, []), (72, 1, .imul, []), (73, 1, .iload_n 3, []), (74, 1, .iadd, []), (75, 1, .iconst 0, []), (76, 3, .invokevirtual 96, [106, 4222]), (79, 3, .iinc 3 1, []), (82, 3, .goto (-58), []), (85, 3, .iinc 2 1, []), (88, 3, .goto (-74), []), (91, 1, .aload_n 0, []), (92, 3, .getfield 512, [9, 1144, 8, 0]), (95, 1, .ireturn, [])]
def sT101 : List sEt := [(0, 1, .aload_n 0, []), (1, 1, .iload_n 1, []), (2, 3, .invokevirtual 41, [146, 5041]), (5, 1, .istore_n 3, []), (6, 1, .aload_n 0, []), (7, 1, .aload_n 0, []), (8, 1, .iload_n 1, []), (9, 3, .invokevirtual 25, [139, 5042]), (12, 3, .invokevirtual 44, [149, 5043]), (15, 2, .lstore 4, []), (17, 1, .aload_n 0, []), (18, 1, .iload_n 3, []), (19, 3, .invokevirtual 23, [153, 5044]), (22, 3, .ifCond .eq 26, []), (25, 1, .iload_n 3, []), (26, 1, .iload_n 2, []), (27, 3, .if_icmp .eq 21, []), (30, 1, .aload_n 0, []), (31, 3, .getfield 208, [125, 1100, 3, 0]), (34, 1, .iload_n 2, []), (35, 1, .laload, []), (36, 2, .lload 4, []), (38, 1, .land, []), (39, 1, .lconst 0, []), (40, 1, .lcmp, []), (41, 3, .ifCond .eq 7, []), (44, 1, .iconst 1, []), (45, 3, .goto 4, []), (48, 1, .iconst 0, []), (49, 1, .ireturn, [])]
def sT102 : List sEt := [(0, 1, .iconst 0, []), (1, 1, .istore_n 2, []), (2, 1, .iload_n 2, []), (3, 2, .bipush 7, []), (5, 3, .if_icmp .ge 24, []), (8, 1, .iload_n 2, []), (9, 1, .aload_n 1, []), (10, 1, .arraylength, []), (11, 3, .if_icmp .ge 18, []), (14, 1, .aload_n 0, []), (15, 3, .getfield 521, [42, 1157, 8, 0]), (18, 1, .iload_n 2, []), (19, 1, .aload_n 1, []), (20, 1, .iload_n 2, []), (21, 1, .laload, []), (22, 1, .lastore, []), (23, 3, .iinc 2 1, []), (26, 3, .goto (-24), []), (29, 1, .return_, [])]
def sT103 : List sEt := [(0, 1, .aload_n 1, []), (1, 1, .aload_n 2, []), (2, 1, .iconst 0, []), (3, 3, .invokevirtual 54, [157, 5072]), (6, 1, .lstore_n 3, []), (7, 1, .aload_n 1, []), (8, 1, .aload_n 2, []), (9, 1, .iconst 1, []), (10, 3, .invokevirtual 54, [157, 5072]), (13, 2, .lstore 5, []), (15, 1, .aload_n 0, []), (16, 1, .iconst 0, []), (17, 3, .putfield 513, [15, 1146, 8, 0]), (20, 1, .aload_n 0, []), (21, 1, .aload_n 1, []), (22, 3, .getfield 194, [101, 1077, 3, 0]), (25, 3, .putfield 514, [18, 1148, 8, 0]), (28, 1, .aload_n 0, []), (29, 1, .aload_n 1, []), (30, 3, .getfield 194, [101, 1077, 3, 0]), (33, 3, .putfield 515, [22, 1150, 8, 0]), (36, 1, .aload_n 0, []), (37, 1, .aload_n 1, []), (38, 1, .iconst 1, []), (39, 1, .iconst 1, []), (40, 3, .invokevirtual 92, [93, 4200]), (43, 1, .iconst 0, []), (44, 2, .istore 7, []), (46, 2, .iload 7, []), (48, 1, .aload_n 0, []), (49, 3, .getfield 518, [31, 1154, 8, 0]), (52, 3, .if_icmp .ge 88, []), (55, 1, .lload_n 3, []), (56, 1, .aload_n 0, []), (57, 3, .getfield 520, [38, 1156, 8, 0]), (60, 2, .iload 7, []), (62, 1, .laload, []), (63, 3, .ldc2_w 18446744073709551615, [104, 4221]), (66, 1, .lxor, []), (67, 1, .land, []), (68, 1, .lconst 0, []), (69, 1, .lcmp, []), (70, 3, .ifCond .ne 64, []), (73, 2, .lload 5, []), (75, 1, .aload_n 0, []), (76, 3, .getfield 520, [38, 1156, 8, 0]), (79, 2, .iload 7, []), (81, 1, .laload, []), (82, 1, .land, []), (83, 1, .lconst 0, []), (84, 1, .lcmp, []), (85, 3, .ifCond .ne 49, []), (88, 1, .aload_n 0, []), (89, 1, .dup, []), (90, 3, .getfield 513, [15, 1146, 8, 0]), (93, 1, .iconst 1, []), (94, 1, .iadd, []), (95, 3, .putfield 513, [15, 1146, 8, 0]), (98, 1, .aload_n 0, []), (99, 1, .dup, []), (100, 3, .getfield 514, [18, 1148, 8, 0]), (103, 1, .aload_n 0, []), (104, 3, .getfield 520, [38, 1156, 8, 0]), (107, 2, .iload 7, []), (109, 1, .laload, []), (110, 1, .land, []), (111, 3, .putfield 514, [18, 1148, 8, 0]), (114, 1, .aload_n 0, []), (115, 1, .dup, []), (116, 3, .getfield 515, [22, 1150, 8, 0]), (119, 1, .aload_n 0, []), (120, 3, .getfield 520, [38, 1156, 8, 0]), (123, 2, .iload 7, []), (125, 1, .laload, []), (126, 3, .ldc2_w 18446744073709551615, [104, 4221]), (129, 1, .lxor, []), (130, 1, .land, []), (131, 3, .putfield 515, [22, 1150, 8, 0]), (134, 3, .iinc 7 1, []), (137, 3, .goto (-91), []), (140, 1, .aload_n 0, []), (141, 3, .getfield 513, [15, 1146, 8, 0]), (144, 3, .ifCond .ne 13, []), (147, 1, .aload_n 0, []), (148, 1, .lconst 0, []), (149, 3, .putfield 514, [18, 1148, 8, 0]), (152, 1, .aload_n 0, []), (153, 1, .lconst 0, []), (154, 3, .putfield 515, [22, 1150, 8, 0]), (157, 1, .return_, [])]
def sT104 : List sEt := [(0, 1, .aload_n 0, []), (1, 1, .iload_n 1, []), (2, 1, .iload_n 2, []), (3, 1, .aload_n 3, []), (4, 3, .invokespecial 9, [1, 2069]), (7, 1, .return_, [])]
def sT105 : List sEt := [(0, 1, .iload_n 1, []), (1, 1, .iconst 1, []), (2, 3, .if_icmp .eq 11, []), (5, 1, .aload_n 0, []), (6, 1, .iload_n 1, []), (7, 3, .invokespecial 10, [7, 2226, 2219, 2130]), (10, 3, .ifCond .eq 7, []), (13, 1, .iconst 1, []), (14, 3, .goto 4, []), (17, 1, .iconst 0, []), (18, 1, .ireturn, [])]
def sT106 : List sEt := [(0, 1, .aload_n 1, []), (1, 1, .aload_n 0, []), (2, 3, .getfield 130, [11, 2087, 9, 2088]), (5, 3, .invokevirtual 29, [17, 3051]), (8, 1, .lreturn, [])]
def sT107 : List sEt := [(0, 1, .aload_n 0, []), (1, 3, .getfield 133, [23, 2106, 9, 2107]), (4, 2, .bipush 20, []), (6, 3, .invokevirtual 87, [27, 5099]), (9, 1, .aload_n 0, []), (10, 1, .iload_n 1, []), (11, 3, .invokespecial 13, [33, 5100, 5088, 2130]), (14, 1, .aload_n 0, []), (15, 3, .getfield 130, [11, 2087, 9, 2088]), (18, 1, .iadd, []), (19, 1, .ireturn, [])]
def sT108 : List sEt := [(0, 1, .aload_n 0, []), (1, 1, .iload_n 1, []), (2, 1, .iload_n 2, []), (3, 1, .aload_n 3, []), (4, 3, .invokespecial 5, [1, 2188]), (7, 1, .return_, [])]
def sT109 : List sEt := [(0, 1, .iload_n 1, []), (1, 2, .bipush 6, []), (3, 3, .if_icmp .eq 11, []), (6, 1, .aload_n 0, []), (7, 1, .iload_n 1, []), (8, 3, .invokespecial 6, [7, 3006, 7154, 2195]), (11, 3, .ifCond .eq 7, []), (14, 1, .iconst 1, []), (15, 3, .goto 4, []), (18, 1, .iconst 0, []), (19, 1, .ireturn, [])]
def sT110 : List sEt := [(0, 1, .aload_n 1, []), (1, 3, .getfield 194, [11, 1076, 3, 0]), (4, 1, .aload_n 1, []), (5, 1, .aload_n 0, []), (6, 3, .getfield 130, [17, 2089, 10, 2090]), (9, 1, .aload_n 0, []), (10, 3, .getfield 131, [23, 2097, 10, 2098]), (13, 1, .aload_n 0, []), (14, 3, .getfield 132, [26, 2103, 10, 2104]), (17, 3, .invokevirtual 31, [29, 3055]), (20, 3, .ldc2_w 18446744073709551615, [33, 3056]), (23, 1, .lxor, []), (24, 1, .land, []), (25, 1, .lreturn, [])]
def sT111 : List sEt := [(0, 1, .aload_n 0, []), (1, 3, .getfield 133, [35, 2108, 10, 2109]), (4, 2, .bipush 70, []), (6, 3, .invokevirtual 87, [39, 5108]), (9, 1, .aload_n 0, []), (10, 1, .iload_n 1, []), (11, 3, .invokespecial 13, [45, 5109, 5110, 2195, 2143]), (14, 1, .iconst 2, []), (15, 1, .imul, []), (16, 1, .ireturn, [])]
def sT112 : List sEt := [(0, 1, .aload_n 0, []), (1, 3, .getfield 133, [35, 2108, 10, 2109]), (4, 2, .bipush 71, []), (6, 3, .invokevirtual 87, [39, 5108]), (9, 1, .aload_n 0, []), (10, 1, .iload_n 1, []), (11, 1, .aload_n 0, []), (12, 3, .getfield 130, [17, 2089, 10, 2090]), (15, 1, .isub, []), (16, 3, .invokespecial 8, [49, 5133, 7156, 2195]), (19, 1, .ireturn, [])]
def sT113 : List sEt := [(0, 1, .aload_n 0, []), (1, 3, .invokespecial 2000, [3, 1026, 1027, 1028]), (4, 1, .aload_n 0, []), (5, 2, .bipush 8, []), (7, 3, .anewarray 3, [9, 1029]), (10, 3, .putfield 704, [11, 1179, 11, 0]), (13, 1, .aload_n 0, []), (14, 2, .bipush 8, []), (16, 3, .anewarray 4, [15, 1030]), (19, 3, .putfield 705, [17, 1180, 11, 0]), (22, 1, .aload_n 0, []), (23, 3, .new 7, [9, 1029, 1031, 1002]), (26, 1, .dup, []), (27, 3, .invokespecial 78, [21]), (30, 3, .putfield 706, [22, 1181, 11, 0]), (33, 1, .aload_n 0, []), (34, 3, .new 3, [26, 1051, 1052, 1003]), (37, 1, .dup, []), (38, 3, .invokespecial 16, [28, 1053]), (41, 3, .putfield 707, [29, 1182, 11, 0]), (44, 1, .aload_n 0, []), (45, 3, .new 3, [26, 1051, 1052, 1003]), (48, 1, .dup, []), (49, 3, .invokespecial 16, [28, 1053]), (52, 3, .putfield 708, [33, 1183, 11, 0]), (55, 1, .aload_n 0, []), (56, 3, .new 3, [26, 1051, 1052, 1003]), (59, 1, .dup, []), (60, 3, .invokespecial 16, [28, 1053]), (63, 3, .putfield 709, [36, 1184, 11, 0]), (66, 1, .aload_n 0, []), (67, 3, .new 8, [39, 1139, 1140, 1004]), (70, 1, .dup, []), (71, 3, .invokespecial 89, [41]), (74, 3, .putfield 710, [42, 1185, 11, 0]), (77, 1, .aload_n 0, []), (78, 2, .bipush 7, []), (80, 2, .newarray .long, [1050]), (82, 3, .putfield 711, [46, 1186, 11, 0]), (85, 1, .aload_n 0, []), (86, 2, .bipush 8, []), (88, 2, .newarray .int, [1137]), (90, 3, .putfield 712, [50, 1187, 11, 0]), (93, 1, .aload_n 0, []), (94, 1, .iconst 0, []), (95, 3, .putfield 713, [54, 1188, 11, 0]), (98, 1, .aload_n 0, []), (99, 1, .iconst (-1), []), (100, 3, .putfield 714, [58, 1189, 11, 0]), (103, 1, .iconst 0, []), (104, 1, .istore_n 1, []), (105, 1, .iload_n 1, []), (106, 2, .bipush 8, []), (108, 3, .if_icmp .ge 22, []), (111, 1, .aload_n 0, []), (112, 3, .getfield 704, [11, 1179, 11, 0]), (115, 1, .iload_n 1, []), (116, 3, .new 7, [9, 1029, 1031, 1002]), (119, 1, .dup, []), (120, 3, .invokespecial 78, [21]), (123, 1, .aastore, []), (124, 3, .iinc 1 1, []), (127, 3, .goto (-22), []), (130, 1, .return_, [])]
def sT114 : List sEt := [(0, 1, .iload_n 1, []), (1, 3, .invokestatic 160, [62, 1217]), (4, 3, .ifCond .ne 9, []), (7, 1, .aload_n 0, []), (8, 1, .iconst (-1), []), (9, 3, .invokevirtual 157, [66, 1220]), (12, 1, .ireturn, []), (13, 1, .iload_n 3, []), (14, 3, .ifCond .ge 10, []), (17, 1, .aload_n 0, []), (18, 2, .bipush (-4), []), (20, 3, .invokevirtual 157, [66, 1220]), (23, 1, .ireturn, []), (24, 1, .iload_n 2, []), (25, 3, .ifCond .lt 8, []), (28, 1, .iload_n 2, []), (29, 1, .iconst 3, []), (30, 3, .if_icmp .le 10, []), (33, 1, .aload_n 0, []), (34, 2, .bipush (-6), []), (36, 3, .invokevirtual 157, [66, 1220]), (39, 1, .ireturn, []), (40, 1, .iload_n 3, []), (41, 2, .bipush 100, []), (43, 3, .if_icmp .le 10, []), (46, 1, .aload_n 0, []), (47, 2, .bipush (-7), []), (49, 3, .invokevirtual 157, [66, 1220]), (52, 1, .ireturn, []), (53, 1, .aload_n 0, []), (54, 3, .getfield 705, [17, 1180, 11, 0]), (57, 1, .iload_n 1, []), (58, 1, .aconst_null, []), (59, 1, .aastore, []), (60, 1, .aload_n 0, []), (61, 3, .getfield 704, [11, 1179, 11, 0]), (64, 1, .iload_n 1, []), (65, 1, .aaload, []), (66, 1, .iload_n 2, []), (67, 1, .iload_n 3, []), (68, 3, .invokevirtual 79, [70, 1226]), (71, 1, .iconst 1, []), (72, 1, .ireturn, [])]
def sT115 : List sEt := [(0, 1, .aload_n 0, []), (1, 1, .iload_n 1, []), (2, 3, .invokevirtual 161, [74, 2007]), (5, 2, .istore 5, []), (7, 2, .iload 5, []), (9, 3, .ifCond .eq 10, []), (12, 1, .aload_n 0, []), (13, 2, .iload 5, []), (15, 3, .invokevirtual 157, [66, 1220]), (18, 1, .ireturn, []), (19, 1, .aload_n 0, []), (20, 3, .getfield 704, [11, 1179, 11, 0]), (23, 1, .iload_n 1, []), (24, 1, .aaload, []), (25, 1, .iload_n 2, []), (26, 3, .invokevirtual 82, [77, 2014]), (29, 3, .ifCond .ne 10, []), (32, 1, .aload_n 0, []), (33, 2, .bipush (-5), []), (35, 3, .invokevirtual 157, [66, 1220]), (38, 1, .ireturn, []), (39, 1, .aload_n 0, []), (40, 3, .getfield 704, [11, 1179, 11, 0]), (43, 1, .iload_n 1, []), (44, 1, .aaload, []), (45, 1, .iload_n 2, []), (46, 1, .lload_n 3, []), (47, 3, .invokevirtual 86, [80, 2018]), (50, 1, .iconst 1, []), (51, 1, .ireturn, [])]
def sT116 : List sEt := [(0, 1, .aload_n 0, []), (1, 1, .iload_n 1, []), (2, 3, .invokevirtual 161, [74, 2007]), (5, 1, .aload_n 0, []), (6, 1, .iload_n 2, []), (7, 3, .invokevirtual 161, [74, 2007]), (10, 3, .invokestatic 159, [84, 2031]), (13, 2, .istore 6, []), (15, 2, .iload 6, []), (17, 3, .ifCond .eq 10, []), (20, 1, .aload_n 0, []), (21, 2, .iload 6, []), (23, 3, .invokevirtual 157, [66, 1220]), (26, 1, .ireturn, []), (27, 1, .aload_n 0, []), (28, 3, .getfield 704, [11, 1179, 11, 0]), (31, 1, .iload_n 1, []), (32, 1, .aaload, []), (33, 3, .getfield 448, [88, 1036, 7, 0]), (36, 1, .aload_n 0, []), (37, 3, .getfield 704, [11, 1179, 11, 0]), (40, 1, .iload_n 2, []), (41, 1, .aaload, []), (42, 3, .getfield 448, [88, 1036, 7, 0]), (45, 3, .if_icmp .eq 10, []), (48, 1, .aload_n 0, []), (49, 2, .bipush (-2), []), (51, 3, .invokevirtual 157, [66, 1220]), (54, 1, .ireturn, []), (55, 2, .iload 5, []), (57, 3, .ifCond .ge 10, []), (60, 1, .aload_n 0, []), (61, 2, .bipush (-4), []), (63, 3, .invokevirtual 157, [66, 1220]), (66, 1, .ireturn, []), (67, 1, .aload_n 0, []), (68, 3, .getfield 704, [11, 1179, 11, 0]), (71, 1, .iload_n 1, []), (72, 1, .aaload, []), (73, 1, .iload_n 3, []), (74, 2, .iload 5, []), (76, 3, .invokevirtual 83, [91, 2035]), (79, 3, .ifCond .eq 19, []), (82, 1, .aload_n 0, []), (83, 3, .getfield 704, [11, 1179, 11, 0]), (86, 1, .iload_n 2, []), (87, 1, .aaload, []), (88, 2, .iload 4, []), (90, 2, .iload 5, []), (92, 3, .invokevirtual 83, [91, 2035]), (95, 3, .ifCond .ne 10, []), (98, 1, .aload_n 0, []), (99, 2, .bipush (-5), []), (101, 3, .invokevirtual 157, [66, 1220]), (104, 1, .ireturn, []), (105, 1, .aload_n 0, []), (106, 3, .getfield 704, [11, 1179, 11, 0]), (109, 1, .iload_n 1, []), (110, 1, .aaload, []), (111, 3, .getfield 450, [95, 1042, 7, 0]), (114, 1, .iload_n 3, []), (115, 1, .aload_n 0, []), (116, 3, .getfield 704, [11, 1179, 11, 0]), (119, 1, .iload_n 2, []), (120, 1, .aaload, []), (121, 3, .getfield 450, [95, 1042, 7, 0]), (124, 2, .iload 4, []), (126, 2, .iload 5, []), (128, 3, .invokestatic 1003, [98, 2039, 2041, 2040, 1007]), (131, 1, .iconst 1, []), (132, 1, .ireturn, [])]
def sT117 : List sEt := [(0, 1, .aload_n 0, []), (1, 1, .iload_n 1, []), (2, 3, .invokevirtual 161, [74, 2007]), (5, 3, .ifCond .ne 16, []), (8, 1, .aload_n 0, []), (9, 3, .getfield 704, [11, 1179, 11, 0]), (12, 1, .iload_n 1, []), (13, 1, .aaload, []), (14, 1, .iload_n 2, []), (15, 3, .invokevirtual 84, [104, 2046]), (18, 3, .goto 4, []), (21, 1, .lconst 0, []), (22, 1, .lreturn, [])]
def sT118 : List sEt := [(0, 1, .iload_n 1, []), (1, 3, .invokestatic 160, [62, 1217]), (4, 3, .ifCond .eq 13, []), (7, 1, .iload_n 2, []), (8, 3, .sipush 1000, []), (11, 1, .idiv, []), (12, 2, .bipush 7, []), (14, 3, .if_icmp .lt 9, []), (17, 1, .aload_n 0, []), (18, 1, .iconst (-1), []), (19, 3, .invokevirtual 157, [66, 1220]), (22, 1, .ireturn, []), (23, 1, .iload_n 2, []), (24, 1, .iconst (-1), []), (25, 3, .if_icmp .lt 15, []), (28, 1, .iload_n 2, []), (29, 1, .iconst (-1), []), (30, 3, .if_icmp .eq 17, []), (33, 1, .iload_n 2, []), (34, 3, .invokestatic 163, [108, 2054]), (37, 3, .ifCond .ne 10, []), (40, 1, .aload_n 0, []), (41, 2, .bipush (-6), []), (43, 3, .invokevirtual 157, [66, 1220]), (46, 1, .ireturn, []), (47, 1, .aload_n 0, []), (48, 3, .getfield 704, [11, 1179, 11, 0]), (51, 1, .iload_n 1, []), (52, 1, .aaload, []), (53, 3, .invokevirtual 80, [111, 2057]), (56, 1, .aload_n 0, []), (57, 3, .getfield 705, [17, 1180, 11, 0]), (60, 1, .iload_n 1, []), (61, 1, .iload_n 2, []), (62, 1, .iconst (-1), []), (63, 3, .if_icmp .ne 7, []), (66, 1, .aconst_null, []), (67, 3, .goto 9, []), (70, 1, .aload_n 0, []), (71, 1, .iload_n 1, []), (72, 1, .iload_n 2, []), (73, 3, .invokevirtual 164, [114, 2061]), (76, 1, .aastore, []), (77, 1, .iload_n 2, []), (78, 1, .iconst (-1), []), (79, 3, .if_icmp .ne 7, []), (82, 1, .iconst 0, []), (83, 3, .goto 4, []), (86, 1, .iconst 1, []), (87, 1, .ireturn, [])]
def sT119 : List sEt := [(0, 1, .iload_n 1, []), (1, 3, .invokestatic 160, [62, 1217]), (4, 3, .ifCond .ne 5, []), (7, 1, .iconst (-1), []), (8, 1, .ireturn, []), (9, 1, .aload_n 0, []), (10, 3, .getfield 705, [17, 1180, 11, 0]), (13, 1, .iload_n 1, []), (14, 1, .aaload, []), (15, 3, .ifnull 13, []), (18, 1, .aload_n 0, []), (19, 3, .getfield 705, [17, 1180, 11, 0]), (22, 1, .iload_n 1, []), (23, 1, .aaload, []), (24, 3, .getfield 128, [118, 2074, 2, 0]), (27, 1, .ireturn, []), (28, 1, .aload_n 0, []), (29, 3, .getfield 704, [11, 1179, 11, 0]), (32, 1, .iload_n 1, []), (33, 1, .aaload, []), (34, 3, .invokevirtual 81, [121, 2010]), (37, 3, .ifCond .eq 19, []), (40, 3, .sipush 10000, []), (43, 1, .aload_n 0, []), (44, 3, .getfield 704, [11, 1179, 11, 0]), (47, 1, .iload_n 1, []), (48, 1, .aaload, []), (49, 3, .getfield 448, [88, 1036, 7, 0]), (52, 1, .iadd, []), (53, 3, .goto 4, []), (56, 1, .iconst (-1), []), (57, 1, .ireturn, [])]
def sT120 : List sEt := [(0, 1, .aload_n 0, []), (1, 1, .iload_n 1, []), (2, 3, .invokevirtual 162, [125, 2213]), (5, 1, .istore_n 3, []), (6, 1, .iload_n 3, []), (7, 1, .iconst (-1), []), (8, 3, .if_icmp .eq 13, []), (11, 1, .iload_n 2, []), (12, 3, .ifCond .lt 9, []), (15, 1, .iload_n 2, []), (16, 2, .bipush 7, []), (18, 3, .if_icmp .lt 9, []), (21, 1, .aload_n 0, []), (22, 1, .iconst (-1), []), (23, 3, .invokevirtual 157, [66, 1220]), (26, 1, .ireturn, []), (27, 1, .iload_n 3, []), (28, 3, .ifCond .eq 9, []), (31, 1, .aload_n 0, []), (32, 1, .iload_n 3, []), (33, 3, .invokevirtual 157, [66, 1220]), (36, 1, .ireturn, []), (37, 1, .aload_n 0, []), (38, 3, .getfield 705, [17, 1180, 11, 0]), (41, 1, .iload_n 1, []), (42, 1, .aaload, []), (43, 1, .iload_n 2, []), (44, 3, .invokevirtual 1000, [128, 2216]), (47, 3, .ifCond .ne 10, []), (50, 1, .aload_n 0, []), (51, 2, .bipush (-2), []), (53, 3, .invokevirtual 157, [66, 1220]), (56, 1, .ireturn, []), (57, 1, .aload_n 0, []), (58, 1, .aload_n 0, []), (59, 3, .getfield 705, [17, 1180, 11, 0]), (62, 1, .iload_n 1, []), (63, 1, .aaload, []), (64, 1, .iload_n 2, []), (65, 3, .invokevirtual 166, [131, 3008]), (68, 1, .ireturn, [])]
def sT121 : List sEt := [(0, 1, .aload_n 0, []), (1, 1, .iload_n 1, []), (2, 3, .invokevirtual 162, [125, 2213]), (5, 3, .ifCond .ne 17, []), (8, 1, .aload_n 0, []), (9, 1, .aload_n 0, []), (10, 3, .getfield 705, [17, 1180, 11, 0]), (13, 1, .iload_n 1, []), (14, 1, .aaload, []), (15, 1, .iload_n 2, []), (16, 3, .invokevirtual 165, [135, 3011]), (19, 3, .goto 4, []), (22, 1, .lconst 0, []), (23, 1, .lreturn, [])]
def sT122 : List sEt := [(0, 1, .aload_n 0, []), (1, 1, .iload_n 1, []), (2, 3, .invokevirtual 161, [74, 2007]), (5, 1, .istore_n 2, []), (6, 1, .iload_n 2, []), (7, 3, .ifCond .eq 9, []), (10, 1, .aload_n 0, []), (11, 1, .iload_n 2, []), (12, 3, .invokevirtual 157, [66, 1220]), (15, 1, .ireturn, []), (16, 1, .aload_n 0, []), (17, 3, .getfield 709, [36, 1184, 11, 0]), (20, 1, .aload_n 0, []), (21, 3, .getfield 707, [29, 1182, 11, 0]), (24, 3, .invokevirtual 18, [139, 3091]), (27, 3, .new 6, [143, 3095, 3096, 1016]), (30, 1, .dup, []), (31, 1, .aload_n 0, []), (32, 3, .getfield 704, [11, 1179, 11, 0]), (35, 1, .iload_n 1, []), (36, 1, .aaload, []), (37, 1, .aload_n 0, []), (38, 3, .getfield 709, [36, 1184, 11, 0]), (41, 3, .invokespecial 64, [145, 3097]), (44, 1, .astore_n 3, []), (45, 1, .aload_n 3, []), (46, 3, .invokevirtual 65, [148, 3115]), (49, 2, .istore 4, []), (51, 1, .aload_n 0, []), (52, 1, .aload_n 3, []), (53, 3, .getfield 384, [152, 3102, 6, 0]), (56, 3, .putfield 714, [58, 1189, 11, 0]), (59, 1, .aload_n 0, []), (60, 3, .getfield 714, [58, 1189, 11, 0]), (63, 1, .iconst (-1), []), (64, 3, .if_icmp .eq 10, []), (67, 1, .aload_n 0, []), (68, 2, .bipush (-6), []), (70, 3, .invokevirtual 157, [66, 1220]), (73, 1, .ireturn, []), (74, 1, .aload_n 0, []), (75, 3, .getfield 707, [29, 1182, 11, 0]), (78, 1, .aload_n 0, []), (79, 3, .getfield 709, [36, 1184, 11, 0]), (82, 3, .invokevirtual 18, [139, 3091]), (85, 2, .iload 4, []), (87, 1, .ireturn, [])]
def sT123 : List sEt := [(0, 1, .aload_n 0, []), (1, 3, .getfield 714, [58, 1189, 11, 0]), (4, 1, .ireturn, [])]
def sT124 : List sEt := [(0, 1, .iload_n 1, []), (1, 1, .iconst 2, []), (2, 3, .if_icmp .lt 20, []), (5, 1, .iload_n 1, []), (6, 2, .bipush 8, []), (8, 3, .if_icmp .gt 14, []), (11, 1, .iload_n 2, []), (12, 1, .iconst 2, []), (13, 3, .if_icmp .lt 9, []), (16, 1, .iload_n 2, []), (17, 2, .bipush 8, []), (19, 3, .if_icmp .le 10, []), (22, 1, .aload_n 0, []), (23, 2, .bipush (-6), []), (25, 3, .invokevirtual 157, [66, 1220]), (28, 1, .ireturn, []), (29, 1, .aload_n 0, []), (30, 3, .getfield 707, [29, 1182, 11, 0]), (33, 1, .iload_n 1, []), (34, 1, .iload_n 2, []), (35, 3, .invokevirtual 17, [155, 4023]), (38, 1, .iconst 1, []), (39, 1, .ireturn, [])]
def sT125 : List sEt := [(0, 1, .aload_n 0, []), (1, 3, .getfield 707, [29, 1182, 11, 0]), (4, 1, .iload_n 1, []), (5, 3, .invokevirtual 22, [158, 4028]), (8, 3, .ifCond .eq 13, []), (11, 1, .iload_n 2, []), (12, 3, .ifCond .lt 9, []), (15, 1, .iload_n 2, []), (16, 2, .bipush 6, []), (18, 3, .if_icmp .lt 9, []), (21, 1, .aload_n 0, []), (22, 1, .iconst (-1), []), (23, 3, .invokevirtual 157, [66, 1220]), (26, 1, .ireturn, []), (27, 1, .aload_n 0, []), (28, 3, .getfield 707, [29, 1182, 11, 0]), (31, 1, .iload_n 1, []), (32, 3, .invokevirtual 32, [161, 4032]), (35, 1, .istore_n 3, []), (36, 1, .aload_n 0, []), (37, 3, .getfield 707, [29, 1182, 11, 0]), (40, 1, .aload_n 0, []), (41, 3, .getfield 707, [29, 1182, 11, 0]), (44, 1, .iload_n 1, []), (45, 3, .invokevirtual 25, [164, 4041]), (48, 1, .iload_n 2, []), (49, 3, .invokevirtual 33, [167, 4042]), (52, 1, .iload_n 3, []), (53, 1, .ireturn, [])]
def sT126 : List sEt := [(0, 1, .aload_n 0, []), (1, 1, .iload_n 1, []), (2, 1, .iload_n 2, []), (3, 3, .invokevirtual 167, [171, 4047]), (6, 3, .ifCond .ne 12, []), (9, 1, .aload_n 0, []), (10, 2, .bipush (-6), []), (12, 2, .bipush (-16), []), (14, 3, .invokevirtual 158, [174, 1223]), (17, 1, .ireturn, []), (18, 1, .aload_n 0, []), (19, 3, .getfield 707, [29, 1182, 11, 0]), (22, 1, .iload_n 1, []), (23, 3, .invokevirtual 34, [177, 4050]), (26, 1, .istore_n 3, []), (27, 1, .aload_n 0, []), (28, 3, .getfield 707, [29, 1182, 11, 0]), (31, 1, .iload_n 1, []), (32, 1, .iload_n 2, []), (33, 3, .invokevirtual 35, [180, 4054]), (36, 1, .iload_n 3, []), (37, 1, .ireturn, [])]
def sT127 : List sEt := [(0, 1, .iload_n 1, []), (1, 1, .iconst 1, []), (2, 3, .if_icmp .lt 9, []), (5, 1, .iload_n 1, []), (6, 2, .bipush 9, []), (8, 3, .if_icmp .le 10, []), (11, 1, .aload_n 0, []), (12, 2, .bipush (-6), []), (14, 3, .invokevirtual 157, [66, 1220]), (17, 1, .ireturn, []), (18, 1, .aload_n 0, []), (19, 3, .getfield 707, [29, 1182, 11, 0]), (22, 3, .getfield 203, [183, 1090, 3, 0]), (25, 1, .iconst 5, []), (26, 3, .if_icmp .lt 10, []), (29, 1, .aload_n 0, []), (30, 2, .bipush (-7), []), (32, 3, .invokevirtual 157, [66, 1220]), (35, 1, .ireturn, []), (36, 1, .aload_n 0, []), (37, 3, .getfield 707, [29, 1182, 11, 0]), (40, 1, .iload_n 1, []), (41, 3, .invokevirtual 36, [186, 4059]), (44, 1, .ireturn, [])]
def sT128 : List sEt := [(0, 1, .aload_n 0, []), (1, 3, .getfield 707, [29, 1182, 11, 0]), (4, 1, .iload_n 1, []), (5, 3, .invokevirtual 23, [189, 4064]), (8, 3, .ifCond .eq 13, []), (11, 1, .iload_n 2, []), (12, 3, .ifCond .lt 9, []), (15, 1, .iload_n 2, []), (16, 2, .bipush 6, []), (18, 3, .if_icmp .lt 9, []), (21, 1, .aload_n 0, []), (22, 1, .iconst (-1), []), (23, 3, .invokevirtual 157, [66, 1220]), (26, 1, .ireturn, []), (27, 1, .iload_n 3, []), (28, 3, .ifCond .lt 9, []), (31, 1, .iload_n 3, []), (32, 2, .bipush 99, []), (34, 3, .if_icmp .le 10, []), (37, 1, .aload_n 0, []), (38, 2, .bipush (-6), []), (40, 3, .invokevirtual 157, [66, 1220]), (43, 1, .ireturn, []), (44, 1, .aload_n 0, []), (45, 3, .getfield 707, [29, 1182, 11, 0]), (48, 3, .getfield 206, [192, 1096, 3, 0]), (51, 1, .iload_n 1, []), (52, 1, .aaload, []), (53, 1, .iload_n 2, []), (54, 1, .iaload, []), (55, 2, .istore 4, []), (57, 1, .aload_n 0, []), (58, 3, .getfield 707, [29, 1182, 11, 0]), (61, 3, .getfield 206, [192, 1096, 3, 0]), (64, 1, .iload_n 1, []), (65, 1, .aaload, []), (66, 1, .iload_n 2, []), (67, 1, .iload_n 3, []), (68, 1, .iastore, []), (69, 2, .iload 4, []), (71, 1, .ireturn, [])]
def sT129 : List sEt := [(0, 1, .aload_n 0, []), (1, 3, .getfield 707, [29, 1182, 11, 0]), (4, 1, .iload_n 1, []), (5, 3, .invokevirtual 23, [189, 4064]), (8, 3, .ifCond .ne 9, []), (11, 1, .aload_n 0, []), (12, 1, .iconst (-1), []), (13, 3, .invokevirtual 157, [66, 1220]), (16, 1, .ireturn, []), (17, 1, .aload_n 0, []), (18, 3, .getfield 707, [29, 1182, 11, 0]), (21, 3, .getfield 207, [196, 1098, 3, 0]), (24, 1, .iload_n 1, []), (25, 1, .baload, []), (26, 1, .istore_n 3, []), (27, 1, .aload_n 0, []), (28, 3, .getfield 707, [29, 1182, 11, 0]), (31, 3, .getfield 207, [196, 1098, 3, 0]), (34, 1, .iload_n 1, []), (35, 1, .iload_n 2, []), (36, 1, .bastore, []), (37, 1, .iload_n 3, []), (38, 1, .iload_n 2, []), (39, 3, .if_icmp .ne 7, []), (42, 1, .iconst 0, []), (43, 3, .goto 4, []), (46, 1, .iconst 1, []), (47, 1, .ireturn, [])]
def sT130 : List sEt := [(0, 1, .aload_n 0, []), (1, 3, .getfield 707, [29, 1182, 11, 0]), (4, 1, .iload_n 1, []), (5, 3, .invokevirtual 23, [189, 4064]), (8, 3, .ifCond .ne 10, []), (11, 1, .aload_n 0, []), (12, 2, .bipush (-5), []), (14, 3, .invokevirtual 157, [66, 1220]), (17, 1, .ireturn, []), (18, 1, .iload_n 2, []), (19, 2, .bipush 10, []), (21, 3, .if_icmp .lt 24, []), (24, 1, .iload_n 2, []), (25, 2, .bipush 16, []), (27, 3, .if_icmp .ge 18, []), (30, 1, .aload_n 0, []), (31, 3, .getfield 707, [29, 1182, 11, 0]), (34, 3, .getfield 206, [192, 1096, 3, 0]), (37, 1, .iload_n 1, []), (38, 1, .aaload, []), (39, 1, .iload_n 2, []), (40, 2, .bipush 10, []), (42, 1, .isub, []), (43, 1, .iaload, []), (44, 1, .ireturn, []), (45, 1, .iload_n 2, []), (46, 26, .tableswitch 67 0 2 #[26, 36, 54], []), (72, 1, .aload_n 0, []), (73, 3, .getfield 707, [29, 1182, 11, 0]), (76, 3, .getfield 205, [200, 1093, 3, 0]), (79, 1, .iload_n 1, []), (80, 1, .iaload, []), (81, 1, .ireturn, []), (82, 1, .aload_n 0, []), (83, 3, .getfield 707, [29, 1182, 11, 0]), (86, 3, .getfield 207, [196, 1098, 3, 0]), (89, 1, .iload_n 1, []), (90, 1, .baload, []), (91, 3, .ifCond .eq 7, []), (94, 1, .iconst 1, []), (95, 3, .goto 4, []), (98, 1, .iconst 0, []), (99, 1, .ireturn, []), (100, 1, .aload_n 0, []), (101, 3, .getfield 707, [29, 1182, 11, 0]), (104, 3, .getfield 208, [203, 1101, 3, 0]), (107, 1, .iload_n 1, []), (108, 1, .laload, []), (109, 3, .invokestatic 257, [206, 3077]), (112, 1, .ireturn, []), (113, 1, .aload_n 0, []), (114, 2, .bipush (-5), []), (116, 3, .invokevirtual 157, [66, 1220]), (119, 1, .ireturn, [])]
def sT131 : List sEt := [(0, 1, .aload_n 0, []), (1, 3, .getfield 707, [29, 1182, 11, 0]), (4, 1, .iload_n 1, []), (5, 3, .invokevirtual 23, [189, 4064]), (8, 3, .ifCond .eq 14, []), (11, 1, .aload_n 0, []), (12, 3, .getfield 707, [29, 1182, 11, 0]), (15, 1, .lload_n 2, []), (16, 3, .invokevirtual 24, [212, 4077]), (19, 3, .ifCond .ne 9, []), (22, 1, .aload_n 0, []), (23, 1, .iconst (-1), []), (24, 3, .invokevirtual 157, [66, 1220]), (27, 1, .ireturn, []), (28, 1, .aload_n 0, []), (29, 3, .getfield 707, [29, 1182, 11, 0]), (32, 1, .iload_n 1, []), (33, 1, .lload_n 2, []), (34, 3, .invokevirtual 37, [216, 4081]), (37, 1, .ireturn, [])]
def sT132 : List sEt := [(0, 1, .aload_n 0, []), (1, 3, .getfield 707, [29, 1182, 11, 0]), (4, 1, .iload_n 1, []), (5, 3, .invokevirtual 41, [220, 4091]), (8, 1, .ireturn, [])]
def sT133 : List sEt := [(0, 1, .aload_n 0, []), (1, 3, .getfield 707, [29, 1182, 11, 0]), (4, 1, .iload_n 3, []), (5, 3, .invokevirtual 40, [223, 4099]), (8, 2, .istore 4, []), (10, 1, .aload_n 0, []), (11, 3, .getfield 707, [29, 1182, 11, 0]), (14, 1, .lload_n 1, []), (15, 3, .invokevirtual 24, [212, 4077]), (18, 3, .ifCond .eq 9, []), (21, 2, .iload 4, []), (23, 1, .iconst (-1), []), (24, 3, .if_icmp .ne 9, []), (27, 1, .aload_n 0, []), (28, 1, .iconst (-1), []), (29, 3, .invokevirtual 157, [66, 1220]), (32, 1, .ireturn, []), (33, 1, .aload_n 0, []), (34, 3, .getfield 707, [29, 1182, 11, 0]), (37, 3, .getfield 208, [203, 1101, 3, 0]), (40, 1, .lload_n 1, []), (41, 2, .iload 4, []), (43, 3, .invokestatic 19, [226, 4103]), (46, 1, .lload_n 1, []), (47, 3, .invokestatic 257, [206, 3077]), (50, 1, .ireturn, [])]
def sT134 : List sEt := [(0, 1, .aload_n 0, []), (1, 1, .iload_n 1, []), (2, 3, .invokevirtual 162, [125, 2213]), (5, 2, .istore 4, []), (7, 1, .aload_n 0, []), (8, 3, .getfield 707, [29, 1182, 11, 0]), (11, 1, .iload_n 2, []), (12, 3, .invokevirtual 40, [223, 4099]), (15, 2, .istore 5, []), (17, 1, .aload_n 0, []), (18, 3, .getfield 707, [29, 1182, 11, 0]), (21, 1, .iload_n 3, []), (22, 3, .invokevirtual 40, [223, 4099]), (25, 2, .istore 6, []), (27, 2, .iload 4, []), (29, 1, .iconst (-1), []), (30, 3, .if_icmp .eq 15, []), (33, 2, .iload 5, []), (35, 1, .iconst (-1), []), (36, 3, .if_icmp .eq 9, []), (39, 2, .iload 6, []), (41, 1, .iconst (-1), []), (42, 3, .if_icmp .ne 9, []), (45, 1, .aload_n 0, []), (46, 1, .iconst (-1), []), (47, 3, .invokevirtual 157, [66, 1220]), (50, 1, .ireturn, []), (51, 2, .iload 4, []), (53, 3, .ifCond .eq 10, []), (56, 1, .aload_n 0, []), (57, 2, .iload 4, []), (59, 3, .invokevirtual 157, [66, 1220]), (62, 1, .ireturn, []), (63, 1, .aload_n 0, []), (64, 3, .getfield 711, [46, 1186, 11, 0]), (67, 3, .invokestatic 20, [230, 4108]), (70, 1, .aload_n 0, []), (71, 3, .getfield 711, [46, 1186, 11, 0]), (74, 2, .iload 5, []), (76, 1, .dup2, []), (77, 1, .laload, []), (78, 1, .aload_n 0, []), (79, 1, .aload_n 0, []), (80, 3, .getfield 705, [17, 1180, 11, 0]), (83, 1, .iload_n 1, []), (84, 1, .aaload, []), (85, 1, .iconst 0, []), (86, 3, .invokevirtual 165, [135, 3011]), (89, 1, .lor, []), (90, 1, .lastore, []), (91, 1, .aload_n 0, []), (92, 3, .getfield 711, [46, 1186, 11, 0]), (95, 2, .iload 6, []), (97, 1, .dup2, []), (98, 1, .laload, []), (99, 1, .aload_n 0, []), (100, 1, .aload_n 0, []), (101, 3, .getfield 705, [17, 1180, 11, 0]), (104, 1, .iload_n 1, []), (105, 1, .aaload, []), (106, 1, .iconst 1, []), (107, 3, .invokevirtual 165, [135, 3011]), (110, 1, .lor, []), (111, 1, .lastore, []), (112, 1, .aload_n 0, []), (113, 3, .getfield 711, [46, 1186, 11, 0]), (116, 1, .iconst 5, []), (117, 1, .dup2, []), (118, 1, .laload, []), (119, 1, .aload_n 0, []), (120, 1, .aload_n 0, []), (121, 3, .getfield 705, [17, 1180, 11, 0]), (124, 1, .iload_n 1, []), (125, 1, .aaload, []), (126, 1, .iconst 2, []), (127, 3, .invokevirtual 165, [135, 3011]), (130, 1, .lor, []), (131, 1, .lastore, []), (132, 1, .aload_n 0, []), (133, 3, .getfield 707, [29, 1182, 11, 0]), (136, 1, .aload_n 0, []), (137, 3, .getfield 711, [46, 1186, 11, 0]), (140, 3, .invokevirtual 43, [234, 4109]), (143, 1, .ireturn, [])]
def sT135 : List sEt := [(0, 1, .aload_n 0, []), (1, 1, .iload_n 1, []), (2, 3, .invokevirtual 161, [74, 2007]), (5, 1, .istore_n 2, []), (6, 1, .iload_n 2, []), (7, 3, .ifCond .eq 9, []), (10, 1, .aload_n 0, []), (11, 1, .iload_n 2, []), (12, 3, .invokevirtual 157, [66, 1220]), (15, 1, .ireturn, []), (16, 1, .aload_n 0, []), (17, 3, .getfield 711, [46, 1186, 11, 0]), (20, 3, .invokestatic 20, [230, 4108]), (23, 1, .iconst 0, []), (24, 1, .istore_n 3, []), (25, 1, .iload_n 3, []), (26, 1, .aload_n 0, []), (27, 3, .getfield 707, [29, 1182, 11, 0]), (30, 3, .invokevirtual 21, [238, 4117]), (33, 3, .if_icmp .ge 74, []), (36, 1, .aload_n 0, []), (37, 3, .getfield 704, [11, 1179, 11, 0]), (40, 1, .iload_n 1, []), (41, 1, .aaload, []), (42, 1, .iload_n 3, []), (43, 3, .invokevirtual 82, [77, 2014]), (46, 3, .ifCond .eq 23, []), (49, 1, .aload_n 0, []), (50, 3, .getfield 707, [29, 1182, 11, 0]), (53, 1, .aload_n 0, []), (54, 3, .getfield 704, [11, 1179, 11, 0]), (57, 1, .iload_n 1, []), (58, 1, .aaload, []), (59, 1, .iload_n 3, []), (60, 3, .invokevirtual 85, [241, 4118]), (63, 3, .invokevirtual 40, [223, 4099]), (66, 3, .goto 4, []), (69, 1, .iconst (-1), []), (70, 2, .istore 4, []), (72, 1, .aload_n 0, []), (73, 3, .getfield 711, [46, 1186, 11, 0]), (76, 2, .iload 4, []), (78, 1, .iconst (-1), []), (79, 3, .if_icmp .ne 8, []), (82, 2, .bipush 6, []), (84, 3, .goto 5, []), (87, 2, .iload 4, []), (89, 1, .dup2, []), (90, 1, .laload, []), (91, 1, .aload_n 0, []), (92, 3, .getfield 707, [29, 1182, 11, 0]), (95, 1, .iload_n 3, []), (96, 3, .invokevirtual 25, [164, 4041]), (99, 1, .lor, []), (100, 1, .lastore, []), (101, 3, .iinc 3 1, []), (104, 3, .goto (-79), []), (107, 1, .aload_n 0, []), (108, 3, .getfield 707, [29, 1182, 11, 0]), (111, 1, .aload_n 0, []), (112, 3, .getfield 711, [46, 1186, 11, 0]), (115, 3, .invokevirtual 43, [234, 4109]), (118, 1, .pop, []), (119, 1, .aload_n 0, []), (120, 3, .getfield 707, [29, 1182, 11, 0]), (123, 3, .invokevirtual 42, [244, 4119]), (126, 1, .ireturn, [])]
def sT136 : List sEt := [(0, 1, .aload_n 0, []), (1, 3, .getfield 707, [29, 1182, 11, 0]), (4, 1, .iload_n 1, []), (5, 3, .invokevirtual 40, [223, 4099]), (8, 1, .istore_n 2, []), (9, 1, .iload_n 2, []), (10, 1, .iconst (-1), []), (11, 3, .if_icmp .ne 7, []), (14, 1, .lconst 0, []), (15, 3, .goto 12, []), (18, 1, .aload_n 0, []), (19, 3, .getfield 707, [29, 1182, 11, 0]), (22, 3, .getfield 208, [203, 1101, 3, 0]), (25, 1, .iload_n 2, []), (26, 1, .laload, []), (27, 1, .lreturn, [])]
def sT137 : List sEt := [(0, 1, .aload_n 0, []), (1, 3, .getfield 707, [29, 1182, 11, 0]), (4, 1, .aload_n 0, []), (5, 3, .getfield 707, [29, 1182, 11, 0]), (8, 3, .getfield 208, [203, 1101, 3, 0]), (11, 3, .invokevirtual 47, [247, 4131]), (14, 1, .ireturn, [])]
def sT138 : List sEt := [(0, 1, .aload_n 0, []), (1, 3, .getfield 707, [29, 1182, 11, 0]), (4, 1, .aload_n 0, []), (5, 3, .getfield 707, [29, 1182, 11, 0]), (8, 3, .getfield 208, [203, 1101, 3, 0]), (11, 3, .invokevirtual 48, [250, 4139]), (14, 2, .bipush 100, []), (16, 1, .idiv, []), (17, 1, .ireturn, [])]
def sT139 : List sEt := [(0, 1, .aload_n 0, []), (1, 3, .getfield 707, [29, 1182, 11, 0]), (4, 1, .aload_n 0, []), (5, 3, .getfield 707, [29, 1182, 11, 0]), (8, 3, .getfield 208, [203, 1101, 3, 0]), (11, 3, .invokevirtual 48, [250, 4139]), (14, 1, .istore_n 1, []), (15, 1, .iload_n 1, []), (16, 3, .ifCond .ne 7, []), (19, 1, .iconst (-1), []), (20, 3, .goto 7, []), (23, 1, .iload_n 1, []), (24, 2, .bipush 100, []), (26, 1, .irem, []), (27, 1, .ireturn, [])]
def sT140 : List sEt := [(0, 1, .aload_n 0, []), (1, 3, .getfield 707, [29, 1182, 11, 0]), (4, 1, .lload_n 1, []), (5, 3, .invokevirtual 24, [212, 4077]), (8, 3, .ifCond .eq 14, []), (11, 1, .aload_n 0, []), (12, 3, .getfield 707, [29, 1182, 11, 0]), (15, 1, .lload_n 1, []), (16, 3, .invokevirtual 46, [253, 4184]), (19, 3, .goto 4, []), (22, 1, .iconst 0, []), (23, 1, .ireturn, [])]
def sT141 : List sEt := [(0, 1, .iload_n 1, []), (1, 3, .ifCond .lt 22, []), (4, 1, .iload_n 1, []), (5, 1, .iconst 2, []), (6, 3, .if_icmp .gt 17, []), (9, 1, .aload_n 0, []), (10, 3, .getfield 710, [42, 1185, 11, 0]), (13, 1, .aload_n 0, []), (14, 3, .getfield 707, [29, 1182, 11, 0]), (17, 3, .invokevirtual 97, [256, 4192]), (20, 3, .ifCond .ne 10, []), (23, 1, .aload_n 0, []), (24, 2, .bipush (-5), []), (26, 3, .invokevirtual 157, [66, 1220]), (29, 1, .ireturn, []), (30, 1, .aload_n 0, []), (31, 3, .getfield 710, [42, 1185, 11, 0]), (34, 1, .iload_n 1, []), (35, 3, .invokevirtual 90, [260, 4228]), (38, 1, .ireturn, [])]
def sT142 : List sEt := [(0, 1, .iload_n 1, []), (1, 3, .ifCond .lt 22, []), (4, 1, .iload_n 1, []), (5, 1, .iconst 2, []), (6, 3, .if_icmp .gt 17, []), (9, 1, .aload_n 0, []), (10, 3, .getfield 710, [42, 1185, 11, 0]), (13, 1, .aload_n 0, []), (14, 3, .getfield 707, [29, 1182, 11, 0]), (17, 3, .invokevirtual 98, [263, 4236]), (20, 3, .ifCond .ne 10, []), (23, 1, .aload_n 0, []), (24, 2, .bipush (-5), []), (26, 3, .invokevirtual 157, [66, 1220]), (29, 1, .ireturn, []), (30, 1, .aload_n 0, []), (31, 3, .getfield 710, [42, 1185, 11, 0]), (34, 1, .iload_n 1, []), (35, 3, .invokevirtual 90, [260, 4228]), (38, 1, .ireturn, [])]
def sT143 : List sEt := [(0, 1, .aload_n 0, []), (1, 3, .getfield 707, [29, 1182, 11, 0]), (4, 1, .iload_n 1, []), (5, 3, .invokevirtual 23, [189, 4064]), (8, 3, .ifCond .eq 14, []), (11, 1, .aload_n 0, []), (12, 3, .getfield 707, [29, 1182, 11, 0]), (15, 1, .iload_n 2, []), (16, 3, .invokevirtual 23, [189, 4064]), (19, 3, .ifCond .ne 9, []), (22, 1, .aload_n 0, []), (23, 1, .iconst (-1), []), (24, 3, .invokevirtual 157, [66, 1220]), (27, 1, .ireturn, []), (28, 1, .iload_n 3, []), (29, 3, .ifCond .lt 8, []), (32, 1, .iload_n 3, []), (33, 1, .iconst 3, []), (34, 3, .if_icmp .le 10, []), (37, 1, .aload_n 0, []), (38, 2, .bipush (-5), []), (40, 3, .invokevirtual 157, [66, 1220]), (43, 1, .ireturn, []), (44, 1, .iload_n 1, []), (45, 1, .iload_n 2, []), (46, 3, .if_icmp .ne 10, []), (49, 1, .aload_n 0, []), (50, 2, .bipush (-6), []), (52, 3, .invokevirtual 157, [66, 1220]), (55, 1, .ireturn, []), (56, 1, .aload_n 0, []), (57, 3, .getfield 710, [42, 1185, 11, 0]), (60, 1, .aload_n 0, []), (61, 3, .getfield 707, [29, 1182, 11, 0]), (64, 1, .iload_n 1, []), (65, 3, .invokevirtual 99, [266, 5009]), (68, 2, .lstore 4, []), (70, 1, .aload_n 0, []), (71, 3, .getfield 707, [29, 1182, 11, 0]), (74, 3, .getfield 194, [270, 1078, 3, 0]), (77, 2, .lload 4, []), (79, 3, .ldc2_w 18446744073709551615, [274, 3076]), (82, 1, .lxor, []), (83, 1, .land, []), (84, 2, .lstore 6, []), (86, 1, .aload_n 0, []), (87, 3, .getfield 707, [29, 1182, 11, 0]), (90, 1, .iload_n 2, []), (91, 2, .lload 6, []), (93, 3, .invokevirtual 37, [216, 4081]), (96, 1, .aload_n 0, []), (97, 3, .getfield 707, [29, 1182, 11, 0]), (100, 1, .iload_n 2, []), (101, 2, .lload 4, []), (103, 3, .invokevirtual 37, [216, 4081]), (106, 3, .if_icmp .le 7, []), (109, 1, .iconst 1, []), (110, 3, .goto 4, []), (113, 1, .iconst 0, []), (114, 2, .istore 8, []), (116, 1, .iload_n 3, []), (117, 27, .tableswitch 67 0 2 #[27, 35, 46], []), (144, 1, .aload_n 0, []), (145, 3, .getfield 710, [42, 1185, 11, 0]), (148, 3, .getfield 512, [276, 1145, 8, 0]), (151, 1, .ireturn, []), (152, 2, .iload 8, []), (154, 3, .ifCond .eq 7, []), (157, 1, .iconst 1, []), (158, 3, .goto 4, []), (161, 1, .iconst 0, []), (162, 1, .ireturn, []), (163, 1, .aload_n 0, []), (164, 3, .getfield 707, [29, 1182, 11, 0]), (167, 1, .iload_n 2, []), (168, 2, .iload 8, []), (170, 3, .ifCond .eq 8, []), (173, 2, .lload 6, []), (175, 3, .goto 5, []), (178, 2, .lload 4, []), (180, 3, .invokevirtual 37, [216, 4081]), (183, 1, .ireturn, []), (184, 1, .aload_n 0, []), (185, 3, .getfield 707, [29, 1182, 11, 0]), (188, 1, .iload_n 1, []), (189, 2, .iload 8, []), (191, 3, .ifCond .eq 8, []), (194, 2, .lload 4, []), (196, 3, .goto 5, []), (199, 2, .lload 6, []), (201, 3, .invokevirtual 37, [216, 4081]), (204, 1, .ireturn, [])]
def sT144 : List sEt := [(0, 1, .aload_n 0, []), (1, 3, .getfield 707, [29, 1182, 11, 0]), (4, 1, .iload_n 1, []), (5, 3, .invokevirtual 23, [189, 4064]), (8, 3, .ifCond .ne 9, []), (11, 1, .aload_n 0, []), (12, 1, .iconst (-1), []), (13, 3, .invokevirtual 157, [66, 1220]), (16, 1, .ireturn, []), (17, 1, .aload_n 0, []), (18, 3, .getfield 707, [29, 1182, 11, 0]), (21, 1, .iload_n 1, []), (22, 1, .aload_n 0, []), (23, 3, .getfield 707, [29, 1182, 11, 0]), (26, 3, .getfield 208, [203, 1101, 3, 0]), (29, 1, .iload_n 1, []), (30, 1, .laload, []), (31, 3, .invokevirtual 37, [216, 4081]), (34, 1, .istore_n 2, []), (35, 1, .iconst 0, []), (36, 1, .istore_n 3, []), (37, 1, .iconst 0, []), (38, 2, .istore 4, []), (40, 2, .iload 4, []), (42, 1, .aload_n 0, []), (43, 3, .getfield 707, [29, 1182, 11, 0]), (46, 3, .getfield 203, [183, 1090, 3, 0]), (49, 3, .if_icmp .ge 44, []), (52, 2, .iload 4, []), (54, 1, .iconst 5, []), (55, 3, .if_icmp .ge 38, []), (58, 1, .aload_n 0, []), (59, 3, .getfield 707, [29, 1182, 11, 0]), (62, 1, .iload_n 1, []), (63, 1, .aload_n 0, []), (64, 3, .getfield 707, [29, 1182, 11, 0]), (67, 3, .getfield 208, [203, 1101, 3, 0]), (70, 2, .iload 4, []), (72, 1, .laload, []), (73, 3, .invokevirtual 37, [216, 4081]), (76, 1, .iload_n 2, []), (77, 3, .if_icmp .le 10, []), (80, 1, .iload_n 3, []), (81, 1, .iconst 1, []), (82, 2, .iload 4, []), (84, 1, .ishl, []), (85, 1, .ior, []), (86, 1, .istore_n 3, []), (87, 3, .iinc 4 1, []), (90, 3, .goto (-50), []), (93, 1, .iload_n 3, []), (94, 1, .ireturn, [])]
def sT145 : List sEt := [(0, 1, .aload_n 0, []), (1, 3, .getfield 707, [29, 1182, 11, 0]), (4, 1, .iload_n 1, []), (5, 3, .invokevirtual 23, [189, 4064]), (8, 3, .ifCond .ne 12, []), (11, 1, .aload_n 0, []), (12, 1, .iconst (-1), []), (13, 3, .ldc_w 4293967295, [279, 5026]), (16, 3, .invokevirtual 158, [174, 1223]), (19, 1, .ireturn, []), (20, 1, .aload_n 0, []), (21, 3, .getfield 707, [29, 1182, 11, 0]), (24, 3, .invokevirtual 38, [280, 5027]), (27, 1, .istore_n 2, []), (28, 1, .iload_n 2, []), (29, 3, .ifCond .ne 7, []), (32, 1, .iconst 0, []), (33, 3, .goto 23, []), (36, 1, .aload_n 0, []), (37, 3, .getfield 707, [29, 1182, 11, 0]), (40, 1, .iload_n 1, []), (41, 1, .aload_n 0, []), (42, 3, .getfield 707, [29, 1182, 11, 0]), (45, 3, .getfield 208, [203, 1101, 3, 0]), (48, 1, .iload_n 1, []), (49, 1, .laload, []), (50, 3, .invokevirtual 39, [283, 5028]), (53, 1, .ineg, []), (54, 1, .iload_n 2, []), (55, 1, .idiv, []), (56, 1, .ireturn, [])]
def sT146 : List sEt := [(0, 1, .aload_n 0, []), (1, 3, .getfield 710, [42, 1185, 11, 0]), (4, 1, .aload_n 0, []), (5, 3, .getfield 707, [29, 1182, 11, 0]), (8, 3, .invokevirtual 100, [286, 5033]), (11, 1, .istore_n 1, []), (12, 1, .iload_n 1, []), (13, 1, .iconst (-1), []), (14, 3, .if_icmp .ne 12, []), (17, 1, .aload_n 0, []), (18, 2, .bipush (-5), []), (20, 3, .invokevirtual 157, [66, 1220]), (23, 3, .goto 4, []), (26, 1, .iload_n 1, []), (27, 1, .ireturn, [])]
def sT147 : List sEt := [(0, 1, .iload_n 1, []), (1, 1, .iconst 1, []), (2, 3, .if_icmp .lt 9, []), (5, 1, .iload_n 1, []), (6, 2, .bipush 20, []), (8, 3, .if_icmp .le 10, []), (11, 1, .aload_n 0, []), (12, 2, .bipush (-6), []), (14, 3, .invokevirtual 157, [66, 1220]), (17, 1, .ireturn, []), (18, 1, .iconst 0, []), (19, 1, .istore_n 2, []), (20, 1, .iload_n 2, []), (21, 1, .iload_n 1, []), (22, 3, .if_icmp .ge 53, []), (25, 1, .aload_n 0, []), (26, 3, .getfield 710, [42, 1185, 11, 0]), (29, 1, .aload_n 0, []), (30, 3, .getfield 707, [29, 1182, 11, 0]), (33, 3, .invokevirtual 100, [286, 5033]), (36, 1, .istore_n 3, []), (37, 1, .iload_n 3, []), (38, 1, .iconst (-1), []), (39, 3, .if_icmp .ne 5, []), (42, 1, .iload_n 2, []), (43, 1, .ireturn, []), (44, 1, .aload_n 0, []), (45, 3, .getfield 707, [29, 1182, 11, 0]), (48, 3, .getfield 208, [203, 1101, 3, 0]), (51, 1, .aload_n 0, []), (52, 3, .getfield 707, [29, 1182, 11, 0]), (55, 1, .iload_n 3, []), (56, 2, .bipush 10, []), (58, 1, .idiv, []), (59, 3, .invokevirtual 25, [164, 4041]), (62, 1, .iload_n 3, []), (63, 2, .bipush 10, []), (65, 1, .irem, []), (66, 3, .invokestatic 19, [226, 4103]), (69, 3, .iinc 2 1, []), (72, 3, .goto (-52), []), (75, 1, .iload_n 1, []), (76, 1, .ireturn, [])]
def sT148 : List sEt := [(0, 1, .aload_n 0, []), (1, 1, .iload_n 1, []), (2, 3, .invokevirtual 162, [125, 2213]), (5, 1, .aload_n 0, []), (6, 1, .iload_n 2, []), (7, 3, .invokevirtual 161, [74, 2007]), (10, 3, .invokestatic 159, [84, 2031]), (13, 1, .istore_n 3, []), (14, 1, .iload_n 3, []), (15, 3, .ifCond .eq 9, []), (18, 1, .aload_n 0, []), (19, 1, .iload_n 3, []), (20, 3, .invokevirtual 157, [66, 1220]), (23, 1, .ireturn, []), (24, 1, .aload_n 0, []), (25, 3, .getfield 707, [29, 1182, 11, 0]), (28, 1, .aload_n 0, []), (29, 3, .getfield 704, [11, 1179, 11, 0]), (32, 1, .iload_n 2, []), (33, 1, .aaload, []), (34, 1, .iconst 0, []), (35, 3, .invokevirtual 54, [290, 5058]), (38, 1, .aload_n 0, []), (39, 1, .aload_n 0, []), (40, 3, .getfield 705, [17, 1180, 11, 0]), (43, 1, .iload_n 1, []), (44, 1, .aaload, []), (45, 1, .iconst 0, []), (46, 3, .invokevirtual 165, [135, 3011]), (49, 3, .ldc2_w 18446744073709551615, [274, 3076]), (52, 1, .lxor, []), (53, 1, .land, []), (54, 2, .lstore 4, []), (56, 1, .aload_n 0, []), (57, 3, .getfield 707, [29, 1182, 11, 0]), (60, 1, .aload_n 0, []), (61, 3, .getfield 704, [11, 1179, 11, 0]), (64, 1, .iload_n 2, []), (65, 1, .aaload, []), (66, 1, .iconst 1, []), (67, 3, .invokevirtual 54, [290, 5058]), (70, 1, .aload_n 0, []), (71, 1, .aload_n 0, []), (72, 3, .getfield 705, [17, 1180, 11, 0]), (75, 1, .iload_n 1, []), (76, 1, .aaload, []), (77, 1, .iconst 1, []), (78, 3, .invokevirtual 165, [135, 3011]), (81, 3, .ldc2_w 18446744073709551615, [274, 3076]), (84, 1, .lxor, []), (85, 1, .land, []), (86, 2, .lstore 6, []), (88, 2, .lload 4, []), (90, 2, .lload 6, []), (92, 1, .lor, []), (93, 1, .lconst 0, []), (94, 1, .lcmp, []), (95, 3, .ifCond .ne 7, []), (98, 1, .iconst 1, []), (99, 3, .goto 4, []), (102, 1, .iconst 0, []), (103, 1, .ireturn, [])]
def sT149 : List sEt := [(0, 1, .aload_n 0, []), (1, 1, .iload_n 1, []), (2, 3, .invokevirtual 161, [74, 2007]), (5, 1, .istore_n 2, []), (6, 1, .iload_n 2, []), (7, 3, .ifCond .eq 9, []), (10, 1, .aload_n 0, []), (11, 1, .iload_n 2, []), (12, 3, .invokevirtual 157, [66, 1220]), (15, 1, .ireturn, []), (16, 1, .aload_n 0, []), (17, 3, .getfield 710, [42, 1185, 11, 0]), (20, 1, .aload_n 0, []), (21, 3, .getfield 707, [29, 1182, 11, 0]), (24, 1, .aload_n 0, []), (25, 3, .getfield 704, [11, 1179, 11, 0]), (28, 1, .iload_n 1, []), (29, 1, .aaload, []), (30, 3, .invokevirtual 103, [294, 5068]), (33, 1, .aload_n 0, []), (34, 3, .getfield 710, [42, 1185, 11, 0]), (37, 3, .getfield 513, [298, 1147, 8, 0]), (40, 1, .ireturn, [])]
def sT150 : List sEt := [(0, 1, .aload_n 0, []), (1, 1, .iload_n 1, []), (2, 3, .invokevirtual 161, [74, 2007]), (5, 1, .istore_n 3, []), (6, 1, .iload_n 3, []), (7, 3, .ifCond .eq 10, []), (10, 1, .aload_n 0, []), (11, 1, .iload_n 3, []), (12, 3, .invokevirtual 157, [66, 1220]), (15, 1, .i2l, []), (16, 1, .lreturn, []), (17, 1, .iload_n 2, []), (18, 3, .ifCond .lt 8, []), (21, 1, .iload_n 2, []), (22, 1, .iconst 1, []), (23, 3, .if_icmp .le 11, []), (26, 1, .aload_n 0, []), (27, 2, .bipush (-5), []), (29, 3, .invokevirtual 157, [66, 1220]), (32, 1, .i2l, []), (33, 1, .lreturn, []), (34, 1, .aload_n 0, []), (35, 3, .getfield 710, [42, 1185, 11, 0]), (38, 1, .aload_n 0, []), (39, 3, .getfield 707, [29, 1182, 11, 0]), (42, 1, .aload_n 0, []), (43, 3, .getfield 704, [11, 1179, 11, 0]), (46, 1, .iload_n 1, []), (47, 1, .aaload, []), (48, 3, .invokevirtual 103, [294, 5068]), (51, 1, .iload_n 2, []), (52, 3, .ifCond .ne 13, []), (55, 1, .aload_n 0, []), (56, 3, .getfield 710, [42, 1185, 11, 0]), (59, 3, .getfield 514, [301, 1149, 8, 0]), (62, 3, .goto 10, []), (65, 1, .aload_n 0, []), (66, 3, .getfield 710, [42, 1185, 11, 0]), (69, 3, .getfield 515, [304, 1151, 8, 0]), (72, 1, .lreturn, [])]
def sT151 : List sEt := [(0, 1, .aload_n 0, []), (1, 1, .iload_n 1, []), (2, 3, .invokevirtual 161, [74, 2007]), (5, 1, .istore_n 2, []), (6, 1, .iload_n 2, []), (7, 3, .ifCond .eq 13, []), (10, 1, .aload_n 0, []), (11, 1, .iload_n 2, []), (12, 1, .iload_n 2, []), (13, 2, .bipush 10, []), (15, 1, .isub, []), (16, 3, .invokevirtual 158, [174, 1223]), (19, 1, .ireturn, []), (20, 1, .iconst 0, []), (21, 1, .istore_n 3, []), (22, 1, .iload_n 3, []), (23, 1, .aload_n 0, []), (24, 3, .getfield 707, [29, 1182, 11, 0]), (27, 3, .getfield 203, [183, 1090, 3, 0]), (30, 3, .if_icmp .ge 46, []), (33, 1, .iload_n 3, []), (34, 1, .iconst 5, []), (35, 3, .if_icmp .ge 41, []), (38, 1, .aload_n 0, []), (39, 3, .getfield 707, [29, 1182, 11, 0]), (42, 1, .iload_n 3, []), (43, 1, .aload_n 0, []), (44, 3, .getfield 707, [29, 1182, 11, 0]), (47, 3, .getfield 208, [203, 1101, 3, 0]), (50, 1, .iload_n 3, []), (51, 1, .laload, []), (52, 3, .invokevirtual 37, [216, 4081]), (55, 1, .aload_n 0, []), (56, 3, .getfield 704, [11, 1179, 11, 0]), (59, 1, .iload_n 1, []), (60, 1, .aaload, []), (61, 1, .iload_n 3, []), (62, 3, .invokevirtual 85, [241, 4118]), (65, 3, .if_icmp .eq 5, []), (68, 1, .iload_n 3, []), (69, 1, .ireturn, []), (70, 3, .iinc 3 1, []), (73, 3, .goto (-51), []), (76, 1, .iconst (-1), []), (77, 1, .ireturn, [])]
def sT152 : List sEt := [(0, 1, .aload_n 0, []), (1, 3, .getfield 706, [22, 1181, 11, 0]), (4, 1, .iconst 2, []), (5, 1, .iconst 0, []), (6, 3, .invokevirtual 79, [70, 1226]), (9, 1, .aload_n 0, []), (10, 1, .iload_n 1, []), (11, 3, .invokevirtual 162, [125, 2213]), (14, 3, .ifCond .eq 5, []), (17, 1, .iconst 0, []), (18, 1, .ireturn, []), (19, 1, .iload_n 2, []), (20, 28, .tableswitch 61 0 2 #[28, 39, 50], []), (48, 1, .aload_n 0, []), (49, 3, .getfield 705, [17, 1180, 11, 0]), (52, 1, .iload_n 1, []), (53, 1, .aaload, []), (54, 1, .iload_n 3, []), (55, 3, .invokevirtual 1003, [307, 5085]), (58, 1, .ireturn, []), (59, 1, .aload_n 0, []), (60, 3, .getfield 705, [17, 1180, 11, 0]), (63, 1, .iload_n 1, []), (64, 1, .aaload, []), (65, 1, .iload_n 3, []), (66, 3, .invokevirtual 1004, [310, 5113]), (69, 1, .ireturn, []), (70, 1, .aload_n 0, []), (71, 3, .getfield 705, [17, 1180, 11, 0]), (74, 1, .iload_n 1, []), (75, 1, .aaload, []), (76, 1, .iload_n 3, []), (77, 3, .invokevirtual 1005, [313, 5136]), (80, 1, .ireturn, []), (81, 1, .iconst 0, []), (82, 1, .ireturn, [])]
def sT153 : List sEt := [(0, 1, .aload_n 0, []), (1, 3, .getfield 706, [22, 1181, 11, 0]), (4, 1, .iload_n 1, []), (5, 3, .invokevirtual 82, [77, 2014]), (8, 3, .ifCond .eq 20, []), (11, 1, .iload_n 1, []), (12, 2, .bipush 20, []), (14, 3, .if_icmp .ge 14, []), (17, 1, .aload_n 0, []), (18, 3, .getfield 706, [22, 1181, 11, 0]), (21, 1, .iload_n 1, []), (22, 3, .invokevirtual 85, [241, 4118]), (25, 3, .goto 4, []), (28, 1, .iconst (-1), []), (29, 1, .ireturn, [])]
def sT154 : List sEt := [(0, 1, .aload_n 0, []), (1, 3, .getfield 708, [33, 1183, 11, 0]), (4, 1, .aload_n 0, []), (5, 3, .getfield 707, [29, 1182, 11, 0]), (8, 3, .invokevirtual 18, [139, 3091]), (11, 1, .aload_n 0, []), (12, 1, .iconst 1, []), (13, 3, .putfield 713, [54, 1188, 11, 0]), (16, 1, .aload_n 0, []), (17, 3, .getfield 707, [29, 1182, 11, 0]), (20, 3, .getfield 203, [183, 1090, 3, 0]), (23, 1, .ireturn, [])]
def sT155 : List sEt := [(0, 1, .aload_n 0, []), (1, 3, .getfield 713, [54, 1188, 11, 0]), (4, 3, .ifCond .ne 10, []), (7, 1, .aload_n 0, []), (8, 2, .bipush (-6), []), (10, 3, .invokevirtual 157, [66, 1220]), (13, 1, .ireturn, []), (14, 1, .aload_n 0, []), (15, 3, .getfield 707, [29, 1182, 11, 0]), (18, 1, .aload_n 0, []), (19, 3, .getfield 708, [33, 1183, 11, 0]), (22, 3, .invokevirtual 18, [139, 3091]), (25, 1, .aload_n 0, []), (26, 3, .getfield 707, [29, 1182, 11, 0]), (29, 3, .getfield 203, [183, 1090, 3, 0]), (32, 1, .ireturn, [])]
def sT156 : List sEt := [(0, 1, .iload_n 1, []), (1, 2, .bipush 10, []), (3, 3, .if_icmp .le 19, []), (6, 1, .iload_n 1, []), (7, 2, .bipush 17, []), (9, 3, .if_icmp .gt 13, []), (12, 1, .aload_n 0, []), (13, 3, .getfield 712, [50, 1187, 11, 0]), (16, 1, .iload_n 1, []), (17, 2, .bipush 10, []), (19, 1, .isub, []), (20, 1, .iaload, []), (21, 1, .ireturn, []), (22, 1, .iload_n 1, []), (23, 49, .tableswitch 100 0 8 #[49, 57, 65, 73, 73, 73, 73, 84, 92], []), (72, 1, .aload_n 0, []), (73, 3, .getfield 707, [29, 1182, 11, 0]), (76, 3, .getfield 192, [316, 1071, 3, 0]), (79, 1, .ireturn, []), (80, 1, .aload_n 0, []), (81, 3, .getfield 707, [29, 1182, 11, 0]), (84, 3, .getfield 193, [319, 1074, 3, 0]), (87, 1, .ireturn, []), (88, 1, .aload_n 0, []), (89, 3, .getfield 707, [29, 1182, 11, 0]), (92, 3, .getfield 203, [183, 1090, 3, 0]), (95, 1, .ireturn, []), (96, 1, .aload_n 0, []), (97, 3, .getfield 707, [29, 1182, 11, 0]), (100, 1, .iload_n 1, []), (101, 1, .iconst 3, []), (102, 1, .isub, []), (103, 3, .invokevirtual 34, [177, 4050]), (106, 1, .ireturn, []), (107, 1, .aload_n 0, []), (108, 3, .getfield 707, [29, 1182, 11, 0]), (111, 3, .invokevirtual 42, [244, 4119]), (114, 1, .ireturn, []), (115, 1, .aload_n 0, []), (116, 3, .getfield 706, [22, 1181, 11, 0]), (119, 3, .getfield 449, [322, 1040, 7, 0]), (122, 1, .ireturn, []), (123, 1, .iconst (-1), []), (124, 1, .ireturn, [])]
def sT157 : List sEt := [(0, 1, .aload_n 0, []), (1, 1, .iload_n 1, []), (2, 1, .iload_n 1, []), (3, 3, .invokevirtual 158, [174, 1223]), (6, 1, .ireturn, [])]
def sT158 : List sEt := [(0, 1, .iload_n 1, []), (1, 3, .ifCond .ge 20, []), (4, 1, .iload_n 1, []), (5, 2, .bipush (-7), []), (7, 3, .if_icmp .lt 14, []), (10, 1, .aload_n 0, []), (11, 3, .getfield 712, [50, 1187, 11, 0]), (14, 1, .iload_n 1, []), (15, 1, .ineg, []), (16, 1, .dup2, []), (17, 1, .iaload, []), (18, 1, .iconst 1, []), (19, 1, .iadd, []), (20, 1, .iastore, []), (21, 1, .iload_n 2, []), (22, 1, .ireturn, [])]
def sT159 : List sEt := [(0, 1, .iload_n 0, []), (1, 3, .ifCond .ne 5, []), (4, 1, .iload_n 1, []), (5, 1, .ireturn, []), (6, 1, .iload_n 1, []), (7, 3, .ifCond .ne 7, []), (10, 1, .iload_n 0, []), (11, 3, .goto 8, []), (14, 1, .iload_n 0, []), (15, 1, .iload_n 1, []), (16, 3, .invokestatic 1000, [325, 2034, 2001, 1006, 2002]), (19, 1, .ireturn, [])]
def sT160 : List sEt := [(0, 1, .iload_n 0, []), (1, 3, .ifCond .lt 13, []), (4, 1, .iload_n 0, []), (5, 2, .bipush 8, []), (7, 3, .if_icmp .ge 7, []), (10, 1, .iconst 1, []), (11, 3, .goto 4, []), (14, 1, .iconst 0, []), (15, 1, .ireturn, [])]
def sT161 : List sEt := [(0, 1, .iload_n 1, []), (1, 3, .invokestatic 160, [62, 1217]), (4, 3, .ifCond .ne 5, []), (7, 1, .iconst (-1), []), (8, 1, .ireturn, []), (9, 1, .aload_n 0, []), (10, 3, .getfield 705, [17, 1180, 11, 0]), (13, 1, .iload_n 1, []), (14, 1, .aaload, []), (15, 3, .ifnull 6, []), (18, 2, .bipush (-2), []), (20, 1, .ireturn, []), (21, 1, .aload_n 0, []), (22, 3, .getfield 704, [11, 1179, 11, 0]), (25, 1, .iload_n 1, []), (26, 1, .aaload, []), (27, 3, .invokevirtual 81, [121, 2010]), (30, 3, .ifCond .eq 7, []), (33, 1, .iconst 0, []), (34, 3, .goto 5, []), (37, 2, .bipush (-3), []), (39, 1, .ireturn, [])]
def sT162 : List sEt := [(0, 1, .iload_n 1, []), (1, 3, .invokestatic 160, [62, 1217]), (4, 3, .ifCond .ne 5, []), (7, 1, .iconst (-1), []), (8, 1, .ireturn, []), (9, 1, .aload_n 0, []), (10, 3, .getfield 704, [11, 1179, 11, 0]), (13, 1, .iload_n 1, []), (14, 1, .aaload, []), (15, 3, .invokevirtual 81, [121, 2010]), (18, 3, .ifCond .eq 6, []), (21, 2, .bipush (-2), []), (23, 1, .ireturn, []), (24, 1, .aload_n 0, []), (25, 3, .getfield 705, [17, 1180, 11, 0]), (28, 1, .iload_n 1, []), (29, 1, .aaload, []), (30, 3, .ifnull 7, []), (33, 1, .iconst 0, []), (34, 3, .goto 5, []), (37, 2, .bipush (-3), []), (39, 1, .ireturn, [])]
def sT163 : List sEt := [(0, 1, .iload_n 0, []), (1, 2, .bipush 100, []), (3, 1, .idiv, []), (4, 2, .bipush 10, []), (6, 1, .irem, []), (7, 2, .bipush 8, []), (9, 3, .if_icmp .gt 28, []), (12, 1, .iload_n 0, []), (13, 2, .bipush 10, []), (15, 1, .idiv, []), (16, 2, .bipush 10, []), (18, 1, .irem, []), (19, 2, .bipush 8, []), (21, 3, .if_icmp .gt 16, []), (24, 1, .iload_n 0, []), (25, 2, .bipush 10, []), (27, 1, .irem, []), (28, 2, .bipush 8, []), (30, 3, .if_icmp .gt 7, []), (33, 1, .iconst 1, []), (34, 3, .goto 4, []), (37, 1, .iconst 0, []), (38, 1, .ireturn, [])]
def sT164 : List sEt := [(0, 1, .iload_n 2, []), (1, 3, .sipush 1000, []), (4, 1, .idiv, []), (5, 39, .tableswitch 123 1 6 #[39, 53, 67, 81, 95, 109], []), (44, 3, .new 9, [330, 2064, 2065, 1009]), (47, 1, .dup, []), (48, 1, .iload_n 1, []), (49, 1, .iload_n 2, []), (50, 1, .aload_n 0, []), (51, 3, .getfield 706, [22, 1181, 11, 0]), (54, 3, .invokespecial 104, [332, 2066]), (57, 1, .areturn, []), (58, 3, .new 1, [335, 2131, 2132, 1010]), (61, 1, .dup, []), (62, 1, .iload_n 1, []), (63, 1, .iload_n 2, []), (64, 1, .aload_n 0, []), (65, 3, .getfield 706, [22, 1181, 11, 0]), (68, 3, .invokespecial 5, [337, 2133]), (71, 1, .areturn, []), (72, 3, .new 5, [338, 2144, 2145, 1011]), (75, 1, .dup, []), (76, 1, .iload_n 1, []), (77, 1, .iload_n 2, []), (78, 1, .aload_n 0, []), (79, 3, .getfield 706, [22, 1181, 11, 0]), (82, 3, .invokespecial 59, [340, 2146]), (85, 1, .areturn, []), (86, 3, .new 0, [341, 2157, 2158, 1012]), (89, 1, .dup, []), (90, 1, .iload_n 1, []), (91, 1, .iload_n 2, []), (92, 1, .aload_n 0, []), (93, 3, .getfield 706, [22, 1181, 11, 0]), (96, 3, .invokespecial 0, [343, 2159]), (99, 1, .areturn, []), (100, 3, .new 4, [344, 2170, 2171, 1013]), (103, 1, .dup, []), (104, 1, .iload_n 1, []), (105, 1, .iload_n 2, []), (106, 1, .aload_n 0, []), (107, 3, .getfield 706, [22, 1181, 11, 0]), (110, 3, .invokespecial 55, [346, 2172]), (113, 1, .areturn, []), (114, 3, .new 10, [347, 2183, 2184, 1014]), (117, 1, .dup, []), (118, 1, .iload_n 1, []), (119, 1, .iload_n 2, []), (120, 1, .aload_n 0, []), (121, 3, .getfield 706, [22, 1181, 11, 0]), (124, 3, .invokespecial 108, [349, 2185]), (127, 1, .areturn, []), (128, 3, .new 2, [15, 1030, 2196, 1008]), (131, 1, .dup, []), (132, 1, .iload_n 1, []), (133, 1, .iload_n 2, []), (134, 1, .aload_n 0, []), (135, 3, .getfield 706, [22, 1181, 11, 0]), (138, 3, .invokespecial 9, [350, 2197]), (141, 1, .areturn, [])]
def sT165 : List sEt := [(0, 1, .aload_n 1, []), (1, 1, .aload_n 0, []), (2, 3, .getfield 707, [29, 1182, 11, 0]), (5, 3, .invokevirtual 1001, [351, 3014]), (8, 1, .lstore_n 3, []), (9, 1, .aload_n 1, []), (10, 1, .aload_n 0, []), (11, 3, .getfield 707, [29, 1182, 11, 0]), (14, 3, .invokevirtual 1002, [355, 3062]), (17, 2, .lstore 5, []), (19, 1, .iload_n 2, []), (20, 28, .tableswitch 54 0 2 #[28, 30, 51], []), (48, 1, .lload_n 3, []), (49, 1, .lreturn, []), (50, 1, .aload_n 0, []), (51, 3, .getfield 707, [29, 1182, 11, 0]), (54, 3, .getfield 194, [270, 1078, 3, 0]), (57, 1, .lload_n 3, []), (58, 3, .ldc2_w 18446744073709551615, [274, 3076]), (61, 1, .lxor, []), (62, 1, .land, []), (63, 2, .lload 5, []), (65, 3, .ldc2_w 18446744073709551615, [274, 3076]), (68, 1, .lxor, []), (69, 1, .land, []), (70, 1, .lreturn, []), (71, 2, .lload 5, []), (73, 1, .lreturn, []), (74, 1, .lconst 0, []), (75, 1, .lreturn, [])]
def sT166 : List sEt := [(0, 1, .iload_n 2, []), (1, 39, .tableswitch 79 1 6 #[39, 49, 54, 64, 69, 49], []), (40, 1, .aload_n 0, []), (41, 1, .aload_n 1, []), (42, 1, .iconst 1, []), (43, 3, .invokevirtual 165, [135, 3011]), (46, 3, .invokestatic 257, [206, 3077]), (49, 1, .ireturn, []), (50, 1, .aload_n 1, []), (51, 3, .getfield 131, [358, 2099, 2, 0]), (54, 1, .ireturn, []), (55, 1, .aload_n 0, []), (56, 1, .aload_n 1, []), (57, 1, .iconst 2, []), (58, 3, .invokevirtual 165, [135, 3011]), (61, 3, .invokestatic 257, [206, 3077]), (64, 1, .ireturn, []), (65, 1, .aload_n 1, []), (66, 3, .getfield 130, [361, 2091, 2, 0]), (69, 1, .ireturn, []), (70, 1, .aload_n 1, []), (71, 3, .getfield 130, [361, 2091, 2, 0]), (74, 1, .aload_n 1, []), (75, 3, .getfield 131, [358, 2099, 2, 0]), (78, 1, .imul, []), (79, 1, .ireturn, []), (80, 1, .aload_n 0, []), (81, 1, .aload_n 1, []), (82, 1, .iconst 0, []), (83, 3, .invokevirtual 165, [135, 3011]), (86, 3, .invokestatic 257, [206, 3077]), (89, 1, .ireturn, [])]
def sT167 : List sEt := [(0, 1, .iload_n 1, []), (1, 31, .tableswitch 84 0 3 #[31, 46, 46, 68], []), (32, 1, .iload_n 2, []), (33, 3, .ifCond .lt 12, []), (36, 1, .iload_n 2, []), (37, 1, .iconst 3, []), (38, 3, .if_icmp .gt 7, []), (41, 1, .iconst 1, []), (42, 3, .goto 4, []), (45, 1, .iconst 0, []), (46, 1, .ireturn, []), (47, 1, .iload_n 2, []), (48, 1, .iconst (-1), []), (49, 3, .if_icmp .eq 14, []), (52, 1, .aload_n 0, []), (53, 3, .getfield 707, [29, 1182, 11, 0]), (56, 1, .iload_n 2, []), (57, 3, .invokevirtual 22, [158, 4028]), (60, 3, .ifCond .eq 7, []), (63, 1, .iconst 1, []), (64, 3, .goto 4, []), (67, 1, .iconst 0, []), (68, 1, .ireturn, []), (69, 1, .iload_n 2, []), (70, 3, .ifCond .lt 13, []), (73, 1, .iload_n 2, []), (74, 2, .bipush 20, []), (76, 3, .if_icmp .gt 7, []), (79, 1, .iconst 1, []), (80, 3, .goto 4, []), (83, 1, .iconst 0, []), (84, 1, .ireturn, []), (85, 1, .iconst 0, []), (86, 1, .ireturn, [])]
def sT168 : List sEt := [(0, 1, .aload_n 0, []), (1, 3, .invokespecial 2000, [1, 5178, 1027, 1028]), (4, 1, .aload_n 0, []), (5, 1, .iconst 4, []), (6, 3, .putfield 768, [7, 5179, 12, 0]), (9, 1, .aload_n 0, []), (10, 1, .iconst 4, []), (11, 3, .putfield 769, [13, 5180, 12, 0]), (14, 1, .aload_n 0, []), (15, 1, .iconst (-1), []), (16, 3, .putfield 771, [16, 5182, 12, 0]), (19, 1, .aload_n 0, []), (20, 1, .iconst (-1), []), (21, 3, .putfield 772, [19, 5183, 12, 0]), (24, 1, .aload_n 0, []), (25, 1, .iconst 1, []), (26, 3, .putfield 773, [22, 5184, 12, 0]), (29, 1, .aload_n 0, []), (30, 1, .iconst (-1), []), (31, 3, .putfield 775, [25, 5186, 12, 0]), (34, 1, .aload_n 0, []), (35, 2, .bipush 8, []), (37, 2, .newarray .int, [1137]), (39, 3, .putfield 776, [28, 5187, 12, 0]), (42, 1, .aload_n 0, []), (43, 2, .bipush 64, []), (45, 2, .newarray .int, [1137]), (47, 3, .putfield 777, [32, 5188, 12, 0]), (50, 1, .aload_n 0, []), (51, 2, .bipush 64, []), (53, 2, .newarray .int, [1137]), (55, 3, .putfield 778, [35, 5189, 12, 0]), (58, 1, .aload_n 0, []), (59, 1, .iconst 5, []), (60, 2, .newarray .int, [1137]), (62, 3, .putfield 779, [38, 5190, 12, 0]), (65, 1, .aload_n 0, []), (66, 1, .iconst 5, []), (67, 2, .newarray .int, [1137]), (69, 3, .putfield 780, [41, 5191, 12, 0]), (72, 1, .aload_n 0, []), (73, 2, .bipush 30, []), (75, 2, .newarray .int, [1137]), (77, 3, .putfield 781, [44, 5192, 12, 0]), (80, 1, .aload_n 0, []), (81, 2, .bipush 8, []), (83, 2, .newarray .int, [1137]), (85, 3, .putfield 782, [47, 5193, 12, 0]), (88, 1, .aload_n 0, []), (89, 2, .bipush 8, []), (91, 2, .newarray .int, [1137]), (93, 3, .putfield 783, [50, 5194, 12, 0]), (96, 1, .aload_n 0, []), (97, 2, .bipush 8, []), (99, 2, .newarray .int, [1137]), (101, 3, .putfield 784, [53, 5195, 12, 0]), (104, 1, .aload_n 0, []), (105, 2, .bipush 8, []), (107, 2, .newarray .int, [1137]), (109, 3, .putfield 785, [56, 5196, 12, 0]), (112, 1, .aload_n 0, []), (113, 3, .sipush 800, []), (116, 2, .newarray .long, [1050]), (118, 3, .putfield 786, [59, 5197, 12, 0]), (121, 1, .aload_n 0, []), (122, 2, .bipush 100, []), (124, 2, .newarray .long, [1050]), (126, 3, .putfield 787, [63, 5198, 12, 0]), (129, 1, .aload_n 0, []), (130, 2, .bipush 42, []), (132, 2, .newarray .int, [1137]), (134, 1, .dup, []), (135, 1, .iconst 0, []), (136, 2, .bipush 115, []), (138, 1, .iastore, []), (139, 1, .dup, []), (140, 1, .iconst 1, []), (141, 2, .bipush 105, []), (143, 1, .iastore, []), (144, 1, .dup, []), (145, 1, .iconst 2, []), (146, 2, .bipush 122, []), (148, 1, .iastore, []), (149, 1, .dup, []), (150, 1, .iconst 3, []), (151, 2, .bipush 101, []), (153, 1, .iastore, []), (154, 1, .dup, []), (155, 1, .iconst 4, []), (156, 2, .bipush 32, []), (158, 1, .iastore, []), (159, 1, .dup, []), (160, 1, .iconst 5, []), (161, 1, .iconst 0, []), (162, 1, .iastore, []), (163, 1, .dup, []), (164, 2, .bipush 6, []), (166, 2, .bipush 115, []), (168, 1, .iastore, []), (169, 1, .dup, []), (170, 2, .bipush 7, []), (172, 2, .bipush 111, []), (174, 1, .iastore, []), (175, 1, .dup, []), (176, 2, .bipush 8, []), (178, 2, .bipush 105, []), (180, 1, .iastore, []), (181, 1, .dup, []), (182, 2, .bipush 9, []), (184, 2, .bipush 108, []), (186, 1, .iastore, []), (187, 1, .dup, []), (188, 2, .bipush 10, []), (190, 2, .bipush 32, []), (192, 1, .iastore, []), (193, 1, .dup, []), (194, 2, .bipush 11, []), (196, 1, .iconst 0, []), (197, 1, .iastore, []), (198, 1, .dup, []), (199, 2, .bipush 12, []), (201, 2, .bipush 114, []), (203, 1, .iastore, []), (204, 1, .dup, []), (205, 2, .bipush 13, []), (207, 2, .bipush 111, []), (209, 1, .iastore, []), (210, 1, .dup, []), (211, 2, .bipush 14, []), (213, 2, .bipush 97, []), (215, 1, .iastore, []), (216, 1, .dup, []), (217, 2, .bipush 15, []), (219, 2, .bipush 100, []), (221, 1, .iastore, []), (222, 1, .dup, []), (223, 2, .bipush 16, []), (225, 2, .bipush 32, []), (227, 1, .iastore, []), (228, 1, .dup, []), (229, 2, .bipush 17, []), (231, 1, .iconst 0, []), (232, 1, .iastore, []), (233, 1, .dup, []), (234, 2, .bipush 18, []), (236, 2, .bipush 119, []), (238, 1, .iastore, []), (239, 1, .dup, []), (240, 2, .bipush 19, []), (242, 2, .bipush 101, []), (244, 1, .iastore, []), (245, 1, .dup, []), (246, 2, .bipush 20, []), (248, 2, .bipush 108, []), (250, 1, .iastore, []), (251, 1, .dup, []), (252, 2, .bipush 21, []), (254, 2, .bipush 108, []), (256, 1, .iastore, []), (257, 1, .dup, []), (258, 2, .bipush 22, []), (260, 2, .bipush 32, []), (262, 1, .iastore, []), (263, 1, .dup, []), (264, 2, .bipush 23, []), (266, 1, .iconst 0, []), (267, 1, .iastore, []), (268, 1, .dup, []), (269, 2, .bipush 24, []), (271, 2, .bipush 111, []), (273, 1, .iastore, []), (274, 1, .dup, []), (275, 2, .bipush 25, []), (277, 2, .bipush 97, []), (279, 1, .iastore, []), (280, 1, .dup, []), (281, 2, .bipush 26, []), (283, 2, .bipush 107, []), (285, 1, .iastore, []), (286, 1, .dup, []), (287, 2, .bipush 27, []), (289, 2, .bipush 32, []), (291, 1, .iastore, []), (292, 1, .dup, []), (293, 2, .bipush 28, []), (295, 1, .iconst 0, []), (296, 1, .iastore, []), (297, 1, .dup, []), (298, 2, .bipush 29, []), (300, 2, .bipush 115, []), (302, 1, .iastore, []), (303, 1, .dup, []), (304, 2, .bipush 30, []), (306, 2, .bipush 109, []), (308, 1, .iastore, []), (309, 1, .dup, []), (310, 2, .bipush 31, []), (312, 2, .bipush 97, []), (314, 1, .iastore, []), (315, 1, .dup, []), (316, 2, .bipush 32, []), (318, 2, .bipush 108, []), (320, 1, .iastore, []), (321, 1, .dup, []), (322, 2, .bipush 33, []), (324, 2, .bipush 108, []), (326, 1, .iastore, []), (327, 1, .dup, []), (328, 2, .bipush 34, []), (330, 2, .bipush 32, []), (332, 1, .iastore, []), (333, 1, .dup, []), (334, 2, .bipush 35, []), (336, 1, .iconst 0, []), (337, 1, .iastore, []), (338, 1, .dup, []), (339, 2, .bipush 36, []), (341, 2, .bipush 104, []), (343, 1, .iastore, []), (344, 1, .dup, []), (345, 2, .bipush 37, []), (347, 2, .bipush 101, []), (349, 1, .iastore, []), (350, 1, .dup, []), (351, 2, .bipush 38, []), (353, 2, .bipush 105, []), (355, 1, .iastore, []), (356, 1, .dup, []), (357, 2, .bipush 39, []), (359, 2, .bipush 114, []), (361, 1, .iastore, []), (362, 1, .dup, []), (363, 2, .bipush 40, []), (365, 2, .bipush 32, []), (367, 1, .iastore, []), (368, 1, .dup, []), (369, 2, .bipush 41, []), (371, 1, .iconst 0, []), (372, 1, .iastore, []), (373, 3, .putfield 788, [66, 5199, 12, 0]), (376, 1, .aload_n 0, []), (377, 3, .sipush 180, []), (380, 2, .newarray .int, [1137]), (382, 3, .putfield 794, [69, 5205, 12, 0]), (385, 1, .aload_n 0, []), (386, 3, .sipush 180, []), (389, 2, .newarray .int, [1137]), (391, 3, .putfield 795, [72, 5206, 12, 0]), (394, 1, .aload_n 0, []), (395, 3, .sipush 1000, []), (398, 2, .newarray .int, [1137]), (400, 3, .putfield 797, [75, 5208, 12, 0]), (403, 1, .aload_n 0, []), (404, 2, .bipush 64, []), (406, 2, .newarray .int, [1137]), (408, 3, .putfield 798, [78, 5209, 12, 0]), (411, 1, .aload_n 0, []), (412, 2, .bipush 20, []), (414, 2, .newarray .int, [1137]), (416, 3, .putfield 803, [81, 5214, 12, 0]), (419, 1, .iconst 0, []), (420, 1, .istore_n 1, []), (421, 1, .iload_n 1, []), (422, 2, .bipush 64, []), (424, 3, .if_icmp .ge 16, []), (427, 1, .aload_n 0, []), (428, 3, .getfield 778, [35, 5189, 12, 0]), (431, 1, .iload_n 1, []), (432, 1, .iconst (-1), []), (433, 1, .iastore, []), (434, 3, .iinc 1 1, []), (437, 3, .goto (-16), []), (440, 1, .return_, [])]
def sT169 : List sEt := [(0, 1, .aload_n 0, []), (1, 3, .getfield 776, [28, 5187, 12, 0]), (4, 1, .iload_n 1, []), (5, 1, .ineg, []), (6, 1, .dup2, []), (7, 1, .iaload, []), (8, 1, .iconst 1, []), (9, 1, .iadd, []), (10, 1, .iastore, []), (11, 1, .iload_n 1, []), (12, 1, .ireturn, [])]
def sT170 : List sEt := [(0, 1, .aload_n 0, []), (1, 3, .getfield 776, [28, 5187, 12, 0]), (4, 1, .iload_n 1, []), (5, 1, .ineg, []), (6, 1, .dup2, []), (7, 1, .iaload, []), (8, 1, .iconst 1, []), (9, 1, .iadd, []), (10, 1, .iastore, []), (11, 1, .iload_n 1, []), (12, 2, .bipush 10, []), (14, 1, .isub, []), (15, 1, .ireturn, [])]
def sT171 : List sEt := [(0, 1, .iload_n 1, []), (1, 3, .ifCond .lt 13, []), (4, 1, .iload_n 1, []), (5, 2, .bipush 8, []), (7, 3, .if_icmp .ge 7, []), (10, 1, .iconst 1, []), (11, 3, .goto 4, []), (14, 1, .iconst 0, []), (15, 1, .ireturn, [])]
def sT172 : List sEt := [(0, 1, .iload_n 1, []), (1, 3, .ifCond .lt 20, []), (4, 1, .iload_n 1, []), (5, 1, .aload_n 0, []), (6, 3, .getfield 768, [7, 5179, 12, 0]), (9, 1, .aload_n 0, []), (10, 3, .getfield 769, [13, 5180, 12, 0]), (13, 1, .imul, []), (14, 3, .if_icmp .ge 7, []), (17, 1, .iconst 1, []), (18, 3, .goto 4, []), (21, 1, .iconst 0, []), (22, 1, .ireturn, [])]
def sT173 : List sEt := [(0, 1, .iload_n 1, []), (1, 3, .ifCond .lt 15, []), (4, 1, .iload_n 1, []), (5, 1, .aload_n 0, []), (6, 3, .getfield 774, [84, 5185, 12, 0]), (9, 3, .if_icmp .ge 7, []), (12, 1, .iconst 1, []), (13, 3, .goto 4, []), (16, 1, .iconst 0, []), (17, 1, .ireturn, [])]
def sT174 : List sEt := [(0, 1, .aload_n 0, []), (1, 3, .getfield 768, [7, 5179, 12, 0]), (4, 1, .aload_n 0, []), (5, 3, .getfield 769, [13, 5180, 12, 0]), (8, 1, .imul, []), (9, 2, .bipush 64, []), (11, 3, .if_icmp .ne 9, []), (14, 3, .ldc2_w 18446744073709551615, [87, 6201]), (17, 3, .goto 16, []), (20, 1, .lconst 1, []), (21, 1, .aload_n 0, []), (22, 3, .getfield 768, [7, 5179, 12, 0]), (25, 1, .aload_n 0, []), (26, 3, .getfield 769, [13, 5180, 12, 0]), (29, 1, .imul, []), (30, 1, .lshl, []), (31, 1, .lconst 1, []), (32, 1, .lsub, []), (33, 1, .lreturn, [])]
def sT175 : List sEt := [(0, 1, .lload_n 1, []), (1, 1, .aload_n 0, []), (2, 3, .invokevirtual 174, [89, 6198]), (5, 3, .ldc2_w 18446744073709551615, [87, 6201]), (8, 1, .lxor, []), (9, 1, .land, []), (10, 1, .lconst 0, []), (11, 1, .lcmp, []), (12, 3, .ifCond .ne 7, []), (15, 1, .iconst 1, []), (16, 3, .goto 4, []), (19, 1, .iconst 0, []), (20, 1, .ireturn, [])]
def sT176 : List sEt := [(0, 1, .iconst 0, []), (1, 1, .istore_n 3, []), (2, 1, .lload_n 1, []), (3, 2, .lstore 4, []), (5, 2, .lload 4, []), (7, 1, .lconst 0, []), (8, 1, .lcmp, []), (9, 3, .ifCond .eq 18, []), (12, 3, .iinc 3 1, []), (15, 2, .lload 4, []), (17, 2, .lload 4, []), (19, 1, .lconst 1, []), (20, 1, .lsub, []), (21, 1, .land, []), (22, 2, .lstore 4, []), (24, 3, .goto (-19), []), (27, 1, .iload_n 3, []), (28, 1, .ireturn, [])]
def sT177 : List sEt := [(0, 1, .lload_n 1, []), (1, 1, .iload_n 3, []), (2, 1, .lshr, []), (3, 1, .lconst 1, []), (4, 1, .land, []), (5, 1, .lconst 1, []), (6, 1, .lcmp, []), (7, 3, .ifCond .ne 7, []), (10, 1, .iconst 1, []), (11, 3, .goto 4, []), (14, 1, .iconst 0, []), (15, 1, .ireturn, [])]
def sT178 : List sEt := [(0, 1, .aload_n 0, []), (1, 1, .iload_n 1, []), (2, 3, .invokevirtual 171, [93, 6061]), (5, 3, .ifCond .ne 9, []), (8, 1, .aload_n 0, []), (9, 1, .iconst (-1), []), (10, 3, .invokevirtual 169, [97, 6064]), (13, 1, .ireturn, []), (14, 1, .iload_n 3, []), (15, 3, .ifCond .ge 10, []), (18, 1, .aload_n 0, []), (19, 2, .bipush (-4), []), (21, 3, .invokevirtual 169, [97, 6064]), (24, 1, .ireturn, []), (25, 1, .iload_n 2, []), (26, 3, .ifCond .lt 8, []), (29, 1, .iload_n 2, []), (30, 1, .iconst 3, []), (31, 3, .if_icmp .le 10, []), (34, 1, .aload_n 0, []), (35, 2, .bipush (-6), []), (37, 3, .invokevirtual 169, [97, 6064]), (40, 1, .ireturn, []), (41, 1, .iload_n 3, []), (42, 2, .bipush 100, []), (44, 3, .if_icmp .le 10, []), (47, 1, .aload_n 0, []), (48, 2, .bipush (-7), []), (50, 3, .invokevirtual 169, [97, 6064]), (53, 1, .ireturn, []), (54, 1, .aload_n 0, []), (55, 3, .getfield 782, [47, 5193, 12, 0]), (58, 1, .iload_n 1, []), (59, 1, .iconst 1, []), (60, 1, .iastore, []), (61, 1, .aload_n 0, []), (62, 3, .getfield 783, [50, 5194, 12, 0]), (65, 1, .iload_n 1, []), (66, 1, .iload_n 2, []), (67, 1, .iastore, []), (68, 1, .aload_n 0, []), (69, 3, .getfield 784, [53, 5195, 12, 0]), (72, 1, .iload_n 1, []), (73, 1, .iload_n 3, []), (74, 1, .iastore, []), (75, 1, .iconst 0, []), (76, 2, .istore 4, []), (78, 2, .iload 4, []), (80, 2, .bipush 100, []), (82, 3, .if_icmp .ge 22, []), (85, 1, .aload_n 0, []), (86, 3, .getfield 786, [59, 5197, 12, 0]), (89, 2, .bipush 100, []), (91, 1, .iload_n 1, []), (92, 1, .imul, []), (93, 2, .iload 4, []), (95, 1, .iadd, []), (96, 1, .lconst 0, []), (97, 1, .lastore, []), (98, 3, .iinc 4 1, []), (101, 3, .goto (-23), []), (104, 1, .iconst 1, []), (105, 1, .ireturn, [])]
def sT179 : List sEt := [(0, 1, .aload_n 0, []), (1, 1, .iload_n 1, []), (2, 3, .invokevirtual 171, [93, 6061]), (5, 3, .ifCond .ne 9, []), (8, 1, .aload_n 0, []), (9, 1, .iconst (-1), []), (10, 3, .invokevirtual 169, [97, 6064]), (13, 1, .ireturn, []), (14, 1, .aload_n 0, []), (15, 3, .getfield 782, [47, 5193, 12, 0]), (18, 1, .iload_n 1, []), (19, 1, .iaload, []), (20, 1, .iconst 2, []), (21, 3, .if_icmp .ne 10, []), (24, 1, .aload_n 0, []), (25, 2, .bipush (-2), []), (27, 3, .invokevirtual 169, [97, 6064]), (30, 1, .ireturn, []), (31, 1, .aload_n 0, []), (32, 3, .getfield 782, [47, 5193, 12, 0]), (35, 1, .iload_n 1, []), (36, 1, .iaload, []), (37, 3, .ifCond .ne 10, []), (40, 1, .aload_n 0, []), (41, 2, .bipush (-3), []), (43, 3, .invokevirtual 169, [97, 6064]), (46, 1, .ireturn, []), (47, 1, .iload_n 2, []), (48, 3, .ifCond .lt 13, []), (51, 1, .iload_n 2, []), (52, 1, .aload_n 0, []), (53, 3, .getfield 784, [53, 5195, 12, 0]), (56, 1, .iload_n 1, []), (57, 1, .iaload, []), (58, 3, .if_icmp .lt 10, []), (61, 1, .aload_n 0, []), (62, 2, .bipush (-5), []), (64, 3, .invokevirtual 169, [97, 6064]), (67, 1, .ireturn, []), (68, 1, .aload_n 0, []), (69, 3, .getfield 786, [59, 5197, 12, 0]), (72, 2, .bipush 100, []), (74, 1, .iload_n 1, []), (75, 1, .imul, []), (76, 1, .iload_n 2, []), (77, 1, .iadd, []), (78, 1, .aload_n 0, []), (79, 3, .getfield 783, [50, 5194, 12, 0]), (82, 1, .iload_n 1, []), (83, 1, .iaload, []), (84, 3, .ifCond .ne 10, []), (87, 1, .lload_n 3, []), (88, 1, .l2i, []), (89, 1, .i2b, []), (90, 1, .i2l, []), (91, 3, .goto 37, []), (94, 1, .aload_n 0, []), (95, 3, .getfield 783, [50, 5194, 12, 0]), (98, 1, .iload_n 1, []), (99, 1, .iaload, []), (100, 1, .iconst 1, []), (101, 3, .if_icmp .ne 10, []), (104, 1, .lload_n 3, []), (105, 1, .l2i, []), (106, 1, .i2s, []), (107, 1, .i2l, []), (108, 3, .goto 20, []), (111, 1, .aload_n 0, []), (112, 3, .getfield 783, [50, 5194, 12, 0]), (115, 1, .iload_n 1, []), (116, 1, .iaload, []), (117, 1, .iconst 2, []), (118, 3, .if_icmp .ne 9, []), (121, 1, .lload_n 3, []), (122, 1, .l2i, []), (123, 1, .i2l, []), (124, 3, .goto 4, []), (127, 1, .lload_n 3, []), (128, 1, .lastore, []), (129, 1, .iconst 1, []), (130, 1, .ireturn, [])]
def sT180 : List sEt := [(0, 1, .aload_n 0, []), (1, 1, .iload_n 1, []), (2, 3, .invokevirtual 171, [93, 6061]), (5, 3, .ifCond .eq 11, []), (8, 1, .aload_n 0, []), (9, 1, .iload_n 2, []), (10, 3, .invokevirtual 171, [93, 6061]), (13, 3, .ifCond .ne 9, []), (16, 1, .aload_n 0, []), (17, 1, .iconst (-1), []), (18, 3, .invokevirtual 169, [97, 6064]), (21, 1, .ireturn, []), (22, 1, .aload_n 0, []), (23, 3, .getfield 782, [47, 5193, 12, 0]), (26, 1, .iload_n 1, []), (27, 1, .iaload, []), (28, 1, .iconst 2, []), (29, 3, .if_icmp .eq 48, []), (32, 1, .aload_n 0, []), (33, 3, .getfield 782, [47, 5193, 12, 0]), (36, 1, .iload_n 2, []), (37, 1, .iaload, []), (38, 1, .iconst 2, []), (39, 3, .if_icmp .eq 38, []), (42, 1, .aload_n 0, []), (43, 3, .getfield 782, [47, 5193, 12, 0]), (46, 1, .iload_n 1, []), (47, 1, .iaload, []), (48, 1, .iconst 1, []), (49, 3, .if_icmp .ne 35, []), (52, 1, .aload_n 0, []), (53, 3, .getfield 782, [47, 5193, 12, 0]), (56, 1, .iload_n 2, []), (57, 1, .iaload, []), (58, 1, .iconst 1, []), (59, 3, .if_icmp .ne 25, []), (62, 1, .aload_n 0, []), (63, 3, .getfield 783, [50, 5194, 12, 0]), (66, 1, .iload_n 1, []), (67, 1, .iaload, []), (68, 1, .aload_n 0, []), (69, 3, .getfield 783, [50, 5194, 12, 0]), (72, 1, .iload_n 2, []), (73, 1, .iaload, []), (74, 3, .if_icmp .eq 10, []), (77, 1, .aload_n 0, []), (78, 2, .bipush (-2), []), (80, 3, .invokevirtual 169, [97, 6064]), (83, 1, .ireturn, []), (84, 1, .aload_n 0, []), (85, 3, .getfield 782, [47, 5193, 12, 0]), (88, 1, .iload_n 1, []), (89, 1, .iaload, []), (90, 3, .ifCond .eq 12, []), (93, 1, .aload_n 0, []), (94, 3, .getfield 782, [47, 5193, 12, 0]), (97, 1, .iload_n 2, []), (98, 1, .iaload, []), (99, 3, .ifCond .ne 10, []), (102, 1, .aload_n 0, []), (103, 2, .bipush (-3), []), (105, 3, .invokevirtual 169, [97, 6064]), (108, 1, .ireturn, []), (109, 2, .iload 5, []), (111, 3, .ifCond .ge 10, []), (114, 1, .aload_n 0, []), (115, 2, .bipush (-4), []), (117, 3, .invokevirtual 169, [97, 6064]), (120, 1, .ireturn, []), (121, 1, .iload_n 3, []), (122, 3, .ifCond .lt 35, []), (125, 2, .iload 4, []), (127, 3, .ifCond .lt 30, []), (130, 1, .iload_n 3, []), (131, 1, .aload_n 0, []), (132, 3, .getfield 784, [53, 5195, 12, 0]), (135, 1, .iload_n 1, []), (136, 1, .iaload, []), (137, 2, .iload 5, []), (139, 1, .isub, []), (140, 3, .if_icmp .gt 17, []), (143, 2, .iload 4, []), (145, 1, .aload_n 0, []), (146, 3, .getfield 784, [53, 5195, 12, 0]), (149, 1, .iload_n 2, []), (150, 1, .iaload, []), (151, 2, .iload 5, []), (153, 1, .isub, []), (154, 3, .if_icmp .le 10, []), (157, 1, .aload_n 0, []), (158, 2, .bipush (-5), []), (160, 3, .invokevirtual 169, [97, 6064]), (163, 1, .ireturn, []), (164, 1, .iconst 0, []), (165, 2, .istore 6, []), (167, 2, .iload 6, []), (169, 2, .iload 5, []), (171, 3, .if_icmp .ge 30, []), (174, 1, .aload_n 0, []), (175, 3, .getfield 787, [63, 5198, 12, 0]), (178, 2, .iload 6, []), (180, 1, .aload_n 0, []), (181, 3, .getfield 786, [59, 5197, 12, 0]), (184, 2, .bipush 100, []), (186, 1, .iload_n 1, []), (187, 1, .imul, []), (188, 1, .iload_n 3, []), (189, 1, .iadd, []), (190, 2, .iload 6, []), (192, 1, .iadd, []), (193, 1, .laload, []), (194, 1, .lastore, []), (195, 3, .iinc 6 1, []), (198, 3, .goto (-31), []), (201, 1, .iconst 0, []), (202, 2, .istore 6, []), (204, 2, .iload 6, []), (206, 2, .iload 5, []), (208, 3, .if_icmp .ge 31, []), (211, 1, .aload_n 0, []), (212, 3, .getfield 786, [59, 5197, 12, 0]), (215, 2, .bipush 100, []), (217, 1, .iload_n 2, []), (218, 1, .imul, []), (219, 2, .iload 4, []), (221, 1, .iadd, []), (222, 2, .iload 6, []), (224, 1, .iadd, []), (225, 1, .aload_n 0, []), (226, 3, .getfield 787, [63, 5198, 12, 0]), (229, 2, .iload 6, []), (231, 1, .laload, []), (232, 1, .lastore, []), (233, 3, .iinc 6 1, []), (236, 3, .goto (-32), []), (239, 1, .iconst 1, []), (240, 1, .ireturn, [])]
def sT181 : List sEt := [(0, 1, .aload_n 0, []), (1, 1, .iload_n 1, []), (2, 3, .invokevirtual 171, [93, 6061]), (5, 3, .ifCond .eq 41, []), (8, 1, .aload_n 0, []), (9, 3, .getfield 782, [47, 5193, 12, 0]), (12, 1, .iload_n 1, []), (13, 1, .iaload, []), (14, 1, .iconst 1, []), (15, 3, .if_icmp .ne 31, []), (18, 1, .iload_n 2, []), (19, 3, .ifCond .lt 27, []), (22, 1, .iload_n 2, []), (23, 1, .aload_n 0, []), (24, 3, .getfield 784, [53, 5195, 12, 0]), (27, 1, .iload_n 1, []), (28, 1, .iaload, []), (29, 3, .if_icmp .ge 17, []), (32, 1, .aload_n 0, []), (33, 3, .getfield 786, [59, 5197, 12, 0]), (36, 2, .bipush 100, []), (38, 1, .iload_n 1, []), (39, 1, .imul, []), (40, 1, .iload_n 2, []), (41, 1, .iadd, []), (42, 1, .laload, []), (43, 3, .goto 4, []), (46, 1, .lconst 0, []), (47, 1, .lreturn, [])]
def sT182 : List sEt := [(0, 1, .aload_n 0, []), (1, 1, .iload_n 1, []), (2, 3, .invokevirtual 171, [93, 6061]), (5, 3, .ifCond .eq 10, []), (8, 1, .iload_n 2, []), (9, 3, .sipush 7000, []), (12, 3, .if_icmp .lt 9, []), (15, 1, .aload_n 0, []), (16, 1, .iconst (-1), []), (17, 3, .invokevirtual 169, [97, 6064]), (20, 1, .ireturn, []), (21, 1, .iload_n 2, []), (22, 1, .iconst (-1), []), (23, 3, .if_icmp .lt 36, []), (26, 1, .iload_n 2, []), (27, 2, .bipush 10, []), (29, 1, .irem, []), (30, 2, .bipush 9, []), (32, 3, .if_icmp .eq 27, []), (35, 1, .iload_n 2, []), (36, 2, .bipush 10, []), (38, 1, .idiv, []), (39, 2, .bipush 10, []), (41, 1, .irem, []), (42, 2, .bipush 9, []), (44, 3, .if_icmp .eq 15, []), (47, 1, .iload_n 2, []), (48, 2, .bipush 100, []), (50, 1, .idiv, []), (51, 2, .bipush 10, []), (53, 1, .irem, []), (54, 2, .bipush 9, []), (56, 3, .if_icmp .ne 10, []), (59, 1, .aload_n 0, []), (60, 2, .bipush (-6), []), (62, 3, .invokevirtual 169, [97, 6064]), (65, 1, .ireturn, []), (66, 1, .aload_n 0, []), (67, 3, .getfield 782, [47, 5193, 12, 0]), (70, 1, .iload_n 1, []), (71, 1, .iload_n 2, []), (72, 1, .iconst (-1), []), (73, 3, .if_icmp .ne 7, []), (76, 1, .iconst 0, []), (77, 3, .goto 4, []), (80, 1, .iconst 2, []), (81, 1, .iastore, []), (82, 1, .aload_n 0, []), (83, 3, .getfield 785, [56, 5196, 12, 0]), (86, 1, .iload_n 1, []), (87, 1, .iload_n 2, []), (88, 1, .iastore, []), (89, 1, .iload_n 2, []), (90, 1, .iconst (-1), []), (91, 3, .if_icmp .ne 7, []), (94, 1, .iconst 0, []), (95, 3, .goto 4, []), (98, 1, .iconst 1, []), (99, 1, .ireturn, [])]
def sT183 : List sEt := [(0, 1, .aload_n 0, []), (1, 1, .iload_n 1, []), (2, 3, .invokevirtual 171, [93, 6061]), (5, 3, .ifCond .eq 12, []), (8, 1, .aload_n 0, []), (9, 3, .getfield 782, [47, 5193, 12, 0]), (12, 1, .iload_n 1, []), (13, 1, .iaload, []), (14, 3, .ifCond .ne 5, []), (17, 1, .iconst (-1), []), (18, 1, .ireturn, []), (19, 1, .aload_n 0, []), (20, 3, .getfield 782, [47, 5193, 12, 0]), (23, 1, .iload_n 1, []), (24, 1, .iaload, []), (25, 1, .iconst 1, []), (26, 3, .if_icmp .ne 16, []), (29, 3, .sipush 10000, []), (32, 1, .aload_n 0, []), (33, 3, .getfield 783, [50, 5194, 12, 0]), (36, 1, .iload_n 1, []), (37, 1, .iaload, []), (38, 1, .iadd, []), (39, 3, .goto 9, []), (42, 1, .aload_n 0, []), (43, 3, .getfield 785, [56, 5196, 12, 0]), (46, 1, .iload_n 1, []), (47, 1, .iaload, []), (48, 1, .ireturn, [])]
def sT184 : List sEt := [(0, 1, .aload_n 0, []), (1, 1, .iload_n 1, []), (2, 3, .invokevirtual 171, [93, 6061]), (5, 3, .ifCond .ne 7, []), (8, 1, .iconst (-1), []), (9, 3, .goto 35, []), (12, 1, .aload_n 0, []), (13, 3, .getfield 782, [47, 5193, 12, 0]), (16, 1, .iload_n 1, []), (17, 1, .iaload, []), (18, 1, .iconst 3, []), (19, 1, .iload_n 2, []), (20, 1, .isub, []), (21, 3, .if_icmp .ne 8, []), (24, 2, .bipush (-2), []), (26, 3, .goto 18, []), (29, 1, .aload_n 0, []), (30, 3, .getfield 782, [47, 5193, 12, 0]), (33, 1, .iload_n 1, []), (34, 1, .iaload, []), (35, 3, .ifCond .ne 8, []), (38, 2, .bipush (-3), []), (40, 3, .goto 4, []), (43, 1, .iconst 0, []), (44, 1, .ireturn, [])]
def sT185 : List sEt := [(0, 1, .aload_n 0, []), (1, 3, .getfield 786, [59, 5197, 12, 0]), (4, 2, .bipush 100, []), (6, 1, .iload_n 1, []), (7, 1, .imul, []), (8, 1, .iload_n 2, []), (9, 1, .iadd, []), (10, 1, .laload, []), (11, 1, .l2i, []), (12, 1, .ireturn, [])]
def sT186 : List sEt := [(0, 1, .iload_n 1, []), (1, 3, .sipush 1000, []), (4, 1, .idiv, []), (5, 1, .istore_n 3, []), (6, 1, .iload_n 1, []), (7, 2, .bipush 100, []), (9, 1, .idiv, []), (10, 2, .bipush 10, []), (12, 1, .irem, []), (13, 2, .istore 4, []), (15, 1, .iload_n 1, []), (16, 2, .bipush 10, []), (18, 1, .idiv, []), (19, 2, .bipush 10, []), (21, 1, .irem, []), (22, 2, .istore 5, []), (24, 1, .iload_n 1, []), (25, 2, .bipush 10, []), (27, 1, .irem, []), (28, 2, .istore 6, []), (30, 1, .iload_n 2, []), (31, 1, .aload_n 0, []), (32, 3, .getfield 768, [7, 5179, 12, 0]), (35, 1, .irem, []), (36, 2, .istore 7, []), (38, 1, .iload_n 2, []), (39, 1, .aload_n 0, []), (40, 3, .getfield 768, [7, 5179, 12, 0]), (43, 1, .idiv, []), (44, 2, .istore 8, []), (46, 1, .iload_n 3, []), (47, 41, .tableswitch 142 0 6 #[41, 142, 92, 142, 59, 72, 117], []), (88, 1, .iload_n 2, []), (89, 2, .bipush 8, []), (91, 2, .iload 4, []), (93, 1, .imul, []), (94, 2, .iload 5, []), (96, 1, .iadd, []), (97, 3, .if_icmp .ge 7, []), (100, 1, .iconst 1, []), (101, 3, .goto 4, []), (104, 1, .iconst 0, []), (105, 1, .ireturn, []), (106, 2, .iload 8, []), (108, 2, .iload 4, []), (110, 3, .if_icmp .ge 7, []), (113, 1, .iconst 1, []), (114, 3, .goto 4, []), (117, 1, .iconst 0, []), (118, 1, .ireturn, []), (119, 2, .iload 7, []), (121, 2, .iload 4, []), (123, 3, .if_icmp .ge 14, []), (126, 2, .iload 8, []), (128, 2, .iload 5, []), (130, 3, .if_icmp .ge 7, []), (133, 1, .iconst 1, []), (134, 3, .goto 4, []), (137, 1, .iconst 0, []), (138, 1, .ireturn, []), (139, 2, .iload 7, []), (141, 2, .iload 8, []), (143, 2, .iload 5, []), (145, 3, .if_icmp .ge 8, []), (148, 2, .iload 4, []), (150, 3, .goto 5, []), (153, 2, .iload 6, []), (155, 3, .if_icmp .ge 7, []), (158, 1, .iconst 1, []), (159, 3, .goto 4, []), (162, 1, .iconst 0, []), (163, 1, .ireturn, []), (164, 2, .iload 7, []), (166, 2, .iload 8, []), (168, 2, .iload 5, []), (170, 3, .if_icmp .ge 8, []), (173, 2, .iload 4, []), (175, 3, .goto 5, []), (178, 2, .iload 6, []), (180, 3, .if_icmp .lt 7, []), (183, 1, .iconst 1, []), (184, 3, .goto 4, []), (187, 1, .iconst 0, []), (188, 1, .ireturn, []), (189, 2, .iload 7, []), (191, 2, .iload 4, []), (193, 3, .if_icmp .ge 7, []), (196, 1, .iconst 1, []), (197, 3, .goto 4, []), (200, 1, .iconst 0, []), (201, 1, .ireturn, [])]
def sT187 : List sEt := [(0, 1, .lconst 0, []), (1, 1, .lstore_n 3, []), (2, 1, .iconst 0, []), (3, 2, .istore 5, []), (5, 2, .iload 5, []), (7, 1, .aload_n 0, []), (8, 3, .getfield 768, [7, 5179, 12, 0]), (11, 1, .aload_n 0, []), (12, 3, .getfield 769, [13, 5180, 12, 0]), (15, 1, .imul, []), (16, 3, .if_icmp .ge 69, []), (19, 1, .iload_n 1, []), (20, 3, .sipush 1000, []), (23, 1, .idiv, []), (24, 1, .iconst 3, []), (25, 3, .if_icmp .ne 24, []), (28, 2, .iload 5, []), (30, 1, .aload_n 0, []), (31, 3, .getfield 768, [7, 5179, 12, 0]), (34, 1, .irem, []), (35, 1, .iload_n 1, []), (36, 2, .bipush 100, []), (38, 1, .idiv, []), (39, 2, .bipush 10, []), (41, 1, .irem, []), (42, 3, .if_icmp .ne 7, []), (45, 1, .iconst 2, []), (46, 3, .goto 18, []), (49, 1, .aload_n 0, []), (50, 1, .iload_n 1, []), (51, 2, .iload 5, []), (53, 3, .invokevirtual 186, [101, 6094]), (56, 3, .ifCond .eq 7, []), (59, 1, .iconst 0, []), (60, 3, .goto 4, []), (63, 1, .iconst 1, []), (64, 2, .istore 6, []), (66, 2, .iload 6, []), (68, 1, .iload_n 2, []), (69, 3, .if_icmp .ne 10, []), (72, 1, .lload_n 3, []), (73, 1, .lconst 1, []), (74, 2, .iload 5, []), (76, 1, .lshl, []), (77, 1, .lor, []), (78, 1, .lstore_n 3, []), (79, 3, .iinc 5 1, []), (82, 3, .goto (-77), []), (85, 1, .lload_n 3, []), (86, 1, .lreturn, [])]
def sT188 : List sEt := [(0, 1, .aload_n 0, []), (1, 1, .iload_n 1, []), (2, 3, .invokevirtual 171, [93, 6061]), (5, 3, .ifCond .eq 36, []), (8, 1, .aload_n 0, []), (9, 3, .getfield 782, [47, 5193, 12, 0]), (12, 1, .iload_n 1, []), (13, 1, .iaload, []), (14, 1, .iconst 2, []), (15, 3, .if_icmp .ne 26, []), (18, 1, .iload_n 2, []), (19, 3, .ifCond .lt 22, []), (22, 1, .iload_n 2, []), (23, 1, .iconst 3, []), (24, 3, .if_icmp .ge 17, []), (27, 1, .aload_n 0, []), (28, 1, .aload_n 0, []), (29, 3, .getfield 785, [56, 5196, 12, 0]), (32, 1, .iload_n 1, []), (33, 1, .iaload, []), (34, 1, .iload_n 2, []), (35, 3, .invokevirtual 187, [105, 6091]), (38, 3, .goto 4, []), (41, 1, .lconst 0, []), (42, 1, .lreturn, [])]
def sT189 : List sEt := [(0, 1, .aload_n 0, []), (1, 1, .iload_n 1, []), (2, 3, .invokevirtual 171, [93, 6061]), (5, 3, .ifCond .eq 13, []), (8, 1, .iload_n 2, []), (9, 3, .ifCond .lt 9, []), (12, 1, .iload_n 2, []), (13, 2, .bipush 6, []), (15, 3, .if_icmp .le 9, []), (18, 1, .aload_n 0, []), (19, 1, .iconst (-1), []), (20, 3, .invokevirtual 169, [97, 6064]), (23, 1, .ireturn, []), (24, 1, .aload_n 0, []), (25, 3, .getfield 782, [47, 5193, 12, 0]), (28, 1, .iload_n 1, []), (29, 1, .iaload, []), (30, 1, .iconst 1, []), (31, 3, .if_icmp .ne 10, []), (34, 1, .aload_n 0, []), (35, 2, .bipush (-2), []), (37, 3, .invokevirtual 169, [97, 6064]), (40, 1, .ireturn, []), (41, 1, .aload_n 0, []), (42, 3, .getfield 782, [47, 5193, 12, 0]), (45, 1, .iload_n 1, []), (46, 1, .iaload, []), (47, 3, .ifCond .ne 10, []), (50, 1, .aload_n 0, []), (51, 2, .bipush (-3), []), (53, 3, .invokevirtual 169, [97, 6064]), (56, 1, .ireturn, []), (57, 1, .aload_n 0, []), (58, 3, .getfield 785, [56, 5196, 12, 0]), (61, 1, .iload_n 1, []), (62, 1, .iaload, []), (63, 1, .istore_n 3, []), (64, 1, .iload_n 3, []), (65, 3, .sipush 1000, []), (68, 1, .idiv, []), (69, 2, .istore 4, []), (71, 1, .iload_n 2, []), (72, 3, .ifCond .eq 45, []), (75, 1, .iload_n 2, []), (76, 2, .iload 4, []), (78, 3, .if_icmp .eq 39, []), (81, 1, .iload_n 2, []), (82, 1, .iconst 1, []), (83, 3, .if_icmp .ne 15, []), (86, 2, .iload 4, []), (88, 1, .iconst 4, []), (89, 3, .if_icmp .eq 28, []), (92, 2, .iload 4, []), (94, 1, .iconst 5, []), (95, 3, .if_icmp .eq 22, []), (98, 1, .iload_n 2, []), (99, 1, .iconst 2, []), (100, 3, .if_icmp .ne 10, []), (103, 2, .iload 4, []), (105, 2, .bipush 6, []), (107, 3, .if_icmp .eq 10, []), (110, 1, .aload_n 0, []), (111, 2, .bipush (-2), []), (113, 3, .invokevirtual 169, [97, 6064]), (116, 1, .ireturn, []), (117, 1, .iload_n 2, []), (118, 38, .tableswitch 95 0 5 #[38, 49, 95, 60, 71, 79], []), (156, 1, .aload_n 0, []), (157, 1, .aload_n 0, []), (158, 1, .iload_n 3, []), (159, 1, .iconst 0, []), (160, 3, .invokevirtual 187, [105, 6091]), (163, 3, .invokevirtual 176, [109, 6101]), (166, 1, .ireturn, []), (167, 1, .aload_n 0, []), (168, 1, .aload_n 0, []), (169, 1, .iload_n 3, []), (170, 1, .iconst 1, []), (171, 3, .invokevirtual 187, [105, 6091]), (174, 3, .invokevirtual 176, [109, 6101]), (177, 1, .ireturn, []), (178, 1, .aload_n 0, []), (179, 1, .aload_n 0, []), (180, 1, .iload_n 3, []), (181, 1, .iconst 2, []), (182, 3, .invokevirtual 187, [105, 6091]), (185, 3, .invokevirtual 176, [109, 6101]), (188, 1, .ireturn, []), (189, 1, .iload_n 3, []), (190, 2, .bipush 100, []), (192, 1, .idiv, []), (193, 2, .bipush 10, []), (195, 1, .irem, []), (196, 1, .ireturn, []), (197, 1, .iload_n 3, []), (198, 2, .bipush 100, []), (200, 1, .idiv, []), (201, 2, .bipush 10, []), (203, 1, .irem, []), (204, 1, .iload_n 3, []), (205, 2, .bipush 10, []), (207, 1, .idiv, []), (208, 2, .bipush 10, []), (210, 1, .irem, []), (211, 1, .imul, []), (212, 1, .ireturn, []), (213, 1, .iload_n 3, []), (214, 2, .bipush 10, []), (216, 1, .idiv, []), (217, 2, .bipush 10, []), (219, 1, .irem, []), (220, 1, .ireturn, [])]
def sT190 : List sEt := [(0, 1, .aload_n 0, []), (1, 1, .iload_n 1, []), (2, 3, .putfield 768, [7, 5179, 12, 0]), (5, 1, .aload_n 0, []), (6, 1, .iload_n 2, []), (7, 3, .putfield 769, [13, 5180, 12, 0]), (10, 1, .aload_n 0, []), (11, 1, .iconst (-1), []), (12, 3, .putfield 771, [16, 5182, 12, 0]), (15, 1, .aload_n 0, []), (16, 1, .iconst (-1), []), (17, 3, .putfield 772, [19, 5183, 12, 0]), (20, 1, .iconst 0, []), (21, 1, .istore_n 3, []), (22, 1, .iload_n 3, []), (23, 2, .bipush 64, []), (25, 3, .if_icmp .ge 23, []), (28, 1, .aload_n 0, []), (29, 3, .getfield 777, [32, 5188, 12, 0]), (32, 1, .iload_n 3, []), (33, 1, .iconst 0, []), (34, 1, .iastore, []), (35, 1, .aload_n 0, []), (36, 3, .getfield 778, [35, 5189, 12, 0]), (39, 1, .iload_n 3, []), (40, 1, .iconst (-1), []), (41, 1, .iastore, []), (42, 3, .iinc 3 1, []), (45, 3, .goto (-23), []), (48, 1, .return_, [])]
def sT191 : List sEt := [(0, 1, .aload_n 0, []), (1, 3, .getfield 779, [38, 5190, 12, 0]), (4, 1, .aload_n 0, []), (5, 3, .getfield 774, [84, 5185, 12, 0]), (8, 1, .iload_n 1, []), (9, 1, .iastore, []), (10, 1, .aload_n 0, []), (11, 3, .getfield 780, [41, 5191, 12, 0]), (14, 1, .aload_n 0, []), (15, 3, .getfield 774, [84, 5185, 12, 0]), (18, 1, .iconst 0, []), (19, 1, .iastore, []), (20, 1, .iconst 0, []), (21, 1, .istore_n 2, []), (22, 1, .iload_n 2, []), (23, 2, .bipush 6, []), (25, 3, .if_icmp .ge 25, []), (28, 1, .aload_n 0, []), (29, 3, .getfield 781, [44, 5192, 12, 0]), (32, 2, .bipush 6, []), (34, 1, .aload_n 0, []), (35, 3, .getfield 774, [84, 5185, 12, 0]), (38, 1, .imul, []), (39, 1, .iload_n 2, []), (40, 1, .iadd, []), (41, 2, .bipush 10, []), (43, 1, .iastore, []), (44, 3, .iinc 2 1, []), (47, 3, .goto (-25), []), (50, 1, .aload_n 0, []), (51, 1, .dup, []), (52, 3, .getfield 774, [84, 5185, 12, 0]), (55, 1, .dup_x1, []), (56, 1, .iconst 1, []), (57, 1, .iadd, []), (58, 3, .putfield 774, [84, 5185, 12, 0]), (61, 1, .ireturn, [])]
def sT192 : List sEt := [(0, 1, .aload_n 0, []), (1, 1, .iload_n 1, []), (2, 3, .putfield 793, [113, 5204, 12, 0]), (5, 1, .iconst 0, []), (6, 1, .ireturn, [])]
def sT193 : List sEt := [(0, 1, .iconst 0, []), (1, 1, .istore_n 1, []), (2, 1, .aload_n 0, []), (3, 3, .getfield 790, [116, 5201, 12, 0]), (6, 1, .istore_n 2, []), (7, 1, .iconst 0, []), (8, 1, .istore_n 3, []), (9, 1, .iload_n 3, []), (10, 2, .bipush 7, []), (12, 3, .if_icmp .ge 118, []), (15, 1, .aload_n 0, []), (16, 3, .getfield 790, [116, 5201, 12, 0]), (19, 2, .istore 4, []), (21, 1, .iload_n 1, []), (22, 2, .istore 5, []), (24, 1, .aload_n 0, []), (25, 3, .getfield 788, [66, 5199, 12, 0]), (28, 2, .iload 5, []), (30, 1, .iaload, []), (31, 3, .ifCond .eq 44, []), (34, 2, .iload 4, []), (36, 1, .aload_n 0, []), (37, 3, .getfield 791, [119, 5202, 12, 0]), (40, 3, .if_icmp .ge 35, []), (43, 1, .aload_n 0, []), (44, 3, .getfield 786, [59, 5197, 12, 0]), (47, 1, .aload_n 0, []), (48, 3, .getfield 789, [122, 5200, 12, 0]), (51, 2, .iload 4, []), (53, 1, .iadd, []), (54, 1, .laload, []), (55, 1, .l2i, []), (56, 1, .aload_n 0, []), (57, 3, .getfield 788, [66, 5199, 12, 0]), (60, 2, .iload 5, []), (62, 1, .iaload, []), (63, 3, .if_icmp .ne 12, []), (66, 3, .iinc 4 1, []), (69, 3, .iinc 5 1, []), (72, 3, .goto (-48), []), (75, 1, .aload_n 0, []), (76, 3, .getfield 788, [66, 5199, 12, 0]), (79, 2, .iload 5, []), (81, 1, .iaload, []), (82, 3, .ifCond .ne 11, []), (85, 1, .aload_n 0, []), (86, 2, .iload 4, []), (88, 3, .putfield 790, [116, 5201, 12, 0]), (91, 1, .iload_n 3, []), (92, 1, .ireturn, []), (93, 2, .iload 4, []), (95, 1, .iload_n 2, []), (96, 3, .if_icmp .le 8, []), (99, 2, .iload 4, []), (101, 3, .goto 4, []), (104, 1, .iload_n 2, []), (105, 1, .istore_n 2, []), (106, 1, .aload_n 0, []), (107, 3, .getfield 788, [66, 5199, 12, 0]), (110, 1, .iload_n 1, []), (111, 1, .iaload, []), (112, 3, .ifCond .eq 9, []), (115, 3, .iinc 1 1, []), (118, 3, .goto (-12), []), (121, 3, .iinc 1 1, []), (124, 3, .iinc 3 1, []), (127, 3, .goto (-118), []), (130, 1, .aload_n 0, []), (131, 1, .iload_n 2, []), (132, 3, .putfield 793, [113, 5204, 12, 0]), (135, 1, .iconst (-1), []), (136, 1, .ireturn, [])]
def sT194 : List sEt := [(0, 1, .aload_n 0, []), (1, 3, .getfield 790, [116, 5201, 12, 0]), (4, 1, .aload_n 0, []), (5, 3, .getfield 791, [119, 5202, 12, 0]), (8, 3, .if_icmp .ge 47, []), (11, 1, .aload_n 0, []), (12, 3, .getfield 786, [59, 5197, 12, 0]), (15, 1, .aload_n 0, []), (16, 3, .getfield 789, [122, 5200, 12, 0]), (19, 1, .aload_n 0, []), (20, 3, .getfield 790, [116, 5201, 12, 0]), (23, 1, .iadd, []), (24, 1, .laload, []), (25, 1, .l2i, []), (26, 2, .bipush 48, []), (28, 3, .if_icmp .lt 27, []), (31, 1, .aload_n 0, []), (32, 3, .getfield 786, [59, 5197, 12, 0]), (35, 1, .aload_n 0, []), (36, 3, .getfield 789, [122, 5200, 12, 0]), (39, 1, .aload_n 0, []), (40, 3, .getfield 790, [116, 5201, 12, 0]), (43, 1, .iadd, []), (44, 1, .laload, []), (45, 1, .l2i, []), (46, 2, .bipush 57, []), (48, 3, .if_icmp .gt 7, []), (51, 1, .iconst 1, []), (52, 3, .goto 4, []), (55, 1, .iconst 0, []), (56, 1, .ireturn, [])]
def sT195 : List sEt := [(0, 1, .aload_n 0, []), (1, 3, .getfield 790, [116, 5201, 12, 0]), (4, 1, .istore_n 3, []), (5, 1, .aload_n 0, []), (6, 3, .invokevirtual 194, [125, 6135]), (9, 3, .ifCond .ne 12, []), (12, 1, .aload_n 0, []), (13, 1, .aload_n 0, []), (14, 3, .getfield 790, [116, 5201, 12, 0]), (17, 3, .invokevirtual 192, [129, 6126]), (20, 1, .ireturn, []), (21, 1, .aload_n 0, []), (22, 1, .aload_n 0, []), (23, 3, .getfield 786, [59, 5197, 12, 0]), (26, 1, .aload_n 0, []), (27, 3, .getfield 789, [122, 5200, 12, 0]), (30, 1, .aload_n 0, []), (31, 3, .getfield 790, [116, 5201, 12, 0]), (34, 1, .iadd, []), (35, 1, .laload, []), (36, 1, .l2i, []), (37, 2, .bipush 48, []), (39, 1, .isub, []), (40, 3, .putfield 792, [132, 5203, 12, 0]), (43, 1, .aload_n 0, []), (44, 1, .dup, []), (45, 3, .getfield 790, [116, 5201, 12, 0]), (48, 1, .iconst 1, []), (49, 1, .iadd, []), (50, 3, .putfield 790, [116, 5201, 12, 0]), (53, 1, .aload_n 0, []), (54, 3, .invokevirtual 194, [125, 6135]), (57, 3, .ifCond .eq 43, []), (60, 1, .aload_n 0, []), (61, 2, .bipush 10, []), (63, 1, .aload_n 0, []), (64, 3, .getfield 792, [132, 5203, 12, 0]), (67, 1, .imul, []), (68, 1, .aload_n 0, []), (69, 3, .getfield 786, [59, 5197, 12, 0]), (72, 1, .aload_n 0, []), (73, 3, .getfield 789, [122, 5200, 12, 0]), (76, 1, .aload_n 0, []), (77, 3, .getfield 790, [116, 5201, 12, 0]), (80, 1, .iadd, []), (81, 1, .laload, []), (82, 1, .l2i, []), (83, 1, .iadd, []), (84, 2, .bipush 48, []), (86, 1, .isub, []), (87, 3, .putfield 792, [132, 5203, 12, 0]), (90, 1, .aload_n 0, []), (91, 1, .dup, []), (92, 3, .getfield 790, [116, 5201, 12, 0]), (95, 1, .iconst 1, []), (96, 1, .iadd, []), (97, 3, .putfield 790, [116, 5201, 12, 0]), (100, 1, .aload_n 0, []), (101, 3, .getfield 792, [132, 5203, 12, 0]), (104, 1, .iload_n 1, []), (105, 3, .if_icmp .lt 11, []), (108, 1, .aload_n 0, []), (109, 3, .getfield 792, [132, 5203, 12, 0]), (112, 1, .iload_n 2, []), (113, 3, .if_icmp .le 11, []), (116, 1, .aload_n 0, []), (117, 1, .iload_n 3, []), (118, 3, .invokevirtual 192, [129, 6126]), (121, 3, .ifCond .eq 7, []), (124, 1, .iconst 1, []), (125, 3, .goto 4, []), (128, 1, .iconst 0, []), (129, 1, .ireturn, [])]
def sT196 : List sEt := [(0, 1, .aload_n 0, []), (1, 3, .getfield 790, [116, 5201, 12, 0]), (4, 1, .aload_n 0, []), (5, 3, .getfield 791, [119, 5202, 12, 0]), (8, 3, .if_icmp .ge 23, []), (11, 1, .aload_n 0, []), (12, 3, .getfield 786, [59, 5197, 12, 0]), (15, 1, .aload_n 0, []), (16, 3, .getfield 789, [122, 5200, 12, 0]), (19, 1, .aload_n 0, []), (20, 3, .getfield 790, [116, 5201, 12, 0]), (23, 1, .iadd, []), (24, 1, .laload, []), (25, 1, .l2i, []), (26, 2, .bipush 32, []), (28, 3, .if_icmp .eq 12, []), (31, 1, .aload_n 0, []), (32, 1, .aload_n 0, []), (33, 3, .getfield 790, [116, 5201, 12, 0]), (36, 3, .invokevirtual 192, [129, 6126]), (39, 1, .ireturn, []), (40, 1, .aload_n 0, []), (41, 1, .dup, []), (42, 3, .getfield 790, [116, 5201, 12, 0]), (45, 1, .iconst 1, []), (46, 1, .iadd, []), (47, 3, .putfield 790, [116, 5201, 12, 0]), (50, 1, .aload_n 0, []), (51, 1, .iload_n 1, []), (52, 1, .iload_n 2, []), (53, 3, .invokevirtual 195, [135, 6132]), (56, 1, .ireturn, [])]
def sT197 : List sEt := [(0, 1, .iload_n 1, []), (1, 2, .bipush 6, []), (3, 3, .if_icmp .ne 15, []), (6, 1, .aload_n 0, []), (7, 3, .getfield 774, [84, 5185, 12, 0]), (10, 1, .iconst 5, []), (11, 3, .if_icmp .ne 7, []), (14, 1, .iconst 1, []), (15, 3, .goto 4, []), (18, 1, .iconst 0, []), (19, 1, .ireturn, [])]
def sT198 : List sEt := [(0, 1, .iconst 0, []), (1, 1, .istore_n 2, []), (2, 1, .iconst 0, []), (3, 1, .istore_n 3, []), (4, 1, .iload_n 3, []), (5, 1, .iload_n 1, []), (6, 3, .if_icmp .ge 26, []), (9, 1, .iload_n 3, []), (10, 1, .aload_n 0, []), (11, 3, .getfield 788, [66, 5199, 12, 0]), (14, 1, .iload_n 2, []), (15, 1, .iaload, []), (16, 3, .ifCond .ne 7, []), (19, 1, .iconst 1, []), (20, 3, .goto 4, []), (23, 1, .iconst 0, []), (24, 1, .iadd, []), (25, 1, .istore_n 3, []), (26, 3, .iinc 2 1, []), (29, 3, .goto (-25), []), (32, 1, .aload_n 0, []), (33, 3, .getfield 790, [116, 5201, 12, 0]), (36, 1, .istore_n 3, []), (37, 1, .aload_n 0, []), (38, 3, .getfield 788, [66, 5199, 12, 0]), (41, 1, .iload_n 2, []), (42, 1, .iaload, []), (43, 2, .bipush 32, []), (45, 3, .if_icmp .le 41, []), (48, 1, .iload_n 3, []), (49, 1, .aload_n 0, []), (50, 3, .getfield 791, [119, 5202, 12, 0]), (53, 3, .if_icmp .ge 33, []), (56, 1, .aload_n 0, []), (57, 3, .getfield 786, [59, 5197, 12, 0]), (60, 1, .aload_n 0, []), (61, 3, .getfield 789, [122, 5200, 12, 0]), (64, 1, .iload_n 3, []), (65, 1, .iadd, []), (66, 1, .laload, []), (67, 1, .l2i, []), (68, 1, .aload_n 0, []), (69, 3, .getfield 788, [66, 5199, 12, 0]), (72, 1, .iload_n 2, []), (73, 1, .iaload, []), (74, 3, .if_icmp .ne 12, []), (77, 3, .iinc 3 1, []), (80, 3, .iinc 2 1, []), (83, 3, .goto (-46), []), (86, 1, .aload_n 0, []), (87, 3, .getfield 788, [66, 5199, 12, 0]), (90, 1, .iload_n 2, []), (91, 1, .iaload, []), (92, 2, .bipush 32, []), (94, 3, .if_icmp .gt 7, []), (97, 1, .iconst 1, []), (98, 3, .goto 4, []), (101, 1, .iconst 0, []), (102, 1, .ireturn, [])]
def sT199 : List sEt := [(0, 1, .aload_n 0, []), (1, 2, .bipush 6, []), (3, 3, .invokevirtual 198, [138, 6120]), (6, 3, .ifCond .eq 21, []), (9, 1, .aload_n 0, []), (10, 2, .bipush 6, []), (12, 3, .invokevirtual 197, [141, 6123]), (15, 3, .ifCond .eq 12, []), (18, 1, .aload_n 0, []), (19, 1, .aload_n 0, []), (20, 3, .getfield 790, [116, 5201, 12, 0]), (23, 3, .invokevirtual 192, [129, 6126]), (26, 1, .ireturn, []), (27, 1, .aload_n 0, []), (28, 3, .getfield 790, [116, 5201, 12, 0]), (31, 1, .istore_n 1, []), (32, 1, .aload_n 0, []), (33, 3, .invokevirtual 193, [144, 6129]), (36, 1, .istore_n 2, []), (37, 1, .iload_n 2, []), (38, 1, .iconst (-1), []), (39, 3, .if_icmp .ne 5, []), (42, 1, .iconst 0, []), (43, 1, .ireturn, []), (44, 1, .aload_n 0, []), (45, 3, .getfield 768, [7, 5179, 12, 0]), (48, 1, .aload_n 0, []), (49, 3, .getfield 769, [13, 5180, 12, 0]), (52, 1, .imul, []), (53, 1, .iconst 1, []), (54, 1, .isub, []), (55, 1, .istore_n 3, []), (56, 1, .iload_n 2, []), (57, 3, .ifCond .ne 46, []), (60, 1, .aload_n 0, []), (61, 1, .iconst 2, []), (62, 2, .bipush 8, []), (64, 3, .invokevirtual 195, [135, 6132]), (67, 3, .ifCond .ne 5, []), (70, 1, .iconst 0, []), (71, 1, .ireturn, []), (72, 1, .aload_n 0, []), (73, 3, .getfield 792, [132, 5203, 12, 0]), (76, 2, .istore 4, []), (78, 1, .aload_n 0, []), (79, 1, .iconst 2, []), (80, 2, .bipush 8, []), (82, 3, .invokevirtual 196, [148, 6138]), (85, 3, .ifCond .ne 5, []), (88, 1, .iconst 0, []), (89, 1, .ireturn, []), (90, 1, .aload_n 0, []), (91, 2, .iload 4, []), (93, 1, .aload_n 0, []), (94, 3, .getfield 792, [132, 5203, 12, 0]), (97, 3, .invokevirtual 190, [151, 6141]), (100, 3, .goto 261, []), (103, 1, .iload_n 2, []), (104, 1, .iconst 1, []), (105, 3, .if_icmp .ne 80, []), (108, 1, .aload_n 0, []), (109, 1, .iconst 0, []), (110, 1, .iconst 5, []), (111, 3, .invokevirtual 195, [135, 6132]), (114, 3, .ifCond .ne 5, []), (117, 1, .iconst 0, []), (118, 1, .ireturn, []), (119, 1, .aload_n 0, []), (120, 3, .getfield 792, [132, 5203, 12, 0]), (123, 2, .istore 4, []), (125, 1, .aload_n 0, []), (126, 1, .iconst 0, []), (127, 1, .iload_n 3, []), (128, 3, .invokevirtual 196, [148, 6138]), (131, 3, .ifCond .ne 5, []), (134, 1, .iconst 0, []), (135, 1, .ireturn, []), (136, 1, .aload_n 0, []), (137, 3, .getfield 792, [132, 5203, 12, 0]), (140, 2, .istore 5, []), (142, 1, .aload_n 0, []), (143, 2, .iload 5, []), (145, 1, .iload_n 3, []), (146, 3, .invokevirtual 196, [148, 6138]), (149, 3, .ifCond .ne 5, []), (152, 1, .iconst 0, []), (153, 1, .ireturn, []), (154, 2, .iload 5, []), (156, 2, .istore 6, []), (158, 2, .iload 6, []), (160, 1, .aload_n 0, []), (161, 3, .getfield 792, [132, 5203, 12, 0]), (164, 3, .if_icmp .gt 18, []), (167, 1, .aload_n 0, []), (168, 3, .getfield 777, [32, 5188, 12, 0]), (171, 2, .iload 6, []), (173, 2, .iload 4, []), (175, 1, .iastore, []), (176, 3, .iinc 6 1, []), (179, 3, .goto (-21), []), (182, 3, .goto 179, []), (185, 1, .iload_n 2, []), (186, 2, .bipush 6, []), (188, 3, .if_icmp .ne 87, []), (191, 1, .aload_n 0, []), (192, 3, .getfield 774, [84, 5185, 12, 0]), (195, 1, .iconst 5, []), (196, 3, .if_icmp .ne 9, []), (199, 1, .aload_n 0, []), (200, 1, .iload_n 1, []), (201, 3, .invokevirtual 192, [129, 6126]), (204, 1, .ireturn, []), (205, 1, .aload_n 0, []), (206, 1, .iconst 1, []), (207, 2, .bipush 9, []), (209, 3, .invokevirtual 195, [135, 6132]), (212, 3, .ifCond .ne 5, []), (215, 1, .iconst 0, []), (216, 1, .ireturn, []), (217, 1, .aload_n 0, []), (218, 1, .aload_n 0, []), (219, 3, .getfield 792, [132, 5203, 12, 0]), (222, 3, .invokevirtual 191, [155, 6144]), (225, 2, .istore 4, []), (227, 1, .iconst 0, []), (228, 2, .istore 5, []), (230, 2, .iload 5, []), (232, 2, .bipush 6, []), (234, 3, .if_icmp .ge 38, []), (237, 1, .aload_n 0, []), (238, 1, .iconst 0, []), (239, 2, .bipush 99, []), (241, 3, .invokevirtual 196, [148, 6138]), (244, 3, .ifCond .ne 5, []), (247, 1, .iconst 0, []), (248, 1, .ireturn, []), (249, 1, .aload_n 0, []), (250, 3, .getfield 781, [44, 5192, 12, 0]), (253, 2, .bipush 6, []), (255, 2, .iload 4, []), (257, 1, .imul, []), (258, 2, .iload 5, []), (260, 1, .iadd, []), (261, 1, .aload_n 0, []), (262, 3, .getfield 792, [132, 5203, 12, 0]), (265, 1, .iastore, []), (266, 3, .iinc 5 1, []), (269, 3, .goto (-39), []), (272, 3, .goto 89, []), (275, 1, .aload_n 0, []), (276, 1, .iconst 0, []), (277, 1, .iload_n 2, []), (278, 1, .iconst 2, []), (279, 3, .if_icmp .ne 7, []), (282, 1, .iconst 3, []), (283, 3, .goto 14, []), (286, 1, .iload_n 2, []), (287, 1, .iconst 5, []), (288, 3, .if_icmp .ne 8, []), (291, 2, .bipush 20, []), (293, 3, .goto 4, []), (296, 1, .iload_n 3, []), (297, 3, .invokevirtual 195, [135, 6132]), (300, 3, .ifCond .ne 5, []), (303, 1, .iconst 0, []), (304, 1, .ireturn, []), (305, 1, .iload_n 2, []), (306, 1, .iconst 2, []), (307, 3, .if_icmp .ne 14, []), (310, 1, .aload_n 0, []), (311, 1, .aload_n 0, []), (312, 3, .getfield 792, [132, 5203, 12, 0]), (315, 3, .putfield 770, [158, 5181, 12, 0]), (318, 3, .goto 43, []), (321, 1, .iload_n 2, []), (322, 1, .iconst 3, []), (323, 3, .if_icmp .ne 14, []), (326, 1, .aload_n 0, []), (327, 1, .aload_n 0, []), (328, 3, .getfield 792, [132, 5203, 12, 0]), (331, 3, .putfield 771, [16, 5182, 12, 0]), (334, 3, .goto 27, []), (337, 1, .iload_n 2, []), (338, 1, .iconst 4, []), (339, 3, .if_icmp .ne 14, []), (342, 1, .aload_n 0, []), (343, 1, .aload_n 0, []), (344, 3, .getfield 792, [132, 5203, 12, 0]), (347, 3, .putfield 772, [19, 5183, 12, 0]), (350, 3, .goto 11, []), (353, 1, .aload_n 0, []), (354, 1, .aload_n 0, []), (355, 3, .getfield 792, [132, 5203, 12, 0]), (358, 3, .putfield 773, [22, 5184, 12, 0]), (361, 1, .iconst 1, []), (362, 1, .ireturn, [])]
def sT200 : List sEt := [(0, 1, .iconst 0, []), (1, 2, .istore 6, []), (3, 2, .iload 6, []), (5, 1, .iload_n 2, []), (6, 3, .if_icmp .ge 39, []), (9, 2, .iload 5, []), (11, 3, .ifCond .eq 17, []), (14, 1, .aload_n 1, []), (15, 2, .iload 6, []), (17, 1, .aload_n 3, []), (18, 2, .iload 4, []), (20, 2, .iload 6, []), (22, 1, .iadd, []), (23, 1, .iaload, []), (24, 1, .iastore, []), (25, 3, .goto 14, []), (28, 1, .aload_n 3, []), (29, 2, .iload 4, []), (31, 2, .iload 6, []), (33, 1, .iadd, []), (34, 1, .aload_n 1, []), (35, 2, .iload 6, []), (37, 1, .iaload, []), (38, 1, .iastore, []), (39, 3, .iinc 6 1, []), (42, 3, .goto (-39), []), (45, 2, .iload 4, []), (47, 1, .iload_n 2, []), (48, 1, .iadd, []), (49, 1, .ireturn, [])]
def sT201 : List sEt := [(0, 1, .aload_n 0, []), (1, 1, .aload_n 0, []), (2, 3, .getfield 777, [32, 5188, 12, 0]), (5, 2, .bipush 64, []), (7, 1, .aload_n 1, []), (8, 1, .iconst 0, []), (9, 1, .iload_n 2, []), (10, 3, .invokevirtual 200, [161, 6114]), (13, 1, .istore_n 3, []), (14, 1, .aload_n 0, []), (15, 1, .aload_n 0, []), (16, 3, .getfield 778, [35, 5189, 12, 0]), (19, 2, .bipush 64, []), (21, 1, .aload_n 1, []), (22, 1, .iload_n 3, []), (23, 1, .iload_n 2, []), (24, 3, .invokevirtual 200, [161, 6114]), (27, 1, .istore_n 3, []), (28, 1, .aload_n 0, []), (29, 1, .aload_n 0, []), (30, 3, .getfield 779, [38, 5190, 12, 0]), (33, 1, .iconst 5, []), (34, 1, .aload_n 1, []), (35, 1, .iload_n 3, []), (36, 1, .iload_n 2, []), (37, 3, .invokevirtual 200, [161, 6114]), (40, 1, .istore_n 3, []), (41, 1, .aload_n 0, []), (42, 1, .aload_n 0, []), (43, 3, .getfield 780, [41, 5191, 12, 0]), (46, 1, .iconst 5, []), (47, 1, .aload_n 1, []), (48, 1, .iload_n 3, []), (49, 1, .iload_n 2, []), (50, 3, .invokevirtual 200, [161, 6114]), (53, 1, .istore_n 3, []), (54, 1, .aload_n 0, []), (55, 1, .aload_n 0, []), (56, 3, .getfield 781, [44, 5192, 12, 0]), (59, 2, .bipush 30, []), (61, 1, .aload_n 1, []), (62, 1, .iload_n 3, []), (63, 1, .iload_n 2, []), (64, 3, .invokevirtual 200, [161, 6114]), (67, 1, .istore_n 3, []), (68, 1, .iload_n 2, []), (69, 3, .ifCond .eq 68, []), (72, 1, .aload_n 0, []), (73, 1, .aload_n 1, []), (74, 1, .iload_n 3, []), (75, 1, .iaload, []), (76, 3, .putfield 768, [7, 5179, 12, 0]), (79, 1, .aload_n 0, []), (80, 1, .aload_n 1, []), (81, 1, .iload_n 3, []), (82, 1, .iconst 1, []), (83, 1, .iadd, []), (84, 1, .iaload, []), (85, 3, .putfield 769, [13, 5180, 12, 0]), (88, 1, .aload_n 0, []), (89, 1, .aload_n 1, []), (90, 1, .iload_n 3, []), (91, 1, .iconst 2, []), (92, 1, .iadd, []), (93, 1, .iaload, []), (94, 3, .putfield 770, [158, 5181, 12, 0]), (97, 1, .aload_n 0, []), (98, 1, .aload_n 1, []), (99, 1, .iload_n 3, []), (100, 1, .iconst 3, []), (101, 1, .iadd, []), (102, 1, .iaload, []), (103, 3, .putfield 771, [16, 5182, 12, 0]), (106, 1, .aload_n 0, []), (107, 1, .aload_n 1, []), (108, 1, .iload_n 3, []), (109, 1, .iconst 4, []), (110, 1, .iadd, []), (111, 1, .iaload, []), (112, 3, .putfield 772, [19, 5183, 12, 0]), (115, 1, .aload_n 0, []), (116, 1, .aload_n 1, []), (117, 1, .iload_n 3, []), (118, 1, .iconst 5, []), (119, 1, .iadd, []), (120, 1, .iaload, []), (121, 3, .putfield 773, [22, 5184, 12, 0]), (124, 1, .aload_n 0, []), (125, 1, .aload_n 1, []), (126, 1, .iload_n 3, []), (127, 2, .bipush 6, []), (129, 1, .iadd, []), (130, 1, .iaload, []), (131, 3, .putfield 774, [84, 5185, 12, 0]), (134, 3, .goto 65, []), (137, 1, .aload_n 1, []), (138, 1, .iload_n 3, []), (139, 1, .aload_n 0, []), (140, 3, .getfield 768, [7, 5179, 12, 0]), (143, 1, .iastore, []), (144, 1, .aload_n 1, []), (145, 1, .iload_n 3, []), (146, 1, .iconst 1, []), (147, 1, .iadd, []), (148, 1, .aload_n 0, []), (149, 3, .getfield 769, [13, 5180, 12, 0]), (152, 1, .iastore, []), (153, 1, .aload_n 1, []), (154, 1, .iload_n 3, []), (155, 1, .iconst 2, []), (156, 1, .iadd, []), (157, 1, .aload_n 0, []), (158, 3, .getfield 770, [158, 5181, 12, 0]), (161, 1, .iastore, []), (162, 1, .aload_n 1, []), (163, 1, .iload_n 3, []), (164, 1, .iconst 3, []), (165, 1, .iadd, []), (166, 1, .aload_n 0, []), (167, 3, .getfield 771, [16, 5182, 12, 0]), (170, 1, .iastore, []), (171, 1, .aload_n 1, []), (172, 1, .iload_n 3, []), (173, 1, .iconst 4, []), (174, 1, .iadd, []), (175, 1, .aload_n 0, []), (176, 3, .getfield 772, [19, 5183, 12, 0]), (179, 1, .iastore, []), (180, 1, .aload_n 1, []), (181, 1, .iload_n 3, []), (182, 1, .iconst 5, []), (183, 1, .iadd, []), (184, 1, .aload_n 0, []), (185, 3, .getfield 773, [22, 5184, 12, 0]), (188, 1, .iastore, []), (189, 1, .aload_n 1, []), (190, 1, .iload_n 3, []), (191, 2, .bipush 6, []), (193, 1, .iadd, []), (194, 1, .aload_n 0, []), (195, 3, .getfield 774, [84, 5185, 12, 0]), (198, 1, .iastore, []), (199, 1, .return_, [])]
def sT202 : List sEt := [(0, 1, .aload_n 0, []), (1, 1, .iload_n 1, []), (2, 1, .iconst 1, []), (3, 3, .invokevirtual 184, [165, 6108]), (6, 1, .istore_n 2, []), (7, 1, .iload_n 2, []), (8, 3, .ifCond .eq 9, []), (11, 1, .aload_n 0, []), (12, 1, .iload_n 2, []), (13, 3, .invokevirtual 169, [97, 6064]), (16, 1, .ireturn, []), (17, 1, .aload_n 0, []), (18, 1, .aload_n 0, []), (19, 3, .getfield 794, [69, 5205, 12, 0]), (22, 1, .iconst 0, []), (23, 3, .invokevirtual 201, [169, 6111]), (26, 1, .aload_n 0, []), (27, 2, .bipush 100, []), (29, 1, .iload_n 1, []), (30, 1, .imul, []), (31, 3, .putfield 789, [122, 5200, 12, 0]), (34, 1, .aload_n 0, []), (35, 1, .iconst 0, []), (36, 3, .putfield 790, [116, 5201, 12, 0]), (39, 1, .aload_n 0, []), (40, 1, .aload_n 0, []), (41, 3, .getfield 784, [53, 5195, 12, 0]), (44, 1, .iload_n 1, []), (45, 1, .iaload, []), (46, 3, .putfield 791, [119, 5202, 12, 0]), (49, 1, .aload_n 0, []), (50, 1, .iconst (-1), []), (51, 3, .putfield 775, [25, 5186, 12, 0]), (54, 1, .iconst 1, []), (55, 1, .istore_n 3, []), (56, 1, .aload_n 0, []), (57, 3, .invokevirtual 199, [172, 6117]), (60, 2, .istore 4, []), (62, 2, .iload 4, []), (64, 3, .ifCond .eq 69, []), (67, 1, .aload_n 0, []), (68, 3, .getfield 790, [116, 5201, 12, 0]), (71, 1, .aload_n 0, []), (72, 3, .getfield 791, [119, 5202, 12, 0]), (75, 3, .if_icmp .ge 58, []), (78, 1, .aload_n 0, []), (79, 3, .getfield 786, [59, 5197, 12, 0]), (82, 1, .aload_n 0, []), (83, 3, .getfield 789, [122, 5200, 12, 0]), (86, 1, .aload_n 0, []), (87, 3, .getfield 790, [116, 5201, 12, 0]), (90, 1, .iadd, []), (91, 1, .laload, []), (92, 1, .l2i, []), (93, 2, .bipush 59, []), (95, 3, .if_icmp .eq 16, []), (98, 1, .aload_n 0, []), (99, 1, .aload_n 0, []), (100, 3, .getfield 790, [116, 5201, 12, 0]), (103, 3, .invokevirtual 192, [129, 6126]), (106, 2, .istore 4, []), (108, 3, .goto (-46), []), (111, 1, .aload_n 0, []), (112, 1, .dup, []), (113, 3, .getfield 790, [116, 5201, 12, 0]), (116, 1, .iconst 1, []), (117, 1, .iadd, []), (118, 3, .putfield 790, [116, 5201, 12, 0]), (121, 3, .iinc 3 1, []), (124, 1, .aload_n 0, []), (125, 3, .invokevirtual 199, [172, 6117]), (128, 2, .istore 4, []), (130, 3, .goto (-68), []), (133, 2, .iload 4, []), (135, 3, .ifCond .eq 5, []), (138, 1, .iload_n 3, []), (139, 1, .ireturn, []), (140, 1, .aload_n 0, []), (141, 1, .aload_n 0, []), (142, 3, .getfield 794, [69, 5205, 12, 0]), (145, 1, .iconst 1, []), (146, 3, .invokevirtual 201, [169, 6111]), (149, 1, .aload_n 0, []), (150, 1, .aload_n 0, []), (151, 3, .getfield 793, [113, 5204, 12, 0]), (154, 3, .putfield 775, [25, 5186, 12, 0]), (157, 1, .aload_n 0, []), (158, 2, .bipush (-6), []), (160, 3, .invokevirtual 169, [97, 6064]), (163, 1, .ireturn, [])]
def sT203 : List sEt := [(0, 1, .aload_n 0, []), (1, 3, .getfield 775, [25, 5186, 12, 0]), (4, 1, .ireturn, [])]
def sT204 : List sEt := [(0, 1, .iload_n 1, []), (1, 1, .iconst 2, []), (2, 3, .if_icmp .lt 20, []), (5, 1, .iload_n 1, []), (6, 2, .bipush 8, []), (8, 3, .if_icmp .gt 14, []), (11, 1, .iload_n 2, []), (12, 1, .iconst 2, []), (13, 3, .if_icmp .lt 9, []), (16, 1, .iload_n 2, []), (17, 2, .bipush 8, []), (19, 3, .if_icmp .le 10, []), (22, 1, .aload_n 0, []), (23, 2, .bipush (-6), []), (25, 3, .invokevirtual 169, [97, 6064]), (28, 1, .ireturn, []), (29, 1, .aload_n 0, []), (30, 1, .iload_n 1, []), (31, 1, .iload_n 2, []), (32, 3, .invokevirtual 190, [151, 6141]), (35, 1, .iconst 1, []), (36, 1, .ireturn, [])]
def sT205 : List sEt := [(0, 1, .aload_n 0, []), (1, 1, .iload_n 1, []), (2, 3, .invokevirtual 172, [175, 6159]), (5, 3, .ifCond .eq 12, []), (8, 1, .iload_n 2, []), (9, 3, .ifCond .lt 8, []), (12, 1, .iload_n 2, []), (13, 1, .iconst 5, []), (14, 3, .if_icmp .le 9, []), (17, 1, .aload_n 0, []), (18, 1, .iconst (-1), []), (19, 3, .invokevirtual 169, [97, 6064]), (22, 1, .ireturn, []), (23, 1, .aload_n 0, []), (24, 3, .getfield 777, [32, 5188, 12, 0]), (27, 1, .iload_n 1, []), (28, 1, .iaload, []), (29, 1, .istore_n 3, []), (30, 1, .aload_n 0, []), (31, 3, .getfield 777, [32, 5188, 12, 0]), (34, 1, .iload_n 1, []), (35, 1, .iload_n 2, []), (36, 1, .iastore, []), (37, 1, .iload_n 3, []), (38, 1, .ireturn, [])]
def sT206 : List sEt := [(0, 1, .iload_n 1, []), (1, 3, .ifCond .ne 25, []), (4, 1, .iload_n 2, []), (5, 3, .ifCond .lt 21, []), (8, 1, .iload_n 2, []), (9, 1, .iconst 4, []), (10, 3, .if_icmp .ge 16, []), (13, 1, .aload_n 0, []), (14, 3, .getfield 770, [158, 5181, 12, 0]), (17, 1, .istore_n 3, []), (18, 1, .aload_n 0, []), (19, 1, .iload_n 2, []), (20, 3, .putfield 770, [158, 5181, 12, 0]), (23, 3, .goto 100, []), (26, 1, .iload_n 1, []), (27, 1, .iconst 1, []), (28, 3, .if_icmp .ne 29, []), (31, 1, .iload_n 2, []), (32, 1, .iconst (-1), []), (33, 3, .if_icmp .eq 11, []), (36, 1, .aload_n 0, []), (37, 1, .iload_n 2, []), (38, 3, .invokevirtual 172, [175, 6159]), (41, 3, .ifCond .eq 16, []), (44, 1, .aload_n 0, []), (45, 3, .getfield 771, [16, 5182, 12, 0]), (48, 1, .istore_n 3, []), (49, 1, .aload_n 0, []), (50, 1, .iload_n 2, []), (51, 3, .putfield 771, [16, 5182, 12, 0]), (54, 3, .goto 69, []), (57, 1, .iload_n 1, []), (58, 1, .iconst 2, []), (59, 3, .if_icmp .ne 29, []), (62, 1, .iload_n 2, []), (63, 1, .iconst (-1), []), (64, 3, .if_icmp .eq 11, []), (67, 1, .aload_n 0, []), (68, 1, .iload_n 2, []), (69, 3, .invokevirtual 172, [175, 6159]), (72, 3, .ifCond .eq 16, []), (75, 1, .aload_n 0, []), (76, 3, .getfield 772, [19, 5183, 12, 0]), (79, 1, .istore_n 3, []), (80, 1, .aload_n 0, []), (81, 1, .iload_n 2, []), (82, 3, .putfield 772, [19, 5183, 12, 0]), (85, 3, .goto 38, []), (88, 1, .iload_n 1, []), (89, 1, .iconst 3, []), (90, 3, .if_icmp .ne 26, []), (93, 1, .iload_n 2, []), (94, 3, .ifCond .lt 22, []), (97, 1, .iload_n 2, []), (98, 2, .bipush 20, []), (100, 3, .if_icmp .gt 16, []), (103, 1, .aload_n 0, []), (104, 3, .getfield 773, [22, 5184, 12, 0]), (107, 1, .istore_n 3, []), (108, 1, .aload_n 0, []), (109, 1, .iload_n 2, []), (110, 3, .putfield 773, [22, 5184, 12, 0]), (113, 3, .goto 10, []), (116, 1, .aload_n 0, []), (117, 2, .bipush (-6), []), (119, 3, .invokevirtual 170, [178, 6166]), (122, 1, .ireturn, []), (123, 1, .iload_n 3, []), (124, 1, .ireturn, [])]
def sT207 : List sEt := [(0, 1, .iload_n 1, []), (1, 1, .iconst 1, []), (2, 3, .if_icmp .lt 9, []), (5, 1, .iload_n 1, []), (6, 2, .bipush 9, []), (8, 3, .if_icmp .le 10, []), (11, 1, .aload_n 0, []), (12, 2, .bipush (-6), []), (14, 3, .invokevirtual 169, [97, 6064]), (17, 1, .ireturn, []), (18, 1, .aload_n 0, []), (19, 3, .getfield 774, [84, 5185, 12, 0]), (22, 1, .iconst 5, []), (23, 3, .if_icmp .ne 12, []), (26, 1, .aload_n 0, []), (27, 2, .bipush (-7), []), (29, 3, .invokevirtual 169, [97, 6064]), (32, 3, .goto 8, []), (35, 1, .aload_n 0, []), (36, 1, .iload_n 1, []), (37, 3, .invokevirtual 191, [155, 6144]), (40, 1, .ireturn, [])]
def sT208 : List sEt := [(0, 1, .aload_n 0, []), (1, 1, .iload_n 1, []), (2, 3, .invokevirtual 173, [181, 6177]), (5, 3, .ifCond .eq 12, []), (8, 1, .iload_n 2, []), (9, 3, .ifCond .lt 8, []), (12, 1, .iload_n 2, []), (13, 1, .iconst 5, []), (14, 3, .if_icmp .le 9, []), (17, 1, .aload_n 0, []), (18, 1, .iconst (-1), []), (19, 3, .invokevirtual 169, [97, 6064]), (22, 1, .ireturn, []), (23, 1, .iload_n 3, []), (24, 3, .ifCond .lt 9, []), (27, 1, .iload_n 3, []), (28, 2, .bipush 99, []), (30, 3, .if_icmp .le 10, []), (33, 1, .aload_n 0, []), (34, 2, .bipush (-6), []), (36, 3, .invokevirtual 169, [97, 6064]), (39, 1, .ireturn, []), (40, 1, .aload_n 0, []), (41, 3, .getfield 781, [44, 5192, 12, 0]), (44, 2, .bipush 6, []), (46, 1, .iload_n 1, []), (47, 1, .imul, []), (48, 1, .iload_n 2, []), (49, 1, .iadd, []), (50, 1, .iaload, []), (51, 2, .istore 4, []), (53, 1, .aload_n 0, []), (54, 3, .getfield 781, [44, 5192, 12, 0]), (57, 2, .bipush 6, []), (59, 1, .iload_n 1, []), (60, 1, .imul, []), (61, 1, .iload_n 2, []), (62, 1, .iadd, []), (63, 1, .iload_n 3, []), (64, 1, .iastore, []), (65, 2, .iload 4, []), (67, 1, .ireturn, [])]
def sT209 : List sEt := [(0, 1, .aload_n 0, []), (1, 1, .iload_n 1, []), (2, 3, .invokevirtual 173, [181, 6177]), (5, 3, .ifCond .ne 9, []), (8, 1, .aload_n 0, []), (9, 1, .iconst (-1), []), (10, 3, .invokevirtual 169, [97, 6064]), (13, 1, .ireturn, []), (14, 1, .iload_n 2, []), (15, 3, .ifCond .eq 7, []), (18, 1, .iconst 1, []), (19, 3, .goto 4, []), (22, 1, .iconst 0, []), (23, 1, .istore_n 3, []), (24, 1, .aload_n 0, []), (25, 3, .getfield 780, [41, 5191, 12, 0]), (28, 1, .iload_n 1, []), (29, 1, .iaload, []), (30, 1, .iload_n 3, []), (31, 3, .if_icmp .ne 5, []), (34, 1, .iconst 0, []), (35, 1, .ireturn, []), (36, 1, .aload_n 0, []), (37, 3, .getfield 780, [41, 5191, 12, 0]), (40, 1, .iload_n 1, []), (41, 1, .iload_n 3, []), (42, 1, .iastore, []), (43, 1, .iconst 1, []), (44, 1, .ireturn, [])]
def sT210 : List sEt := [(0, 1, .aload_n 0, []), (1, 1, .iload_n 1, []), (2, 3, .invokevirtual 173, [181, 6177]), (5, 3, .ifCond .ne 10, []), (8, 1, .aload_n 0, []), (9, 2, .bipush (-5), []), (11, 3, .invokevirtual 169, [97, 6064]), (14, 1, .ireturn, []), (15, 1, .iload_n 2, []), (16, 2, .bipush 10, []), (18, 3, .if_icmp .lt 24, []), (21, 1, .iload_n 2, []), (22, 2, .bipush 16, []), (24, 3, .if_icmp .ge 18, []), (27, 1, .aload_n 0, []), (28, 3, .getfield 781, [44, 5192, 12, 0]), (31, 2, .bipush 6, []), (33, 1, .iload_n 1, []), (34, 1, .imul, []), (35, 1, .iload_n 2, []), (36, 1, .iadd, []), (37, 2, .bipush 10, []), (39, 1, .isub, []), (40, 1, .iaload, []), (41, 1, .ireturn, []), (42, 1, .iload_n 2, []), (43, 3, .ifCond .ne 12, []), (46, 1, .aload_n 0, []), (47, 3, .getfield 779, [38, 5190, 12, 0]), (50, 1, .iload_n 1, []), (51, 1, .iaload, []), (52, 3, .goto 40, []), (55, 1, .iload_n 2, []), (56, 1, .iconst 1, []), (57, 3, .if_icmp .ne 12, []), (60, 1, .aload_n 0, []), (61, 3, .getfield 780, [41, 5191, 12, 0]), (64, 1, .iload_n 1, []), (65, 1, .iaload, []), (66, 3, .goto 26, []), (69, 1, .iload_n 2, []), (70, 1, .iconst 2, []), (71, 3, .if_icmp .ne 15, []), (74, 1, .aload_n 0, []), (75, 1, .aload_n 0, []), (76, 1, .iload_n 1, []), (77, 3, .invokevirtual 213, [184, 6188]), (80, 3, .invokevirtual 176, [109, 6101]), (83, 3, .goto 9, []), (86, 1, .aload_n 0, []), (87, 2, .bipush (-5), []), (89, 3, .invokevirtual 169, [97, 6064]), (92, 1, .ireturn, [])]
def sT211 : List sEt := [(0, 1, .aload_n 0, []), (1, 3, .getfield 780, [41, 5191, 12, 0]), (4, 1, .iload_n 1, []), (5, 1, .iaload, []), (6, 1, .iconst 1, []), (7, 3, .if_icmp .ne 28, []), (10, 1, .aload_n 0, []), (11, 3, .getfield 772, [19, 5183, 12, 0]), (14, 1, .iconst (-1), []), (15, 3, .if_icmp .eq 20, []), (18, 1, .aload_n 0, []), (19, 1, .lload_n 2, []), (20, 1, .aload_n 0, []), (21, 3, .getfield 772, [19, 5183, 12, 0]), (24, 3, .invokevirtual 177, [188, 6205]), (27, 3, .ifCond .eq 8, []), (30, 2, .bipush 20, []), (32, 3, .goto 4, []), (35, 1, .iconst 0, []), (36, 2, .istore 4, []), (38, 1, .iconst 0, []), (39, 2, .istore 5, []), (41, 2, .iload 5, []), (43, 1, .aload_n 0, []), (44, 3, .getfield 768, [7, 5179, 12, 0]), (47, 1, .aload_n 0, []), (48, 3, .getfield 769, [13, 5180, 12, 0]), (51, 1, .imul, []), (52, 3, .if_icmp .ge 41, []), (55, 1, .aload_n 0, []), (56, 1, .lload_n 2, []), (57, 2, .iload 5, []), (59, 3, .invokevirtual 177, [188, 6205]), (62, 3, .ifCond .eq 25, []), (65, 2, .iload 4, []), (67, 1, .aload_n 0, []), (68, 3, .getfield 781, [44, 5192, 12, 0]), (71, 2, .bipush 6, []), (73, 1, .iload_n 1, []), (74, 1, .imul, []), (75, 1, .aload_n 0, []), (76, 3, .getfield 777, [32, 5188, 12, 0]), (79, 2, .iload 5, []), (81, 1, .iaload, []), (82, 1, .iadd, []), (83, 1, .iaload, []), (84, 1, .iadd, []), (85, 2, .istore 4, []), (87, 3, .iinc 5 1, []), (90, 3, .goto (-49), []), (93, 2, .iload 4, []), (95, 1, .ireturn, [])]
def sT212 : List sEt := [(0, 1, .aload_n 0, []), (1, 1, .iload_n 1, []), (2, 3, .invokevirtual 173, [181, 6177]), (5, 3, .ifCond .eq 20, []), (8, 1, .aload_n 0, []), (9, 1, .lload_n 2, []), (10, 3, .invokevirtual 175, [192, 6195]), (13, 3, .ifCond .eq 12, []), (16, 1, .aload_n 0, []), (17, 1, .iload_n 1, []), (18, 1, .lload_n 2, []), (19, 3, .invokevirtual 211, [196, 6202]), (22, 3, .goto 8, []), (25, 1, .aload_n 0, []), (26, 1, .iconst (-1), []), (27, 3, .invokevirtual 169, [97, 6064]), (30, 1, .ireturn, [])]
def sT213 : List sEt := [(0, 1, .lconst 0, []), (1, 1, .lstore_n 2, []), (2, 1, .iconst 0, []), (3, 2, .istore 4, []), (5, 2, .iload 4, []), (7, 1, .aload_n 0, []), (8, 3, .getfield 768, [7, 5179, 12, 0]), (11, 1, .aload_n 0, []), (12, 3, .getfield 769, [13, 5180, 12, 0]), (15, 1, .imul, []), (16, 3, .if_icmp .ge 27, []), (19, 1, .aload_n 0, []), (20, 3, .getfield 778, [35, 5189, 12, 0]), (23, 2, .iload 4, []), (25, 1, .iaload, []), (26, 1, .iload_n 1, []), (27, 3, .if_icmp .ne 10, []), (30, 1, .lload_n 2, []), (31, 1, .lconst 1, []), (32, 2, .iload 4, []), (34, 1, .lshl, []), (35, 1, .lor, []), (36, 1, .lstore_n 2, []), (37, 3, .iinc 4 1, []), (40, 3, .goto (-35), []), (43, 1, .lload_n 2, []), (44, 1, .lreturn, [])]
def sT214 : List sEt := [(0, 1, .iload_n 1, []), (1, 1, .iconst (-1), []), (2, 3, .if_icmp .eq 17, []), (5, 1, .iload_n 1, []), (6, 2, .bipush 9, []), (8, 3, .if_icmp .eq 11, []), (11, 1, .aload_n 0, []), (12, 1, .iload_n 1, []), (13, 3, .invokevirtual 173, [181, 6177]), (16, 3, .ifCond .eq 7, []), (19, 1, .iconst 1, []), (20, 3, .goto 4, []), (23, 1, .iconst 0, []), (24, 1, .ireturn, [])]
def sT215 : List sEt := [(0, 1, .aload_n 0, []), (1, 1, .iload_n 1, []), (2, 3, .invokevirtual 172, [175, 6159]), (5, 3, .ifCond .eq 12, []), (8, 1, .aload_n 0, []), (9, 3, .getfield 778, [35, 5189, 12, 0]), (12, 1, .iload_n 1, []), (13, 1, .iaload, []), (14, 3, .goto 4, []), (17, 1, .iconst (-1), []), (18, 1, .ireturn, [])]
def sT216 : List sEt := [(0, 1, .aload_n 0, []), (1, 1, .lload_n 1, []), (2, 3, .invokevirtual 175, [192, 6195]), (5, 3, .ifCond .eq 11, []), (8, 1, .aload_n 0, []), (9, 1, .iload_n 3, []), (10, 3, .invokevirtual 214, [200, 7002]), (13, 3, .ifCond .ne 9, []), (16, 1, .aload_n 0, []), (17, 1, .iconst (-1), []), (18, 3, .invokevirtual 169, [97, 6064]), (21, 1, .ireturn, []), (22, 1, .iconst 0, []), (23, 2, .istore 4, []), (25, 2, .iload 4, []), (27, 1, .aload_n 0, []), (28, 3, .getfield 768, [7, 5179, 12, 0]), (31, 1, .aload_n 0, []), (32, 3, .getfield 769, [13, 5180, 12, 0]), (35, 1, .imul, []), (36, 3, .if_icmp .ge 27, []), (39, 1, .aload_n 0, []), (40, 1, .lload_n 1, []), (41, 2, .iload 4, []), (43, 3, .invokevirtual 177, [188, 6205]), (46, 3, .ifCond .eq 11, []), (49, 1, .aload_n 0, []), (50, 3, .getfield 778, [35, 5189, 12, 0]), (53, 2, .iload 4, []), (55, 1, .iload_n 3, []), (56, 1, .iastore, []), (57, 3, .iinc 4 1, []), (60, 3, .goto (-35), []), (63, 1, .aload_n 0, []), (64, 1, .lload_n 1, []), (65, 3, .invokevirtual 176, [109, 6101]), (68, 1, .ireturn, [])]
def sT217 : List sEt := [(0, 1, .aload_n 0, []), (1, 1, .iload_n 1, []), (2, 3, .invokevirtual 171, [93, 6061]), (5, 3, .ifCond .eq 19, []), (8, 1, .aload_n 0, []), (9, 1, .iload_n 2, []), (10, 3, .invokevirtual 214, [200, 7002]), (13, 3, .ifCond .eq 11, []), (16, 1, .aload_n 0, []), (17, 1, .iload_n 3, []), (18, 3, .invokevirtual 214, [200, 7002]), (21, 3, .ifCond .ne 9, []), (24, 1, .aload_n 0, []), (25, 1, .iconst (-1), []), (26, 3, .invokevirtual 169, [97, 6064]), (29, 1, .ireturn, []), (30, 1, .aload_n 0, []), (31, 1, .iload_n 1, []), (32, 1, .iconst 2, []), (33, 3, .invokevirtual 184, [165, 6108]), (36, 2, .istore 4, []), (38, 1, .iconst 0, []), (39, 2, .istore 5, []), (41, 2, .iload 4, []), (43, 3, .ifCond .eq 10, []), (46, 1, .aload_n 0, []), (47, 2, .iload 4, []), (49, 3, .invokevirtual 169, [97, 6064]), (52, 1, .ireturn, []), (53, 1, .aload_n 0, []), (54, 1, .aload_n 0, []), (55, 3, .getfield 785, [56, 5196, 12, 0]), (58, 1, .iload_n 1, []), (59, 1, .iaload, []), (60, 1, .iconst 0, []), (61, 3, .invokevirtual 187, [105, 6091]), (64, 2, .lstore 6, []), (66, 1, .aload_n 0, []), (67, 1, .aload_n 0, []), (68, 3, .getfield 785, [56, 5196, 12, 0]), (71, 1, .iload_n 1, []), (72, 1, .iaload, []), (73, 1, .iconst 2, []), (74, 3, .invokevirtual 187, [105, 6091]), (77, 2, .lstore 8, []), (79, 1, .iconst 0, []), (80, 2, .istore 10, []), (82, 2, .iload 10, []), (84, 1, .aload_n 0, []), (85, 3, .getfield 768, [7, 5179, 12, 0]), (88, 1, .aload_n 0, []), (89, 3, .getfield 769, [13, 5180, 12, 0]), (92, 1, .imul, []), (93, 3, .if_icmp .ge 67, []), (96, 1, .aload_n 0, []), (97, 2, .lload 8, []), (99, 2, .iload 10, []), (101, 3, .invokevirtual 177, [188, 6205]), (104, 3, .ifCond .eq 8, []), (107, 2, .bipush 9, []), (109, 3, .goto 19, []), (112, 1, .aload_n 0, []), (113, 2, .lload 6, []), (115, 2, .iload 10, []), (117, 3, .invokevirtual 177, [188, 6205]), (120, 3, .ifCond .eq 7, []), (123, 1, .iload_n 2, []), (124, 3, .goto 4, []), (127, 1, .iload_n 3, []), (128, 2, .istore 11, []), (130, 1, .aload_n 0, []), (131, 3, .getfield 778, [35, 5189, 12, 0]), (134, 2, .iload 10, []), (136, 1, .iaload, []), (137, 2, .iload 11, []), (139, 3, .if_icmp .eq 6, []), (142, 3, .iinc 5 1, []), (145, 1, .aload_n 0, []), (146, 3, .getfield 778, [35, 5189, 12, 0]), (149, 2, .iload 10, []), (151, 2, .iload 11, []), (153, 1, .iastore, []), (154, 3, .iinc 10 1, []), (157, 3, .goto (-75), []), (160, 2, .iload 5, []), (162, 1, .ireturn, [])]
def sT218 : List sEt := [(0, 1, .aload_n 0, []), (1, 1, .iload_n 1, []), (2, 1, .iconst 1, []), (3, 3, .invokevirtual 184, [165, 6108]), (6, 1, .istore_n 2, []), (7, 1, .iconst 0, []), (8, 1, .istore_n 3, []), (9, 1, .iload_n 2, []), (10, 3, .ifCond .eq 9, []), (13, 1, .aload_n 0, []), (14, 1, .iload_n 2, []), (15, 3, .invokevirtual 169, [97, 6064]), (18, 1, .ireturn, []), (19, 1, .iconst 0, []), (20, 2, .istore 4, []), (22, 2, .iload 4, []), (24, 1, .aload_n 0, []), (25, 3, .getfield 768, [7, 5179, 12, 0]), (28, 1, .aload_n 0, []), (29, 3, .getfield 769, [13, 5180, 12, 0]), (32, 1, .imul, []), (33, 3, .if_icmp .ge 79, []), (36, 2, .iload 4, []), (38, 1, .aload_n 0, []), (39, 3, .getfield 784, [53, 5195, 12, 0]), (42, 1, .iload_n 1, []), (43, 1, .iaload, []), (44, 3, .if_icmp .ge 13, []), (47, 1, .aload_n 0, []), (48, 1, .iload_n 1, []), (49, 2, .iload 4, []), (51, 3, .invokevirtual 185, [203, 7013]), (54, 3, .goto 4, []), (57, 1, .iconst (-1), []), (58, 2, .istore 5, []), (60, 1, .aload_n 0, []), (61, 3, .getfield 778, [35, 5189, 12, 0]), (64, 2, .iload 4, []), (66, 2, .iload 5, []), (68, 2, .bipush 9, []), (70, 3, .if_icmp .eq 12, []), (73, 1, .aload_n 0, []), (74, 2, .iload 5, []), (76, 3, .invokevirtual 173, [181, 6177]), (79, 3, .ifCond .eq 8, []), (82, 2, .iload 5, []), (84, 3, .goto 4, []), (87, 1, .iconst (-1), []), (88, 1, .iastore, []), (89, 1, .aload_n 0, []), (90, 1, .aload_n 0, []), (91, 3, .getfield 778, [35, 5189, 12, 0]), (94, 2, .iload 4, []), (96, 1, .iaload, []), (97, 3, .invokevirtual 173, [181, 6177]), (100, 3, .ifCond .eq 6, []), (103, 3, .iinc 3 1, []), (106, 3, .iinc 4 1, []), (109, 3, .goto (-87), []), (112, 1, .iload_n 3, []), (113, 1, .ireturn, [])]
def sT219 : List sEt := [(0, 1, .aload_n 0, []), (1, 1, .iload_n 1, []), (2, 3, .invokevirtual 214, [200, 7002]), (5, 3, .ifCond .eq 11, []), (8, 1, .aload_n 0, []), (9, 1, .iload_n 1, []), (10, 3, .invokevirtual 213, [184, 6188]), (13, 3, .goto 4, []), (16, 1, .lconst 0, []), (17, 1, .lreturn, [])]
def sT220 : List sEt := [(0, 1, .iconst 0, []), (1, 1, .istore_n 1, []), (2, 1, .iconst 0, []), (3, 1, .istore_n 2, []), (4, 1, .iload_n 2, []), (5, 1, .aload_n 0, []), (6, 3, .getfield 768, [7, 5179, 12, 0]), (9, 1, .aload_n 0, []), (10, 3, .getfield 769, [13, 5180, 12, 0]), (13, 1, .imul, []), (14, 3, .if_icmp .ge 85, []), (17, 1, .iload_n 2, []), (18, 1, .aload_n 0, []), (19, 3, .getfield 768, [7, 5179, 12, 0]), (22, 1, .irem, []), (23, 1, .iconst 1, []), (24, 1, .iadd, []), (25, 1, .aload_n 0, []), (26, 3, .getfield 768, [7, 5179, 12, 0]), (29, 3, .if_icmp .ge 23, []), (32, 1, .aload_n 0, []), (33, 3, .getfield 778, [35, 5189, 12, 0]), (36, 1, .iload_n 2, []), (37, 1, .iaload, []), (38, 1, .aload_n 0, []), (39, 3, .getfield 778, [35, 5189, 12, 0]), (42, 1, .iload_n 2, []), (43, 1, .iconst 1, []), (44, 1, .iadd, []), (45, 1, .iaload, []), (46, 3, .if_icmp .eq 6, []), (49, 3, .iinc 1 1, []), (52, 1, .iload_n 2, []), (53, 1, .aload_n 0, []), (54, 3, .getfield 768, [7, 5179, 12, 0]), (57, 1, .iadd, []), (58, 1, .aload_n 0, []), (59, 3, .getfield 768, [7, 5179, 12, 0]), (62, 1, .aload_n 0, []), (63, 3, .getfield 769, [13, 5180, 12, 0]), (66, 1, .imul, []), (67, 3, .if_icmp .ge 26, []), (70, 1, .aload_n 0, []), (71, 3, .getfield 778, [35, 5189, 12, 0]), (74, 1, .iload_n 2, []), (75, 1, .iaload, []), (76, 1, .aload_n 0, []), (77, 3, .getfield 778, [35, 5189, 12, 0]), (80, 1, .iload_n 2, []), (81, 1, .aload_n 0, []), (82, 3, .getfield 768, [7, 5179, 12, 0]), (85, 1, .iadd, []), (86, 1, .iaload, []), (87, 3, .if_icmp .eq 6, []), (90, 3, .iinc 1 1, []), (93, 3, .iinc 2 1, []), (96, 3, .goto (-92), []), (99, 1, .iload_n 1, []), (100, 1, .ireturn, [])]
def sT221 : List sEt := [(0, 1, .aload_n 0, []), (1, 3, .invokevirtual 220, [206, 7024]), (4, 1, .ireturn, [])]
def sT222 : List sEt := [(0, 1, .lconst 0, []), (1, 1, .lstore_n 3, []), (2, 1, .iconst 0, []), (3, 2, .istore 5, []), (5, 2, .iload 5, []), (7, 1, .aload_n 0, []), (8, 3, .getfield 768, [7, 5179, 12, 0]), (11, 1, .aload_n 0, []), (12, 3, .getfield 769, [13, 5180, 12, 0]), (15, 1, .imul, []), (16, 3, .if_icmp .ge 118, []), (19, 1, .aload_n 0, []), (20, 1, .lload_n 1, []), (21, 2, .iload 5, []), (23, 3, .invokevirtual 177, [188, 6205]), (26, 3, .ifCond .ne 6, []), (29, 3, .goto 99, []), (32, 2, .iload 5, []), (34, 1, .aload_n 0, []), (35, 3, .getfield 768, [7, 5179, 12, 0]), (38, 1, .irem, []), (39, 3, .ifCond .le 12, []), (42, 1, .lload_n 3, []), (43, 1, .lconst 1, []), (44, 2, .iload 5, []), (46, 1, .iconst 1, []), (47, 1, .isub, []), (48, 1, .lshl, []), (49, 1, .lor, []), (50, 1, .lstore_n 3, []), (51, 2, .iload 5, []), (53, 1, .aload_n 0, []), (54, 3, .getfield 768, [7, 5179, 12, 0]), (57, 1, .irem, []), (58, 1, .iconst 1, []), (59, 1, .iadd, []), (60, 1, .aload_n 0, []), (61, 3, .getfield 768, [7, 5179, 12, 0]), (64, 3, .if_icmp .ge 12, []), (67, 1, .lload_n 3, []), (68, 1, .lconst 1, []), (69, 2, .iload 5, []), (71, 1, .iconst 1, []), (72, 1, .iadd, []), (73, 1, .lshl, []), (74, 1, .lor, []), (75, 1, .lstore_n 3, []), (76, 2, .iload 5, []), (78, 1, .aload_n 0, []), (79, 3, .getfield 768, [7, 5179, 12, 0]), (82, 3, .if_icmp .lt 15, []), (85, 1, .lload_n 3, []), (86, 1, .lconst 1, []), (87, 2, .iload 5, []), (89, 1, .aload_n 0, []), (90, 3, .getfield 768, [7, 5179, 12, 0]), (93, 1, .isub, []), (94, 1, .lshl, []), (95, 1, .lor, []), (96, 1, .lstore_n 3, []), (97, 2, .iload 5, []), (99, 1, .aload_n 0, []), (100, 3, .getfield 768, [7, 5179, 12, 0]), (103, 1, .iadd, []), (104, 1, .aload_n 0, []), (105, 3, .getfield 768, [7, 5179, 12, 0]), (108, 1, .aload_n 0, []), (109, 3, .getfield 769, [13, 5180, 12, 0]), (112, 1, .imul, []), (113, 3, .if_icmp .ge 15, []), (116, 1, .lload_n 3, []), (117, 1, .lconst 1, []), (118, 2, .iload 5, []), (120, 1, .aload_n 0, []), (121, 3, .getfield 768, [7, 5179, 12, 0]), (124, 1, .iadd, []), (125, 1, .lshl, []), (126, 1, .lor, []), (127, 1, .lstore_n 3, []), (128, 3, .iinc 5 1, []), (131, 3, .goto (-126), []), (134, 1, .lload_n 3, []), (135, 1, .lreturn, [])]
def sT223 : List sEt := [(0, 1, .lload_n 1, []), (1, 1, .lload_n 3, []), (2, 1, .land, []), (3, 2, .lstore 5, []), (5, 2, .lload 5, []), (7, 1, .aload_n 0, []), (8, 2, .lload 5, []), (10, 3, .invokevirtual 222, [209, 7037]), (13, 1, .lload_n 3, []), (14, 1, .land, []), (15, 1, .lor, []), (16, 2, .lstore 7, []), (18, 2, .lload 7, []), (20, 2, .lload 5, []), (22, 1, .lcmp, []), (23, 3, .ifCond .eq 23, []), (26, 2, .lload 7, []), (28, 2, .lstore 5, []), (30, 2, .lload 5, []), (32, 1, .aload_n 0, []), (33, 2, .lload 5, []), (35, 3, .invokevirtual 222, [209, 7037]), (38, 1, .lload_n 3, []), (39, 1, .land, []), (40, 1, .lor, []), (41, 2, .lstore 7, []), (43, 3, .goto (-25), []), (46, 2, .lload 5, []), (48, 1, .lreturn, [])]
def sT224 : List sEt := [(0, 1, .iconst 0, []), (1, 1, .istore_n 3, []), (2, 1, .lload_n 1, []), (3, 2, .lstore 4, []), (5, 2, .lload 4, []), (7, 1, .lconst 0, []), (8, 1, .lcmp, []), (9, 3, .ifCond .eq 30, []), (12, 2, .lload 4, []), (14, 1, .aload_n 0, []), (15, 2, .lload 4, []), (17, 2, .lload 4, []), (19, 1, .lneg, []), (20, 1, .land, []), (21, 2, .lload 4, []), (23, 3, .invokevirtual 223, [213, 7034]), (26, 3, .ldc2_w 18446744073709551615, [87, 6201]), (29, 1, .lxor, []), (30, 1, .land, []), (31, 2, .lstore 4, []), (33, 3, .iinc 3 1, []), (36, 3, .goto (-31), []), (39, 1, .iload_n 3, []), (40, 1, .ireturn, [])]
def sT225 : List sEt := [(0, 1, .aload_n 0, []), (1, 1, .lload_n 1, []), (2, 3, .invokevirtual 175, [192, 6195]), (5, 3, .ifCond .eq 11, []), (8, 1, .aload_n 0, []), (9, 1, .lload_n 1, []), (10, 3, .invokevirtual 224, [217, 7031]), (13, 3, .goto 4, []), (16, 1, .iconst 0, []), (17, 1, .ireturn, [])]
def sT226 : List sEt := [(0, 1, .lconst 0, []), (1, 1, .lstore_n 1, []), (2, 1, .iconst 0, []), (3, 1, .istore_n 3, []), (4, 1, .iload_n 3, []), (5, 1, .aload_n 0, []), (6, 3, .getfield 768, [7, 5179, 12, 0]), (9, 1, .aload_n 0, []), (10, 3, .getfield 769, [13, 5180, 12, 0]), (13, 1, .imul, []), (14, 3, .if_icmp .ge 124, []), (17, 1, .aload_n 0, []), (18, 3, .getfield 770, [158, 5181, 12, 0]), (21, 3, .ifCond .ne 19, []), (24, 1, .iload_n 3, []), (25, 1, .aload_n 0, []), (26, 3, .getfield 768, [7, 5179, 12, 0]), (29, 3, .if_icmp .ge 7, []), (32, 1, .iconst 1, []), (33, 3, .goto 86, []), (36, 1, .iconst 0, []), (37, 3, .goto 82, []), (40, 1, .aload_n 0, []), (41, 3, .getfield 770, [158, 5181, 12, 0]), (44, 1, .iconst 1, []), (45, 3, .if_icmp .ne 26, []), (48, 1, .iload_n 3, []), (49, 1, .aload_n 0, []), (50, 3, .getfield 768, [7, 5179, 12, 0]), (53, 1, .irem, []), (54, 1, .aload_n 0, []), (55, 3, .getfield 768, [7, 5179, 12, 0]), (58, 1, .iconst 1, []), (59, 1, .isub, []), (60, 3, .if_icmp .ne 7, []), (63, 1, .iconst 1, []), (64, 3, .goto 55, []), (67, 1, .iconst 0, []), (68, 3, .goto 51, []), (71, 1, .aload_n 0, []), (72, 3, .getfield 770, [158, 5181, 12, 0]), (75, 1, .iconst 2, []), (76, 3, .if_icmp .ne 29, []), (79, 1, .iload_n 3, []), (80, 1, .aload_n 0, []), (81, 3, .getfield 768, [7, 5179, 12, 0]), (84, 1, .aload_n 0, []), (85, 3, .getfield 769, [13, 5180, 12, 0]), (88, 1, .imul, []), (89, 1, .aload_n 0, []), (90, 3, .getfield 768, [7, 5179, 12, 0]), (93, 1, .isub, []), (94, 3, .if_icmp .lt 7, []), (97, 1, .iconst 1, []), (98, 3, .goto 21, []), (101, 1, .iconst 0, []), (102, 3, .goto 17, []), (105, 1, .iload_n 3, []), (106, 1, .aload_n 0, []), (107, 3, .getfield 768, [7, 5179, 12, 0]), (110, 1, .irem, []), (111, 3, .ifCond .ne 7, []), (114, 1, .iconst 1, []), (115, 3, .goto 4, []), (118, 1, .iconst 0, []), (119, 2, .istore 4, []), (121, 2, .iload 4, []), (123, 3, .ifCond .eq 9, []), (126, 1, .lload_n 1, []), (127, 1, .lconst 1, []), (128, 1, .iload_n 3, []), (129, 1, .lshl, []), (130, 1, .lor, []), (131, 1, .lstore_n 1, []), (132, 3, .iinc 3 1, []), (135, 3, .goto (-131), []), (138, 1, .lload_n 1, []), (139, 1, .lreturn, [])]
def sT227 : List sEt := [(0, 1, .aload_n 0, []), (1, 1, .iconst (-1), []), (2, 3, .putfield 796, [220, 5207, 12, 0]), (5, 1, .aload_n 0, []), (6, 1, .iconst (-1), []), (7, 3, .invokevirtual 213, [184, 6188]), (10, 1, .lstore_n 1, []), (11, 1, .lload_n 1, []), (12, 1, .lconst 0, []), (13, 1, .lcmp, []), (14, 3, .ifCond .eq 35, []), (17, 1, .aload_n 0, []), (18, 1, .iconst 0, []), (19, 3, .putfield 796, [220, 5207, 12, 0]), (22, 1, .aload_n 0, []), (23, 1, .lload_n 1, []), (24, 1, .aload_n 0, []), (25, 3, .getfield 796, [220, 5207, 12, 0]), (28, 3, .invokevirtual 177, [188, 6205]), (31, 3, .ifCond .ne 16, []), (34, 1, .aload_n 0, []), (35, 1, .dup, []), (36, 3, .getfield 796, [220, 5207, 12, 0]), (39, 1, .iconst 1, []), (40, 1, .iadd, []), (41, 3, .putfield 796, [220, 5207, 12, 0]), (44, 3, .goto (-22), []), (47, 1, .iconst 1, []), (48, 1, .ireturn, []), (49, 1, .iconst 0, []), (50, 1, .istore_n 3, []), (51, 1, .iload_n 3, []), (52, 1, .aload_n 0, []), (53, 3, .getfield 774, [84, 5185, 12, 0]), (56, 3, .if_icmp .ge 49, []), (59, 1, .aload_n 0, []), (60, 1, .iload_n 3, []), (61, 3, .invokevirtual 213, [184, 6188]), (64, 2, .lstore 4, []), (66, 1, .aload_n 0, []), (67, 2, .lload 4, []), (69, 3, .invokevirtual 224, [217, 7031]), (72, 1, .iconst 2, []), (73, 3, .if_icmp .ge 19, []), (76, 1, .aload_n 0, []), (77, 2, .lload 4, []), (79, 3, .invokevirtual 176, [109, 6101]), (82, 1, .aload_n 0, []), (83, 3, .getfield 773, [22, 5184, 12, 0]), (86, 3, .if_icmp .lt 6, []), (89, 3, .goto 10, []), (92, 1, .aload_n 0, []), (93, 1, .iload_n 3, []), (94, 3, .putfield 796, [220, 5207, 12, 0]), (97, 1, .iconst 2, []), (98, 1, .ireturn, []), (99, 3, .iinc 3 1, []), (102, 3, .goto (-51), []), (105, 1, .aload_n 0, []), (106, 2, .bipush 9, []), (108, 3, .invokevirtual 213, [184, 6188]), (111, 1, .lstore_n 3, []), (112, 1, .aload_n 0, []), (113, 3, .invokevirtual 226, [223, 7047]), (116, 1, .aload_n 0, []), (117, 1, .aload_n 0, []), (118, 1, .aload_n 0, []), (119, 3, .invokevirtual 226, [223, 7047]), (122, 1, .lload_n 3, []), (123, 1, .land, []), (124, 1, .lload_n 3, []), (125, 3, .invokevirtual 223, [213, 7034]), (128, 3, .invokevirtual 222, [209, 7037]), (131, 1, .lor, []), (132, 2, .lstore 5, []), (134, 1, .iconst 0, []), (135, 2, .istore 7, []), (137, 2, .iload 7, []), (139, 1, .aload_n 0, []), (140, 3, .getfield 774, [84, 5185, 12, 0]), (143, 3, .if_icmp .ge 34, []), (146, 1, .aload_n 0, []), (147, 2, .iload 7, []), (149, 3, .invokevirtual 213, [184, 6188]), (152, 2, .lload 5, []), (154, 1, .land, []), (155, 1, .lconst 0, []), (156, 1, .lcmp, []), (157, 3, .ifCond .eq 6, []), (160, 3, .goto 11, []), (163, 1, .aload_n 0, []), (164, 2, .iload 7, []), (166, 3, .putfield 796, [220, 5207, 12, 0]), (169, 1, .iconst 3, []), (170, 1, .ireturn, []), (171, 3, .iinc 7 1, []), (174, 3, .goto (-37), []), (177, 1, .aload_n 0, []), (178, 3, .getfield 771, [16, 5182, 12, 0]), (181, 1, .iconst (-1), []), (182, 3, .if_icmp .eq 79, []), (185, 1, .aload_n 0, []), (186, 3, .getfield 778, [35, 5189, 12, 0]), (189, 1, .aload_n 0, []), (190, 3, .getfield 771, [16, 5182, 12, 0]), (193, 1, .iaload, []), (194, 2, .bipush 9, []), (196, 3, .if_icmp .eq 65, []), (199, 1, .aload_n 0, []), (200, 1, .lconst 1, []), (201, 1, .aload_n 0, []), (202, 3, .getfield 771, [16, 5182, 12, 0]), (205, 1, .lshl, []), (206, 3, .invokevirtual 222, [209, 7037]), (209, 1, .lconst 1, []), (210, 1, .aload_n 0, []), (211, 3, .getfield 771, [16, 5182, 12, 0]), (214, 1, .lshl, []), (215, 1, .lor, []), (216, 2, .lstore 7, []), (218, 1, .iconst 0, []), (219, 2, .istore 9, []), (221, 2, .iload 9, []), (223, 1, .aload_n 0, []), (224, 3, .getfield 774, [84, 5185, 12, 0]), (227, 3, .if_icmp .ge 34, []), (230, 1, .aload_n 0, []), (231, 2, .iload 9, []), (233, 3, .invokevirtual 213, [184, 6188]), (236, 2, .lload 7, []), (238, 1, .land, []), (239, 1, .lconst 0, []), (240, 1, .lcmp, []), (241, 3, .ifCond .eq 6, []), (244, 3, .goto 11, []), (247, 1, .aload_n 0, []), (248, 2, .iload 9, []), (250, 3, .putfield 796, [220, 5207, 12, 0]), (253, 1, .iconst 4, []), (254, 1, .ireturn, []), (255, 3, .iinc 9 1, []), (258, 3, .goto (-37), []), (261, 1, .iconst 0, []), (262, 2, .istore 7, []), (264, 2, .iload 7, []), (266, 1, .aload_n 0, []), (267, 3, .getfield 774, [84, 5185, 12, 0]), (270, 3, .if_icmp .ge 58, []), (273, 1, .aload_n 0, []), (274, 2, .iload 7, []), (276, 1, .aload_n 0, []), (277, 2, .iload 7, []), (279, 3, .invokevirtual 213, [184, 6188]), (282, 3, .invokevirtual 211, [196, 6202]), (285, 1, .aload_n 0, []), (286, 3, .invokevirtual 228, [226, 7050]), (289, 1, .imul, []), (290, 1, .aload_n 0, []), (291, 3, .getfield 779, [38, 5190, 12, 0]), (294, 2, .iload 7, []), (296, 1, .iaload, []), (297, 1, .aload_n 0, []), (298, 2, .iload 7, []), (300, 1, .aload_n 0, []), (301, 3, .invokevirtual 174, [89, 6198]), (304, 3, .invokevirtual 211, [196, 6202]), (307, 1, .imul, []), (308, 3, .if_icmp .lt 6, []), (311, 3, .goto 11, []), (314, 1, .aload_n 0, []), (315, 2, .iload 7, []), (317, 3, .putfield 796, [220, 5207, 12, 0]), (320, 1, .iconst 5, []), (321, 1, .ireturn, []), (322, 3, .iinc 7 1, []), (325, 3, .goto (-61), []), (328, 1, .iconst 0, []), (329, 1, .ireturn, [])]
def sT228 : List sEt := [(0, 1, .iconst 0, []), (1, 1, .istore_n 1, []), (2, 1, .iconst 0, []), (3, 1, .istore_n 2, []), (4, 1, .iload_n 2, []), (5, 1, .aload_n 0, []), (6, 3, .getfield 774, [84, 5185, 12, 0]), (9, 3, .if_icmp .ge 18, []), (12, 1, .iload_n 1, []), (13, 1, .aload_n 0, []), (14, 3, .getfield 779, [38, 5190, 12, 0]), (17, 1, .iload_n 2, []), (18, 1, .iaload, []), (19, 1, .iadd, []), (20, 1, .istore_n 1, []), (21, 3, .iinc 2 1, []), (24, 3, .goto (-20), []), (27, 1, .iload_n 1, []), (28, 1, .ireturn, [])]
def sT229 : List sEt := [(0, 1, .aload_n 0, []), (1, 3, .invokevirtual 227, [229, 7044]), (4, 1, .ireturn, [])]
def sT230 : List sEt := [(0, 1, .aload_n 0, []), (1, 3, .invokevirtual 227, [229, 7044]), (4, 1, .pop, []), (5, 1, .aload_n 0, []), (6, 3, .getfield 796, [220, 5207, 12, 0]), (9, 1, .ireturn, [])]
def sT231 : List sEt := [(0, 1, .iload_n 2, []), (1, 3, .ifCond .eq 20, []), (4, 1, .aload_n 0, []), (5, 3, .getfield 797, [75, 5208, 12, 0]), (8, 1, .aload_n 0, []), (9, 1, .dup, []), (10, 3, .getfield 799, [232, 5210, 12, 0]), (13, 1, .dup_x1, []), (14, 1, .iconst 1, []), (15, 1, .iadd, []), (16, 3, .putfield 799, [232, 5210, 12, 0]), (19, 1, .iload_n 1, []), (20, 1, .iastore, []), (21, 1, .return_, [])]
def sT232 : List sEt := [(0, 1, .aload_n 0, []), (1, 1, .iconst 0, []), (2, 3, .putfield 799, [232, 5210, 12, 0]), (5, 1, .iconst 1, []), (6, 1, .istore_n 2, []), (7, 1, .iload_n 2, []), (8, 1, .aload_n 0, []), (9, 3, .getfield 768, [7, 5179, 12, 0]), (12, 3, .if_icmp .ge 32, []), (15, 1, .aload_n 0, []), (16, 3, .sipush 1000, []), (19, 2, .bipush 100, []), (21, 1, .iload_n 2, []), (22, 1, .imul, []), (23, 1, .iadd, []), (24, 1, .iload_n 1, []), (25, 1, .iconst 2, []), (26, 1, .iand, []), (27, 3, .ifCond .eq 7, []), (30, 1, .iconst 1, []), (31, 3, .goto 4, []), (34, 1, .iconst 0, []), (35, 3, .invokevirtual 231, [235, 7067]), (38, 3, .iinc 2 1, []), (41, 3, .goto (-34), []), (44, 1, .iconst 0, []), (45, 1, .istore_n 2, []), (46, 1, .iload_n 2, []), (47, 1, .aload_n 0, []), (48, 3, .getfield 768, [7, 5179, 12, 0]), (51, 3, .if_icmp .gt 74, []), (54, 1, .iconst 1, []), (55, 1, .istore_n 3, []), (56, 1, .iload_n 3, []), (57, 1, .aload_n 0, []), (58, 3, .getfield 769, [13, 5180, 12, 0]), (61, 3, .if_icmp .ge 58, []), (64, 1, .iconst 0, []), (65, 2, .istore 4, []), (67, 2, .iload 4, []), (69, 1, .aload_n 0, []), (70, 3, .getfield 768, [7, 5179, 12, 0]), (73, 3, .if_icmp .gt 40, []), (76, 1, .aload_n 0, []), (77, 3, .sipush 2000, []), (80, 2, .bipush 100, []), (82, 1, .iload_n 2, []), (83, 1, .imul, []), (84, 1, .iadd, []), (85, 2, .bipush 10, []), (87, 1, .iload_n 3, []), (88, 1, .imul, []), (89, 1, .iadd, []), (90, 2, .iload 4, []), (92, 1, .iadd, []), (93, 1, .iload_n 1, []), (94, 1, .iconst 4, []), (95, 1, .iand, []), (96, 3, .ifCond .eq 7, []), (99, 1, .iconst 1, []), (100, 3, .goto 4, []), (103, 1, .iconst 0, []), (104, 3, .invokevirtual 231, [235, 7067]), (107, 3, .iinc 4 1, []), (110, 3, .goto (-43), []), (113, 3, .iinc 3 1, []), (116, 3, .goto (-60), []), (119, 3, .iinc 2 1, []), (122, 3, .goto (-76), []), (125, 1, .iconst 1, []), (126, 1, .istore_n 2, []), (127, 1, .iload_n 2, []), (128, 1, .aload_n 0, []), (129, 3, .getfield 769, [13, 5180, 12, 0]), (132, 3, .if_icmp .ge 33, []), (135, 1, .aload_n 0, []), (136, 3, .sipush 4000, []), (139, 2, .bipush 100, []), (141, 1, .iload_n 2, []), (142, 1, .imul, []), (143, 1, .iadd, []), (144, 1, .iload_n 1, []), (145, 2, .bipush 16, []), (147, 1, .iand, []), (148, 3, .ifCond .eq 7, []), (151, 1, .iconst 1, []), (152, 3, .goto 4, []), (155, 1, .iconst 0, []), (156, 3, .invokevirtual 231, [235, 7067]), (159, 3, .iinc 2 1, []), (162, 3, .goto (-35), []), (165, 1, .iconst 1, []), (166, 1, .istore_n 2, []), (167, 1, .iload_n 2, []), (168, 1, .aload_n 0, []), (169, 3, .getfield 768, [7, 5179, 12, 0]), (172, 3, .if_icmp .gt 70, []), (175, 1, .iconst 1, []), (176, 1, .istore_n 3, []), (177, 1, .iload_n 3, []), (178, 1, .aload_n 0, []), (179, 3, .getfield 769, [13, 5180, 12, 0]), (182, 3, .if_icmp .gt 54, []), (185, 1, .aload_n 0, []), (186, 3, .sipush 5000, []), (189, 2, .bipush 100, []), (191, 1, .iload_n 2, []), (192, 1, .imul, []), (193, 1, .iadd, []), (194, 2, .bipush 10, []), (196, 1, .iload_n 3, []), (197, 1, .imul, []), (198, 1, .iadd, []), (199, 1, .iload_n 1, []), (200, 2, .bipush 32, []), (202, 1, .iand, []), (203, 3, .ifCond .eq 23, []), (206, 1, .iload_n 2, []), (207, 1, .aload_n 0, []), (208, 3, .getfield 768, [7, 5179, 12, 0]), (211, 3, .if_icmp .lt 11, []), (214, 1, .iload_n 3, []), (215, 1, .aload_n 0, []), (216, 3, .getfield 769, [13, 5180, 12, 0]), (219, 3, .if_icmp .ge 7, []), (222, 1, .iconst 1, []), (223, 3, .goto 4, []), (226, 1, .iconst 0, []), (227, 3, .invokevirtual 231, [235, 7067]), (230, 3, .iinc 3 1, []), (233, 3, .goto (-56), []), (236, 3, .iinc 2 1, []), (239, 3, .goto (-72), []), (242, 1, .return_, [])]
def sT233 : List sEt := [(0, 1, .iconst 0, []), (1, 1, .istore_n 2, []), (2, 1, .iload_n 2, []), (3, 2, .bipush 64, []), (5, 3, .if_icmp .ge 40, []), (8, 1, .iload_n 1, []), (9, 3, .ifCond .eq 18, []), (12, 1, .aload_n 0, []), (13, 3, .getfield 778, [35, 5189, 12, 0]), (16, 1, .iload_n 2, []), (17, 1, .aload_n 0, []), (18, 3, .getfield 798, [78, 5209, 12, 0]), (21, 1, .iload_n 2, []), (22, 1, .iaload, []), (23, 1, .iastore, []), (24, 3, .goto 15, []), (27, 1, .aload_n 0, []), (28, 3, .getfield 798, [78, 5209, 12, 0]), (31, 1, .iload_n 2, []), (32, 1, .aload_n 0, []), (33, 3, .getfield 778, [35, 5189, 12, 0]), (36, 1, .iload_n 2, []), (37, 1, .iaload, []), (38, 1, .iastore, []), (39, 3, .iinc 2 1, []), (42, 3, .goto (-40), []), (45, 1, .return_, [])]
def sT234 : List sEt := [(0, 1, .aload_n 0, []), (1, 3, .invokevirtual 220, [206, 7024]), (4, 1, .istore_n 3, []), (5, 1, .aload_n 0, []), (6, 3, .getfield 802, [239, 5213, 12, 0]), (9, 1, .iconst (-1), []), (10, 3, .if_icmp .eq 11, []), (13, 1, .iload_n 3, []), (14, 1, .aload_n 0, []), (15, 3, .getfield 802, [239, 5213, 12, 0]), (18, 3, .if_icmp .ge 10, []), (21, 1, .aload_n 0, []), (22, 3, .invokevirtual 227, [229, 7044]), (25, 3, .ifCond .eq 4, []), (28, 1, .return_, []), (29, 1, .aload_n 0, []), (30, 1, .iload_n 3, []), (31, 3, .putfield 802, [239, 5213, 12, 0]), (34, 1, .aload_n 0, []), (35, 1, .iload_n 1, []), (36, 3, .putfield 800, [242, 5211, 12, 0]), (39, 1, .aload_n 0, []), (40, 1, .iload_n 2, []), (41, 3, .putfield 801, [245, 5212, 12, 0]), (44, 1, .return_, [])]
def sT235 : List sEt := [(0, 1, .aload_n 0, []), (1, 3, .getfield 774, [84, 5185, 12, 0]), (4, 1, .iconst 2, []), (5, 3, .if_icmp .ne 12, []), (8, 1, .iload_n 1, []), (9, 3, .ifCond .lt 8, []), (12, 1, .iload_n 1, []), (13, 1, .iconst 2, []), (14, 3, .if_icmp .le 10, []), (17, 1, .aload_n 0, []), (18, 2, .bipush (-5), []), (20, 3, .invokevirtual 169, [97, 6064]), (23, 1, .ireturn, []), (24, 1, .aload_n 0, []), (25, 1, .iconst 0, []), (26, 3, .invokevirtual 233, [248, 7061]), (29, 1, .aload_n 0, []), (30, 2, .bipush 22, []), (32, 3, .invokevirtual 232, [252, 7064]), (35, 1, .aload_n 0, []), (36, 1, .iconst (-1), []), (37, 3, .putfield 802, [239, 5213, 12, 0]), (40, 1, .iconst 0, []), (41, 1, .istore_n 2, []), (42, 1, .iload_n 2, []), (43, 1, .aload_n 0, []), (44, 3, .getfield 799, [232, 5210, 12, 0]), (47, 3, .if_icmp .ge 85, []), (50, 1, .iconst 0, []), (51, 1, .istore_n 3, []), (52, 1, .iload_n 3, []), (53, 1, .iconst 2, []), (54, 3, .if_icmp .ge 72, []), (57, 1, .iconst 0, []), (58, 2, .istore 4, []), (60, 2, .iload 4, []), (62, 1, .aload_n 0, []), (63, 3, .getfield 768, [7, 5179, 12, 0]), (66, 1, .aload_n 0, []), (67, 3, .getfield 769, [13, 5180, 12, 0]), (70, 1, .imul, []), (71, 3, .if_icmp .ge 38, []), (74, 1, .aload_n 0, []), (75, 3, .getfield 778, [35, 5189, 12, 0]), (78, 2, .iload 4, []), (80, 1, .aload_n 0, []), (81, 1, .aload_n 0, []), (82, 3, .getfield 797, [75, 5208, 12, 0]), (85, 1, .iload_n 2, []), (86, 1, .iaload, []), (87, 2, .iload 4, []), (89, 3, .invokevirtual 186, [101, 6094]), (92, 3, .ifCond .eq 7, []), (95, 1, .iload_n 3, []), (96, 3, .goto 6, []), (99, 1, .iconst 1, []), (100, 1, .iload_n 3, []), (101, 1, .isub, []), (102, 1, .iastore, []), (103, 3, .iinc 4 1, []), (106, 3, .goto (-46), []), (109, 1, .aload_n 0, []), (110, 1, .aload_n 0, []), (111, 3, .getfield 797, [75, 5208, 12, 0]), (114, 1, .iload_n 2, []), (115, 1, .iaload, []), (116, 1, .iload_n 3, []), (117, 3, .invokevirtual 234, [255, 7070]), (120, 3, .iinc 3 1, []), (123, 3, .goto (-71), []), (126, 3, .iinc 2 1, []), (129, 3, .goto (-87), []), (132, 1, .aload_n 0, []), (133, 1, .iconst 1, []), (134, 3, .invokevirtual 233, [248, 7061]), (137, 1, .aload_n 0, []), (138, 3, .getfield 802, [239, 5213, 12, 0]), (141, 1, .iconst (-1), []), (142, 3, .if_icmp .ne 10, []), (145, 1, .aload_n 0, []), (146, 2, .bipush (-5), []), (148, 3, .invokevirtual 169, [97, 6064]), (151, 1, .ireturn, []), (152, 1, .iload_n 1, []), (153, 3, .ifCond .ne 10, []), (156, 1, .aload_n 0, []), (157, 3, .getfield 800, [242, 5211, 12, 0]), (160, 3, .goto 19, []), (163, 1, .iload_n 1, []), (164, 1, .iconst 1, []), (165, 3, .if_icmp .ne 10, []), (168, 1, .aload_n 0, []), (169, 3, .getfield 801, [245, 5212, 12, 0]), (172, 3, .goto 7, []), (175, 1, .aload_n 0, []), (176, 3, .getfield 802, [239, 5213, 12, 0]), (179, 1, .ireturn, [])]
def sT236 : List sEt := [(0, 1, .aload_n 0, []), (1, 3, .getfield 774, [84, 5185, 12, 0]), (4, 1, .iconst 3, []), (5, 3, .if_icmp .ne 12, []), (8, 1, .iload_n 1, []), (9, 3, .ifCond .lt 8, []), (12, 1, .iload_n 1, []), (13, 1, .iconst 2, []), (14, 3, .if_icmp .le 10, []), (17, 1, .aload_n 0, []), (18, 2, .bipush (-5), []), (20, 3, .invokevirtual 169, [97, 6064]), (23, 1, .ireturn, []), (24, 1, .aload_n 0, []), (25, 1, .iconst 0, []), (26, 3, .invokevirtual 233, [248, 7061]), (29, 1, .aload_n 0, []), (30, 2, .bipush 50, []), (32, 3, .invokevirtual 232, [252, 7064]), (35, 1, .aload_n 0, []), (36, 1, .iconst (-1), []), (37, 3, .putfield 802, [239, 5213, 12, 0]), (40, 1, .iconst 0, []), (41, 1, .istore_n 2, []), (42, 1, .iload_n 2, []), (43, 1, .aload_n 0, []), (44, 3, .getfield 799, [232, 5210, 12, 0]), (47, 3, .if_icmp .ge 110, []), (50, 1, .iconst 0, []), (51, 1, .istore_n 3, []), (52, 1, .iload_n 3, []), (53, 1, .aload_n 0, []), (54, 3, .getfield 799, [232, 5210, 12, 0]), (57, 3, .if_icmp .ge 94, []), (60, 1, .iconst 0, []), (61, 2, .istore 4, []), (63, 2, .iload 4, []), (65, 1, .aload_n 0, []), (66, 3, .getfield 768, [7, 5179, 12, 0]), (69, 1, .aload_n 0, []), (70, 3, .getfield 769, [13, 5180, 12, 0]), (73, 1, .imul, []), (74, 3, .if_icmp .ge 55, []), (77, 1, .aload_n 0, []), (78, 3, .getfield 778, [35, 5189, 12, 0]), (81, 2, .iload 4, []), (83, 1, .aload_n 0, []), (84, 1, .aload_n 0, []), (85, 3, .getfield 797, [75, 5208, 12, 0]), (88, 1, .iload_n 2, []), (89, 1, .iaload, []), (90, 2, .iload 4, []), (92, 3, .invokevirtual 186, [101, 6094]), (95, 3, .ifCond .eq 7, []), (98, 1, .iconst 0, []), (99, 3, .goto 23, []), (102, 1, .aload_n 0, []), (103, 1, .aload_n 0, []), (104, 3, .getfield 797, [75, 5208, 12, 0]), (107, 1, .iload_n 3, []), (108, 1, .iaload, []), (109, 2, .iload 4, []), (111, 3, .invokevirtual 186, [101, 6094]), (114, 3, .ifCond .eq 7, []), (117, 1, .iconst 1, []), (118, 3, .goto 4, []), (121, 1, .iconst 2, []), (122, 1, .iastore, []), (123, 3, .iinc 4 1, []), (126, 3, .goto (-63), []), (129, 1, .aload_n 0, []), (130, 1, .aload_n 0, []), (131, 3, .getfield 797, [75, 5208, 12, 0]), (134, 1, .iload_n 2, []), (135, 1, .iaload, []), (136, 1, .aload_n 0, []), (137, 3, .getfield 797, [75, 5208, 12, 0]), (140, 1, .iload_n 3, []), (141, 1, .iaload, []), (142, 3, .invokevirtual 234, [255, 7070]), (145, 3, .iinc 3 1, []), (148, 3, .goto (-96), []), (151, 3, .iinc 2 1, []), (154, 3, .goto (-112), []), (157, 1, .aload_n 0, []), (158, 1, .iconst 1, []), (159, 3, .invokevirtual 233, [248, 7061]), (162, 1, .aload_n 0, []), (163, 3, .getfield 802, [239, 5213, 12, 0]), (166, 1, .iconst (-1), []), (167, 3, .if_icmp .ne 10, []), (170, 1, .aload_n 0, []), (171, 2, .bipush (-5), []), (173, 3, .invokevirtual 169, [97, 6064]), (176, 1, .ireturn, []), (177, 1, .iload_n 1, []), (178, 3, .ifCond .ne 10, []), (181, 1, .aload_n 0, []), (182, 3, .getfield 800, [242, 5211, 12, 0]), (185, 3, .goto 19, []), (188, 1, .iload_n 1, []), (189, 1, .iconst 1, []), (190, 3, .if_icmp .ne 10, []), (193, 1, .aload_n 0, []), (194, 3, .getfield 801, [245, 5212, 12, 0]), (197, 3, .goto 7, []), (200, 1, .aload_n 0, []), (201, 3, .getfield 802, [239, 5213, 12, 0]), (204, 1, .ireturn, [])]
def sT237 : List sEt := [(0, 1, .aload_n 0, []), (1, 1, .iload_n 1, []), (2, 3, .invokevirtual 173, [181, 6177]), (5, 3, .ifCond .eq 11, []), (8, 1, .aload_n 0, []), (9, 1, .iload_n 2, []), (10, 3, .invokevirtual 173, [181, 6177]), (13, 3, .ifCond .ne 9, []), (16, 1, .aload_n 0, []), (17, 1, .iconst (-1), []), (18, 3, .invokevirtual 169, [97, 6064]), (21, 1, .ireturn, []), (22, 1, .iload_n 3, []), (23, 3, .ifCond .lt 8, []), (26, 1, .iload_n 3, []), (27, 1, .iconst 3, []), (28, 3, .if_icmp .le 10, []), (31, 1, .aload_n 0, []), (32, 2, .bipush (-5), []), (34, 3, .invokevirtual 169, [97, 6064]), (37, 1, .ireturn, []), (38, 1, .iload_n 1, []), (39, 1, .iload_n 2, []), (40, 3, .if_icmp .ne 10, []), (43, 1, .aload_n 0, []), (44, 2, .bipush (-6), []), (46, 3, .invokevirtual 169, [97, 6064]), (49, 1, .ireturn, []), (50, 1, .aload_n 0, []), (51, 2, .bipush 22, []), (53, 3, .invokevirtual 232, [252, 7064]), (56, 1, .iconst (-1), []), (57, 2, .istore 4, []), (59, 1, .iconst 0, []), (60, 2, .istore 5, []), (62, 1, .iconst 0, []), (63, 2, .istore 6, []), (65, 2, .iload 6, []), (67, 1, .aload_n 0, []), (68, 3, .getfield 799, [232, 5210, 12, 0]), (71, 3, .if_icmp .ge 90, []), (74, 1, .aload_n 0, []), (75, 1, .iload_n 1, []), (76, 1, .aload_n 0, []), (77, 1, .aload_n 0, []), (78, 3, .getfield 797, [75, 5208, 12, 0]), (81, 2, .iload 6, []), (83, 1, .iaload, []), (84, 1, .iconst 0, []), (85, 3, .invokevirtual 187, [105, 6091]), (88, 3, .invokevirtual 211, [196, 6202]), (91, 1, .aload_n 0, []), (92, 1, .iload_n 1, []), (93, 1, .aload_n 0, []), (94, 1, .aload_n 0, []), (95, 3, .getfield 797, [75, 5208, 12, 0]), (98, 2, .iload 6, []), (100, 1, .iaload, []), (101, 1, .iconst 1, []), (102, 3, .invokevirtual 187, [105, 6091]), (105, 3, .invokevirtual 211, [196, 6202]), (108, 1, .isub, []), (109, 2, .istore 7, []), (111, 2, .iload 7, []), (113, 3, .ifCond .ge 9, []), (116, 2, .iload 7, []), (118, 1, .ineg, []), (119, 3, .goto 5, []), (122, 2, .iload 7, []), (124, 2, .istore 7, []), (126, 2, .iload 4, []), (128, 1, .iconst (-1), []), (129, 3, .if_icmp .eq 13, []), (132, 2, .iload 7, []), (134, 2, .iload 5, []), (136, 3, .if_icmp .lt 6, []), (139, 3, .goto 16, []), (142, 1, .aload_n 0, []), (143, 3, .getfield 797, [75, 5208, 12, 0]), (146, 2, .iload 6, []), (148, 1, .iaload, []), (149, 2, .istore 4, []), (151, 2, .iload 7, []), (153, 2, .istore 5, []), (155, 3, .iinc 6 1, []), (158, 3, .goto (-93), []), (161, 1, .aload_n 0, []), (162, 1, .iload_n 2, []), (163, 1, .aload_n 0, []), (164, 2, .iload 4, []), (166, 1, .iconst 1, []), (167, 3, .invokevirtual 187, [105, 6091]), (170, 3, .invokevirtual 211, [196, 6202]), (173, 1, .aload_n 0, []), (174, 1, .iload_n 2, []), (175, 1, .aload_n 0, []), (176, 2, .iload 4, []), (178, 1, .iconst 0, []), (179, 3, .invokevirtual 187, [105, 6091]), (182, 3, .invokevirtual 211, [196, 6202]), (185, 3, .if_icmp .le 7, []), (188, 1, .iconst 1, []), (189, 3, .goto 4, []), (192, 1, .iconst 0, []), (193, 2, .istore 6, []), (195, 1, .iload_n 3, []), (196, 3, .ifCond .ne 8, []), (199, 2, .iload 4, []), (201, 3, .goto 49, []), (204, 1, .iload_n 3, []), (205, 1, .iconst 1, []), (206, 3, .if_icmp .ne 8, []), (209, 2, .iload 6, []), (211, 3, .goto 39, []), (214, 1, .iload_n 3, []), (215, 1, .iconst 2, []), (216, 3, .if_icmp .ne 19, []), (219, 1, .aload_n 0, []), (220, 1, .iload_n 2, []), (221, 1, .aload_n 0, []), (222, 2, .iload 4, []), (224, 2, .iload 6, []), (226, 3, .invokevirtual 187, [105, 6091]), (229, 3, .invokevirtual 211, [196, 6202]), (232, 3, .goto 18, []), (235, 1, .aload_n 0, []), (236, 1, .iload_n 1, []), (237, 1, .aload_n 0, []), (238, 2, .iload 4, []), (240, 1, .iconst 1, []), (241, 2, .iload 6, []), (243, 1, .isub, []), (244, 3, .invokevirtual 187, [105, 6091]), (247, 3, .invokevirtual 211, [196, 6202]), (250, 1, .ireturn, [])]
def sT238 : List sEt := [(0, 1, .aload_n 0, []), (1, 1, .iload_n 1, []), (2, 3, .invokevirtual 173, [181, 6177]), (5, 3, .ifCond .ne 9, []), (8, 1, .aload_n 0, []), (9, 1, .iconst (-1), []), (10, 3, .invokevirtual 169, [97, 6064]), (13, 1, .ireturn, []), (14, 1, .aload_n 0, []), (15, 1, .iload_n 1, []), (16, 1, .aload_n 0, []), (17, 1, .iload_n 1, []), (18, 3, .invokevirtual 213, [184, 6188]), (21, 3, .invokevirtual 211, [196, 6202]), (24, 1, .istore_n 2, []), (25, 1, .iconst 0, []), (26, 1, .istore_n 3, []), (27, 1, .iconst 0, []), (28, 2, .istore 4, []), (30, 2, .iload 4, []), (32, 1, .aload_n 0, []), (33, 3, .getfield 774, [84, 5185, 12, 0]), (36, 3, .if_icmp .ge 31, []), (39, 1, .aload_n 0, []), (40, 1, .iload_n 1, []), (41, 1, .aload_n 0, []), (42, 2, .iload 4, []), (44, 3, .invokevirtual 213, [184, 6188]), (47, 3, .invokevirtual 211, [196, 6202]), (50, 1, .iload_n 2, []), (51, 3, .if_icmp .le 10, []), (54, 1, .iload_n 3, []), (55, 1, .iconst 1, []), (56, 2, .iload 4, []), (58, 1, .ishl, []), (59, 1, .ior, []), (60, 1, .istore_n 3, []), (61, 3, .iinc 4 1, []), (64, 3, .goto (-34), []), (67, 1, .iload_n 3, []), (68, 1, .ireturn, [])]
def sT239 : List sEt := [(0, 1, .aload_n 0, []), (1, 1, .iload_n 1, []), (2, 3, .invokevirtual 173, [181, 6177]), (5, 3, .ifCond .ne 13, []), (8, 1, .aload_n 0, []), (9, 1, .iconst (-1), []), (10, 3, .invokevirtual 169, [97, 6064]), (13, 1, .pop, []), (14, 3, .ldc_w 4293967295, [258, 7089]), (17, 1, .ireturn, []), (18, 1, .aload_n 0, []), (19, 3, .getfield 779, [38, 5190, 12, 0]), (22, 1, .iload_n 1, []), (23, 1, .iaload, []), (24, 1, .aload_n 0, []), (25, 1, .iload_n 1, []), (26, 1, .aload_n 0, []), (27, 3, .invokevirtual 174, [89, 6198]), (30, 3, .invokevirtual 211, [196, 6202]), (33, 1, .imul, []), (34, 1, .aload_n 0, []), (35, 1, .iload_n 1, []), (36, 1, .aload_n 0, []), (37, 1, .iload_n 1, []), (38, 3, .invokevirtual 213, [184, 6188]), (41, 3, .invokevirtual 211, [196, 6202]), (44, 1, .aload_n 0, []), (45, 3, .invokevirtual 228, [226, 7050]), (48, 1, .imul, []), (49, 1, .isub, []), (50, 1, .aload_n 0, []), (51, 3, .invokevirtual 228, [226, 7050]), (54, 1, .idiv, []), (55, 1, .ireturn, [])]
def sT240 : List sEt := [(0, 1, .aload_n 0, []), (1, 3, .invokevirtual 220, [206, 7024]), (4, 1, .istore_n 1, []), (5, 1, .iconst (-1), []), (6, 1, .istore_n 2, []), (7, 1, .iload_n 1, []), (8, 1, .istore_n 3, []), (9, 1, .iconst 0, []), (10, 2, .istore 4, []), (12, 2, .iload 4, []), (14, 1, .aload_n 0, []), (15, 3, .getfield 768, [7, 5179, 12, 0]), (18, 1, .aload_n 0, []), (19, 3, .getfield 769, [13, 5180, 12, 0]), (22, 1, .imul, []), (23, 3, .if_icmp .ge 131, []), (26, 1, .aload_n 0, []), (27, 3, .getfield 778, [35, 5189, 12, 0]), (30, 2, .iload 4, []), (32, 1, .iaload, []), (33, 2, .istore 5, []), (35, 1, .aload_n 0, []), (36, 2, .iload 5, []), (38, 3, .invokevirtual 173, [181, 6177]), (41, 3, .ifCond .ne 6, []), (44, 3, .goto 104, []), (47, 1, .aload_n 0, []), (48, 1, .lconst 1, []), (49, 2, .iload 4, []), (51, 1, .lshl, []), (52, 3, .invokevirtual 222, [209, 7037]), (55, 2, .lstore 6, []), (57, 1, .iconst 0, []), (58, 2, .istore 8, []), (60, 2, .iload 8, []), (62, 1, .aload_n 0, []), (63, 3, .getfield 774, [84, 5185, 12, 0]), (66, 3, .if_icmp .ge 82, []), (69, 2, .iload 8, []), (71, 2, .iload 5, []), (73, 3, .if_icmp .eq 69, []), (76, 1, .aload_n 0, []), (77, 2, .iload 8, []), (79, 3, .invokevirtual 213, [184, 6188]), (82, 2, .lload 6, []), (84, 1, .land, []), (85, 1, .lconst 0, []), (86, 1, .lcmp, []), (87, 3, .ifCond .ne 6, []), (90, 3, .goto 52, []), (93, 1, .aload_n 0, []), (94, 3, .getfield 778, [35, 5189, 12, 0]), (97, 2, .iload 4, []), (99, 2, .iload 8, []), (101, 1, .iastore, []), (102, 1, .aload_n 0, []), (103, 3, .invokevirtual 220, [206, 7024]), (106, 2, .istore 9, []), (108, 2, .iload 9, []), (110, 1, .iload_n 3, []), (111, 3, .if_icmp .ge 22, []), (114, 1, .aload_n 0, []), (115, 3, .invokevirtual 227, [229, 7044]), (118, 3, .ifCond .ne 15, []), (121, 2, .iload 9, []), (123, 1, .istore_n 3, []), (124, 2, .bipush 10, []), (126, 2, .iload 4, []), (128, 1, .imul, []), (129, 2, .iload 8, []), (131, 1, .iadd, []), (132, 1, .istore_n 2, []), (133, 1, .aload_n 0, []), (134, 3, .getfield 778, [35, 5189, 12, 0]), (137, 2, .iload 4, []), (139, 2, .iload 5, []), (141, 1, .iastore, []), (142, 3, .iinc 8 1, []), (145, 3, .goto (-85), []), (148, 3, .iinc 4 1, []), (151, 3, .goto (-139), []), (154, 1, .iload_n 2, []), (155, 1, .ireturn, [])]
def sT241 : List sEt := [(0, 1, .aload_n 0, []), (1, 3, .invokevirtual 240, [259, 7094]), (4, 1, .istore_n 1, []), (5, 1, .iload_n 1, []), (6, 1, .iconst (-1), []), (7, 3, .if_icmp .ne 12, []), (10, 1, .aload_n 0, []), (11, 2, .bipush (-5), []), (13, 3, .invokevirtual 169, [97, 6064]), (16, 3, .goto 4, []), (19, 1, .iload_n 1, []), (20, 1, .ireturn, [])]
def sT242 : List sEt := [(0, 1, .iload_n 1, []), (1, 1, .iconst 1, []), (2, 3, .if_icmp .lt 9, []), (5, 1, .iload_n 1, []), (6, 2, .bipush 20, []), (8, 3, .if_icmp .le 10, []), (11, 1, .aload_n 0, []), (12, 2, .bipush (-6), []), (14, 3, .invokevirtual 169, [97, 6064]), (17, 1, .ireturn, []), (18, 1, .iconst 0, []), (19, 1, .istore_n 2, []), (20, 1, .iload_n 2, []), (21, 1, .iload_n 1, []), (22, 3, .if_icmp .ge 34, []), (25, 1, .aload_n 0, []), (26, 3, .invokevirtual 240, [259, 7094]), (29, 1, .istore_n 3, []), (30, 1, .iload_n 3, []), (31, 1, .iconst (-1), []), (32, 3, .if_icmp .ne 5, []), (35, 1, .iload_n 2, []), (36, 1, .ireturn, []), (37, 1, .aload_n 0, []), (38, 3, .getfield 778, [35, 5189, 12, 0]), (41, 1, .iload_n 3, []), (42, 2, .bipush 10, []), (44, 1, .idiv, []), (45, 1, .iload_n 3, []), (46, 2, .bipush 10, []), (48, 1, .irem, []), (49, 1, .iastore, []), (50, 3, .iinc 2 1, []), (53, 3, .goto (-33), []), (56, 1, .iload_n 1, []), (57, 1, .ireturn, [])]
def sT243 : List sEt := [(0, 1, .iconst 0, []), (1, 1, .istore_n 3, []), (2, 1, .iload_n 3, []), (3, 1, .aload_n 0, []), (4, 3, .getfield 768, [7, 5179, 12, 0]), (7, 1, .aload_n 0, []), (8, 3, .getfield 769, [13, 5180, 12, 0]), (11, 1, .imul, []), (12, 3, .if_icmp .ge 87, []), (15, 1, .iload_n 3, []), (16, 1, .aload_n 0, []), (17, 3, .getfield 784, [53, 5195, 12, 0]), (20, 1, .iload_n 2, []), (21, 1, .iaload, []), (22, 3, .if_icmp .ge 77, []), (25, 1, .aload_n 0, []), (26, 1, .iload_n 2, []), (27, 1, .iload_n 3, []), (28, 3, .invokevirtual 185, [203, 7013]), (31, 2, .istore 4, []), (33, 2, .iload 4, []), (35, 3, .ifCond .eq 12, []), (38, 2, .iload 4, []), (40, 1, .iconst 1, []), (41, 3, .if_icmp .eq 6, []), (44, 3, .goto 49, []), (47, 1, .iload_n 1, []), (48, 3, .sipush 1000, []), (51, 1, .idiv, []), (52, 1, .iconst 3, []), (53, 3, .if_icmp .ne 19, []), (56, 1, .iload_n 3, []), (57, 1, .aload_n 0, []), (58, 3, .getfield 768, [7, 5179, 12, 0]), (61, 1, .irem, []), (62, 1, .iload_n 1, []), (63, 2, .bipush 100, []), (65, 1, .idiv, []), (66, 2, .bipush 10, []), (68, 1, .irem, []), (69, 3, .if_icmp .eq 22, []), (72, 1, .aload_n 0, []), (73, 1, .iload_n 1, []), (74, 1, .iload_n 3, []), (75, 3, .invokevirtual 186, [101, 6094]), (78, 2, .iload 4, []), (80, 3, .ifCond .ne 7, []), (83, 1, .iconst 1, []), (84, 3, .goto 4, []), (87, 1, .iconst 0, []), (88, 3, .if_icmp .eq 5, []), (91, 1, .iconst 0, []), (92, 1, .ireturn, []), (93, 3, .iinc 3 1, []), (96, 3, .goto (-94), []), (99, 1, .iconst 1, []), (100, 1, .ireturn, [])]
def sT244 : List sEt := [(0, 1, .aload_n 0, []), (1, 1, .iload_n 1, []), (2, 3, .invokevirtual 171, [93, 6061]), (5, 3, .ifCond .eq 11, []), (8, 1, .aload_n 0, []), (9, 1, .iload_n 2, []), (10, 3, .invokevirtual 171, [93, 6061]), (13, 3, .ifCond .ne 9, []), (16, 1, .aload_n 0, []), (17, 1, .iconst (-1), []), (18, 3, .invokevirtual 169, [97, 6064]), (21, 1, .ireturn, []), (22, 1, .aload_n 0, []), (23, 3, .getfield 782, [47, 5193, 12, 0]), (26, 1, .iload_n 1, []), (27, 1, .iaload, []), (28, 1, .iconst 1, []), (29, 3, .if_icmp .eq 13, []), (32, 1, .aload_n 0, []), (33, 3, .getfield 782, [47, 5193, 12, 0]), (36, 1, .iload_n 2, []), (37, 1, .iaload, []), (38, 1, .iconst 2, []), (39, 3, .if_icmp .ne 10, []), (42, 1, .aload_n 0, []), (43, 2, .bipush (-2), []), (45, 3, .invokevirtual 169, [97, 6064]), (48, 1, .ireturn, []), (49, 1, .aload_n 0, []), (50, 3, .getfield 782, [47, 5193, 12, 0]), (53, 1, .iload_n 1, []), (54, 1, .iaload, []), (55, 3, .ifCond .eq 12, []), (58, 1, .aload_n 0, []), (59, 3, .getfield 782, [47, 5193, 12, 0]), (62, 1, .iload_n 2, []), (63, 1, .iaload, []), (64, 3, .ifCond .ne 10, []), (67, 1, .aload_n 0, []), (68, 2, .bipush (-3), []), (70, 3, .invokevirtual 169, [97, 6064]), (73, 1, .ireturn, []), (74, 1, .aload_n 0, []), (75, 1, .aload_n 0, []), (76, 3, .getfield 785, [56, 5196, 12, 0]), (79, 1, .iload_n 1, []), (80, 1, .iaload, []), (81, 1, .iload_n 2, []), (82, 3, .invokevirtual 243, [262, 7105]), (85, 3, .ifCond .eq 7, []), (88, 1, .iconst 1, []), (89, 3, .goto 4, []), (92, 1, .iconst 0, []), (93, 1, .ireturn, [])]
def sT245 : List sEt := [(0, 1, .aload_n 0, []), (1, 1, .iload_n 1, []), (2, 1, .iconst 1, []), (3, 3, .invokevirtual 184, [165, 6108]), (6, 1, .istore_n 2, []), (7, 1, .iconst 0, []), (8, 1, .istore_n 3, []), (9, 1, .iload_n 2, []), (10, 3, .ifCond .eq 9, []), (13, 1, .aload_n 0, []), (14, 1, .iload_n 2, []), (15, 3, .invokevirtual 169, [97, 6064]), (18, 1, .ireturn, []), (19, 1, .aload_n 0, []), (20, 2, .bipush 54, []), (22, 3, .invokevirtual 232, [252, 7064]), (25, 1, .iconst 0, []), (26, 2, .istore 4, []), (28, 2, .iload 4, []), (30, 1, .aload_n 0, []), (31, 3, .getfield 799, [232, 5210, 12, 0]), (34, 3, .if_icmp .ge 27, []), (37, 1, .aload_n 0, []), (38, 1, .aload_n 0, []), (39, 3, .getfield 797, [75, 5208, 12, 0]), (42, 2, .iload 4, []), (44, 1, .iaload, []), (45, 1, .iload_n 1, []), (46, 3, .invokevirtual 243, [262, 7105]), (49, 3, .ifCond .eq 6, []), (52, 3, .iinc 3 1, []), (55, 3, .iinc 4 1, []), (58, 3, .goto (-30), []), (61, 1, .iload_n 3, []), (62, 1, .ireturn, [])]
def sT246 : List sEt := [(0, 1, .aload_n 0, []), (1, 1, .iload_n 1, []), (2, 1, .iconst 1, []), (3, 3, .invokevirtual 184, [165, 6108]), (6, 1, .istore_n 3, []), (7, 1, .iload_n 3, []), (8, 3, .ifCond .eq 10, []), (11, 1, .aload_n 0, []), (12, 1, .iload_n 3, []), (13, 3, .invokevirtual 169, [97, 6064]), (16, 1, .i2l, []), (17, 1, .lreturn, []), (18, 1, .iload_n 2, []), (19, 3, .ifCond .lt 8, []), (22, 1, .iload_n 2, []), (23, 1, .iconst 1, []), (24, 3, .if_icmp .le 11, []), (27, 1, .aload_n 0, []), (28, 2, .bipush (-5), []), (30, 3, .invokevirtual 169, [97, 6064]), (33, 1, .i2l, []), (34, 1, .lreturn, []), (35, 1, .aload_n 0, []), (36, 2, .bipush 54, []), (38, 3, .invokevirtual 232, [252, 7064]), (41, 1, .aload_n 0, []), (42, 3, .invokevirtual 174, [89, 6198]), (45, 2, .lstore 4, []), (47, 1, .iconst 0, []), (48, 2, .istore 6, []), (50, 1, .iconst 0, []), (51, 2, .istore 7, []), (53, 2, .iload 7, []), (55, 1, .aload_n 0, []), (56, 3, .getfield 799, [232, 5210, 12, 0]), (59, 3, .if_icmp .ge 47, []), (62, 1, .aload_n 0, []), (63, 1, .aload_n 0, []), (64, 3, .getfield 797, [75, 5208, 12, 0]), (67, 2, .iload 7, []), (69, 1, .iaload, []), (70, 1, .iload_n 1, []), (71, 3, .invokevirtual 243, [262, 7105]), (74, 3, .ifCond .ne 6, []), (77, 3, .goto 23, []), (80, 1, .iconst 1, []), (81, 2, .istore 6, []), (83, 2, .lload 4, []), (85, 1, .aload_n 0, []), (86, 1, .aload_n 0, []), (87, 3, .getfield 797, [75, 5208, 12, 0]), (90, 2, .iload 7, []), (92, 1, .iaload, []), (93, 1, .iload_n 2, []), (94, 3, .invokevirtual 187, [105, 6091]), (97, 1, .land, []), (98, 2, .lstore 4, []), (100, 3, .iinc 7 1, []), (103, 3, .goto (-50), []), (106, 2, .iload 6, []), (108, 3, .ifCond .eq 8, []), (111, 2, .lload 4, []), (113, 3, .goto 4, []), (116, 1, .lconst 0, []), (117, 1, .lreturn, [])]
def sT247 : List sEt := [(0, 1, .aload_n 0, []), (1, 1, .iload_n 1, []), (2, 1, .iconst 1, []), (3, 3, .invokevirtual 184, [165, 6108]), (6, 1, .istore_n 2, []), (7, 1, .iload_n 2, []), (8, 3, .ifCond .eq 9, []), (11, 1, .aload_n 0, []), (12, 1, .iload_n 2, []), (13, 3, .invokevirtual 170, [178, 6166]), (16, 1, .ireturn, []), (17, 1, .iconst 0, []), (18, 1, .istore_n 3, []), (19, 1, .iload_n 3, []), (20, 1, .aload_n 0, []), (21, 3, .getfield 774, [84, 5185, 12, 0]), (24, 3, .if_icmp .ge 48, []), (27, 1, .iload_n 3, []), (28, 1, .aload_n 0, []), (29, 3, .getfield 784, [53, 5195, 12, 0]), (32, 1, .iload_n 1, []), (33, 1, .iaload, []), (34, 3, .if_icmp .ge 12, []), (37, 1, .aload_n 0, []), (38, 1, .iload_n 1, []), (39, 1, .iload_n 3, []), (40, 3, .invokevirtual 185, [203, 7013]), (43, 3, .goto 4, []), (46, 1, .iconst 0, []), (47, 2, .istore 4, []), (49, 2, .iload 4, []), (51, 1, .aload_n 0, []), (52, 1, .iload_n 3, []), (53, 1, .aload_n 0, []), (54, 1, .iload_n 3, []), (55, 3, .invokevirtual 213, [184, 6188]), (58, 3, .invokevirtual 211, [196, 6202]), (61, 3, .if_icmp .eq 5, []), (64, 1, .iload_n 3, []), (65, 1, .ireturn, []), (66, 3, .iinc 3 1, []), (69, 3, .goto (-50), []), (72, 1, .iconst (-1), []), (73, 1, .ireturn, [])]
def sT248 : List sEt := [(0, 1, .aload_n 0, []), (1, 3, .getfield 804, [265, 5215, 12, 0]), (4, 2, .bipush 20, []), (6, 3, .if_icmp .ge 13, []), (9, 1, .aload_n 0, []), (10, 3, .getfield 803, [81, 5214, 12, 0]), (13, 1, .aload_n 0, []), (14, 3, .getfield 804, [265, 5215, 12, 0]), (17, 1, .iload_n 1, []), (18, 1, .iastore, []), (19, 1, .aload_n 0, []), (20, 1, .dup, []), (21, 3, .getfield 804, [265, 5215, 12, 0]), (24, 1, .iconst 1, []), (25, 1, .iadd, []), (26, 3, .putfield 804, [265, 5215, 12, 0]), (29, 1, .return_, [])]
def sT249 : List sEt := [(0, 1, .aload_n 0, []), (1, 3, .getfield 785, [56, 5196, 12, 0]), (4, 1, .iload_n 1, []), (5, 1, .iaload, []), (6, 3, .sipush 1000, []), (9, 1, .idiv, []), (10, 1, .istore_n 3, []), (11, 1, .iload_n 3, []), (12, 1, .iconst 1, []), (13, 3, .if_icmp .eq 13, []), (16, 1, .iload_n 3, []), (17, 1, .iconst 4, []), (18, 3, .if_icmp .eq 8, []), (21, 1, .iload_n 3, []), (22, 1, .iconst 5, []), (23, 3, .if_icmp .ne 7, []), (26, 1, .iconst 1, []), (27, 3, .goto 4, []), (30, 1, .iconst 0, []), (31, 2, .istore 4, []), (33, 1, .iload_n 3, []), (34, 1, .iconst 4, []), (35, 3, .if_icmp .ne 9, []), (38, 1, .aload_n 0, []), (39, 2, .bipush 51, []), (41, 3, .invokevirtual 248, [268, 7127]), (44, 2, .iload 4, []), (46, 3, .ifCond .eq 9, []), (49, 1, .aload_n 0, []), (50, 2, .bipush 20, []), (52, 3, .invokevirtual 248, [268, 7127]), (55, 1, .iload_n 3, []), (56, 2, .bipush 6, []), (58, 3, .if_icmp .ne 9, []), (61, 1, .aload_n 0, []), (62, 2, .bipush 70, []), (64, 3, .invokevirtual 248, [268, 7127]), (67, 1, .aload_n 0, []), (68, 2, .bipush 10, []), (70, 3, .invokevirtual 248, [268, 7127]), (73, 1, .iload_n 2, []), (74, 1, .iload_n 1, []), (75, 1, .iadd, []), (76, 2, .istore 5, []), (78, 2, .iload 4, []), (80, 3, .ifCond .eq 20, []), (83, 2, .iload 5, []), (85, 1, .aload_n 0, []), (86, 3, .getfield 785, [56, 5196, 12, 0]), (89, 1, .iload_n 1, []), (90, 1, .iaload, []), (91, 2, .bipush 100, []), (93, 1, .idiv, []), (94, 2, .bipush 10, []), (96, 1, .irem, []), (97, 1, .iadd, []), (98, 2, .istore 5, []), (100, 1, .iload_n 3, []), (101, 1, .iconst 4, []), (102, 3, .if_icmp .ne 9, []), (105, 2, .iload 5, []), (107, 1, .ineg, []), (108, 3, .goto 18, []), (111, 1, .iload_n 3, []), (112, 2, .bipush 6, []), (114, 3, .if_icmp .ne 10, []), (117, 2, .iload 5, []), (119, 1, .iconst 2, []), (120, 1, .imul, []), (121, 3, .goto 5, []), (124, 2, .iload 5, []), (126, 1, .ireturn, [])]
def sT250 : List sEt := [(0, 1, .aload_n 0, []), (1, 3, .getfield 785, [56, 5196, 12, 0]), (4, 1, .iload_n 1, []), (5, 1, .iaload, []), (6, 3, .sipush 1000, []), (9, 1, .idiv, []), (10, 1, .istore_n 3, []), (11, 1, .iload_n 2, []), (12, 2, .istore 4, []), (14, 1, .iload_n 3, []), (15, 1, .iconst 4, []), (16, 3, .if_icmp .ne 14, []), (19, 1, .aload_n 0, []), (20, 2, .bipush 50, []), (22, 3, .invokevirtual 248, [268, 7127]), (25, 1, .iload_n 2, []), (26, 1, .iconst 1, []), (27, 1, .iadd, []), (28, 2, .istore 4, []), (30, 1, .iload_n 3, []), (31, 2, .bipush 6, []), (33, 3, .if_icmp .ne 25, []), (36, 1, .aload_n 0, []), (37, 2, .bipush 71, []), (39, 3, .invokevirtual 248, [268, 7127]), (42, 1, .iload_n 2, []), (43, 1, .aload_n 0, []), (44, 3, .getfield 785, [56, 5196, 12, 0]), (47, 1, .iload_n 1, []), (48, 1, .iaload, []), (49, 2, .bipush 100, []), (51, 1, .idiv, []), (52, 2, .bipush 10, []), (54, 1, .irem, []), (55, 1, .isub, []), (56, 2, .istore 4, []), (58, 1, .iload_n 3, []), (59, 1, .iconst 2, []), (60, 3, .if_icmp .eq 9, []), (63, 1, .iload_n 3, []), (64, 2, .bipush 6, []), (66, 3, .if_icmp .ne 9, []), (69, 1, .aload_n 0, []), (70, 2, .bipush 30, []), (72, 3, .invokevirtual 248, [268, 7127]), (75, 1, .aload_n 0, []), (76, 2, .bipush 11, []), (78, 3, .invokevirtual 248, [268, 7127]), (81, 1, .aload_n 0, []), (82, 1, .iload_n 1, []), (83, 2, .iload 4, []), (85, 3, .invokevirtual 249, [271, 7124]), (88, 1, .iconst 2, []), (89, 1, .imul, []), (90, 2, .istore 5, []), (92, 1, .iload_n 3, []), (93, 1, .iconst 2, []), (94, 3, .if_icmp .eq 9, []), (97, 1, .iload_n 3, []), (98, 2, .bipush 6, []), (100, 3, .if_icmp .ne 10, []), (103, 2, .iload 5, []), (105, 1, .iconst 3, []), (106, 1, .imul, []), (107, 3, .goto 5, []), (110, 2, .iload 5, []), (112, 1, .ireturn, [])]
def sT251 : List sEt := [(0, 1, .aload_n 0, []), (1, 3, .getfield 785, [56, 5196, 12, 0]), (4, 1, .iload_n 1, []), (5, 1, .iaload, []), (6, 3, .sipush 1000, []), (9, 1, .idiv, []), (10, 1, .istore_n 3, []), (11, 1, .iload_n 3, []), (12, 1, .iconst 3, []), (13, 3, .if_icmp .ne 9, []), (16, 1, .aload_n 0, []), (17, 2, .bipush 40, []), (19, 3, .invokevirtual 248, [268, 7127]), (22, 1, .iload_n 3, []), (23, 1, .iconst 5, []), (24, 3, .if_icmp .ne 9, []), (27, 1, .aload_n 0, []), (28, 2, .bipush 60, []), (30, 3, .invokevirtual 248, [268, 7127]), (33, 1, .aload_n 0, []), (34, 2, .bipush 12, []), (36, 3, .invokevirtual 248, [268, 7127]), (39, 1, .aload_n 0, []), (40, 1, .iload_n 1, []), (41, 1, .iload_n 2, []), (42, 3, .invokevirtual 250, [274, 7130]), (45, 2, .istore 4, []), (47, 2, .iload 4, []), (49, 1, .aload_n 0, []), (50, 1, .iload_n 1, []), (51, 1, .iload_n 2, []), (52, 1, .aload_n 0, []), (53, 3, .getfield 785, [56, 5196, 12, 0]), (56, 1, .iload_n 1, []), (57, 1, .iaload, []), (58, 2, .bipush 100, []), (60, 1, .idiv, []), (61, 2, .bipush 10, []), (63, 1, .irem, []), (64, 1, .isub, []), (65, 3, .invokevirtual 249, [271, 7124]), (68, 1, .ixor, []), (69, 2, .istore 4, []), (71, 1, .iload_n 3, []), (72, 1, .iconst 3, []), (73, 3, .if_icmp .ne 10, []), (76, 2, .iload 4, []), (78, 1, .iload_n 1, []), (79, 1, .isub, []), (80, 3, .goto 17, []), (83, 1, .iload_n 3, []), (84, 1, .iconst 5, []), (85, 3, .if_icmp .ne 10, []), (88, 2, .iload 4, []), (90, 1, .iconst 5, []), (91, 1, .ixor, []), (92, 3, .goto 5, []), (95, 2, .iload 4, []), (97, 1, .ireturn, [])]
def sT252 : List sEt := [(0, 1, .aload_n 0, []), (1, 1, .iconst 0, []), (2, 3, .putfield 804, [265, 5215, 12, 0]), (5, 1, .aload_n 0, []), (6, 1, .iload_n 1, []), (7, 3, .invokevirtual 171, [93, 6061]), (10, 3, .ifCond .eq 22, []), (13, 1, .aload_n 0, []), (14, 3, .getfield 782, [47, 5193, 12, 0]), (17, 1, .iload_n 1, []), (18, 1, .iaload, []), (19, 1, .iconst 2, []), (20, 3, .if_icmp .ne 12, []), (23, 1, .iload_n 2, []), (24, 3, .ifCond .lt 8, []), (27, 1, .iload_n 2, []), (28, 1, .iconst 2, []), (29, 3, .if_icmp .le 5, []), (32, 1, .iconst 0, []), (33, 1, .ireturn, []), (34, 1, .iload_n 2, []), (35, 3, .ifCond .ne 12, []), (38, 1, .aload_n 0, []), (39, 1, .iload_n 1, []), (40, 1, .iload_n 3, []), (41, 3, .invokevirtual 249, [271, 7124]), (44, 3, .goto 23, []), (47, 1, .iload_n 2, []), (48, 1, .iconst 1, []), (49, 3, .if_icmp .ne 12, []), (52, 1, .aload_n 0, []), (53, 1, .iload_n 1, []), (54, 1, .iload_n 3, []), (55, 3, .invokevirtual 250, [274, 7130]), (58, 3, .goto 9, []), (61, 1, .aload_n 0, []), (62, 1, .iload_n 1, []), (63, 1, .iload_n 3, []), (64, 3, .invokevirtual 251, [277, 7133]), (67, 1, .ireturn, [])]
def sT253 : List sEt := [(0, 1, .iload_n 1, []), (1, 3, .ifCond .lt 26, []), (4, 1, .iload_n 1, []), (5, 2, .bipush 20, []), (7, 3, .if_icmp .ge 20, []), (10, 1, .iload_n 1, []), (11, 1, .aload_n 0, []), (12, 3, .getfield 804, [265, 5215, 12, 0]), (15, 3, .if_icmp .ge 12, []), (18, 1, .aload_n 0, []), (19, 3, .getfield 803, [81, 5214, 12, 0]), (22, 1, .iload_n 1, []), (23, 1, .iaload, []), (24, 3, .goto 4, []), (27, 1, .iconst (-1), []), (28, 1, .ireturn, [])]
def sT254 : List sEt := [(0, 1, .aload_n 0, []), (1, 1, .iconst 1, []), (2, 3, .putfield 805, [280, 5216, 12, 0]), (5, 1, .aload_n 0, []), (6, 1, .aload_n 0, []), (7, 3, .getfield 795, [72, 5206, 12, 0]), (10, 1, .iconst 0, []), (11, 3, .invokevirtual 201, [169, 6111]), (14, 1, .aload_n 0, []), (15, 3, .getfield 774, [84, 5185, 12, 0]), (18, 1, .ireturn, [])]
def sT255 : List sEt := [(0, 1, .aload_n 0, []), (1, 3, .getfield 805, [280, 5216, 12, 0]), (4, 3, .ifCond .ne 10, []), (7, 1, .aload_n 0, []), (8, 2, .bipush (-6), []), (10, 3, .invokevirtual 169, [97, 6064]), (13, 1, .ireturn, []), (14, 1, .aload_n 0, []), (15, 1, .aload_n 0, []), (16, 3, .getfield 795, [72, 5206, 12, 0]), (19, 1, .iconst 1, []), (20, 3, .invokevirtual 201, [169, 6111]), (23, 1, .aload_n 0, []), (24, 3, .getfield 774, [84, 5185, 12, 0]), (27, 1, .ireturn, [])]
def sT256 : List sEt := [(0, 1, .iload_n 1, []), (1, 2, .bipush 11, []), (3, 3, .if_icmp .lt 19, []), (6, 1, .iload_n 1, []), (7, 2, .bipush 17, []), (9, 3, .if_icmp .gt 13, []), (12, 1, .aload_n 0, []), (13, 3, .getfield 776, [28, 5187, 12, 0]), (16, 1, .iload_n 1, []), (17, 2, .bipush 10, []), (19, 1, .isub, []), (20, 1, .iaload, []), (21, 1, .ireturn, []), (22, 1, .iconst 0, []), (23, 1, .istore_n 2, []), (24, 1, .iload_n 1, []), (25, 51, .tableswitch 135 0 8 #[51, 56, 61, 66, 71, 76, 81, 86, 130], []), (76, 1, .aload_n 0, []), (77, 3, .getfield 768, [7, 5179, 12, 0]), (80, 1, .ireturn, []), (81, 1, .aload_n 0, []), (82, 3, .getfield 769, [13, 5180, 12, 0]), (85, 1, .ireturn, []), (86, 1, .aload_n 0, []), (87, 3, .getfield 774, [84, 5185, 12, 0]), (90, 1, .ireturn, []), (91, 1, .aload_n 0, []), (92, 3, .getfield 770, [158, 5181, 12, 0]), (95, 1, .ireturn, []), (96, 1, .aload_n 0, []), (97, 3, .getfield 771, [16, 5182, 12, 0]), (100, 1, .ireturn, []), (101, 1, .aload_n 0, []), (102, 3, .getfield 772, [19, 5183, 12, 0]), (105, 1, .ireturn, []), (106, 1, .aload_n 0, []), (107, 3, .getfield 773, [22, 5184, 12, 0]), (110, 1, .ireturn, []), (111, 1, .iconst 0, []), (112, 1, .istore_n 3, []), (113, 1, .iload_n 3, []), (114, 1, .aload_n 0, []), (115, 3, .getfield 768, [7, 5179, 12, 0]), (118, 1, .aload_n 0, []), (119, 3, .getfield 769, [13, 5180, 12, 0]), (122, 1, .imul, []), (123, 3, .if_icmp .ge 30, []), (126, 1, .iload_n 2, []), (127, 1, .aload_n 0, []), (128, 1, .aload_n 0, []), (129, 3, .getfield 778, [35, 5189, 12, 0]), (132, 1, .iload_n 3, []), (133, 1, .iaload, []), (134, 3, .invokevirtual 173, [181, 6177]), (137, 3, .ifCond .eq 7, []), (140, 1, .iconst 1, []), (141, 3, .goto 4, []), (144, 1, .iconst 0, []), (145, 1, .iadd, []), (146, 1, .istore_n 2, []), (147, 3, .iinc 3 1, []), (150, 3, .goto (-37), []), (153, 1, .iload_n 2, []), (154, 1, .ireturn, []), (155, 1, .aload_n 0, []), (156, 3, .getfield 804, [265, 5215, 12, 0]), (159, 1, .ireturn, []), (160, 1, .iconst (-1), []), (161, 1, .ireturn, [])]
def sT257 : List sEt := [(0, 1, .lload_n 0, []), (1, 1, .lload_n 0, []), (2, 1, .iconst 1, []), (3, 1, .lushr, []), (4, 3, .ldc2_w 6148914691236517205, [314, 3080]), (7, 1, .land, []), (8, 1, .lsub, []), (9, 1, .lstore_n 0, []), (10, 1, .lload_n 0, []), (11, 3, .ldc2_w 3689348814741910323, [316, 3081]), (14, 1, .land, []), (15, 1, .lload_n 0, []), (16, 1, .iconst 2, []), (17, 1, .lushr, []), (18, 3, .ldc2_w 3689348814741910323, [316, 3081]), (21, 1, .land, []), (22, 1, .ladd, []), (23, 1, .lstore_n 0, []), (24, 1, .lload_n 0, []), (25, 1, .lload_n 0, []), (26, 1, .iconst 4, []), (27, 1, .lushr, []), (28, 1, .ladd, []), (29, 3, .ldc2_w 1085102592571150095, [318, 3082]), (32, 1, .land, []), (33, 1, .lstore_n 0, []), (34, 1, .lload_n 0, []), (35, 1, .lload_n 0, []), (36, 2, .bipush 8, []), (38, 1, .lushr, []), (39, 1, .ladd, []), (40, 1, .lstore_n 0, []), (41, 1, .lload_n 0, []), (42, 1, .lload_n 0, []), (43, 2, .bipush 16, []), (45, 1, .lushr, []), (46, 1, .ladd, []), (47, 1, .lstore_n 0, []), (48, 1, .lload_n 0, []), (49, 1, .lload_n 0, []), (50, 2, .bipush 32, []), (52, 1, .lushr, []), (53, 1, .ladd, []), (54, 1, .lstore_n 0, []), (55, 1, .lload_n 0, []), (56, 1, .l2i, []), (57, 2, .bipush 127, []), (59, 1, .iand, []), (60, 1, .ireturn, [])]
def sT258 : List sEt := [(0, 3, .new 11, [7, 1021, 1022, 1001]), (3, 1, .dup, []), (4, 3, .invokespecial 113, [9, 1023]), (7, 1, .astore_n 1, []), (8, 3, .new 12, [10, 5173, 5174, 1005]), (11, 1, .dup, []), (12, 3, .invokespecial 168, [12, 5175]), (15, 1, .astore_n 2, []), (16, 1, .iconst 0, []), (17, 1, .istore_n 3, []), (18, 1, .iload_n 3, []), (19, 1, .aload_n 0, []), (20, 1, .arraylength, []), (21, 2, .bipush 6, []), (23, 1, .isub, []), (24, 3, .if_icmp .gt 1547, []), (27, 1, .aload_n 0, []), (28, 1, .iload_n 3, []), (29, 1, .iaload, []), (30, 2, .bipush 63, []), (32, 1, .iand, []), (33, 187, .tableswitch 1532 0 42 #[187, 230, 303, 366, 399, 432, 455, 488, 521, 544, 557, 590, 623, 656, 679, 722, 771, 804, 867, 890, 953, 996, 1019, 1042, 1055, 1068, 1081, 1134, 1157, 1180, 1223, 1246, 1269, 1282, 1305, 1338, 1361, 1394, 1417, 1460, 1483, 1496, 1509], []), (220, 1, .aload_n 1, []), (221, 1, .aload_n 0, []), (222, 1, .iload_n 3, []), (223, 1, .iconst 1, []), (224, 1, .iadd, []), (225, 1, .iaload, []), (226, 1, .aload_n 0, []), (227, 1, .iload_n 3, []), (228, 1, .iconst 2, []), (229, 1, .iadd, []), (230, 1, .iaload, []), (231, 1, .aload_n 0, []), (232, 1, .iload_n 3, []), (233, 1, .iconst 3, []), (234, 1, .iadd, []), (235, 1, .iaload, []), (236, 3, .invokevirtual 114, [13, 1213]), (239, 1, .aload_n 2, []), (240, 1, .aload_n 0, []), (241, 1, .iload_n 3, []), (242, 1, .iconst 1, []), (243, 1, .iadd, []), (244, 1, .iaload, []), (245, 1, .aload_n 0, []), (246, 1, .iload_n 3, []), (247, 1, .iconst 2, []), (248, 1, .iadd, []), (249, 1, .iaload, []), (250, 1, .aload_n 0, []), (251, 1, .iload_n 3, []), (252, 1, .iconst 3, []), (253, 1, .iadd, []), (254, 1, .iaload, []), (255, 3, .invokevirtual 178, [17, 6057]), (258, 3, .if_icmp .eq 1307, []), (261, 1, .iconst 0, []), (262, 1, .ireturn, []), (263, 1, .aload_n 1, []), (264, 1, .aload_n 0, []), (265, 1, .iload_n 3, []), (266, 1, .iconst 1, []), (267, 1, .iadd, []), (268, 1, .iaload, []), (269, 1, .aload_n 0, []), (270, 1, .iload_n 3, []), (271, 1, .iconst 2, []), (272, 1, .iadd, []), (273, 1, .iaload, []), (274, 1, .aload_n 0, []), (275, 1, .iload_n 3, []), (276, 1, .iconst 3, []), (277, 1, .iadd, []), (278, 1, .iaload, []), (279, 1, .i2l, []), (280, 2, .bipush 32, []), (282, 1, .lshl, []), (283, 1, .aload_n 0, []), (284, 1, .iload_n 3, []), (285, 1, .iconst 4, []), (286, 1, .iadd, []), (287, 1, .iaload, []), (288, 1, .i2l, []), (289, 3, .ldc2_w 4294967295, [18, 7152]), (292, 1, .land, []), (293, 1, .lor, []), (294, 3, .invokevirtual 115, [20, 2003]), (297, 1, .pop, []), (298, 1, .aload_n 2, []), (299, 1, .aload_n 0, []), (300, 1, .iload_n 3, []), (301, 1, .iconst 1, []), (302, 1, .iadd, []), (303, 1, .iaload, []), (304, 1, .aload_n 0, []), (305, 1, .iload_n 3, []), (306, 1, .iconst 2, []), (307, 1, .iadd, []), (308, 1, .iaload, []), (309, 1, .aload_n 0, []), (310, 1, .iload_n 3, []), (311, 1, .iconst 3, []), (312, 1, .iadd, []), (313, 1, .iaload, []), (314, 1, .i2l, []), (315, 2, .bipush 32, []), (317, 1, .lshl, []), (318, 1, .aload_n 0, []), (319, 1, .iload_n 3, []), (320, 1, .iconst 4, []), (321, 1, .iadd, []), (322, 1, .iaload, []), (323, 1, .i2l, []), (324, 3, .ldc2_w 4294967295, [18, 7152]), (327, 1, .land, []), (328, 1, .lor, []), (329, 3, .invokevirtual 179, [24, 6067]), (332, 1, .pop, []), (333, 3, .goto 1232, []), (336, 1, .aload_n 1, []), (337, 1, .aload_n 0, []), (338, 1, .iload_n 3, []), (339, 1, .iconst 1, []), (340, 1, .iadd, []), (341, 1, .iaload, []), (342, 1, .aload_n 0, []), (343, 1, .iload_n 3, []), (344, 1, .iconst 2, []), (345, 1, .iadd, []), (346, 1, .iaload, []), (347, 1, .aload_n 0, []), (348, 1, .iload_n 3, []), (349, 1, .iconst 3, []), (350, 1, .iadd, []), (351, 1, .iaload, []), (352, 1, .aload_n 0, []), (353, 1, .iload_n 3, []), (354, 1, .iconst 4, []), (355, 1, .iadd, []), (356, 1, .iaload, []), (357, 1, .aload_n 0, []), (358, 1, .iload_n 3, []), (359, 1, .iconst 5, []), (360, 1, .iadd, []), (361, 1, .iaload, []), (362, 3, .invokevirtual 116, [25, 2027]), (365, 1, .pop, []), (366, 1, .aload_n 2, []), (367, 1, .aload_n 0, []), (368, 1, .iload_n 3, []), (369, 1, .iconst 1, []), (370, 1, .iadd, []), (371, 1, .iaload, []), (372, 1, .aload_n 0, []), (373, 1, .iload_n 3, []), (374, 1, .iconst 2, []), (375, 1, .iadd, []), (376, 1, .iaload, []), (377, 1, .aload_n 0, []), (378, 1, .iload_n 3, []), (379, 1, .iconst 3, []), (380, 1, .iadd, []), (381, 1, .iaload, []), (382, 1, .aload_n 0, []), (383, 1, .iload_n 3, []), (384, 1, .iconst 4, []), (385, 1, .iadd, []), (386, 1, .iaload, []), (387, 1, .aload_n 0, []), (388, 1, .iload_n 3, []), (389, 1, .iconst 5, []), (390, 1, .iadd, []), (391, 1, .iaload, []), (392, 3, .invokevirtual 180, [29, 6071]), (395, 1, .pop, []), (396, 3, .goto 1169, []), (399, 1, .aload_n 1, []), (400, 1, .aload_n 0, []), (401, 1, .iload_n 3, []), (402, 1, .iconst 1, []), (403, 1, .iadd, []), (404, 1, .iaload, []), (405, 1, .aload_n 0, []), (406, 1, .iload_n 3, []), (407, 1, .iconst 2, []), (408, 1, .iadd, []), (409, 1, .iaload, []), (410, 3, .invokevirtual 117, [30, 2042]), (413, 1, .pop2, []), (414, 1, .aload_n 2, []), (415, 1, .aload_n 0, []), (416, 1, .iload_n 3, []), (417, 1, .iconst 1, []), (418, 1, .iadd, []), (419, 1, .iaload, []), (420, 1, .aload_n 0, []), (421, 1, .iload_n 3, []), (422, 1, .iconst 2, []), (423, 1, .iadd, []), (424, 1, .iaload, []), (425, 3, .invokevirtual 181, [34, 6075]), (428, 1, .pop2, []), (429, 3, .goto 1136, []), (432, 1, .aload_n 1, []), (433, 1, .aload_n 0, []), (434, 1, .iload_n 3, []), (435, 1, .iconst 1, []), (436, 1, .iadd, []), (437, 1, .iaload, []), (438, 1, .aload_n 0, []), (439, 1, .iload_n 3, []), (440, 1, .iconst 2, []), (441, 1, .iadd, []), (442, 1, .iaload, []), (443, 3, .invokevirtual 118, [35, 2050]), (446, 1, .pop, []), (447, 1, .aload_n 2, []), (448, 1, .aload_n 0, []), (449, 1, .iload_n 3, []), (450, 1, .iconst 1, []), (451, 1, .iadd, []), (452, 1, .iaload, []), (453, 1, .aload_n 0, []), (454, 1, .iload_n 3, []), (455, 1, .iconst 2, []), (456, 1, .iadd, []), (457, 1, .iaload, []), (458, 3, .invokevirtual 182, [39, 6079]), (461, 1, .pop, []), (462, 3, .goto 1103, []), (465, 1, .aload_n 1, []), (466, 1, .aload_n 0, []), (467, 1, .iload_n 3, []), (468, 1, .iconst 1, []), (469, 1, .iadd, []), (470, 1, .iaload, []), (471, 3, .invokevirtual 119, [40, 2205]), (474, 1, .pop, []), (475, 1, .aload_n 2, []), (476, 1, .aload_n 0, []), (477, 1, .iload_n 3, []), (478, 1, .iconst 1, []), (479, 1, .iadd, []), (480, 1, .iaload, []), (481, 3, .invokevirtual 183, [44, 6083]), (484, 1, .pop, []), (485, 3, .goto 1080, []), (488, 1, .aload_n 1, []), (489, 1, .aload_n 0, []), (490, 1, .iload_n 3, []), (491, 1, .iconst 1, []), (492, 1, .iadd, []), (493, 1, .iaload, []), (494, 1, .aload_n 0, []), (495, 1, .iload_n 3, []), (496, 1, .iconst 2, []), (497, 1, .iadd, []), (498, 1, .iaload, []), (499, 3, .invokevirtual 120, [45, 2209]), (502, 1, .pop, []), (503, 1, .aload_n 2, []), (504, 1, .aload_n 0, []), (505, 1, .iload_n 3, []), (506, 1, .iconst 1, []), (507, 1, .iadd, []), (508, 1, .iaload, []), (509, 1, .aload_n 0, []), (510, 1, .iload_n 3, []), (511, 1, .iconst 2, []), (512, 1, .iadd, []), (513, 1, .iaload, []), (514, 3, .invokevirtual 189, [48, 6097]), (517, 1, .pop, []), (518, 3, .goto 1047, []), (521, 1, .aload_n 1, []), (522, 1, .aload_n 0, []), (523, 1, .iload_n 3, []), (524, 1, .iconst 1, []), (525, 1, .iadd, []), (526, 1, .iaload, []), (527, 1, .aload_n 0, []), (528, 1, .iload_n 3, []), (529, 1, .iconst 2, []), (530, 1, .iadd, []), (531, 1, .iaload, []), (532, 3, .invokevirtual 121, [49, 3083]), (535, 1, .pop2, []), (536, 1, .aload_n 2, []), (537, 1, .aload_n 0, []), (538, 1, .iload_n 3, []), (539, 1, .iconst 1, []), (540, 1, .iadd, []), (541, 1, .iaload, []), (542, 1, .aload_n 0, []), (543, 1, .iload_n 3, []), (544, 1, .iconst 2, []), (545, 1, .iadd, []), (546, 1, .iaload, []), (547, 3, .invokevirtual 188, [52, 6087]), (550, 1, .pop2, []), (551, 3, .goto 1014, []), (554, 1, .aload_n 1, []), (555, 1, .aload_n 0, []), (556, 1, .iload_n 3, []), (557, 1, .iconst 1, []), (558, 1, .iadd, []), (559, 1, .iaload, []), (560, 3, .invokevirtual 122, [53, 3087]), (563, 1, .pop, []), (564, 1, .aload_n 2, []), (565, 1, .aload_n 0, []), (566, 1, .iload_n 3, []), (567, 1, .iconst 1, []), (568, 1, .iadd, []), (569, 1, .iaload, []), (570, 3, .invokevirtual 202, [56, 6104]), (573, 1, .pop, []), (574, 3, .goto 991, []), (577, 1, .aload_n 1, []), (578, 3, .invokevirtual 123, [57, 4015]), (581, 1, .pop, []), (582, 1, .aload_n 2, []), (583, 3, .invokevirtual 203, [61, 6147]), (586, 1, .pop, []), (587, 3, .goto 978, []), (590, 1, .aload_n 1, []), (591, 1, .aload_n 0, []), (592, 1, .iload_n 3, []), (593, 1, .iconst 1, []), (594, 1, .iadd, []), (595, 1, .iaload, []), (596, 1, .aload_n 0, []), (597, 1, .iload_n 3, []), (598, 1, .iconst 2, []), (599, 1, .iadd, []), (600, 1, .iaload, []), (601, 3, .invokevirtual 124, [62, 4019]), (604, 1, .pop, []), (605, 1, .aload_n 2, []), (606, 1, .aload_n 0, []), (607, 1, .iload_n 3, []), (608, 1, .iconst 1, []), (609, 1, .iadd, []), (610, 1, .iaload, []), (611, 1, .aload_n 0, []), (612, 1, .iload_n 3, []), (613, 1, .iconst 2, []), (614, 1, .iadd, []), (615, 1, .iaload, []), (616, 3, .invokevirtual 204, [65, 6151]), (619, 1, .pop, []), (620, 3, .goto 945, []), (623, 1, .aload_n 1, []), (624, 1, .aload_n 0, []), (625, 1, .iload_n 3, []), (626, 1, .iconst 1, []), (627, 1, .iadd, []), (628, 1, .iaload, []), (629, 1, .aload_n 0, []), (630, 1, .iload_n 3, []), (631, 1, .iconst 2, []), (632, 1, .iadd, []), (633, 1, .iaload, []), (634, 3, .invokevirtual 125, [66, 4024]), (637, 1, .pop, []), (638, 1, .aload_n 2, []), (639, 1, .aload_n 0, []), (640, 1, .iload_n 3, []), (641, 1, .iconst 1, []), (642, 1, .iadd, []), (643, 1, .iaload, []), (644, 1, .aload_n 0, []), (645, 1, .iload_n 3, []), (646, 1, .iconst 2, []), (647, 1, .iadd, []), (648, 1, .iaload, []), (649, 3, .invokevirtual 205, [69, 6155]), (652, 1, .pop, []), (653, 3, .goto 912, []), (656, 1, .aload_n 1, []), (657, 1, .aload_n 0, []), (658, 1, .iload_n 3, []), (659, 1, .iconst 1, []), (660, 1, .iadd, []), (661, 1, .iaload, []), (662, 1, .aload_n 0, []), (663, 1, .iload_n 3, []), (664, 1, .iconst 2, []), (665, 1, .iadd, []), (666, 1, .iaload, []), (667, 3, .invokevirtual 126, [70, 4043]), (670, 1, .pop, []), (671, 1, .aload_n 2, []), (672, 1, .aload_n 0, []), (673, 1, .iload_n 3, []), (674, 1, .iconst 1, []), (675, 1, .iadd, []), (676, 1, .iaload, []), (677, 1, .aload_n 0, []), (678, 1, .iload_n 3, []), (679, 1, .iconst 2, []), (680, 1, .iadd, []), (681, 1, .iaload, []), (682, 3, .invokevirtual 206, [73, 6162]), (685, 1, .pop, []), (686, 3, .goto 879, []), (689, 1, .aload_n 1, []), (690, 1, .aload_n 0, []), (691, 1, .iload_n 3, []), (692, 1, .iconst 1, []), (693, 1, .iadd, []), (694, 1, .iaload, []), (695, 3, .invokevirtual 127, [74, 4055]), (698, 1, .pop, []), (699, 1, .aload_n 2, []), (700, 1, .aload_n 0, []), (701, 1, .iload_n 3, []), (702, 1, .iconst 1, []), (703, 1, .iadd, []), (704, 1, .iaload, []), (705, 3, .invokevirtual 207, [77, 6169]), (708, 1, .pop, []), (709, 3, .goto 856, []), (712, 1, .aload_n 1, []), (713, 1, .aload_n 0, []), (714, 1, .iload_n 3, []), (715, 1, .iconst 1, []), (716, 1, .iadd, []), (717, 1, .iaload, []), (718, 1, .aload_n 0, []), (719, 1, .iload_n 3, []), (720, 1, .iconst 2, []), (721, 1, .iadd, []), (722, 1, .iaload, []), (723, 1, .aload_n 0, []), (724, 1, .iload_n 3, []), (725, 1, .iconst 3, []), (726, 1, .iadd, []), (727, 1, .iaload, []), (728, 3, .invokevirtual 128, [78, 4060]), (731, 1, .pop, []), (732, 1, .aload_n 2, []), (733, 1, .aload_n 0, []), (734, 1, .iload_n 3, []), (735, 1, .iconst 1, []), (736, 1, .iadd, []), (737, 1, .iaload, []), (738, 1, .aload_n 0, []), (739, 1, .iload_n 3, []), (740, 1, .iconst 2, []), (741, 1, .iadd, []), (742, 1, .iaload, []), (743, 1, .aload_n 0, []), (744, 1, .iload_n 3, []), (745, 1, .iconst 3, []), (746, 1, .iadd, []), (747, 1, .iaload, []), (748, 3, .invokevirtual 208, [81, 6173]), (751, 1, .pop, []), (752, 3, .goto 813, []), (755, 1, .aload_n 1, []), (756, 1, .aload_n 0, []), (757, 1, .iload_n 3, []), (758, 1, .iconst 1, []), (759, 1, .iadd, []), (760, 1, .iaload, []), (761, 1, .aload_n 0, []), (762, 1, .iload_n 3, []), (763, 1, .iconst 2, []), (764, 1, .iadd, []), (765, 1, .iaload, []), (766, 3, .ifCond .eq 7, []), (769, 1, .iconst 1, []), (770, 3, .goto 4, []), (773, 1, .iconst 0, []), (774, 3, .invokevirtual 129, [82, 4065]), (777, 1, .pop, []), (778, 1, .aload_n 2, []), (779, 1, .aload_n 0, []), (780, 1, .iload_n 3, []), (781, 1, .iconst 1, []), (782, 1, .iadd, []), (783, 1, .iaload, []), (784, 1, .aload_n 0, []), (785, 1, .iload_n 3, []), (786, 1, .iconst 2, []), (787, 1, .iadd, []), (788, 1, .iaload, []), (789, 3, .ifCond .eq 7, []), (792, 1, .iconst 1, []), (793, 3, .goto 4, []), (796, 1, .iconst 0, []), (797, 3, .invokevirtual 209, [86, 6180]), (800, 1, .pop, []), (801, 3, .goto 764, []), (804, 1, .aload_n 1, []), (805, 1, .aload_n 0, []), (806, 1, .iload_n 3, []), (807, 1, .iconst 1, []), (808, 1, .iadd, []), (809, 1, .iaload, []), (810, 1, .aload_n 0, []), (811, 1, .iload_n 3, []), (812, 1, .iconst 2, []), (813, 1, .iadd, []), (814, 1, .iaload, []), (815, 3, .invokevirtual 130, [87, 4069]), (818, 1, .pop, []), (819, 1, .aload_n 2, []), (820, 1, .aload_n 0, []), (821, 1, .iload_n 3, []), (822, 1, .iconst 1, []), (823, 1, .iadd, []), (824, 1, .iaload, []), (825, 1, .aload_n 0, []), (826, 1, .iload_n 3, []), (827, 1, .iconst 2, []), (828, 1, .iadd, []), (829, 1, .iaload, []), (830, 3, .invokevirtual 210, [90, 6184]), (833, 1, .pop, []), (834, 3, .goto 731, []), (837, 1, .aload_n 1, []), (838, 1, .aload_n 0, []), (839, 1, .iload_n 3, []), (840, 1, .iconst 1, []), (841, 1, .iadd, []), (842, 1, .iaload, []), (843, 1, .aload_n 0, []), (844, 1, .iload_n 3, []), (845, 1, .iconst 2, []), (846, 1, .iadd, []), (847, 1, .iaload, []), (848, 1, .i2l, []), (849, 2, .bipush 32, []), (851, 1, .lshl, []), (852, 1, .aload_n 0, []), (853, 1, .iload_n 3, []), (854, 1, .iconst 3, []), (855, 1, .iadd, []), (856, 1, .iaload, []), (857, 1, .i2l, []), (858, 3, .ldc2_w 4294967295, [18, 7152]), (861, 1, .land, []), (862, 1, .lor, []), (863, 3, .invokevirtual 131, [91, 4073]), (866, 1, .pop, []), (867, 1, .aload_n 2, []), (868, 1, .aload_n 0, []), (869, 1, .iload_n 3, []), (870, 1, .iconst 1, []), (871, 1, .iadd, []), (872, 1, .iaload, []), (873, 1, .aload_n 0, []), (874, 1, .iload_n 3, []), (875, 1, .iconst 2, []), (876, 1, .iadd, []), (877, 1, .iaload, []), (878, 1, .i2l, []), (879, 2, .bipush 32, []), (881, 1, .lshl, []), (882, 1, .aload_n 0, []), (883, 1, .iload_n 3, []), (884, 1, .iconst 3, []), (885, 1, .iadd, []), (886, 1, .iaload, []), (887, 1, .i2l, []), (888, 3, .ldc2_w 4294967295, [18, 7152]), (891, 1, .land, []), (892, 1, .lor, []), (893, 3, .invokevirtual 212, [95, 6191]), (896, 1, .pop, []), (897, 3, .goto 668, []), (900, 1, .aload_n 1, []), (901, 1, .aload_n 0, []), (902, 1, .iload_n 3, []), (903, 1, .iconst 1, []), (904, 1, .iadd, []), (905, 1, .iaload, []), (906, 3, .invokevirtual 132, [96, 4087]), (909, 1, .pop, []), (910, 1, .aload_n 2, []), (911, 1, .aload_n 0, []), (912, 1, .iload_n 3, []), (913, 1, .iconst 1, []), (914, 1, .iadd, []), (915, 1, .iaload, []), (916, 3, .invokevirtual 215, [99, 6208]), (919, 1, .pop, []), (920, 3, .goto 645, []), (923, 1, .aload_n 1, []), (924, 1, .aload_n 0, []), (925, 1, .iload_n 3, []), (926, 1, .iconst 1, []), (927, 1, .iadd, []), (928, 1, .iaload, []), (929, 1, .i2l, []), (930, 2, .bipush 32, []), (932, 1, .lshl, []), (933, 1, .aload_n 0, []), (934, 1, .iload_n 3, []), (935, 1, .iconst 2, []), (936, 1, .iadd, []), (937, 1, .iaload, []), (938, 1, .i2l, []), (939, 3, .ldc2_w 4294967295, [18, 7152]), (942, 1, .land, []), (943, 1, .lor, []), (944, 1, .aload_n 0, []), (945, 1, .iload_n 3, []), (946, 1, .iconst 3, []), (947, 1, .iadd, []), (948, 1, .iaload, []), (949, 3, .invokevirtual 133, [100, 4095]), (952, 1, .pop, []), (953, 1, .aload_n 2, []), (954, 1, .aload_n 0, []), (955, 1, .iload_n 3, []), (956, 1, .iconst 1, []), (957, 1, .iadd, []), (958, 1, .iaload, []), (959, 1, .i2l, []), (960, 2, .bipush 32, []), (962, 1, .lshl, []), (963, 1, .aload_n 0, []), (964, 1, .iload_n 3, []), (965, 1, .iconst 2, []), (966, 1, .iadd, []), (967, 1, .iaload, []), (968, 1, .i2l, []), (969, 3, .ldc2_w 4294967295, [18, 7152]), (972, 1, .land, []), (973, 1, .lor, []), (974, 1, .aload_n 0, []), (975, 1, .iload_n 3, []), (976, 1, .iconst 3, []), (977, 1, .iadd, []), (978, 1, .iaload, []), (979, 3, .invokevirtual 216, [104, 6212]), (982, 1, .pop, []), (983, 3, .goto 582, []), (986, 1, .aload_n 1, []), (987, 1, .aload_n 0, []), (988, 1, .iload_n 3, []), (989, 1, .iconst 1, []), (990, 1, .iadd, []), (991, 1, .iaload, []), (992, 1, .aload_n 0, []), (993, 1, .iload_n 3, []), (994, 1, .iconst 2, []), (995, 1, .iadd, []), (996, 1, .iaload, []), (997, 1, .aload_n 0, []), (998, 1, .iload_n 3, []), (999, 1, .iconst 3, []), (1000, 1, .iadd, []), (1001, 1, .iaload, []), (1002, 3, .invokevirtual 134, [105, 4104]), (1005, 1, .pop, []), (1006, 1, .aload_n 2, []), (1007, 1, .aload_n 0, []), (1008, 1, .iload_n 3, []), (1009, 1, .iconst 1, []), (1010, 1, .iadd, []), (1011, 1, .iaload, []), (1012, 1, .aload_n 0, []), (1013, 1, .iload_n 3, []), (1014, 1, .iconst 2, []), (1015, 1, .iadd, []), (1016, 1, .iaload, []), (1017, 1, .aload_n 0, []), (1018, 1, .iload_n 3, []), (1019, 1, .iconst 3, []), (1020, 1, .iadd, []), (1021, 1, .iaload, []), (1022, 3, .invokevirtual 217, [108, 7005]), (1025, 1, .pop, []), (1026, 3, .goto 539, []), (1029, 1, .aload_n 1, []), (1030, 1, .aload_n 0, []), (1031, 1, .iload_n 3, []), (1032, 1, .iconst 1, []), (1033, 1, .iadd, []), (1034, 1, .iaload, []), (1035, 3, .invokevirtual 135, [109, 4113]), (1038, 1, .pop, []), (1039, 1, .aload_n 2, []), (1040, 1, .aload_n 0, []), (1041, 1, .iload_n 3, []), (1042, 1, .iconst 1, []), (1043, 1, .iadd, []), (1044, 1, .iaload, []), (1045, 3, .invokevirtual 218, [112, 7009]), (1048, 1, .pop, []), (1049, 3, .goto 516, []), (1052, 1, .aload_n 1, []), (1053, 1, .aload_n 0, []), (1054, 1, .iload_n 3, []), (1055, 1, .iconst 1, []), (1056, 1, .iadd, []), (1057, 1, .iaload, []), (1058, 3, .invokevirtual 136, [113, 4123]), (1061, 1, .pop2, []), (1062, 1, .aload_n 2, []), (1063, 1, .aload_n 0, []), (1064, 1, .iload_n 3, []), (1065, 1, .iconst 1, []), (1066, 1, .iadd, []), (1067, 1, .iaload, []), (1068, 3, .invokevirtual 219, [117, 7016]), (1071, 1, .pop2, []), (1072, 3, .goto 493, []), (1075, 1, .aload_n 1, []), (1076, 3, .invokevirtual 137, [118, 4127]), (1079, 1, .pop, []), (1080, 1, .aload_n 2, []), (1081, 3, .invokevirtual 221, [121, 7020]), (1084, 1, .pop, []), (1085, 3, .goto 480, []), (1088, 1, .aload_n 1, []), (1089, 3, .invokevirtual 138, [122, 4135]), (1092, 1, .pop, []), (1093, 1, .aload_n 2, []), (1094, 3, .invokevirtual 229, [125, 7040]), (1097, 1, .pop, []), (1098, 3, .goto 467, []), (1101, 1, .aload_n 1, []), (1102, 3, .invokevirtual 139, [126, 4176]), (1105, 1, .pop, []), (1106, 1, .aload_n 2, []), (1107, 3, .invokevirtual 230, [129, 7053]), (1110, 1, .pop, []), (1111, 3, .goto 454, []), (1114, 1, .aload_n 1, []), (1115, 1, .aload_n 0, []), (1116, 1, .iload_n 3, []), (1117, 1, .iconst 1, []), (1118, 1, .iadd, []), (1119, 1, .iaload, []), (1120, 1, .i2l, []), (1121, 2, .bipush 32, []), (1123, 1, .lshl, []), (1124, 1, .aload_n 0, []), (1125, 1, .iload_n 3, []), (1126, 1, .iconst 2, []), (1127, 1, .iadd, []), (1128, 1, .iaload, []), (1129, 1, .i2l, []), (1130, 3, .ldc2_w 4294967295, [18, 7152]), (1133, 1, .land, []), (1134, 1, .lor, []), (1135, 3, .invokevirtual 140, [130, 4180]), (1138, 1, .pop, []), (1139, 1, .aload_n 2, []), (1140, 1, .aload_n 0, []), (1141, 1, .iload_n 3, []), (1142, 1, .iconst 1, []), (1143, 1, .iadd, []), (1144, 1, .iaload, []), (1145, 1, .i2l, []), (1146, 2, .bipush 32, []), (1148, 1, .lshl, []), (1149, 1, .aload_n 0, []), (1150, 1, .iload_n 3, []), (1151, 1, .iconst 2, []), (1152, 1, .iadd, []), (1153, 1, .iaload, []), (1154, 1, .i2l, []), (1155, 3, .ldc2_w 4294967295, [18, 7152]), (1158, 1, .land, []), (1159, 1, .lor, []), (1160, 3, .invokevirtual 225, [134, 7027]), (1163, 1, .pop, []), (1164, 3, .goto 401, []), (1167, 1, .aload_n 1, []), (1168, 1, .aload_n 0, []), (1169, 1, .iload_n 3, []), (1170, 1, .iconst 1, []), (1171, 1, .iadd, []), (1172, 1, .iaload, []), (1173, 3, .invokevirtual 141, [135, 4188]), (1176, 1, .pop, []), (1177, 1, .aload_n 2, []), (1178, 1, .aload_n 0, []), (1179, 1, .iload_n 3, []), (1180, 1, .iconst 1, []), (1181, 1, .iadd, []), (1182, 1, .iaload, []), (1183, 3, .invokevirtual 235, [138, 7057]), (1186, 1, .pop, []), (1187, 3, .goto 378, []), (1190, 1, .aload_n 1, []), (1191, 1, .aload_n 0, []), (1192, 1, .iload_n 3, []), (1193, 1, .iconst 1, []), (1194, 1, .iadd, []), (1195, 1, .iaload, []), (1196, 3, .invokevirtual 142, [139, 4232]), (1199, 1, .pop, []), (1200, 1, .aload_n 2, []), (1201, 1, .aload_n 0, []), (1202, 1, .iload_n 3, []), (1203, 1, .iconst 1, []), (1204, 1, .iadd, []), (1205, 1, .iaload, []), (1206, 3, .invokevirtual 236, [142, 7073]), (1209, 1, .pop, []), (1210, 3, .goto 355, []), (1213, 1, .aload_n 1, []), (1214, 1, .aload_n 0, []), (1215, 1, .iload_n 3, []), (1216, 1, .iconst 1, []), (1217, 1, .iadd, []), (1218, 1, .iaload, []), (1219, 1, .aload_n 0, []), (1220, 1, .iload_n 3, []), (1221, 1, .iconst 2, []), (1222, 1, .iadd, []), (1223, 1, .iaload, []), (1224, 1, .aload_n 0, []), (1225, 1, .iload_n 3, []), (1226, 1, .iconst 3, []), (1227, 1, .iadd, []), (1228, 1, .iaload, []), (1229, 3, .invokevirtual 143, [143, 5005]), (1232, 1, .pop, []), (1233, 1, .aload_n 2, []), (1234, 1, .aload_n 0, []), (1235, 1, .iload_n 3, []), (1236, 1, .iconst 1, []), (1237, 1, .iadd, []), (1238, 1, .iaload, []), (1239, 1, .aload_n 0, []), (1240, 1, .iload_n 3, []), (1241, 1, .iconst 2, []), (1242, 1, .iadd, []), (1243, 1, .iaload, []), (1244, 1, .aload_n 0, []), (1245, 1, .iload_n 3, []), (1246, 1, .iconst 3, []), (1247, 1, .iadd, []), (1248, 1, .iaload, []), (1249, 3, .invokevirtual 237, [146, 7077]), (1252, 1, .pop, []), (1253, 3, .goto 312, []), (1256, 1, .aload_n 1, []), (1257, 1, .aload_n 0, []), (1258, 1, .iload_n 3, []), (1259, 1, .iconst 1, []), (1260, 1, .iadd, []), (1261, 1, .iaload, []), (1262, 3, .invokevirtual 144, [147, 5018]), (1265, 1, .pop, []), (1266, 1, .aload_n 2, []), (1267, 1, .aload_n 0, []), (1268, 1, .iload_n 3, []), (1269, 1, .iconst 1, []), (1270, 1, .iadd, []), (1271, 1, .iaload, []), (1272, 3, .invokevirtual 238, [150, 7081]), (1275, 1, .pop, []), (1276, 3, .goto 289, []), (1279, 1, .aload_n 1, []), (1280, 1, .aload_n 0, []), (1281, 1, .iload_n 3, []), (1282, 1, .iconst 1, []), (1283, 1, .iadd, []), (1284, 1, .iaload, []), (1285, 3, .invokevirtual 145, [151, 5022]), (1288, 1, .pop, []), (1289, 1, .aload_n 2, []), (1290, 1, .aload_n 0, []), (1291, 1, .iload_n 3, []), (1292, 1, .iconst 1, []), (1293, 1, .iadd, []), (1294, 1, .iaload, []), (1295, 3, .invokevirtual 239, [154, 7085]), (1298, 1, .pop, []), (1299, 3, .goto 266, []), (1302, 1, .aload_n 1, []), (1303, 3, .invokevirtual 146, [155, 5029]), (1306, 1, .pop, []), (1307, 1, .aload_n 2, []), (1308, 3, .invokevirtual 241, [158, 7090]), (1311, 1, .pop, []), (1312, 3, .goto 253, []), (1315, 1, .aload_n 1, []), (1316, 1, .aload_n 0, []), (1317, 1, .iload_n 3, []), (1318, 1, .iconst 1, []), (1319, 1, .iadd, []), (1320, 1, .iaload, []), (1321, 3, .invokevirtual 147, [159, 5050]), (1324, 1, .pop, []), (1325, 1, .aload_n 2, []), (1326, 1, .aload_n 0, []), (1327, 1, .iload_n 3, []), (1328, 1, .iconst 1, []), (1329, 1, .iadd, []), (1330, 1, .iaload, []), (1331, 3, .invokevirtual 242, [162, 7097]), (1334, 1, .pop, []), (1335, 3, .goto 230, []), (1338, 1, .aload_n 1, []), (1339, 1, .aload_n 0, []), (1340, 1, .iload_n 3, []), (1341, 1, .iconst 1, []), (1342, 1, .iadd, []), (1343, 1, .iaload, []), (1344, 1, .aload_n 0, []), (1345, 1, .iload_n 3, []), (1346, 1, .iconst 2, []), (1347, 1, .iadd, []), (1348, 1, .iaload, []), (1349, 3, .invokevirtual 148, [163, 5054]), (1352, 1, .pop, []), (1353, 1, .aload_n 2, []), (1354, 1, .aload_n 0, []), (1355, 1, .iload_n 3, []), (1356, 1, .iconst 1, []), (1357, 1, .iadd, []), (1358, 1, .iaload, []), (1359, 1, .aload_n 0, []), (1360, 1, .iload_n 3, []), (1361, 1, .iconst 2, []), (1362, 1, .iadd, []), (1363, 1, .iaload, []), (1364, 3, .invokevirtual 244, [166, 7101]), (1367, 1, .pop, []), (1368, 3, .goto 197, []), (1371, 1, .aload_n 1, []), (1372, 1, .aload_n 0, []), (1373, 1, .iload_n 3, []), (1374, 1, .iconst 1, []), (1375, 1, .iadd, []), (1376, 1, .iaload, []), (1377, 3, .invokevirtual 149, [167, 5064]), (1380, 1, .pop, []), (1381, 1, .aload_n 2, []), (1382, 1, .aload_n 0, []), (1383, 1, .iload_n 3, []), (1384, 1, .iconst 1, []), (1385, 1, .iadd, []), (1386, 1, .iaload, []), (1387, 3, .invokevirtual 245, [170, 7108]), (1390, 1, .pop, []), (1391, 3, .goto 174, []), (1394, 1, .aload_n 1, []), (1395, 1, .aload_n 0, []), (1396, 1, .iload_n 3, []), (1397, 1, .iconst 1, []), (1398, 1, .iadd, []), (1399, 1, .iaload, []), (1400, 1, .aload_n 0, []), (1401, 1, .iload_n 3, []), (1402, 1, .iconst 2, []), (1403, 1, .iadd, []), (1404, 1, .iaload, []), (1405, 3, .invokevirtual 150, [171, 5073]), (1408, 1, .pop2, []), (1409, 1, .aload_n 2, []), (1410, 1, .aload_n 0, []), (1411, 1, .iload_n 3, []), (1412, 1, .iconst 1, []), (1413, 1, .iadd, []), (1414, 1, .iaload, []), (1415, 1, .aload_n 0, []), (1416, 1, .iload_n 3, []), (1417, 1, .iconst 2, []), (1418, 1, .iadd, []), (1419, 1, .iaload, []), (1420, 3, .invokevirtual 246, [174, 7112]), (1423, 1, .pop2, []), (1424, 3, .goto 141, []), (1427, 1, .aload_n 1, []), (1428, 1, .aload_n 0, []), (1429, 1, .iload_n 3, []), (1430, 1, .iconst 1, []), (1431, 1, .iadd, []), (1432, 1, .iaload, []), (1433, 3, .invokevirtual 151, [175, 5077]), (1436, 1, .pop, []), (1437, 1, .aload_n 2, []), (1438, 1, .aload_n 0, []), (1439, 1, .iload_n 3, []), (1440, 1, .iconst 1, []), (1441, 1, .iadd, []), (1442, 1, .iaload, []), (1443, 3, .invokevirtual 247, [178, 7116]), (1446, 1, .pop, []), (1447, 3, .goto 118, []), (1450, 1, .aload_n 1, []), (1451, 1, .aload_n 0, []), (1452, 1, .iload_n 3, []), (1453, 1, .iconst 1, []), (1454, 1, .iadd, []), (1455, 1, .iaload, []), (1456, 1, .aload_n 0, []), (1457, 1, .iload_n 3, []), (1458, 1, .iconst 2, []), (1459, 1, .iadd, []), (1460, 1, .iaload, []), (1461, 1, .aload_n 0, []), (1462, 1, .iload_n 3, []), (1463, 1, .iconst 3, []), (1464, 1, .iadd, []), (1465, 1, .iaload, []), (1466, 3, .invokevirtual 152, [179, 5081]), (1469, 1, .pop, []), (1470, 1, .aload_n 2, []), (1471, 1, .aload_n 0, []), (1472, 1, .iload_n 3, []), (1473, 1, .iconst 1, []), (1474, 1, .iadd, []), (1475, 1, .iaload, []), (1476, 1, .aload_n 0, []), (1477, 1, .iload_n 3, []), (1478, 1, .iconst 2, []), (1479, 1, .iadd, []), (1480, 1, .iaload, []), (1481, 1, .aload_n 0, []), (1482, 1, .iload_n 3, []), (1483, 1, .iconst 3, []), (1484, 1, .iadd, []), (1485, 1, .iaload, []), (1486, 3, .invokevirtual 252, [182, 7120]), (1489, 1, .pop, []), (1490, 3, .goto 75, []), (1493, 1, .aload_n 1, []), (1494, 1, .aload_n 0, []), (1495, 1, .iload_n 3, []), (1496, 1, .iconst 1, []), (1497, 1, .iadd, []), (1498, 1, .iaload, []), (1499, 3, .invokevirtual 153, [183, 5157]), (1502, 1, .pop, []), (1503, 1, .aload_n 2, []), (1504, 1, .aload_n 0, []), (1505, 1, .iload_n 3, []), (1506, 1, .iconst 1, []), (1507, 1, .iadd, []), (1508, 1, .iaload, []), (1509, 3, .invokevirtual 253, [186, 7136]), (1512, 1, .pop, []), (1513, 3, .goto 52, []), (1516, 1, .aload_n 1, []), (1517, 3, .invokevirtual 154, [187, 5161]), (1520, 1, .pop, []), (1521, 1, .aload_n 2, []), (1522, 3, .invokevirtual 254, [190, 7140]), (1525, 1, .pop, []), (1526, 3, .goto 39, []), (1529, 1, .aload_n 1, []), (1530, 3, .invokevirtual 155, [191, 5165]), (1533, 1, .pop, []), (1534, 1, .aload_n 2, []), (1535, 3, .invokevirtual 255, [194, 7144]), (1538, 1, .pop, []), (1539, 3, .goto 26, []), (1542, 1, .aload_n 1, []), (1543, 1, .aload_n 0, []), (1544, 1, .iload_n 3, []), (1545, 1, .iconst 1, []), (1546, 1, .iadd, []), (1547, 1, .iaload, []), (1548, 3, .invokevirtual 156, [195, 5169]), (1551, 1, .pop, []), (1552, 1, .aload_n 2, []), (1553, 1, .aload_n 0, []), (1554, 1, .iload_n 3, []), (1555, 1, .iconst 1, []), (1556, 1, .iadd, []), (1557, 1, .iaload, []), (1558, 3, .invokevirtual 256, [198, 7148]), (1561, 1, .pop, []), (1562, 3, .goto 3, []), (1565, 3, .iinc 3 6, []), (1568, 3, .goto (-1550), []), (1571, 1, .iconst 1, []), (1572, 1, .ireturn, [])]
abbrev sMt : Type := MethodName × ByteArray × Nat × Option FieldType × Nat × Nat × Nat × List Nat × List sEt
def sMs0 : List sMt := [(yX0_init, cX0_init, 4, none, 2, 0, 3, [2161, 2160, 1012], sT0), (yX0_isOf, cX0_isOf, 2, (some .boolean), 1, 0, 1, [2222, 2221, 1012, 9999], sT1), (yX0_firstIn, cX0_firstIn, 2, (some .long), 1, 0, 1, [3020, 3019, 1012, 9999], sT2), (yX0_weighsBody, cX0_weighsBody, 2, (some .int), 1, 0, 1, [5119, 5118, 1012, 9999], sT3), (yX0_partsBody, cX0_partsBody, 2, (some .int), 1, 0, 1, [5091, 5090, 1012, 9999], sT4), (yX1_init, cX1_init, 4, none, 2, 1, 3, [2135, 2134, 1010], sT5), (yX1_isOf, cX1_isOf, 2, (some .boolean), 1, 1, 1, [2229, 2228, 1010, 9999], sT6), (yX1_firstIn, cX1_firstIn, 2, (some .long), 1, 1, 1, [3027, 3026, 1010, 9999], sT7), (yX1_weighsBody, cX1_weighsBody, 2, (some .int), 1, 1, 1, [5124, 5123, 1010, 9999], sT8), (yX2_init, cX2_init, 4, none, 2, 2, 3, [2071, 2070, 1008], sT9), (yX2_isOf, cX2_isOf, 2, (some .boolean), 1, 2, 1, [3007, 2217, 1008, 2218], sT10), (yX2_firstIn, cX2_firstIn, 2, (some .long), 1, 2, 1, [3057, 3015, 1008, 3016], sT11), (yX2_laneIn, cX2_laneIn, 2, (some .long), 1, 2, 1, [3075, 3063, 1008, 3064], sT12), (yX2_partsBody, cX2_partsBody, 2, (some .int), 1, 2, 1, [5111, 5086, 1008, 5087], sT13), (yX2_weighsBody, cX2_weighsBody, 2, (some .int), 1, 2, 1, [5134, 5114, 1008, 5115], sT14), (yX2_hedgesBody, cX2_hedgesBody, 2, (some .int), 1, 2, 1, [5155, 5137, 1008, 5138], sT15), (yX3_init, cX3_init, 1, none, 2, 3, 0, [1055, 1054, 1003], sT16), (yX3_resize, cX3_resize, 4, none, 1, 3, 2, [1061, 1059, 1003, 1060], sT17), (yX3_become, cX3_become, 4, none, 1, 3, 1, [3094, 3092, 1003, 3093], sT18), (yX3_give, cX3_give, 5, none, 0, 3, 3, [3219, 3218, 1003], sT19), (yX3_empty, cX3_empty, 2, none, 0, 3, 1, [1068, 1067, 1003], sT20), (yX3_squares, cX3_squares, 1, (some .int), 1, 3, 0, [3210, 3208, 1003, 3209], sT21), (yX3_isSquare, cX3_isSquare, 2, (some .boolean), 1, 3, 1, [4031, 4029, 1003, 4030], sT22), (yX3_isHeir, cX3_isHeir, 2, (some .boolean), 1, 3, 1, [4013, 4011, 1003, 4012], sT23), (yX3_hasAll, cX3_hasAll, 3, (some .boolean), 1, 3, 1, [4080, 4078, 1003, 4079], sT24), (yX3_only, cX3_only, 2, (some .long), 1, 3, 1, [4039, 4037, 1003, 4038], sT25), (yX3_lowest, cX3_lowest, 1, (some .long), 0, 3, 1, [1064, 1063, 1003], sT26), (yX3_below, cX3_below, 2, (some .long), 1, 3, 1, [3061, 3059, 1003, 3060], sT27), (yX3_rowsBelow, cX3_rowsBelow, 2, (some .long), 1, 3, 1, [3024, 3022, 1003, 3023], sT28), (yX3_columns, cX3_columns, 5, (some .long), 1, 3, 1, [3036, 3034, 1003, 3035], sT29), (yX3_corner, cX3_corner, 3, (some .long), 1, 3, 2, [3043, 3041, 1003, 3042], sT30), (yX3_bent, cX3_bent, 6, (some .long), 1, 3, 3, [3031, 3029, 1003, 3030], sT31), (yX3_soilAt, cX3_soilAt, 3, (some .int), 1, 3, 1, [4035, 4033, 1003, 4034], sT32), (yX3_laySoil, cX3_laySoil, 4, none, 1, 3, 2, [3216, 3214, 1003, 3215], sT33), (yX3_placeOf, cX3_placeOf, 2, (some .int), 1, 3, 1, [4053, 4051, 1003, 4052], sT34), (yX3_setPlace, cX3_setPlace, 3, none, 1, 3, 2, [4001, 3225, 1003, 4000], sT35), (yX3_addHeir, cX3_addHeir, 3, (some .int), 1, 3, 1, [4009, 4007, 1003, 4008], sT36), (yX3_worthOf, cX3_worthOf, 6, (some .int), 1, 3, 2, [4084, 4082, 1003, 4083], sT37), (yX3_allShares, cX3_allShares, 3, (some .int), 1, 3, 0, [4175, 4173, 1003, 4174], sT38), (yX3_surplusOf, cX3_surplusOf, 4, (some .int), 1, 3, 2, [4170, 4168, 1003, 4169], sT39)]
def sMs1 : List sMt := [(yX3_slotOf, cX3_slotOf, 2, (some .int), 1, 3, 1, [4102, 4100, 1003, 4101], sT40), (yX3_ownerAt, cX3_ownerAt, 5, (some .int), 1, 3, 1, [4094, 4092, 1003, 4093], sT41), (yX3_ownedByHeirs, cX3_ownedByHeirs, 1, (some .int), 1, 3, 0, [4122, 4120, 1003, 4121], sT42), (yX3_takeOwners, cX3_takeOwners, 4, (some .int), 1, 3, 1, [4112, 4110, 1003, 4111], sT43), (yX3_withBeside, cX3_withBeside, 5, (some .long), 1, 3, 1, [4154, 4152, 1003, 4153], sT44), (yX3_grown, cX3_grown, 10, (some .long), 1, 3, 2, [4150, 4148, 1003, 4149], sT45), (yX3_piecesOf, cX3_piecesOf, 6, (some .int), 1, 3, 1, [4187, 4185, 1003, 4186], sT46), (yX3_hedgeOf, cX3_hedgeOf, 6, (some .int), 1, 3, 1, [4134, 4132, 1003, 4133], sT47), (yX3_verdictOn, cX3_verdictOn, 6, (some .int), 1, 3, 1, [4142, 4140, 1003, 4141], sT48), (yX3_hasFault, cX3_hasFault, 7, (some .boolean), 1, 3, 4, [4146, 4144, 1003, 4145], sT49), (yX3_isContent, cX3_isContent, 5, (some .boolean), 1, 3, 2, [5004, 5002, 1003, 5003], sT50), (yX3_reachOfRoad, cX3_reachOfRoad, 5, (some .long), 1, 3, 1, [4158, 4156, 1003, 4157], sT51), (yX3_roadSide, cX3_roadSide, 1, (some .long), 1, 3, 0, [4162, 4160, 1003, 4161], sT52), (yX3_wellMatters, cX3_wellMatters, 3, (some .boolean), 1, 3, 1, [4166, 4164, 1003, 4165], sT53), (yX3_toldBy, cX3_toldBy, 6, (some .long), 1, 3, 2, [5061, 5059, 1003, 5060], sT54), (yX4_init, cX4_init, 4, none, 2, 4, 3, [2174, 2173, 1013], sT55), (yX4_isOf, cX4_isOf, 2, (some .boolean), 1, 4, 1, [2233, 2232, 1013, 9999], sT56), (yX4_firstIn, cX4_firstIn, 2, (some .long), 1, 4, 1, [3039, 3038, 1013, 9999], sT57), (yX4_hedgesBody, cX4_hedgesBody, 2, (some .int), 1, 4, 1, [5144, 5143, 1013, 9999], sT58), (yX5_init, cX5_init, 4, none, 2, 5, 3, [2148, 2147, 1011], sT59), (yX5_isOf, cX5_isOf, 2, (some .boolean), 1, 5, 1, [3000, 2236, 1011, 9999], sT60), (yX5_firstIn, cX5_firstIn, 2, (some .long), 1, 5, 1, [3046, 3045, 1011, 9999], sT61), (yX5_laneIn, cX5_laneIn, 2, (some .long), 1, 5, 1, [3071, 3070, 1011, 9999], sT62), (yX5_hedgesBody, cX5_hedgesBody, 2, (some .int), 1, 5, 1, [5150, 5149, 1011, 9999], sT63), (yX6_init, cX6_init, 3, none, 2, 6, 2, [3099, 3098, 1016], sT64), (yX6_readItems, cX6_readItems, 2, (some .int), 1, 6, 0, [3118, 3116, 1016, 3117], sT65), (yX6_fails, cX6_fails, 2, (some .boolean), 1, 6, 1, [3185, 3183, 1016, 3184], sT66), (yX6_passes, cX6_passes, 2, (some .boolean), 1, 6, 1, [3197, 3195, 1016, 3196], sT67), (yX6_readItem, cX6_readItem, 1, (some .boolean), 1, 6, 0, [3122, 3120, 1016, 3121], sT68), (yX6_wordOf, cX6_wordOf, 1, (some (.object "java/lang/String")), 0, 6, 1, [3129, 3128, 1016], sT69), (yX6_readWord, cX6_readWord, 6, (some .int), 1, 6, 0, [3126, 3124, 1016, 3125], sT70), (yX6_lettersAlike, cX6_lettersAlike, 3, (some .int), 1, 6, 1, [3133, 3131, 1016, 3132], sT71), (yX6_readNumber, cX6_readNumber, 6, (some .int), 1, 6, 2, [3193, 3191, 1016, 3192], sT72), (yX6_digitAt, cX6_digitAt, 3, (some .int), 1, 6, 1, [3201, 3199, 1016, 3200], sT73), (yX6_readSize, cX6_readSize, 3, (some .boolean), 1, 6, 0, [3189, 3187, 1016, 3188], sT74), (yX6_readSoil, cX6_readSoil, 4, (some .boolean), 1, 6, 0, [3206, 3204, 1016, 3205], sT75), (yX6_readPlace, cX6_readPlace, 5, (some .boolean), 1, 6, 3, [3223, 3221, 1016, 3222], sT76), (yX6_readHeir, cX6_readHeir, 5, (some .boolean), 1, 6, 0, [4005, 4003, 1016, 4004], sT77), (yX7_init, cX7_init, 1, none, 2, 7, 0, [1033, 1032, 1002], sT78), (yX7_renew, cX7_renew, 4, none, 1, 7, 2, [1229, 1227, 1002, 1228], sT79)]
def sMs2 : List sMt := [(yX7_drop, cX7_drop, 1, none, 1, 7, 0, [2060, 2058, 1002, 2059], sT80), (yX7_isHeld, cX7_isHeld, 1, (some .boolean), 1, 7, 0, [2013, 2011, 1002, 2012], sT81), (yX7_has, cX7_has, 2, (some .boolean), 1, 7, 1, [2017, 2015, 1002, 2016], sT82), (yX7_hasRange, cX7_hasRange, 3, (some .boolean), 1, 7, 2, [2038, 2036, 1002, 2037], sT83), (yX7_at, cX7_at, 2, (some .long), 1, 7, 1, [2049, 2047, 1002, 2048], sT84), (yX7_intAt, cX7_intAt, 2, (some .int), 1, 7, 1, [3146, 3144, 1002, 3145], sT85), (yX7_put, cX7_put, 4, none, 1, 7, 2, [2021, 2019, 1002, 2020], sT86), (yX7_append, cX7_append, 2, none, 1, 7, 1, [5095, 5093, 1002, 5094], sT87), (yX7_narrowed, cX7_narrowed, 3, (some .long), 1, 7, 1, [2026, 2024, 1002, 2025], sT88), (yX8_init, cX8_init, 1, none, 2, 8, 0, [1142, 1141, 1004], sT89), (yX8_best, cX8_best, 2, (some .int), 1, 8, 1, [4231, 4229, 1004, 4230], sT90), (yX8_addCut, cX8_addCut, 4, none, 1, 8, 2, [4208, 4206, 1004, 4207], sT91), (yX8_listCuts, cX8_listCuts, 5, none, 1, 8, 3, [4203, 4201, 1004, 4202], sT92), (yX8_addBent, cX8_addBent, 5, none, 1, 8, 1, [4212, 4210, 1004, 4211], sT93), (yX8_addFrom, cX8_addFrom, 4, none, 1, 8, 1, [4218, 4216, 1004, 4217], sT94), (yX8_forget, cX8_forget, 2, none, 1, 8, 1, [4199, 4197, 1004, 4198], sT95), (yX8_tryTrial, cX8_tryTrial, 5, none, 1, 8, 3, [4225, 4223, 1004, 4224], sT96), (yX8_findTwo, cX8_findTwo, 4, (some .boolean), 1, 8, 1, [4195, 4193, 1004, 4194], sT97), (yX8_findThree, cX8_findThree, 4, (some .boolean), 1, 8, 1, [5000, 4237, 1004, 4238], sT98), (yX8_findFairest, cX8_findFairest, 10, (some .long), 1, 8, 2, [5012, 5010, 1004, 5011], sT99), (yX8_findChange, cX8_findChange, 4, (some .int), 1, 8, 1, [5036, 5034, 1004, 5035], sT100), (yX8_mayChange, cX8_mayChange, 6, (some .boolean), 0, 8, 3, [5040, 5039, 1004], sT101), (yX8_startFrom, cX8_startFrom, 3, none, 1, 8, 1, [5048, 5046, 1004, 5047], sT102), (yX8_findFitting, cX8_findFitting, 8, none, 1, 8, 2, [5071, 5069, 1004, 5070], sT103), (yX9_init, cX9_init, 4, none, 2, 9, 3, [2068, 2067, 1009], sT104), (yX9_isOf, cX9_isOf, 2, (some .boolean), 1, 9, 1, [2225, 2224, 1009, 9999], sT105), (yX9_firstIn, cX9_firstIn, 2, (some .long), 1, 9, 1, [3050, 3049, 1009, 9999], sT106), (yX9_partsBody, cX9_partsBody, 2, (some .int), 1, 9, 1, [5098, 5097, 1009, 9999], sT107), (yX10_init, cX10_init, 4, none, 2, 10, 3, [2187, 2186, 1014], sT108), (yX10_isOf, cX10_isOf, 2, (some .boolean), 1, 10, 1, [3005, 3004, 1014, 9999], sT109), (yX10_firstIn, cX10_firstIn, 2, (some .long), 1, 10, 1, [3054, 3053, 1014, 9999], sT110), (yX10_partsBody, cX10_partsBody, 2, (some .int), 1, 10, 1, [5107, 5106, 1014, 9999], sT111), (yX10_weighsBody, cX10_weighsBody, 2, (some .int), 1, 10, 1, [5132, 5131, 1014, 9999], sT112), (yX11_init, cX11_init, 2, none, 2, 11, 0, [1025, 1024, 1001], sT113), (yX11_row, cX11_row, 4, (some .int), 1, 11, 3, [1216, 1214, 1001, 1215], sT114), (yX11_set, cX11_set, 6, (some .int), 1, 11, 3, [2006, 2004, 1001, 2005], sT115), (yX11_copy, cX11_copy, 7, (some .int), 1, 11, 5, [2030, 2028, 1001, 2029], sT116), (yX11_element, cX11_element, 3, (some .long), 1, 11, 2, [2045, 2043, 1001, 2044], sT117), (yX11_cut, cX11_cut, 3, (some .int), 1, 11, 2, [2053, 2051, 1001, 2052], sT118), (yX11_holds, cX11_holds, 2, (some .int), 1, 11, 1, [2208, 2206, 1001, 2207], sT119)]
def sMs3 : List sMt := [(yX11_says, cX11_says, 4, (some .int), 1, 11, 2, [2212, 2210, 1001, 2211], sT120), (yX11_side, cX11_side, 3, (some .long), 1, 11, 2, [3086, 3084, 1001, 3085], sT121), (yX11_field, cX11_field, 5, (some .int), 1, 11, 1, [3090, 3088, 1001, 3089], sT122), (yX11_fault, cX11_fault, 1, (some .int), 1, 11, 0, [4018, 4016, 1001, 4017], sT123), (yX11_size, cX11_size, 3, (some .int), 1, 11, 2, [4022, 4020, 1001, 4021], sT124), (yX11_soil, cX11_soil, 4, (some .int), 1, 11, 2, [4027, 4025, 1001, 4026], sT125), (yX11_place, cX11_place, 4, (some .int), 1, 11, 2, [4046, 4044, 1001, 4045], sT126), (yX11_heir, cX11_heir, 2, (some .int), 1, 11, 1, [4058, 4056, 1001, 4057], sT127), (yX11_worths, cX11_worths, 5, (some .int), 1, 11, 3, [4063, 4061, 1001, 4062], sT128), (yX11_fond, cX11_fond, 4, (some .int), 1, 11, 2, [4068, 4066, 1001, 4067], sT129), (yX11_heirOf, cX11_heirOf, 3, (some .int), 1, 11, 2, [4072, 4070, 1001, 4071], sT130), (yX11_worth, cX11_worth, 4, (some .int), 1, 11, 2, [4076, 4074, 1001, 4075], sT131), (yX11_owner, cX11_owner, 2, (some .int), 1, 11, 1, [4090, 4088, 1001, 4089], sT132), (yX11_own, cX11_own, 5, (some .int), 1, 11, 2, [4098, 4096, 1001, 4097], sT133), (yX11_lay, cX11_lay, 7, (some .int), 1, 11, 3, [4107, 4105, 1001, 4106], sT134), (yX11_owners, cX11_owners, 5, (some .int), 1, 11, 1, [4116, 4114, 1001, 4115], sT135), (yX11_piece, cX11_piece, 3, (some .long), 1, 11, 1, [4126, 4124, 1001, 4125], sT136), (yX11_hedge, cX11_hedge, 1, (some .int), 1, 11, 0, [4130, 4128, 1001, 4129], sT137), (yX11_faulty, cX11_faulty, 1, (some .int), 1, 11, 0, [4138, 4136, 1001, 4137], sT138), (yX11_whose, cX11_whose, 2, (some .int), 1, 11, 0, [4179, 4177, 1001, 4178], sT139), (yX11_parts, cX11_parts, 3, (some .int), 1, 11, 1, [4183, 4181, 1001, 4182], sT140), (yX11_two, cX11_two, 2, (some .int), 1, 11, 1, [4191, 4189, 1001, 4190], sT141), (yX11_three, cX11_three, 2, (some .int), 1, 11, 1, [4235, 4233, 1001, 4234], sT142), (yX11_choose, cX11_choose, 9, (some .int), 1, 11, 3, [5008, 5006, 1001, 5007], sT143), (yX11_envies, cX11_envies, 5, (some .int), 1, 11, 1, [5021, 5019, 1001, 5020], sT144), (yX11_evens, cX11_evens, 3, (some .int), 1, 11, 1, [5025, 5023, 1001, 5024], sT145), (yX11_better, cX11_better, 2, (some .int), 1, 11, 0, [5032, 5030, 1001, 5031], sT146), (yX11_mend, cX11_mend, 4, (some .int), 1, 11, 1, [5053, 5051, 1001, 5052], sT147), (yX11_fits, cX11_fits, 8, (some .int), 1, 11, 2, [5057, 5055, 1001, 5056], sT148), (yX11_old, cX11_old, 3, (some .int), 1, 11, 1, [5067, 5065, 1001, 5066], sT149), (yX11_sure, cX11_sure, 4, (some .long), 1, 11, 2, [5076, 5074, 1001, 5075], sT150), (yX11_judge, cX11_judge, 4, (some .int), 1, 11, 1, [5080, 5078, 1001, 5079], sT151), (yX11_act, cX11_act, 4, (some .int), 1, 11, 3, [5084, 5082, 1001, 5083], sT152), (yX11_trace, cX11_trace, 2, (some .int), 1, 11, 1, [5160, 5158, 1001, 5159], sT153), (yX11_image, cX11_image, 1, (some .int), 1, 11, 0, [5164, 5162, 1001, 5163], sT154), (yX11_restore, cX11_restore, 1, (some .int), 1, 11, 0, [5168, 5166, 1001, 5167], sT155), (yX11_status, cX11_status, 2, (some .int), 1, 11, 1, [5172, 5170, 1001, 5171], sT156), (yX11_refuse, cX11_refuse, 2, (some .int), 1, 11, 1, [1222, 1221, 1001, 0], sT157), (yX11_refuseAs, cX11_refuseAs, 3, (some .int), 1, 11, 2, [1225, 1224, 1001, 1], sT158), (yX11_earlier, cX11_earlier, 2, (some .int), 0, 11, 2, [2033, 2032, 1001], sT159)]
def sMs4 : List sMt := [(yX11_isShelf, cX11_isShelf, 1, (some .boolean), 0, 11, 1, [1219, 1218, 1001], sT160), (yX11_noRow, cX11_noRow, 2, (some .int), 1, 11, 1, [2009, 2008, 1001, 2], sT161), (yX11_noCut, cX11_noCut, 2, (some .int), 1, 11, 1, [2215, 2214, 1001, 4], sT162), (yX11_hasCutNumbers, cX11_hasCutNumbers, 1, (some .boolean), 0, 11, 1, [2056, 2055, 1001], sT163), (yX11_newCut, cX11_newCut, 3, (some (.object "BrothersField$Cut")), 1, 11, 2, [2063, 2062, 1001, 3], sT164), (yX11_sideOf, cX11_sideOf, 7, (some .long), 1, 11, 2, [3013, 3012, 1001, 6], sT165), (yX11_toldAs, cX11_toldAs, 3, (some .int), 1, 11, 2, [3010, 3009, 1001, 5], sT166), (yX11_mayStand, cX11_mayStand, 3, (some .boolean), 1, 11, 2, [4049, 4048, 1001, 7], sT167), (yX12_init, cX12_init, 2, none, 2, 12, 0, [5177, 5176, 1005], sT168), (yX12_no, cX12_no, 2, (some .int), 1, 12, 1, [6066, 6065, 1005, 9], sT169), (yX12_noTen, cX12_noTen, 2, (some .int), 1, 12, 1, [6168, 6167, 1005, 27], sT170), (yX12_isShelf, cX12_isShelf, 2, (some .boolean), 1, 12, 1, [6063, 6062, 1005, 8], sT171), (yX12_isSquare, cX12_isSquare, 2, (some .boolean), 1, 12, 1, [6161, 6160, 1005, 26], sT172), (yX12_isHeir, cX12_isHeir, 2, (some .boolean), 1, 12, 1, [6179, 6178, 1005, 28], sT173), (yX12_all, cX12_all, 1, (some .long), 1, 12, 0, [6200, 6199, 1005, 31], sT174), (yX12_isSet, cX12_isSet, 3, (some .boolean), 1, 12, 1, [6197, 6196, 1005, 30], sT175), (yX12_many, cX12_many, 6, (some .int), 1, 12, 1, [6103, 6102, 1005, 12], sT176), (yX12_has, cX12_has, 4, (some .boolean), 1, 12, 2, [6207, 6206, 1005, 33], sT177), (yX12_row, cX12_row, 5, (some .int), 1, 12, 3, [6060, 6058, 1005, 6059], sT178), (yX12_set, cX12_set, 5, (some .int), 1, 12, 3, [6070, 6068, 1005, 6069], sT179), (yX12_copy, cX12_copy, 7, (some .int), 1, 12, 5, [6074, 6072, 1005, 6073], sT180), (yX12_element, cX12_element, 3, (some .long), 1, 12, 2, [6078, 6076, 1005, 6077], sT181), (yX12_cut, cX12_cut, 3, (some .int), 1, 12, 2, [6082, 6080, 1005, 6081], sT182), (yX12_holds, cX12_holds, 2, (some .int), 1, 12, 1, [6086, 6084, 1005, 6085], sT183), (yX12_wants, cX12_wants, 3, (some .int), 1, 12, 2, [6110, 6109, 1005, 13], sT184), (yX12_intAt, cX12_intAt, 3, (some .int), 1, 12, 2, [7015, 7014, 1005, 35], sT185), (yX12_isFirst, cX12_isFirst, 9, (some .boolean), 1, 12, 2, [6096, 6095, 1005, 11], sT186), (yX12_sideOf, cX12_sideOf, 7, (some .long), 1, 12, 2, [6093, 6092, 1005, 10], sT187), (yX12_side, cX12_side, 3, (some .long), 1, 12, 2, [6090, 6088, 1005, 6089], sT188), (yX12_says, cX12_says, 5, (some .int), 1, 12, 2, [6100, 6098, 1005, 6099], sT189), (yX12_sizes, cX12_sizes, 4, none, 1, 12, 2, [6143, 6142, 1005, 24], sT190), (yX12_comes, cX12_comes, 3, (some .int), 1, 12, 1, [6146, 6145, 1005, 25], sT191), (yX12_wrong, cX12_wrong, 2, (some .boolean), 1, 12, 1, [6128, 6127, 1005, 19], sT192), (yX12_word, cX12_word, 6, (some .int), 1, 12, 0, [6131, 6130, 1005, 20], sT193), (yX12_isDigit, cX12_isDigit, 1, (some .boolean), 1, 12, 0, [6137, 6136, 1005, 22], sT194), (yX12_number, cX12_number, 4, (some .boolean), 1, 12, 2, [6134, 6133, 1005, 21], sT195), (yX12_next, cX12_next, 3, (some .boolean), 1, 12, 2, [6140, 6139, 1005, 23], sT196), (yX12_isWordFull, cX12_isWordFull, 2, (some .boolean), 1, 12, 1, [6125, 6124, 1005, 18], sT197), (yX12_isWordAt, cX12_isWordAt, 4, (some .boolean), 1, 12, 1, [6122, 6121, 1005, 17], sT198), (yX12_item, cX12_item, 7, (some .boolean), 1, 12, 0, [6119, 6118, 1005, 16], sT199)]
def sMs5 : List sMt := [(yX12_keeps, cX12_keeps, 7, (some .int), 1, 12, 5, [6116, 6115, 1005, 15], sT200), (yX12_all_, cX12_all_, 4, none, 1, 12, 2, [6113, 6112, 1005, 14], sT201), (yX12_field, cX12_field, 5, (some .int), 1, 12, 1, [6107, 6105, 1005, 6106], sT202), (yX12_fault, cX12_fault, 1, (some .int), 1, 12, 0, [6150, 6148, 1005, 6149], sT203), (yX12_size, cX12_size, 3, (some .int), 1, 12, 2, [6154, 6152, 1005, 6153], sT204), (yX12_soil, cX12_soil, 4, (some .int), 1, 12, 2, [6158, 6156, 1005, 6157], sT205), (yX12_place, cX12_place, 4, (some .int), 1, 12, 2, [6165, 6163, 1005, 6164], sT206), (yX12_heir, cX12_heir, 2, (some .int), 1, 12, 1, [6172, 6170, 1005, 6171], sT207), (yX12_worths, cX12_worths, 5, (some .int), 1, 12, 3, [6176, 6174, 1005, 6175], sT208), (yX12_fond, cX12_fond, 4, (some .int), 1, 12, 2, [6183, 6181, 1005, 6182], sT209), (yX12_heirOf, cX12_heirOf, 3, (some .int), 1, 12, 2, [6187, 6185, 1005, 6186], sT210), (yX12_worthOf, cX12_worthOf, 6, (some .int), 1, 12, 2, [6204, 6203, 1005, 32], sT211), (yX12_worth, cX12_worth, 4, (some .int), 1, 12, 2, [6194, 6192, 1005, 6193], sT212), (yX12_pieceOf, cX12_pieceOf, 5, (some .long), 1, 12, 1, [6190, 6189, 1005, 29], sT213), (yX12_isOwner, cX12_isOwner, 2, (some .boolean), 1, 12, 1, [7004, 7003, 1005, 34], sT214), (yX12_owner, cX12_owner, 2, (some .int), 1, 12, 1, [6211, 6209, 1005, 6210], sT215), (yX12_own, cX12_own, 5, (some .int), 1, 12, 2, [7001, 6213, 1005, 7000], sT216), (yX12_lay, cX12_lay, 12, (some .int), 1, 12, 3, [7008, 7006, 1005, 7007], sT217), (yX12_owners, cX12_owners, 6, (some .int), 1, 12, 1, [7012, 7010, 1005, 7011], sT218), (yX12_piece, cX12_piece, 2, (some .long), 1, 12, 1, [7019, 7017, 1005, 7018], sT219), (yX12_hedgeOf, cX12_hedgeOf, 3, (some .int), 1, 12, 0, [7026, 7025, 1005, 36], sT220), (yX12_hedge, cX12_hedge, 1, (some .int), 1, 12, 0, [7023, 7021, 1005, 7022], sT221), (yX12_beside, cX12_beside, 6, (some .long), 1, 12, 1, [7039, 7038, 1005, 39], sT222), (yX12_grown, cX12_grown, 9, (some .long), 1, 12, 2, [7036, 7035, 1005, 38], sT223), (yX12_partsOf, cX12_partsOf, 6, (some .int), 1, 12, 1, [7033, 7032, 1005, 37], sT224), (yX12_parts, cX12_parts, 3, (some .int), 1, 12, 1, [7030, 7028, 1005, 7029], sT225), (yX12_atRoad, cX12_atRoad, 5, (some .long), 1, 12, 0, [7049, 7048, 1005, 41], sT226), (yX12_faultyNow, cX12_faultyNow, 10, (some .int), 1, 12, 0, [7046, 7045, 1005, 40], sT227), (yX12_shares, cX12_shares, 3, (some .int), 1, 12, 0, [7052, 7051, 1005, 42], sT228), (yX12_faulty, cX12_faulty, 1, (some .int), 1, 12, 0, [7043, 7041, 1005, 7042], sT229), (yX12_whose, cX12_whose, 1, (some .int), 1, 12, 0, [7056, 7054, 1005, 7055], sT230), (yX12_lists, cX12_lists, 3, none, 1, 12, 2, [7069, 7068, 1005, 45], sT231), (yX12_lists_, cX12_lists_, 5, none, 1, 12, 1, [7066, 7065, 1005, 44], sT232), (yX12_spares, cX12_spares, 3, none, 1, 12, 1, [7063, 7062, 1005, 43], sT233), (yX12_tries, cX12_tries, 4, none, 1, 12, 2, [7072, 7071, 1005, 46], sT234), (yX12_two, cX12_two, 5, (some .int), 1, 12, 1, [7060, 7058, 1005, 7059], sT235), (yX12_three, cX12_three, 5, (some .int), 1, 12, 1, [7076, 7074, 1005, 7075], sT236), (yX12_choose, cX12_choose, 8, (some .int), 1, 12, 3, [7080, 7078, 1005, 7079], sT237), (yX12_envies, cX12_envies, 5, (some .int), 1, 12, 1, [7084, 7082, 1005, 7083], sT238), (yX12_evens, cX12_evens, 2, (some .int), 1, 12, 1, [7088, 7086, 1005, 7087], sT239)]
def sMs6 : List sMt := [(yX12_bettered, cX12_bettered, 10, (some .int), 1, 12, 0, [7096, 7095, 1005, 47], sT240), (yX12_better, cX12_better, 2, (some .int), 1, 12, 0, [7093, 7091, 1005, 7092], sT241), (yX12_mend, cX12_mend, 4, (some .int), 1, 12, 1, [7100, 7098, 1005, 7099], sT242), (yX12_isFit, cX12_isFit, 5, (some .boolean), 1, 12, 2, [7107, 7106, 1005, 48], sT243), (yX12_fits, cX12_fits, 3, (some .int), 1, 12, 2, [7104, 7102, 1005, 7103], sT244), (yX12_old, cX12_old, 5, (some .int), 1, 12, 1, [7111, 7109, 1005, 7110], sT245), (yX12_sure, cX12_sure, 8, (some .long), 1, 12, 2, [7115, 7113, 1005, 7114], sT246), (yX12_judge, cX12_judge, 5, (some .int), 1, 12, 1, [7119, 7117, 1005, 7118], sT247), (yX12_body, cX12_body, 2, none, 1, 12, 1, [7129, 7128, 1005, 50], sT248), (yX12_parting, cX12_parting, 6, (some .int), 1, 12, 2, [7126, 7125, 1005, 49], sT249), (yX12_weighing, cX12_weighing, 6, (some .int), 1, 12, 2, [7132, 7131, 1005, 51], sT250), (yX12_hedging, cX12_hedging, 5, (some .int), 1, 12, 2, [7135, 7134, 1005, 52], sT251), (yX12_act, cX12_act, 4, (some .int), 1, 12, 3, [7123, 7121, 1005, 7122], sT252), (yX12_trace, cX12_trace, 2, (some .int), 1, 12, 1, [7139, 7137, 1005, 7138], sT253), (yX12_image, cX12_image, 1, (some .int), 1, 12, 0, [7143, 7141, 1005, 7142], sT254), (yX12_restore, cX12_restore, 1, (some .int), 1, 12, 0, [7147, 7145, 1005, 7146], sT255), (yX12_status, cX12_status, 4, (some .int), 1, 12, 1, [7151, 7149, 1005, 7150], sT256), (yJ13_bitCount_95d88, cJ13_bitCount_95d88, 2, (some .int), 0, 99, 1, [3079, 3078, 1015], sT257), (yL_law, cL_law, 4, (some .boolean), 0, 99, 1, [], sT258)]
def sMs : List sMt := sMs0 ++ (sMs1 ++ (sMs2 ++ (sMs3 ++ (sMs4 ++ (sMs5 ++ (sMs6))))))
def sVtL : List (List Nat) := [[1, 6, 10, 0, 56, 60, 0, 0, 0, 105, 109], [2, 7, 11, 0, 57, 61, 0, 0, 0, 106, 110], [12, 12, 12, 0, 12, 62, 0, 0, 0, 12, 12], [4, 13, 13, 0, 107, 13, 0, 0, 0, 107, 111], [3, 8, 14, 0, 14, 14, 0, 0, 0, 14, 112], [15, 15, 15, 0, 58, 63, 0, 0, 0, 15, 15]]
def sVt (k ci : Nat) : Nat := if ci = 100 then 1 else ((sVtL[k - 1000]?).bind (fun r => r[ci]?)).getD 0
end
section
/-! ===== THE SIMPLE MACHINE: a run of the bytecode over cells that are known by their places ===== -/
abbrev sHp : Type := List va_E
abbrev sLo : Type := List (Option Value)
def sLen : Instr → Nat
  | .aload _ => 2
  | .iload _ => 2
  | .lload _ => 2
  | .istore _ => 2
  | .lstore _ => 2
  | .astore _ => 2
  | .bipush _ => 2
  | .ldc _ => 2
  | .newarray _ => 2
  | .sipush _ => 3
  | .getfield _ => 3
  | .putfield _ => 3
  | .goto _ => 3
  | .if_icmp _ _ => 3
  | .ifCond _ _ => 3
  | .iinc _ _ => 3
  | .invokevirtual _ => 3
  | .invokestatic _ => 3
  | .invokespecial _ => 3
  | .ldc2_w _ => 3
  | .ldc_w _ => 3
  | .new _ => 3
  | .anewarray _ => 3
  | .ifnull _ => 3
  | .ifnonnull _ => 3
  | .getstatic _ => 3
  | .invokeinterface _ _ => 3
  | .multianewarray _ _ => 4
  | _ => 1
/-- stack shapes -/
def s2i (f : Int32 → Int32 → Option Value) (st : List Value) : Option (List Value) := match st with
  | .int y :: .int x :: r => (f x y).map (fun v => v :: r)
  | _ => none
def s2l (f : Int64 → Int64 → Option Value) (st : List Value) : Option (List Value) := match st with
  | .long y :: .long x :: r => (f x y).map (fun v => v :: r)
  | _ => none
def sil (f : Int64 → Int32 → Option Value) (st : List Value) : Option (List Value) := match st with
  | .int y :: .long x :: r => (f x y).map (fun v => v :: r)
  | _ => none
def s1i (f : Int32 → Value) (st : List Value) : Option (List Value) := match st with
  | .int x :: r => some (f x :: r)
  | _ => none
def s1l (f : Int64 → Value) (st : List Value) : Option (List Value) := match st with
  | .long x :: r => some (f x :: r)
  | _ => none
def sPure (ins : Instr) (st : List Value) : Option (List Value) := match ins with
  | .iconst n => some (.int (Int32.ofInt n) :: st)
  | .bipush n => some (.int (Int8.ofInt n).toInt32 :: st)
  | .sipush n => some (.int (Int16.ofInt n).toInt32 :: st)
  | .lconst n => some (.long (Int64.ofNat (n : Nat)) :: st)
  | .aconst_null => some (.null :: st)
  | .iadd => s2i (fun x y => some (.int (x + y))) st
  | .isub => s2i (fun x y => some (.int (x - y))) st
  | .imul => s2i (fun x y => some (.int (x * y))) st
  | .iand => s2i (fun x y => some (.int (x &&& y))) st
  | .ior => s2i (fun x y => some (.int (x ||| y))) st
  | .ixor => s2i (fun x y => some (.int (x ^^^ y))) st
  | .idiv => s2i (fun x y => if y = 0 then none else some (.int (x / y))) st
  | .irem => s2i (fun x y => if y = 0 then none else some (.int (x - x / y * y))) st
  | .ineg => s1i (fun x => .int (-x)) st
  | .ishl => s2i (fun x y => some (.int (x <<< (y &&& 31)))) st
  | .ishr => s2i (fun x y => some (.int (x >>> (y &&& 31)))) st
  | .ladd => s2l (fun x y => some (.long (x + y))) st
  | .lsub => s2l (fun x y => some (.long (x - y))) st
  | .land => s2l (fun x y => some (.long (x &&& y))) st
  | .lor => s2l (fun x y => some (.long (x ||| y))) st
  | .lxor => s2l (fun x y => some (.long (x ^^^ y))) st
  | .lneg => s1l (fun x => .long (-x)) st
  | .lshl => sil (fun x y => some (.long (x <<< (y.toInt64 &&& 63)))) st
  | .lshr => sil (fun x y => some (.long (x >>> (y.toInt64 &&& 63)))) st
  | .lushr => sil (fun x y => some (.long (x.toUInt64 >>> (y.toInt64.toUInt64 &&& Int64.toUInt64 63)).toInt64)) st
  | .lcmp => s2l (fun x y => some (.int (lg_cmp x y))) st
  | .i2l => s1i (fun x => .long x.toInt64) st
  | .l2i => s1l (fun x => .int x.toInt32) st
  | .i2b => s1i (fun x => .int x.toInt8.toInt32) st
  | .i2s => s1i (fun x => .int x.toInt16.toInt32) st
  | .i2c => s1i (fun x => .int (x.toUInt32 % 65536).toInt32) st
  | .dup => (match st with
    | a :: r => if a.category = 1 then some (a :: a :: r) else none
    | _ => none)
  | .dup_x1 => (match st with
    | a :: b :: r => if a.category = 1 ∧ b.category = 1 then some (a :: b :: a :: r) else none
    | _ => none)
  | .dup2 => (match st with
    | a :: b :: r => if a.category = 1 ∧ b.category = 1 then some (a :: b :: a :: b :: r) else none
    | _ => none)
  | .pop => (match st with
    | a :: r => if a.category = 1 then some r else none
    | _ => none)
  | _ => none
/-- locals -/
def sLdI (L : sLo) (i : Nat) (st : List Value) : Option (sLo × List Value) := match L[i]? with
  | some (some (.int x)) => some (L, .int x :: st)
  | _ => none
def sLdL (L : sLo) (i : Nat) (st : List Value) : Option (sLo × List Value) := match L[i]? with
  | some (some (.long x)) => some (L, .long x :: st)
  | _ => none
def sLdA (L : sLo) (i : Nat) (st : List Value) : Option (sLo × List Value) := match L[i]? with
  | some (some (.ref x)) => some (L, .ref x :: st)
  | some (some .null) => some (L, .null :: st)
  | _ => none
def sIsL : Option (Option Value) → Bool
  | some (some (.long _)) => true
  | _ => false
/-- the slot i takes a value; a long whose second half it was is gone -/
def sKill (L : sLo) (i : Nat) : sLo := match i with
  | 0 => L
  | j + 1 => if sIsL L[j]? then L.set j none else L
def sPut (L : sLo) (i : Nat) (v : Value) : sLo := (sKill L i).set i (some v)
def sPutL (L : sLo) (i : Nat) (v : Value) : sLo := (sPut L i v).set (i + 1) none
def sStI (L : sLo) (i : Nat) (st : List Value) : Option (sLo × List Value) := match st with
  | .int x :: r => if i < L.length then some (sPut L i (.int x), r) else none
  | _ => none
def sStL (L : sLo) (i : Nat) (st : List Value) : Option (sLo × List Value) := match st with
  | .long x :: r => if i + 1 < L.length then some (sPutL L i (.long x), r) else none
  | _ => none
def sStA (L : sLo) (i : Nat) (st : List Value) : Option (sLo × List Value) := match st with
  | .ref x :: r => if i < L.length then some (sPut L i (.ref x), r) else none
  | .null :: r => if i < L.length then some (sPut L i .null, r) else none
  | _ => none
def sInc (L : sLo) (i : Nat) (n : Int) (st : List Value) : Option (sLo × List Value) := match L[i]? with
  | some (some (.int x)) => some (sPut L i (.int (x + Int32.ofInt n)), st)
  | _ => none
def sLoc (ins : Instr) (L : sLo) (st : List Value) : Option (sLo × List Value) := match ins with
  | .iload i => sLdI L i st
  | .iload_n i => sLdI L i st
  | .lload i => sLdL L i st
  | .lload_n i => sLdL L i st
  | .aload i => sLdA L i st
  | .aload_n i => sLdA L i st
  | .istore i => sStI L i st
  | .istore_n i => sStI L i st
  | .lstore i => sStL L i st
  | .lstore_n i => sStL L i st
  | .astore i => sStA L i st
  | .astore_n i => sStA L i st
  | .iinc i n => sInc L i n st
  | _ => none
/-- cells: which group a class is of (its fields' places); an object's first fields; a field's type -/
def sGrp (ci : Nat) : Nat := if ci = 3 ∨ ci = 6 ∨ ci = 7 ∨ ci = 8 ∨ ci = 11 ∨ ci = 12 then ci else 2
def sTy (ci : Nat) : Nat → FieldType := match ci with
  | 0 => tyX0
  | 1 => tyX1
  | 2 => tyX2
  | 3 => tyX3
  | 4 => tyX4
  | 5 => tyX5
  | 6 => tyX6
  | 7 => tyX7
  | 8 => tyX8
  | 9 => tyX9
  | 10 => tyX10
  | 11 => tyX11
  | _ => tyX12
def sNF (ci : Nat) : Nat := match vwCl[ci]? with
  | some q => q.2.2
  | none => 0
def sDef (ci : Nat) : List Value := (List.range (sNF ci)).map (fun k => defaultValue (sTy ci k))
/-- the array types by their tags -/
def sAT : List FieldType := [.int, .long, .boolean, .object RX7, .object RX2, .array .int]
def sFit (ty : FieldType) (v : Value) : Bool := match ty, v with
  | .int, .int _ => true
  | .long, .long _ => true
  | .boolean, .int x => decide (x = 0 ∨ x = 1)
  | .object _, .ref _ => true
  | .object _, .null => true
  | .array _, .ref _ => true
  | .array _, .null => true
  | _, _ => false
def sGetF (k : Nat) (st : List Value) (h : sHp) : Option (List Value × sHp) := match st with
  | .ref a :: r => (match h[a]? with
    | some (.inr (ci, fs)) => if sGrp ci = k / 64 then (match fs[k % 64]? with
      | some v => some (v :: r, h)
      | none => none) else none
    | _ => none)
  | _ => none
def sPutF (k : Nat) (st : List Value) (h : sHp) : Option (List Value × sHp) := match st with
  | v :: .ref a :: r => (match h[a]? with
    | some (.inr (ci, fs)) => if sGrp ci = k / 64 ∧ k % 64 < fs.length ∧ sFit (sTy ci (k % 64)) v = true then some (r, h.set a (.inr (ci, fs.set (k % 64) v))) else none
    | _ => none)
  | _ => none
def sIn (i : Int32) (n : Nat) : Prop := ¬ (i < 0 ∨ n ≤ i.toNatClampNeg)
def sLdAI (tag : Nat) (st : List Value) (h : sHp) : Option (List Value × sHp) := match st with
  | .int i :: .ref a :: r => (match h[a]? with
    | some (.inl (t, n, .inl f)) => if t = tag ∧ ¬ (i < 0 ∨ n ≤ i.toNatClampNeg) then some (.int (f i.toNatClampNeg) :: r, h) else none
    | _ => none)
  | _ => none
def sLdAL (st : List Value) (h : sHp) : Option (List Value × sHp) := match st with
  | .int i :: .ref a :: r => (match h[a]? with
    | some (.inl (t, n, .inr (.inl f))) => if t = 1 ∧ ¬ (i < 0 ∨ n ≤ i.toNatClampNeg) then some (.long (f i.toNatClampNeg) :: r, h) else none
    | _ => none)
  | _ => none
def sLdAA (st : List Value) (h : sHp) : Option (List Value × sHp) := match st with
  | .int i :: .ref a :: r => (match h[a]? with
    | some (.inl (t, n, .inr (.inr (.inr (.inr f))))) => if (t = 3 ∨ t = 4 ∨ t = 5) ∧ ¬ (i < 0 ∨ n ≤ i.toNatClampNeg) then some (va_rf (f i.toNatClampNeg) :: r, h) else none
    | _ => none)
  | _ => none
def sStAI (st : List Value) (h : sHp) : Option (List Value × sHp) := match st with
  | .int x :: .int i :: .ref a :: r => (match h[a]? with
    | some (.inl (t, n, .inl f)) => if t = 0 ∧ ¬ (i < 0 ∨ n ≤ i.toNatClampNeg) then some (r, h.set a (.inl (t, n, .inl (upd f i.toNatClampNeg x)))) else none
    | _ => none)
  | _ => none
def sStAZ (st : List Value) (h : sHp) : Option (List Value × sHp) := match st with
  | .int x :: .int i :: .ref a :: r => (match h[a]? with
    | some (.inl (t, n, .inl f)) => if t = 2 ∧ (x = 0 ∨ x = 1) ∧ ¬ (i < 0 ∨ n ≤ i.toNatClampNeg) then some (r, h.set a (.inl (t, n, .inl (upd f i.toNatClampNeg x)))) else none
    | _ => none)
  | _ => none
def sStAL (st : List Value) (h : sHp) : Option (List Value × sHp) := match st with
  | .long x :: .int i :: .ref a :: r => (match h[a]? with
    | some (.inl (t, n, .inr (.inl f))) => if t = 1 ∧ ¬ (i < 0 ∨ n ≤ i.toNatClampNeg) then some (r, h.set a (.inl (t, n, .inr (.inl (vp_updL f i.toNatClampNeg x))))) else none
    | _ => none)
  | _ => none
def sIsObj (t : Nat) (c : Option va_E) : Bool := match c with
  | some (.inr (ci, _)) => (t == 3 && ci == 7) || (t == 4 && (sGrp ci == 2 && decide (ci < 11)))
  | _ => false
def sStAA (st : List Value) (h : sHp) : Option (List Value × sHp) := match st with
  | .ref q :: .int i :: .ref a :: r => (match h[a]? with
    | some (.inl (t, n, .inr (.inr (.inr (.inr f))))) => if sIsObj t h[q]? = true ∧ ¬ (i < 0 ∨ n ≤ i.toNatClampNeg) then some (r, h.set a (.inl (t, n, .inr (.inr (.inr (.inr (va_up f i.toNatClampNeg (some q)))))))) else none
    | _ => none)
  | .null :: .int i :: .ref a :: r => (match h[a]? with
    | some (.inl (t, n, .inr (.inr (.inr (.inr f))))) => if (t = 3 ∨ t = 4) ∧ ¬ (i < 0 ∨ n ≤ i.toNatClampNeg) then some (r, h.set a (.inl (t, n, .inr (.inr (.inr (.inr (va_up f i.toNatClampNeg none))))))) else none
    | _ => none)
  | _ => none
def sALen (st : List Value) (h : sHp) : Option (List Value × sHp) := match st with
  | .ref a :: r => (match h[a]? with
    | some (.inl (t, n, d)) => if t < 6 then some (.int (Int32.ofNat n) :: r, h) else none
    | _ => none)
  | _ => none
def sNew (k : Nat) (st : List Value) (h : sHp) : Option (List Value × sHp) := if k < 13 then some (.ref h.length :: st, h ++ [.inr (k, sDef k)]) else none
def sNewA (ty : ArrayType) (st : List Value) (h : sHp) : Option (List Value × sHp) := match st with
  | .int n :: r => if n < 0 ∨ 100000 < n.toNatClampNeg then none else (match ty with
    | .int => some (.ref h.length :: r, h ++ [.inl (0, n.toNatClampNeg, .inl (fun _ => 0))])
    | .long => some (.ref h.length :: r, h ++ [.inl (1, n.toNatClampNeg, .inr (.inl (fun _ => 0)))])
    | .boolean => some (.ref h.length :: r, h ++ [.inl (2, n.toNatClampNeg, .inl (fun _ => 0))])
    | _ => none)
  | _ => none
def sNewQ (k : Nat) (st : List Value) (h : sHp) : Option (List Value × sHp) := match st with
  | .int n :: r => if n < 0 ∨ 100000 < n.toNatClampNeg ∨ ¬ (k = 3 ∨ k = 4) then none else some (.ref h.length :: r, h ++ [.inl (k, n.toNatClampNeg, .inr (.inr (.inr (.inr (fun _ => none)))))])
  | _ => none
def sNewM (st : List Value) (h : sHp) : Option (List Value × sHp) := match st with
  | .int k :: .int n :: r => if n = 5 ∧ k = 6 then some (.ref h.length :: r, h ++ (.inl (5, 5, .inr (.inr (.inr (.inr (fun j => if j < 5 then some (h.length + 1 + j) else none))))) :: List.replicate 5 (.inl (0, 6, .inl (fun _ => 0))))) else none
  | _ => none
/-- the law's script: the row that no cell is; its place is 1000000 -/
abbrev sX : Type := Option (Nat × (Nat → Int32))
def sScr (X : sX) (ins : Instr) (st : List Value) : Option (List Value) := match X with
  | some (L, xs) => (match ins with
    | .arraylength => (match st with
      | .ref a :: r => if a = 1000000 then some (.int (Int32.ofNat L) :: r) else none
      | _ => none)
    | .iaload => (match st with
      | .int i :: .ref a :: r => if a = 1000000 ∧ ¬ (i < 0 ∨ L ≤ i.toNatClampNeg) then some (.int (xs i.toNatClampNeg) :: r) else none
      | _ => none)
    | _ => none)
  | none => none
/-- the words of the text reader: their places in the pool, their letters; the place of the i-th is 2000000 + i -/
def sTxI : List Nat := [69, 70, 72, 74, 76, 78, 80]
def sTxT : List String := ["size", "soil", "road", "well", "oak", "small", "heir"]
def sTxL : List Nat := [4, 4, 4, 4, 3, 5, 4]
def sTxB : List (List Int32) := [[115, 105, 122, 101], [115, 111, 105, 108], [114, 111, 97, 100], [119, 101, 108, 108], [111, 97, 107], [115, 109, 97, 108, 108], [104, 101, 105, 114]]
def sTxC (i j : Nat) : Int32 := (sTxB.getD i []).getD j 0
/-- System.arraycopy of longs -/
def sCpy (st : List Value) (h : sHp) : Option (List Value × sHp) := match st with
  | [.int n, .int dp, .ref a, .int sp, .ref a0] => (match h[a0]?, h[a]? with
    | some (.inl (1, n0, .inr (.inl f))), some (.inl (1, n1, .inr (.inl g))) => if ¬ sp < 0 ∧ ¬ dp < 0 ∧ ¬ n < 0 ∧ sp.toNatClampNeg + n.toNatClampNeg ≤ n0 ∧ dp.toNatClampNeg + n.toNatClampNeg ≤ n1 then some ([], h.set a (.inl (1, n1, .inr (.inl (va_cpy f g sp.toNatClampNeg dp.toNatClampNeg n.toNatClampNeg))))) else none
    | _, _ => none)
  | _ => none
def sHeap (ins : Instr) (st : List Value) (h : sHp) : Option (List Value × sHp) := match ins with
  | .getfield k => sGetF k st h
  | .putfield k => sPutF k st h
  | .iaload => sLdAI 0 st h
  | .baload => sLdAI 2 st h
  | .laload => sLdAL st h
  | .aaload => sLdAA st h
  | .iastore => sStAI st h
  | .bastore => sStAZ st h
  | .lastore => sStAL st h
  | .aastore => sStAA st h
  | .arraylength => sALen st h
  | .new k => sNew k st h
  | .newarray ty => sNewA ty st h
  | .anewarray k => sNewQ k st h
  | .multianewarray _ _ => sNewM st h
  | .ldc2_w k => some (.long (Int64.ofNat k) :: st, h)
  | .ldc k => if k < 4294967296 then some (.int (Int32.ofNat k) :: st, h) else if k < 4294967303 then some (.ref (2000000 + (k - 4294967296)) :: st, h) else none
  | .ldc_w k => some (.int (Int32.ofNat k) :: st, h)
  | .invokestatic k => if k = 1003 then sCpy st h else none
  | _ => none
/-- jumps -/
def sTgt (pc : Nat) (off : Int) : Option Nat := match (pc : Int) + off with
  | .ofNat t => some t
  | _ => none
def sIf (pc : Nat) (off : Int) (b : Bool) (st : List Value) : Option (Nat × List Value) := match sTgt pc off with
  | some t => some (bif b then t else pc + 3, st)
  | none => none
def sC2 (c : Jvm.ClassFile.Cond) (x y : Int32) : Bool := match c with
  | .eq => decide (x = y)
  | .ne => !decide (x = y)
  | .lt => decide (x < y)
  | .ge => decide (y ≤ x)
  | .gt => decide (y < x)
  | .le => decide (x ≤ y)
def sJmp (ins : Instr) (pc : Nat) (st : List Value) : Option (Nat × List Value) := match ins with
  | .goto off => (sTgt pc off).map (fun t => (t, st))
  | .if_icmp c off => (match st with
    | .int y :: .int x :: r => sIf pc off (sC2 c x y) r
    | _ => none)
  | .ifCond c off => (match st with
    | .int x :: r => sIf pc off (sC2 c x 0) r
    | _ => none)
  | .ifnull off => (match st with
    | .null :: r => sIf pc off true r
    | .ref _ :: r => sIf pc off false r
    | _ => none)
  | .ifnonnull off => (match st with
    | .null :: r => sIf pc off false r
    | .ref _ :: r => sIf pc off true r
    | _ => none)
  | .tableswitch dflt lo hi offs => (match st with
    | .int x :: r => if x.toInt < lo ∨ hi < x.toInt then (sTgt pc dflt).map (fun t => (t, r)) else (match offs[(x.toInt - lo).toNat]? with
      | some off => (sTgt pc off).map (fun t => (t, r))
      | none => none)
    | _ => none)
  | .lookupswitch dflt ps => (match st with
    | .int x :: r => (sTgt pc (Op.lookupswitch.offset ps.toList dflt x.toInt)).map (fun t => (t, r))
    | _ => none)
  | _ => none
def sRet (rt : Option FieldType) (ins : Instr) (st : List Value) : Option (Option Value) := match ins with
  | .ireturn => (match st, rt with
    | [.int v], some ty => if narrow ty (.int v) = .int v then some (some (.int v)) else none
    | _, _ => none)
  | .lreturn => (match st, rt with
    | [.long v], some .long => some (some (.long v))
    | _, _ => none)
  | .areturn => (match st, rt with
    | [.ref v], some (.object _) => some (some (.ref v))
    | [.null], some (.object _) => some (some .null)
    | _, _ => none)
  | .return_ => (match st, rt with
    | [], none => some none
    | _, _ => none)
  | _ => none
/-- calls of the library's, with no frame of ours -/
def sSpec (ins : Instr) (st : List Value) : Option (List Value) := match ins with
  | .invokestatic k => if k = 1000 then s2i (fun x y => some (.int (if x < y then y else x))) st else if k = 1001 then s2i (fun x y => some (.int (if y < x then y else x))) st else if k = 1002 then s1i (fun x => .int (if 0 ≤ x then x else 0 - x)) st else none
  | .invokespecial k => if k = 2000 then (match st with
    | .ref _ :: r => some r
    | _ => none) else none
  | _ => none
/-- how many arguments, whose class: of the methods by number -/
def sPop (n : Nat) (st : List Value) : Option (List Value × List Value) := if n ≤ st.length then some ((st.take n).reverse, st.drop n) else none
def sCal (nA ow : Nat → Nat) (vt : Nat → Nat → Nat) (ins : Instr) (st : List Value) (h : sHp) : Option (Nat × List Value × List Value) := match ins with
  | .invokestatic k => (sPop (nA k) st).map (fun q => (k, q.1, q.2))
  | .invokespecial k => (sPop (nA k) st).bind (fun q => match q.2 with
    | .ref b :: r => (match h[b]? with
      | some (.inr _) => some (k, .ref b :: q.1, r)
      | _ => none)
    | _ => none)
  | .invokevirtual k => if k < 1000 then (sPop (nA k) st).bind (fun q => match q.2 with
    | .ref b :: r => (match h[b]? with
      | some (.inr (ci, _)) => if ci = ow k then some (k, .ref b :: q.1, r) else none
      | _ => none)
    | _ => none) else (sPop (vt k 100) st).bind (fun q => match q.2 with
    | .ref b :: r => (match h[b]? with
      | some (.inr (ci, _)) => if sGrp ci = 2 ∧ ci < 11 then some (vt k ci, .ref b :: q.1, r) else none
      | _ => none)
    | _ => none)
  | .invokeinterface k _ => (sPop (k - 3000) st).bind (fun q => match q.2 with
    | .ref a :: r => if 2000000 ≤ a ∧ a < 2000007 then some (k - 2700, .ref a :: q.1, r) else none
    | _ => none)
  | _ => none
def sKnd (ins : Instr) : Nat := match ins with
  | .iload _ => 1
  | .iload_n _ => 1
  | .lload _ => 1
  | .lload_n _ => 1
  | .aload _ => 1
  | .aload_n _ => 1
  | .istore _ => 1
  | .istore_n _ => 1
  | .lstore _ => 1
  | .lstore_n _ => 1
  | .astore _ => 1
  | .astore_n _ => 1
  | .iinc _ _ => 1
  | .getfield _ => 2
  | .putfield _ => 2
  | .iaload => 2
  | .baload => 2
  | .laload => 2
  | .aaload => 2
  | .iastore => 2
  | .bastore => 2
  | .lastore => 2
  | .aastore => 2
  | .arraylength => 2
  | .new _ => 2
  | .newarray _ => 2
  | .anewarray _ => 2
  | .multianewarray _ _ => 2
  | .ldc2_w _ => 2
  | .ldc _ => 2
  | .ldc_w _ => 2
  | .goto _ => 3
  | .if_icmp _ _ => 3
  | .ifCond _ _ => 3
  | .ifnull _ => 3
  | .ifnonnull _ => 3
  | .tableswitch _ _ _ _ => 3
  | .lookupswitch _ _ => 3
  | .ireturn => 4
  | .lreturn => 4
  | .areturn => 4
  | .return_ => 4
  | .invokestatic k => if k < 1000 then 5 else if k = 1003 then 2 else 6
  | .invokeinterface _ _ => 5
  | .invokespecial k => if k < 1000 then 5 else 6
  | .invokevirtual _ => 5
  | _ => 0
abbrev sOr : Type := Option (Option Value × sHp)
def sRun (X : sX) (F : Nat → Option Instr) (rt : Option FieldType) (cal : Instr → List Value → sHp → Option (Nat × List Value × List Value)) (call : Nat → List Value → sHp → sOr) : Nat → Nat → sLo → List Value → sHp → sOr
  | 0, _, _, _, _ => none
  | n + 1, pc, L, st, h => (match F pc with
    | none => none
    | some ins => (match sKnd ins with
      | 0 => (sPure ins st).bind fun st1 => sRun X F rt cal call n (pc + sLen ins) L st1 h
      | 1 => (sLoc ins L st).bind fun q => sRun X F rt cal call n (pc + sLen ins) q.1 q.2 h
      | 2 => (match sScr X ins st with
        | some st1 => sRun X F rt cal call n (pc + sLen ins) L st1 h
        | none => (sHeap ins st h).bind fun q => sRun X F rt cal call n (pc + sLen ins) L q.1 q.2)
      | 3 => (sJmp ins pc st).bind fun q => sRun X F rt cal call n q.1 L q.2 h
      | 4 => (sRet rt ins st).map fun v => (v, h)
      | 5 => (cal ins st h).bind fun q => if (q.2.2.map (fun v => v.category)).sum ≤ 8 then (call q.1 q.2.1 h).bind fun z => sRun X F rt cal call n (pc + 3) L (z.1.toList ++ q.2.2) z.2 else none
      | _ => if (st.map (fun v => v.category)).sum ≤ 10 then (sSpec ins st).bind fun st1 => sRun X F rt cal call n (pc + 3) L st1 h else none))
/-- the locals with which a method begins -/
def sIniA : List Value → sLo
  | [] => []
  | v :: vs => if v.category = 2 then some v :: none :: sIniA vs else some v :: sIniA vs
def sNd (v : Value) : Bool := match v with
  | .double _ => false
  | _ => true
def sIni (nL : Nat) (as : List Value) : Option sLo := if as.all sNd = true ∧ (sIniA as).length ≤ nL then some (sIniA as ++ List.replicate (nL - (sIniA as).length) none) else none
end
section
/-! ===== the words of the tables, by list and place ===== -/
def sTk (i : Nat) : List Jvm.Cond := match i with
  | 0 => k2_sels lw_privs
  | 1 => tables_1_1.filter goodWord
  | 2 => tables_1_2.filter goodWord
  | 3 => tables_1_3.filter goodWord
  | 4 => tables_1_4.filter goodWord
  | 5 => tables_1_5.filter goodWord
  | 6 => tables_1_6.filter goodWord
  | 7 => tables_1_7.filter goodWord
  | _ => []
def sTB : List Jvm.Cond := sTk 0 ++ (sTk 1 ++ (sTk 2 ++ (sTk 3 ++ (sTk 4 ++ (sTk 5 ++ (sTk 6 ++ sTk 7))))))
def sW (p : Nat) : Option Jvm.Cond := (sTk (p / 1000))[p % 1000]?
theorem sTk_in (i : Nat) (w : Jvm.Cond) (hw : w ∈ sTk i) : w ∈ sTB := by
  unfold sTB
  simp only [List.mem_append]
  match i, hw with
  | 0, hw => exact Or.inl hw
  | 1, hw => exact Or.inr (Or.inl hw)
  | 2, hw => exact Or.inr (Or.inr (Or.inl hw))
  | 3, hw => exact Or.inr (Or.inr (Or.inr (Or.inl hw)))
  | 4, hw => exact Or.inr (Or.inr (Or.inr (Or.inr (Or.inl hw))))
  | 5, hw => exact Or.inr (Or.inr (Or.inr (Or.inr (Or.inr (Or.inl hw)))))
  | 6, hw => exact Or.inr (Or.inr (Or.inr (Or.inr (Or.inr (Or.inr (Or.inl hw))))))
  | 7, hw => exact Or.inr (Or.inr (Or.inr (Or.inr (Or.inr (Or.inr (Or.inr hw))))))
  | n + 8, hw => cases hw
theorem sW_in {p : Nat} {w : Jvm.Cond} (h : sW p = some w) : w ∈ sTB := sTk_in _ w (List.mem_of_getElem? h)
theorem sTB_cases {P : Jvm.Cond → Prop} (h0 : ∀ w ∈ k2_sels lw_privs, P w) (h1 : ∀ w ∈ tables_1, goodWord w = true → P w) : ∀ w ∈ sTB, P w := by
  intro w hw
  have hh : w ∈ k2_sels lw_privs ∨ (w ∈ tables_1 ∧ goodWord w = true) := by
    unfold sTB at hw
    simp only [List.mem_append] at hw
    unfold tables_1
    simp only [List.mem_append]
    rcases hw with hw | hw | hw | hw | hw | hw | hw | hw
    · exact Or.inl hw
    all_goals
      have h2 := List.mem_filter.mp hw
      exact Or.inr ⟨by simp [h2.1], h2.2⟩
  rcases hh with h | h
  · exact h0 w h
  · exact h1 w h.1 h.2
theorem sTB_good : ∀ w ∈ sTB, goodWord w = true := sTB_cases (fun w hw => by
  obtain ⟨q, -, rfl⟩ := List.mem_map.mp hw
  rfl) (fun w _ h => h)
theorem sTB_lw : ∀ w ∈ sTB, w ∈ lw_tbl := sTB_cases (fun w hw => List.mem_append_left _ hw) (fun w hw _ => List.mem_append_right _ hw)
theorem sTB_in {ws : List Jvm.Cond} (h : ∀ w ∈ ws, w ∈ sTB) : GoodIn sTB ws := fun w hw => ⟨h w hw, good_of_word (sTB_good w (h w hw))⟩
/-! ===== what the places stand for ===== -/
def sAd (base : Nat) (b : Nat → Nat) (k : Nat) : Nat := if 1000000 ≤ k then b k else base + k
def rV (σ : Nat → Nat) : Value → Value
  | .ref k => .ref (σ k)
  | v => v
def rA (σ : Nat → Nat) (a : vp_A) : vp_A := match a with
  | (n, .inr (.inr (.inr (.inr f)))) => (n, .inr (.inr (.inr (.inr (fun j => (f j).map σ)))))
  | (n, x) => (n, x)
def rC (σ : Nat → Nat) (dA : Nat → ClassId) (c : va_E) : va_E := match c with
  | .inl (t, a) => .inl (dA t, rA σ a)
  | .inr (ci, fs) => .inr (ci, fs.map (rV σ))
def rW (σ : Nat → Nat) (dA : Nat → ClassId) (h : sHp) : va_W := h.mapIdx (fun k c => (σ k, rC σ dA c))
abbrev rS (σ : Nat → Nat) (st : List Value) : List Value := st.map (rV σ)
theorem rV_cat (σ : Nat → Nat) (v : Value) : (rV σ v).category = v.category := by cases v <;> rfl
theorem rV_rf (σ : Nat → Nat) (r : Option Nat) : rV σ (va_rf r) = va_rf (r.map σ) := by cases r <;> rfl
theorem rW_get (σ : Nat → Nat) (dA : Nat → ClassId) (h : sHp) (k : Nat) : (rW σ dA h)[k]? = (h[k]?).map (fun c => (σ k, rC σ dA c)) := by
  unfold rW
  rw [List.getElem?_mapIdx]
theorem rW_at {σ : Nat → Nat} {dA : Nat → ClassId} {h : sHp} {k : Nat} {c : va_E} (hk : h[k]? = some c) : (rW σ dA h)[k]? = some (σ k, rC σ dA c) := by rw [rW_get, hk]; rfl
theorem rW_len (σ : Nat → Nat) (dA : Nat → ClassId) (h : sHp) : (rW σ dA h).length = h.length := by unfold rW; rw [List.length_mapIdx]
theorem rW_set (σ : Nat → Nat) (dA : Nat → ClassId) (h : sHp) (k : Nat) (c : va_E) : (rW σ dA h).set k (σ k, rC σ dA c) = rW σ dA (h.set k c) := by
  apply List.ext_getElem?
  intro i
  rw [rW_get, List.getElem?_set, List.getElem?_set, rW_len]
  by_cases e : k = i
  · subst e
    by_cases hl : k < h.length
    · simp [hl]
    · simp [hl]
  · simp [e, rW_get]
theorem rW_app (σ : Nat → Nat) (dA : Nat → ClassId) (h : sHp) (c : va_E) : rW σ dA (h ++ [c]) = rW σ dA h ++ [(σ h.length, rC σ dA c)] := by
  unfold rW
  rw [List.mapIdx_concat]
theorem rW_apart {base : Nat} {b : Nat → Nat} {dA : Nat → ClassId} {h : sHp} (hl : h.length ≤ 1000000) : va_D (fun q => base ≤ q) (rW (sAd base b) dA h) := by
  have key : ∀ (i : Nat) (p : Nat × va_E), (rW (sAd base b) dA h)[i]? = some p → p.1 = base + i := by
    intro i p hi
    rw [rW_get] at hi
    cases hc : h[i]? with
    | none => rw [hc] at hi; cases hi
    | some c =>
      rw [hc] at hi
      cases hi
      have hlt := (List.getElem?_eq_some_iff.mp hc).1
      show sAd base b i = base + i
      unfold sAd
      rw [if_neg (by omega)]
  refine ⟨fun i j p q hi hj hpq => ?_, fun k q hk => ?_⟩
  · have h1 := key i p hi
    have h2 := key j q hj
    omega
  · have h1 := key k q hk
    show base ≤ q.1
    omega
theorem sAd_in {base : Nat} {b : Nat → Nat} {k : Nat} (h : k < 1000000) : sAd base b k = base + k := by unfold sAd; rw [if_neg (by omega)]
/-- sizes -/
def sSz (c : va_E) : Nat := match c with
  | .inl (_, a) => a.1
  | .inr (_, fs) => fs.length
def sSl : sHp → Nat
  | [] => 0
  | c :: t => sSz c + sSl t
theorem sSl_app (h g : sHp) : sSl (h ++ g) = sSl h + sSl g := by
  induction h with
  | nil => simp [sSl]
  | cons c t ih => rw [List.cons_append, sSl, ih, sSl]; omega
theorem sSl_set {h : sHp} {k : Nat} {c c0 : va_E} (hk : h[k]? = some c0) (hs : sSz c = sSz c0) : sSl (h.set k c) = sSl h := by
  induction h generalizing k with
  | nil => cases hk
  | cons a t ih =>
    cases k with
    | zero =>
      rw [List.getElem?_cons_zero] at hk
      have e := Option.some.inj hk
      show sSz c + sSl t = sSz a + sSl t
      rw [hs, e]
    | succ k =>
      rw [List.getElem?_cons_succ] at hk
      show sSz a + sSl (t.set k c) = sSz a + sSl t
      rw [ih hk]
/-! ===== locals ===== -/
def sEnt (σ : Nat → Nat) (L : sLo) : List (Nat × Value) := (List.range L.length).filterMap (fun i => match L[i]? with
  | some (some v) => some (i, rV σ v)
  | _ => none)
theorem sEnt_mem {σ : Nat → Nat} {L : sLo} {q : Nat × Value} : q ∈ sEnt σ L ↔ ∃ v, L[q.1]? = some (some v) ∧ q.2 = rV σ v := by
  unfold sEnt
  rw [List.mem_filterMap]
  constructor
  · rintro ⟨i, hi, h⟩
    cases hL : L[i]? with
    | none => rw [hL] at h; cases h
    | some o =>
      cases o with
      | none => rw [hL] at h; cases h
      | some v =>
        rw [hL] at h
        cases h
        exact ⟨v, hL, rfl⟩
  · rintro ⟨v, h1, h2⟩
    refine ⟨q.1, List.mem_range.mpr (List.getElem?_eq_some_iff.mp h1).1, ?_⟩
    rw [h1]
    show some (q.1, rV σ v) = some q
    rw [← h2]
theorem lv_mono {ls : Array Slot} {n : Nat} {l l' : List (Nat × Value)} (h : lv_has ls n l) (hs : ∀ q ∈ l', q ∈ l) : lv_has ls n l' := ⟨h.1, h.2.1, fun q hq => h.2.2 q (hs q hq)⟩
theorem sEnt_at {σ : Nat → Nat} {L : sLo} {ls : Array Slot} {n i : Nat} {v : Value} (h : lv_has ls n (sEnt σ L)) (hv : L[i]? = some (some v)) : ls[i]? = some (.val (rV σ v)) := h.2.2 (i, rV σ v) (sEnt_mem.mpr ⟨v, hv, rfl⟩)
theorem sKill_get (L : sLo) (i j : Nat) : (sKill L i)[j]? = if j + 1 = i ∧ sIsL L[j]? = true then some none else L[j]? := by
  unfold sKill
  cases i with
  | zero => simp
  | succ k =>
    show (if sIsL L[k]? = true then L.set k none else L)[j]? = _
    by_cases e : j = k
    · subst e
      by_cases hL : sIsL L[j]? = true
      · rw [if_pos hL, if_pos ⟨rfl, hL⟩, List.getElem?_set_self]
        cases hj : L[j]? with
        | none => rw [hj] at hL; cases hL
        | some o => exact (List.getElem?_eq_some_iff.mp hj).1
      · rw [if_neg hL, if_neg (fun q => hL q.2)]
    · rw [if_neg (show ¬ (j + 1 = k + 1 ∧ _) from fun q => e (by omega))]
      split
      · rw [List.getElem?_set_ne (fun q => e q.symm)]
      · rfl
theorem sKill_len (L : sLo) (i : Nat) : (sKill L i).length = L.length := by
  unfold sKill
  cases i with
  | zero => rfl
  | succ k => show (if _ then L.set k none else L).length = _; split <;> simp
theorem sPut_len (L : sLo) (i : Nat) (v : Value) : (sPut L i v).length = L.length := by unfold sPut; rw [List.length_set, sKill_len]
theorem sPutL_len (L : sLo) (i : Nat) (v : Value) : (sPutL L i v).length = L.length := by unfold sPutL; rw [List.length_set, sPut_len]
theorem sIsL_cat {o : Option (Option Value)} {v : Value} (σ : Nat → Nat) (h : o = some (some v)) (hL : ¬ sIsL o = true) (hd : ∀ x, v ≠ .double x) : ¬ (rV σ v).category = 2 := by
  subst h
  cases v <;> first | (exact fun q => hL rfl) | (exact fun q => hd _ rfl) | (intro q; cases q)
def sNoD (L : sLo) : Prop := ∀ (i : Nat) (x : UInt64), L[i]? ≠ some (some (.double x))
theorem sNoD_put {L : sLo} (h : sNoD L) (i : Nat) {v : Value} (hv : ∀ x, v ≠ .double x) : sNoD (sPut L i v) := by
  intro j x hj
  unfold sPut at hj
  rw [List.getElem?_set] at hj
  split at hj
  · split at hj
    · cases hj; exact hv _ rfl
    · cases hj
  · rw [sKill_get] at hj
    split at hj
    · cases hj
    · exact h j x hj
theorem sNoD_putL {L : sLo} (h : sNoD L) (i : Nat) {v : Value} (hv : ∀ x, v ≠ .double x) : sNoD (sPutL L i v) := by
  intro j x hj
  unfold sPutL at hj
  rw [List.getElem?_set] at hj
  split at hj
  · split at hj
    · cases hj
    · cases hj
  · exact sNoD_put h i hv j x hj
theorem sPut_has {σ : Nat → Nat} {L : sLo} {ls : Array Slot} {n i : Nat} {v : Value} (hd : sNoD L) (h : lv_has ls n ((i, rV σ v) :: (sEnt σ L).filter (fun q => !(q.1 == i) && !(q.1 + 1 == i && q.2.category == 2)))) : lv_has ls n (sEnt σ (sPut L i v)) := by
  refine lv_mono h fun q hq => ?_
  obtain ⟨w, h1, h2⟩ := sEnt_mem.mp hq
  unfold sPut at h1
  rw [List.getElem?_set] at h1
  split at h1
  · rename_i e
    split at h1
    · cases h1
      have : q = (i, rV σ v) := by rw [← h2, e]
      rw [this]
      exact List.mem_cons_self
    · cases h1
  · rename_i e
    rw [sKill_get] at h1
    split at h1
    · cases h1
    · rename_i hk
      refine List.mem_cons_of_mem _ (List.mem_filter.mpr ⟨sEnt_mem.mpr ⟨w, h1, h2⟩, ?_⟩)
      have e1 : (q.1 == i) = false := by rw [beq_eq_false_iff_ne]; exact fun z => e z.symm
      rw [e1]
      by_cases e2 : q.1 + 1 = i
      · have hL : ¬ sIsL L[q.1]? = true := fun z => hk ⟨e2, z⟩
        have hc := sIsL_cat σ h1 hL (fun x z => hd q.1 x (by rw [h1, z]))
        rw [← h2] at hc
        have e3 : (q.2.category == 2) = false := by rw [beq_eq_false_iff_ne]; exact hc
        rw [e3]
        simp
      · have e3 : (q.1 + 1 == i) = false := by rw [beq_eq_false_iff_ne]; exact e2
        rw [e3]
        simp
theorem sPutL_has {σ : Nat → Nat} {L : sLo} {ls : Array Slot} {n i : Nat} {v : Value} (hd : sNoD L) (h : lv_has ls n ((i, rV σ v) :: (sEnt σ L).filter (fun q => !(q.1 == i) && (!(q.1 == i + 1) && !(q.1 + 1 == i && q.2.category == 2))))) : lv_has ls n (sEnt σ (sPutL L i v)) := by
  refine lv_mono h fun q hq => ?_
  obtain ⟨w, h1, h2⟩ := sEnt_mem.mp hq
  unfold sPutL at h1
  rw [List.getElem?_set] at h1
  split at h1
  · split at h1
    · cases h1
    · cases h1
  · rename_i e0
    unfold sPut at h1
    rw [List.getElem?_set] at h1
    split at h1
    · rename_i e
      split at h1
      · cases h1
        have : q = (i, rV σ v) := by rw [← h2, e]
        rw [this]
        exact List.mem_cons_self
      · cases h1
    · rename_i e
      rw [sKill_get] at h1
      split at h1
      · cases h1
      · rename_i hk
        refine List.mem_cons_of_mem _ (List.mem_filter.mpr ⟨sEnt_mem.mpr ⟨w, h1, h2⟩, ?_⟩)
        have e1 : (q.1 == i) = false := by rw [beq_eq_false_iff_ne]; exact fun z => e z.symm
        have e4 : (q.1 == i + 1) = false := by rw [beq_eq_false_iff_ne]; exact fun z => e0 z.symm
        rw [e1, e4]
        by_cases e2 : q.1 + 1 = i
        · have hL : ¬ sIsL L[q.1]? = true := fun z => hk ⟨e2, z⟩
          have hc := sIsL_cat σ h1 hL (fun x z => hd q.1 x (by rw [h1, z]))
          rw [← h2] at hc
          have e3 : (q.2.category == 2) = false := by rw [beq_eq_false_iff_ne]; exact hc
          rw [e3]
          simp
        · have e3 : (q.1 + 1 == i) = false := by rw [beq_eq_false_iff_ne]; exact e2
          rw [e3]
          simp
end
section
/-! ===== the machine does what the simple one does: stack and locals ===== -/
section SND
variable {p : Program} {l : Launch} {e : Env} {R : Room} {s : State} {m : MethodId} {args : Array Value} {below : List Frame} {meth : Method} {c : Code} {H : Heap} {locs : List Loc} {cells slots : Nat} {Q : State → Prop} {cc : ByteArray} {pc : Nat} {ls : Array Slot} {σ : Nat → Nat}
theorem s2i_of {f : Int32 → Int32 → Option Value} {st st' : List Value} (h : s2i f st = some st') : ∃ x y v r, st = .int y :: .int x :: r ∧ f x y = some v ∧ st' = v :: r := by
  unfold s2i at h
  split at h
  · obtain ⟨v, h1, h2⟩ := Option.map_eq_some_iff.mp h
    exact ⟨_, _, v, _, rfl, h1, h2.symm⟩
  · cases h
theorem s2l_of {f : Int64 → Int64 → Option Value} {st st' : List Value} (h : s2l f st = some st') : ∃ x y v r, st = .long y :: .long x :: r ∧ f x y = some v ∧ st' = v :: r := by
  unfold s2l at h
  split at h
  · obtain ⟨v, h1, h2⟩ := Option.map_eq_some_iff.mp h
    exact ⟨_, _, v, _, rfl, h1, h2.symm⟩
  · cases h
theorem sil_of {f : Int64 → Int32 → Option Value} {st st' : List Value} (h : sil f st = some st') : ∃ x y v r, st = .int y :: .long x :: r ∧ f x y = some v ∧ st' = v :: r := by
  unfold sil at h
  split at h
  · obtain ⟨v, h1, h2⟩ := Option.map_eq_some_iff.mp h
    exact ⟨_, _, v, _, rfl, h1, h2.symm⟩
  · cases h
theorem s1i_of {f : Int32 → Value} {st st' : List Value} (h : s1i f st = some st') : ∃ x r, st = .int x :: r ∧ st' = f x :: r := by
  unfold s1i at h
  split at h
  · cases h; exact ⟨_, _, rfl, rfl⟩
  · cases h
theorem s1l_of {f : Int64 → Value} {st st' : List Value} (h : s1l f st = some st') : ∃ x r, st = .long x :: r ∧ st' = f x :: r := by
  unfold s1l at h
  split at h
  · cases h; exact ⟨_, _, rfl, rfl⟩
  · cases h
set_option maxHeartbeats 4000000 in
theorem s_pure (hx : p.tables.exec = Jvm.exec) (hb : c.code = cc) {ins : Instr} {st st' : List Value} (h : sPure ins st = some st') (hdg : decode cc pc = .ok (ins, sLen ins))
    (kk : W p l e R s m args below meth c H locs cells slots Q (F0 m (pc + sLen ins) ls (rS σ st'))) : W p l e R s m args below meth c H locs cells slots Q (F0 m pc ls (rS σ st)) := by
  unfold sPure at h
  split at h
  case h_1 n => cases h; exact lv_iconst hx hb hdg rfl kk
  case h_2 n => cases h; exact lv_bipush hx hb hdg rfl kk
  case h_3 n => cases h; exact lv_sipush hx hb hdg rfl kk
  case h_4 n => cases h; exact lv_lconst hx hb hdg rfl kk
  case h_5 => cases h; exact lv_null hx hb hdg kk
  case h_6 => obtain ⟨x, y, v, r, rfl, h1, rfl⟩ := s2i_of h; cases h1; exact lv_iadd hx hb hdg kk
  case h_7 => obtain ⟨x, y, v, r, rfl, h1, rfl⟩ := s2i_of h; cases h1; exact lv_isub hx hb hdg kk
  case h_8 => obtain ⟨x, y, v, r, rfl, h1, rfl⟩ := s2i_of h; cases h1; exact lv_imul hx hb hdg kk
  case h_9 => obtain ⟨x, y, v, r, rfl, h1, rfl⟩ := s2i_of h; cases h1; exact lv_iand hx hb hdg kk
  case h_10 => obtain ⟨x, y, v, r, rfl, h1, rfl⟩ := s2i_of h; cases h1; exact lv_ior hx hb hdg kk
  case h_11 => obtain ⟨x, y, v, r, rfl, h1, rfl⟩ := s2i_of h; cases h1; exact lv_ixor hx hb hdg kk
  case h_12 =>
    obtain ⟨x, y, v, r, rfl, h1, rfl⟩ := s2i_of h
    by_cases h0 : y = 0
    · rw [if_pos h0] at h1; cases h1
    · rw [if_neg h0] at h1; cases h1; exact lv_idiv hx hb hdg h0 kk
  case h_13 =>
    obtain ⟨x, y, v, r, rfl, h1, rfl⟩ := s2i_of h
    by_cases h0 : y = 0
    · rw [if_pos h0] at h1; cases h1
    · rw [if_neg h0] at h1; cases h1; exact lv_irem hx hb hdg h0 kk
  case h_14 => obtain ⟨x, r, rfl, rfl⟩ := s1i_of h; exact lv_ineg hx hb hdg kk
  case h_15 => obtain ⟨x, y, v, r, rfl, h1, rfl⟩ := s2i_of h; cases h1; exact lv_ishl hx hb hdg kk
  case h_16 => obtain ⟨x, y, v, r, rfl, h1, rfl⟩ := s2i_of h; cases h1; exact lv_ishr hx hb hdg kk
  case h_17 => obtain ⟨x, y, v, r, rfl, h1, rfl⟩ := s2l_of h; cases h1; exact lv_ladd hx hb hdg kk
  case h_18 => obtain ⟨x, y, v, r, rfl, h1, rfl⟩ := s2l_of h; cases h1; exact lv_lsub hx hb hdg kk
  case h_19 => obtain ⟨x, y, v, r, rfl, h1, rfl⟩ := s2l_of h; cases h1; exact lv_land hx hb hdg kk
  case h_20 => obtain ⟨x, y, v, r, rfl, h1, rfl⟩ := s2l_of h; cases h1; exact lv_lor hx hb hdg kk
  case h_21 => obtain ⟨x, y, v, r, rfl, h1, rfl⟩ := s2l_of h; cases h1; exact lv_lxor hx hb hdg kk
  case h_22 => obtain ⟨x, r, rfl, rfl⟩ := s1l_of h; exact lv_lneg hx hb hdg kk
  case h_23 => obtain ⟨x, y, v, r, rfl, h1, rfl⟩ := sil_of h; cases h1; exact lv_lshl hx hb hdg rfl kk
  case h_24 => obtain ⟨x, y, v, r, rfl, h1, rfl⟩ := sil_of h; cases h1; exact lv_lshr hx hb hdg rfl kk
  case h_25 => obtain ⟨x, y, v, r, rfl, h1, rfl⟩ := sil_of h; cases h1; exact lv_lushr hx hb hdg rfl kk
  case h_26 => obtain ⟨x, y, v, r, rfl, h1, rfl⟩ := s2l_of h; cases h1; exact W.lcmp hx hb hdg kk
  case h_27 => obtain ⟨x, r, rfl, rfl⟩ := s1i_of h; exact lv_i2l hx hb hdg rfl kk
  case h_28 => obtain ⟨x, r, rfl, rfl⟩ := s1l_of h; exact lv_l2i hx hb hdg rfl kk
  case h_29 => obtain ⟨x, r, rfl, rfl⟩ := s1i_of h; exact lv_i2b hx hb hdg rfl kk
  case h_30 => obtain ⟨x, r, rfl, rfl⟩ := s1i_of h; exact lv_i2s hx hb hdg rfl kk
  case h_31 => obtain ⟨x, r, rfl, rfl⟩ := s1i_of h; exact lv_i2c hx hb hdg rfl kk
  case h_32 =>
    split at h
    · split at h
      · rename_i hc
        cases h
        exact lv_dup hx hb hdg ((rV_cat σ _).trans hc) kk
      · cases h
    · cases h
  case h_33 =>
    split at h
    · split at h
      · rename_i hc
        cases h
        exact lv_dup_x1 hx hb hdg ((rV_cat σ _).trans hc.1) ((rV_cat σ _).trans hc.2) kk
      · cases h
    · cases h
  case h_34 =>
    split at h
    · split at h
      · rename_i hc
        cases h
        exact lv_dup2_11 hx hb hdg ((rV_cat σ _).trans hc.1) ((rV_cat σ _).trans hc.2) kk
      · cases h
    · cases h
  case h_35 =>
    split at h
    · split at h
      · rename_i hc
        cases h
        exact lv_pop hx hb hdg ((rV_cat σ _).trans hc) kk
      · cases h
    · cases h
  case h_36 => cases h
theorem sLdI_of {L L' : sLo} {i : Nat} {st st' : List Value} (h : sLdI L i st = some (L', st')) : ∃ x, L[i]? = some (some (.int x)) ∧ L' = L ∧ st' = .int x :: st := by
  unfold sLdI at h
  split at h
  · rename_i x hx; cases h; exact ⟨x, hx, rfl, rfl⟩
  · cases h
theorem sLdL_of {L L' : sLo} {i : Nat} {st st' : List Value} (h : sLdL L i st = some (L', st')) : ∃ x, L[i]? = some (some (.long x)) ∧ L' = L ∧ st' = .long x :: st := by
  unfold sLdL at h
  split at h
  · rename_i x hx; cases h; exact ⟨x, hx, rfl, rfl⟩
  · cases h
theorem sLdA_of {L L' : sLo} {i : Nat} {st st' : List Value} (h : sLdA L i st = some (L', st')) : (∃ x, L[i]? = some (some (.ref x)) ∧ L' = L ∧ st' = .ref x :: st) ∨ (L[i]? = some (some .null) ∧ L' = L ∧ st' = .null :: st) := by
  unfold sLdA at h
  split at h
  · rename_i x hx; cases h; exact Or.inl ⟨x, hx, rfl, rfl⟩
  · rename_i hx; cases h; exact Or.inr ⟨hx, rfl, rfl⟩
  · cases h
/-- the locals hold what the simple ones say -/
def sLs (σ : Nat → Nat) (nL : Nat) (L : sLo) (ls : Array Slot) : Prop := L.length = nL ∧ sNoD L ∧ lv_has ls nL (sEnt σ L)
set_option maxHeartbeats 4000000 in
theorem s_loc (hx : p.tables.exec = Jvm.exec) (hb : c.code = cc) {ins : Instr} {nL : Nat} {L L' : sLo} {st st' : List Value} (hl : sLs σ nL L ls) (h : sLoc ins L st = some (L', st')) (hdg : decode cc pc = .ok (ins, sLen ins))
    (kk : ∀ ls' : Array Slot, sLs σ nL L' ls' → W p l e R s m args below meth c H locs cells slots Q (F0 m (pc + sLen ins) ls' (rS σ st'))) : W p l e R s m args below meth c H locs cells slots Q (F0 m pc ls (rS σ st)) := by
  obtain ⟨hn, hd, hv⟩ := hl
  unfold sLoc at h
  split at h
  case h_1 i => obtain ⟨x, h1, rfl, rfl⟩ := sLdI_of h; exact lv_iload hx hb hdg (sEnt_at hv h1) (kk _ ⟨hn, hd, hv⟩)
  case h_2 i => obtain ⟨x, h1, rfl, rfl⟩ := sLdI_of h; exact lv_iload_n hx hb hdg rfl (sEnt_at hv h1) (kk _ ⟨hn, hd, hv⟩)
  case h_3 i => obtain ⟨x, h1, rfl, rfl⟩ := sLdL_of h; exact lv_lload hx hb hdg (sEnt_at hv h1) (kk _ ⟨hn, hd, hv⟩)
  case h_4 i => obtain ⟨x, h1, rfl, rfl⟩ := sLdL_of h; exact lv_lload_n hx hb hdg rfl (sEnt_at hv h1) (kk _ ⟨hn, hd, hv⟩)
  case h_5 i =>
    rcases sLdA_of h with ⟨x, h1, rfl, rfl⟩ | ⟨h1, rfl, rfl⟩
    · exact lv_aload hx hb hdg (sEnt_at hv h1) (kk _ ⟨hn, hd, hv⟩)
    · exact lv_aloadN hx hb hdg (sEnt_at hv h1) (kk _ ⟨hn, hd, hv⟩)
  case h_6 i =>
    rcases sLdA_of h with ⟨x, h1, rfl, rfl⟩ | ⟨h1, rfl, rfl⟩
    · exact lv_aload_n hx hb hdg rfl (sEnt_at hv h1) (kk _ ⟨hn, hd, hv⟩)
    · exact lv_aload_nN hx hb hdg rfl (sEnt_at hv h1) (kk _ ⟨hn, hd, hv⟩)
  case h_7 i =>
    unfold sStI at h
    split at h
    · split at h
      · rename_i hi
        cases h
        exact lv_istore hx hb hdg hv (hn ▸ hi) rfl fun ls' h' => kk ls' ⟨(sPut_len _ _ _).trans hn, sNoD_put hd _ (fun _ q => by cases q), sPut_has hd h'⟩
      · cases h
    · cases h
  case h_8 i =>
    unfold sStI at h
    split at h
    · split at h
      · rename_i hi
        cases h
        exact lv_istore_n hx hb hdg rfl hv (hn ▸ hi) rfl fun ls' h' => kk ls' ⟨(sPut_len _ _ _).trans hn, sNoD_put hd _ (fun _ q => by cases q), sPut_has hd h'⟩
      · cases h
    · cases h
  case h_9 i =>
    unfold sStL at h
    split at h
    · split at h
      · rename_i hi
        cases h
        exact lv_lstore hx hb hdg hv (hn ▸ hi) rfl fun ls' h' => kk ls' ⟨(sPutL_len _ _ _).trans hn, sNoD_putL hd _ (fun _ q => by cases q), sPutL_has hd h'⟩
      · cases h
    · cases h
  case h_10 i =>
    unfold sStL at h
    split at h
    · split at h
      · rename_i hi
        cases h
        exact lv_lstore_n hx hb hdg rfl hv (hn ▸ hi) rfl fun ls' h' => kk ls' ⟨(sPutL_len _ _ _).trans hn, sNoD_putL hd _ (fun _ q => by cases q), sPutL_has hd h'⟩
      · cases h
    · cases h
  case h_11 i =>
    unfold sStA at h
    split at h
    · split at h
      · rename_i hi
        cases h
        exact lv_astore hx hb hdg hv (hn ▸ hi) rfl fun ls' h' => kk ls' ⟨(sPut_len _ _ _).trans hn, sNoD_put hd _ (fun _ q => by cases q), sPut_has (v := .ref _) hd h'⟩
      · cases h
    · split at h
      · rename_i hi
        cases h
        exact lv_astoreN hx hb hdg hv (hn ▸ hi) rfl fun ls' h' => kk ls' ⟨(sPut_len _ _ _).trans hn, sNoD_put hd _ (fun _ q => by cases q), sPut_has (v := .null) hd h'⟩
      · cases h
    · cases h
  case h_12 i =>
    unfold sStA at h
    split at h
    · split at h
      · rename_i hi
        cases h
        exact lv_astore_n hx hb hdg rfl hv (hn ▸ hi) rfl fun ls' h' => kk ls' ⟨(sPut_len _ _ _).trans hn, sNoD_put hd _ (fun _ q => by cases q), sPut_has (v := .ref _) hd h'⟩
      · cases h
    · split at h
      · rename_i hi
        cases h
        exact lv_astore_nN hx hb hdg rfl hv (hn ▸ hi) rfl fun ls' h' => kk ls' ⟨(sPut_len _ _ _).trans hn, sNoD_put hd _ (fun _ q => by cases q), sPut_has (v := .null) hd h'⟩
      · cases h
    · cases h
  case h_13 i n =>
    unfold sInc at h
    split at h
    · rename_i x h1
      cases h
      have hi : i < nL := by rw [← hn]; exact (List.getElem?_eq_some_iff.mp h1).1
      obtain ⟨k, hk⟩ := List.getElem?_of_mem (sEnt_mem (σ := σ) (L := L) (q := (i, .int x)) |>.mpr ⟨_, h1, rfl⟩)
      exact lv_iinc hx hb hdg hv hk rfl hi rfl fun ls' h' => kk ls' ⟨(sPut_len _ _ _).trans hn, sNoD_put hd _ (fun _ q => by cases q), sPut_has (v := .int _) hd h'⟩
    · cases h
  case h_14 => cases h
end SND
end
section
/-! ===== each row of cells: its fields are among the words, their types, their names ===== -/
theorem sU0 : u_ws RX0 TX0 6 = ([2163, 2164, 2165, 2166, 2167, 2168] : List Nat).filterMap sW := by decide +kernel
theorem sU1 : u_ws RX1 TX1 6 = ([2137, 2138, 2139, 2140, 2141, 2142] : List Nat).filterMap sW := by decide +kernel
theorem sU2 : u_ws RX2 TX2 6 = ([2198, 2199, 2200, 2201, 2202, 2203] : List Nat).filterMap sW := by decide +kernel
theorem sU3 : u_ws RX3 TX3 17 = ([1102, 1104, 1106, 1108, 1110, 1112, 1114, 1116, 1118, 1120, 1122, 1124, 1126, 1128, 1130, 1132, 1134] : List Nat).filterMap sW := by decide +kernel
theorem sU4 : u_ws RX4 TX4 6 = ([2176, 2177, 2178, 2179, 2180, 2181] : List Nat).filterMap sW := by decide +kernel
theorem sU5 : u_ws RX5 TX5 6 = ([2150, 2151, 2152, 2153, 2154, 2155] : List Nat).filterMap sW := by decide +kernel
theorem sU6 : u_ws RX6 TX6 4 = ([3106, 3108, 3110, 3112] : List Nat).filterMap sW := by decide +kernel
theorem sU7 : u_ws RX7 TX7 3 = ([1043, 1045, 1047] : List Nat).filterMap sW := by decide +kernel
theorem sU8 : u_ws RX8 TX8 10 = ([1158, 1160, 1162, 1164, 1166, 1168, 1170, 1172, 1174, 1176] : List Nat).filterMap sW := by decide +kernel
theorem sU9 : u_ws RX9 TX9 6 = ([2118, 2120, 2122, 2124, 2126, 2128] : List Nat).filterMap sW := by decide +kernel
theorem sU10 : u_ws RX10 TX10 6 = ([2189, 2190, 2191, 2192, 2193, 2194] : List Nat).filterMap sW := by decide +kernel
theorem sU11 : u_ws RX11 TX11 11 = ([1190, 1192, 1194, 1196, 1198, 1200, 1202, 1204, 1206, 1208, 1210] : List Nat).filterMap sW := by decide +kernel
theorem sU12 : u_ws RX12 TX12 38 = ([5217, 5219, 5221, 5223, 5225, 5227, 5229, 5231, 5233, 5235, 6000, 6002, 6004, 6006, 6008, 6010, 6012, 6014, 6016, 6018, 6020, 6022, 6024, 6026, 6028, 6030, 6032, 6034, 6036, 6038, 6040, 6042, 6044, 6046, 6048, 6050, 6052, 6054] : List Nat).filterMap sW := by decide +kernel
theorem sU_in {ws : List Jvm.Cond} {ps : List Nat} (h : ws = ps.filterMap sW) : ∀ w ∈ ws, w ∈ sTB := by
  intro w hw
  rw [h] at hw
  obtain ⟨p, -, hp⟩ := List.mem_filterMap.mp hw
  exact sW_in hp
def sCF (ci : Nat) (q : vw_C) : Prop := (∀ w ∈ u_ws q.1 q.2.1 q.2.2, w ∈ sTB) ∧ (∀ k, k < q.2.2 → parseFieldDescriptor (q.2.1 k).2.2.1 = some (sTy ci k)) ∧ (∀ a, a < q.2.2 → ∀ b, b < q.2.2 → a ≠ b → (q.2.1 a).2.1 ≠ (q.2.1 b).2.1)
theorem sCF_all : ∀ (ci : Nat) (q : vw_C), vwCl[ci]? = some q → sCF ci q := by
  intro ci q h
  match ci, h with
  | 0, h => cases h; exact ⟨sU_in sU0, tyX0_ok, nmX0⟩
  | 1, h => cases h; exact ⟨sU_in sU1, tyX1_ok, nmX1⟩
  | 2, h => cases h; exact ⟨sU_in sU2, tyX2_ok, nmX2⟩
  | 3, h => cases h; exact ⟨sU_in sU3, tyX3_ok, nmX3⟩
  | 4, h => cases h; exact ⟨sU_in sU4, tyX4_ok, nmX4⟩
  | 5, h => cases h; exact ⟨sU_in sU5, tyX5_ok, nmX5⟩
  | 6, h => cases h; exact ⟨sU_in sU6, tyX6_ok, nmX6⟩
  | 7, h => cases h; exact ⟨sU_in sU7, tyX7_ok, nmX7⟩
  | 8, h => cases h; exact ⟨sU_in sU8, tyX8_ok, nmX8⟩
  | 9, h => cases h; exact ⟨sU_in sU9, tyX9_ok, nmX9⟩
  | 10, h => cases h; exact ⟨sU_in sU10, tyX10_ok, nmX10⟩
  | 11, h => cases h; exact ⟨sU_in sU11, tyX11_ok, nmX11⟩
  | 12, h => cases h; exact ⟨sU_in sU12, tyX12_ok, nmX12⟩
  | k + 13, h => simp [vwCl] at h
end
section
/-! ===== cells ===== -/
def sTys (dA : Nat → ClassId) : List (ClassId × FieldType) := [(dA 0, .int), (dA 1, .long), (dA 2, .boolean), (dA 3, .object RX7), (dA 4, .object RX2), (dA 5, .array .int)]
/-- words that are not carried by the tables alone -/
def sNwl : List Jvm.Cond := [.arrayOver (.object RX7), .arrayOver (.object RX2), .arrayOver (.array .int), .castable RX9 RX2, .castable RX1 RX2, .castable RX5 RX2, .castable RX0 RX2, .castable RX4 RX2, .castable RX10 RX2, .methodLinkNest RX11 21 yX7_init RX11, .methodLinkNest RX11 41 yX8_init RX11]
/-- an object's field; an object of just this kind -/
def sFd (o n d : String) (v : Value) (a : Nat) (A : Nat → Prop) (U : State) (H : Heap) : Prop := ∃ (cf : ClassId) (k : Class) (i : Nat) (f : Field) (cell : Cell), U.fieldFound? o n d = some (cf, k, i, f) ∧ f.isStatic = false ∧ H[a]? = some cell ∧ cell.vm ≠ .unknown ∧ cell.vm.isStatics = false ∧ U.vm.assignable cell.cls cf = true ∧ cell.slots[f.slot]? = some v ∧ ¬ A a
theorem sFd_moved {o n d : String} {v : Value} {a : Nat} {A : Nat → Prop} {u U : State} {H : Heap} (hvm : u.vm.Alike U.vm) (h : sFd o n d v a A u H) : sFd o n d v a A U H := by
  obtain ⟨cf, k, i, f, cell, h1, h2, h3, h4, h5, h6, h7⟩ := h
  obtain ⟨k', hk', -⟩ := State.fieldFound?_setVm hvm h1
  exact ⟨cf, k', i, f, cell, hk', h2, h3, h4, h5, by rw [hvm.assignable]; exact h6, h7⟩
theorem sFd_kept {o n d : String} {v : Value} {a : Nat} {A : Nat → Prop} {U : State} {H H1 : Heap} (h : sFd o n d v a A U H) (hq : ∀ a : Nat, a < H.size → ¬ A a → H1[a]? = H[a]?) : sFd o n d v a A U H1 := by
  obtain ⟨cf, k, i, f, cell, h1, h2, h3, h4, h5, h6, h7, h8⟩ := h
  exact ⟨cf, k, i, f, cell, h1, h2, by rw [hq a (Array.getElem?_eq_some_iff.mp h3).1 h8]; exact h3, h4, h5, h6, h7, h8⟩
theorem sFd_ev {o n d : String} {v : Value} {a : Nat} {A : Nat → Prop} {s : State} {args : Array Value} {oc : Option Outcome} {idx : List Nat} {t : Term} (ht : t.eval args s oc idx s = some (.ref a)) (h : sFd o n d v a A s s.heap) : (Term.field t o n d).eval args s oc idx s = some v := by
  obtain ⟨cf, k, i, f, cell, h1, h2, h3, h4, h5, h6, h7, -⟩ := h
  rw [va_fe ht]
  simp [State.fieldOf?, State.fieldNamed?, h1, h2, h3, h4, h5, h6, h7]
def sEx (C : String) (a : Nat) (A : Nat → Prop) (U : State) (H : Heap) : Prop := ∃ (c : ClassId) (k : Class) (cell : Cell), U.vm.findClass C = some c ∧ H[a]? = some cell ∧ U.vm.classes[c]? = some k ∧ cell.vm.isStatics = false ∧ cell.cls = c ∧ (k.kind = .ordinary → cell.slots.size = k.instanceTypes.size) ∧ ¬ A a
theorem sEx_moved {C : String} {a : Nat} {A : Nat → Prop} {u U : State} {H : Heap} (hvm : u.vm.Alike U.vm) (h : sEx C a A u H) : sEx C a A U H := by
  obtain ⟨c, k, cell, h1, h2, h3, h4, h5, h6, h7⟩ := h
  obtain ⟨k', hk', he⟩ := hvm.2.2 _ _ h3
  exact ⟨c, k', cell, by rw [hvm.findClass]; exact h1, h2, hk', h4, h5, by rw [he]; exact h6, h7⟩
theorem sEx_kept {C : String} {a : Nat} {A : Nat → Prop} {U : State} {H H1 : Heap} (h : sEx C a A U H) (hq : ∀ a : Nat, a < H.size → ¬ A a → H1[a]? = H[a]?) : sEx C a A U H1 := by
  obtain ⟨c, k, cell, h1, h2, h3, h4, h5, h6, h7⟩ := h
  exact ⟨c, k, cell, h1, by rw [hq a (Array.getElem?_eq_some_iff.mp h2).1 h7]; exact h2, h3, h4, h5, h6, h7⟩
theorem sEx_ex {C : String} {a : Nat} {A : Nat → Prop} {s : State} {args : Array Value} {t : Term} (ht : t.eval args s none [] s = some (.ref a)) (h : sEx C a A s s.heap) : (Jvm.Cond.exactly t C).before args s = true := by
  obtain ⟨c, k, cell, h1, h2, h3, h4, h5, h6, h7⟩ := h
  simp only [Cond.before, Cond.holds, Cond.value, ht, h1, h2, h3, h4, h5]
  cases hk : k.kind <;> simp_all
/-- what the text reader's words are, and where -/
def sOuw (base : Nat) (b : Nat → Nat) (U : State) (H : Heap) : Prop := (∀ (i k : Nat) (tx : String), sTxI[i]? = some k → sTxT[i]? = some tx → vk_R RX6 k tx (b (2000000 + i)) U) ∧ (∃ adV : Nat → Nat, ∀ i : Nat, i < 7 → sEx "java/lang/String" (b (2000000 + i)) (fun q => base ≤ q) U H ∧ sFd "java/lang/String" "coder" "B" (.int 0) (b (2000000 + i)) (fun q => base ≤ q) U H ∧ sFd "java/lang/String" "value" "[B" (.ref (adV i)) (b (2000000 + i)) (fun q => base ≤ q) U H ∧ va_T .byte (adV i) (sTxL.getD i 0) (fun j => .int (sTxC i j)) (fun q => base ≤ q) U H) ∧ va_Z "java/lang/String" "COMPACT_STRINGS" "Z" (.int 1) (fun q => base ≤ q) U H ∧ ∃ fmt : Value, fmt.isRef = true ∧ va_Z "jdk/internal/util/Preconditions" "SIOOBE_FORMATTER" "Ljava/util/function/BiFunction;" fmt (fun q => base ≤ q) U H
theorem sOuw_kept {base : Nat} {b : Nat → Nat} {U : State} {H H1 : Heap} (hq : ∀ a : Nat, a < H.size → ¬ base ≤ a → H1[a]? = H[a]?) (h : sOuw base b U H) : sOuw base b U H1 := by
  obtain ⟨h1, ⟨adV, h2⟩, h3, fmt, h5, h4⟩ := h
  exact ⟨h1, ⟨adV, fun i hi => ⟨sEx_kept (h2 i hi).1 hq, sFd_kept (h2 i hi).2.1 hq, sFd_kept (h2 i hi).2.2.1 hq, (h2 i hi).2.2.2.kept hq⟩⟩, h3.kept hq, fmt, h5, h4.kept hq⟩
theorem sOuw_warm {base : Nat} {b : Nat → Nat} {s U : State} {H : Heap} (hW : s.WarmedH U.vm) (h : sOuw base b s H) : sOuw base b U H := by
  obtain ⟨h1, ⟨adV, h2⟩, h3, fmt, h5, h4⟩ := h
  exact ⟨fun i k tx e1 e2 => (h1 i k tx e1 e2).warm hW, ⟨adV, fun i hi => ⟨sEx_moved hW.alike (h2 i hi).1, sFd_moved hW.alike (h2 i hi).2.1, sFd_moved hW.alike (h2 i hi).2.2.1, (h2 i hi).2.2.2.moved hW.alike⟩⟩, h3.moved hW.alike, fmt, h5, h4.moved hW.alike⟩
theorem sOuw_same {base : Nat} {b : Nat → Nat} {s U : State} {H : Heap} (e : s.vm = U.vm) (h : sOuw base b s H) : sOuw base b U H := by
  obtain ⟨h1, ⟨adV, h2⟩, h3, fmt, h5, h4⟩ := h
  have ha : s.vm.Alike U.vm := by rw [e]; exact Vm.Alike.refl _
  exact ⟨fun i k tx e1 e2 => (h1 i k tx e1 e2).same e.symm, ⟨adV, fun i hi => ⟨sEx_moved ha (h2 i hi).1, sFd_moved ha (h2 i hi).2.1, sFd_moved ha (h2 i hi).2.2.1, (h2 i hi).2.2.2.moved ha⟩⟩, h3.moved ha, fmt, h5, h4.moved ha⟩
def sNw (U : State) : Prop := ∀ w ∈ sNwl, w.before #[] U = true
def sEnv (p : Program) (s : State) (m : MethodId) (c : Code) (args : Array Value) (cc : ByteArray) (nL base : Nat) (b : Nat → Nat) (D : va_G) (dA : Nat → ClassId) (own : String) : Prop :=
  p.tables.exec = Jvm.exec ∧ c.code = cc ∧ c.maxLocals = nL ∧ s.vm.findClass own = some m.cls ∧ (∀ w ∈ sTB, w.before args s = true) ∧ va_K D vwCl (sTys dA) s ∧ base ≤ s.heap.size ∧ sNw s ∧ sOuw base b s s.heap
def sSt (base : Nat) (b : Nat → Nat) (D : va_G) (dA : Nat → ClassId) (s : State) (h : sHp) (H : Heap) (locs : List Loc) : Prop := va_P D vwCl (rW (sAd base b) dA h) H ∧ va_S (fun q => base ≤ q) s.heap H locs ∧ h.length ≤ 1000000
section HEAP
variable {p : Program} {l : Launch} {e : Env} {R : Room} {s : State} {m : MethodId} {args : Array Value} {below : List Frame} {meth : Method} {c : Code} {H : Heap} {locs : List Loc} {cells slots : Nat} {Q : State → Prop} {cc : ByteArray} {pc : Nat} {ls : Array Slot} {nL base : Nat} {b : Nat → Nat} {D : va_G} {dA : Nat → ClassId} {own : String}
theorem sFit_ok {σ : Nat → Nat} {ty : FieldType} {v : Value} (h : sFit ty v = true) : narrow ty (rV σ v) = rV σ v ∧ fits ty (rV σ v) = true := by
  unfold sFit at h
  split at h
  · exact ⟨rfl, rfl⟩
  · exact ⟨rfl, rfl⟩
  · rcases of_decide_eq_true h with rfl | rfl
    · exact ⟨show narrow .boolean (.int 0) = .int 0 by decide, show fits .boolean (.int 0) = true by decide⟩
    · exact ⟨show narrow .boolean (.int 1) = .int 1 by decide, show fits .boolean (.int 1) = true by decide⟩
  · exact ⟨rfl, rfl⟩
  · exact ⟨rfl, rfl⟩
  · exact ⟨rfl, rfl⟩
  · exact ⟨rfl, rfl⟩
  · cases h
theorem s_cls {h : sHp} (S : sSt base b D dA s h H locs) {a ci : Nat} {fs : List Value} (ha : h[a]? = some (.inr (ci, fs))) : ∃ q, vwCl[ci]? = some q := by
  have h1 := S.1 a _ (rW_at ha)
  obtain ⟨q, hq, -⟩ := h1
  exact ⟨q, hq⟩
def sSame (ref : String) (q : vw_C) (j : Nat) : Prop := ref = (q.2.1 j).1 ∨ Jvm.Cond.sameField ref (q.2.1 j).1 (q.2.1 j).2.1 (q.2.1 j).2.2.1 ∈ sTB
theorem s_same (hts : ∀ w ∈ sTB, w.before args s = true) {ref : String} {q : vw_C} {j : Nat} (h : sSame ref q j) : ∀ x, s.fieldFound? (q.2.1 j).1 (q.2.1 j).2.1 (q.2.1 j).2.2.1 = some x → s.fieldFound? ref (q.2.1 j).2.1 (q.2.1 j).2.2.1 = some x := by
  intro x hx
  rcases h with e | e
  · rw [e]; exact hx
  · exact u_same (hts _ e) x hx
def sGetOk (own : String) (idx k : Nat) : Prop := ∃ ref : String, ∀ (ci : Nat) (q : vw_C), vwCl[ci]? = some q → sGrp ci = k / 64 → k % 64 < q.2.2 ∧ Jvm.Cond.fieldLink own idx ref (q.2.1 (k % 64)).2.1 (q.2.1 (k % 64)).2.2.1 ∈ sTB ∧ sSame ref q (k % 64)
theorem s_get (E : sEnv p s m c args cc nL base b D dA own) {h h' : sHp} (S : sSt base b D dA s h H locs) {k idx : Nat} (hdg : decode cc pc = .ok (.getfield idx, 3)) (hf : sGetOk own idx k) {st st' : List Value} (hh : sGetF k st h = some (st', h'))
    (kk : h' = h → W p l e R s m args below meth c H locs cells slots Q (F0 m (pc + 3) ls (rS (sAd base b) st'))) : W p l e R s m args below meth c H locs cells slots Q (F0 m pc ls (rS (sAd base b) st)) := by
  obtain ⟨hx, hb, hml, hown, hts, hK, hbs, hnw, hou⟩ := E
  obtain ⟨ref, hf⟩ := hf
  unfold sGetF at hh
  split at hh
  · split at hh
    · rename_i ci fs ha
      split at hh
      · rename_i hg
        split at hh
        · rename_i v hv
          cases hh
          obtain ⟨q, hq⟩ := s_cls S ha
          obtain ⟨f1, f2, f3⟩ := hf ci q hq hg
          obtain ⟨C, T, N⟩ := q
          exact va_get hx hb hts (sCF_all ci _ hq).1 hown hK S.1 _ (rW_at ha) hq (k % 64) f1 (hts _ f2) (s_same hts f3) (v := rV (sAd base b) v) (by rw [List.getElem?_map, hv]; rfl) hdg (kk rfl)
        · cases hh
      · cases hh
    · cases hh
  · cases hh
def sPutOk (own : String) (ini : Prop) (idx k : Nat) : Prop := ∃ ref : String, ∀ (ci : Nat) (q : vw_C), vwCl[ci]? = some q → sGrp ci = k / 64 → k % 64 < q.2.2 ∧ Jvm.Cond.fieldLink own idx ref (q.2.1 (k % 64)).2.1 (q.2.1 (k % 64)).2.2.1 ∈ sTB ∧ sSame ref q (k % 64) ∧ ((q.2.1 (k % 64)).2.2.2 = true → ini ∧ (q.2.1 (k % 64)).1 = own)
theorem s_put (E : sEnv p s m c args cc nL base b D dA own) {h h' : sHp} (S : sSt base b D dA s h H locs) {k idx : Nat} (hdg : decode cc pc = .ok (.putfield idx, 3)) {ini : Prop} (hini : ini → meth.name = "<init>") (hf : sPutOk own ini idx k) {st st' : List Value} (hh : sPutF k st h = some (st', h'))
    (kk : ∀ (H1 : Heap) (locs1 : List Loc), sSt base b D dA s h' H1 locs1 → h'.length = h.length → sSl h' = sSl h → W p l e R s m args below meth c H1 locs1 cells slots Q (F0 m (pc + 3) ls (rS (sAd base b) st'))) : W p l e R s m args below meth c H locs cells slots Q (F0 m pc ls (rS (sAd base b) st)) := by
  obtain ⟨hx, hb, hml, hown, hts, hK, hbs, hnw, hou⟩ := E
  obtain ⟨ref, hf⟩ := hf
  unfold sPutF at hh
  split at hh
  · rename_i v a r
    split at hh
    · rename_i ci fs ha
      split at hh
      · rename_i hg
        cases hh
        obtain ⟨hg, hl, hfit⟩ := hg
        obtain ⟨q, hq⟩ := s_cls S ha
        obtain ⟨f1, f2, f3, f4⟩ := hf ci q hq hg
        obtain ⟨C, T, N⟩ := q
        obtain ⟨c1, c2, c3⟩ := sCF_all ci _ hq
        obtain ⟨n1, n2⟩ := sFit_ok (σ := sAd base b) hfit
        have fin : ∀ (H1 : Heap) (locs1 : List Loc), va_P D vwCl ((rW (sAd base b) dA h).set a (sAd base b a, .inr (ci, (fs.map (rV (sAd base b))).set (k % 64) (rV (sAd base b) v)))) H1 → va_D (fun q => base ≤ q) ((rW (sAd base b) dA h).set a (sAd base b a, .inr (ci, (fs.map (rV (sAd base b))).set (k % 64) (rV (sAd base b) v)))) → va_S (fun q => base ≤ q) s.heap H1 locs1 → W p l e R s m args below meth c H1 locs1 cells slots Q (F0 m (pc + 3) ls (rS (sAd base b) st')) := by
          intro H1 l1 P1 _ S1
          refine kk H1 l1 ⟨?_, S1, by rw [List.length_set]; exact S.2.2⟩ (by rw [List.length_set]) (sSl_set ha (by show (fs.set _ _).length = fs.length; rw [List.length_set]))
          rw [← rW_set]
          show va_P D vwCl ((rW (sAd base b) dA h).set a (sAd base b a, .inr (ci, (fs.set (k % 64) v).map (rV (sAd base b))))) H1
          rw [List.map_set]
          exact P1
        cases hfl : (T (k % 64)).2.2.2 with
        | false => exact va_put hx hb hts c1 (sTy ci) c2 c3 hown hK S.1 (rW_apart S.2.2) S.2.1 a (rW_at ha) hq (k % 64) f1 (hts _ f2) (s_same hts f3) hfl (c2 _ f1) n1 n2 (by rw [List.length_map]; exact hl) hdg fin
        | true =>
          obtain ⟨g1, g2⟩ := f4 hfl
          exact va_putF hx hb hts c1 (sTy ci) c2 c3 hown hK S.1 (rW_apart S.2.2) S.2.1 a (rW_at ha) hq (k % 64) f1 (hts _ f2) (s_same hts f3) hfl (hini g1) g2 (c2 _ f1) n1 n2 (by rw [List.length_map]; exact hl) hdg fin
      · cases hh
    · cases hh
  · cases hh
theorem sUpd_map (σ : Nat → Nat) (f : Nat → Option Nat) (i : Nat) (r : Option Nat) : (fun j => (va_up f i r j).map σ) = va_up (fun j => (f j).map σ) i (r.map σ) := by
  funext j
  unfold va_up
  by_cases e : j = i <;> simp [e]
theorem s_ldAI (E : sEnv p s m c args cc nL base b D dA own) {h h' : sHp} (S : sSt base b D dA s h H locs) (hdg : decode cc pc = .ok (.iaload, 1)) {st st' : List Value} (hh : sLdAI 0 st h = some (st', h'))
    (kk : h' = h → W p l e R s m args below meth c H locs cells slots Q (F0 m (pc + 1) ls (rS (sAd base b) st'))) : W p l e R s m args below meth c H locs cells slots Q (F0 m pc ls (rS (sAd base b) st)) := by
  obtain ⟨hx, hb, hml, hown, hts, hK, hbs, hnw, hou⟩ := E
  unfold sLdAI at hh
  split at hh
  · split at hh
    · rename_i t n f ha
      split at hh
      · rename_i hg
        cases hh
        obtain ⟨rfl, hin⟩ := hg
        exact va_iald hx hb hK S.1 _ 0 (rW_at ha) rfl hin hdg (kk rfl)
      · cases hh
    · cases hh
  · cases hh
theorem s_ldAZ (E : sEnv p s m c args cc nL base b D dA own) {h h' : sHp} (S : sSt base b D dA s h H locs) (hdg : decode cc pc = .ok (.baload, 1)) {st st' : List Value} (hh : sLdAI 2 st h = some (st', h'))
    (kk : h' = h → W p l e R s m args below meth c H locs cells slots Q (F0 m (pc + 1) ls (rS (sAd base b) st'))) : W p l e R s m args below meth c H locs cells slots Q (F0 m pc ls (rS (sAd base b) st)) := by
  obtain ⟨hx, hb, hml, hown, hts, hK, hbs, hnw, hou⟩ := E
  unfold sLdAI at hh
  split at hh
  · split at hh
    · rename_i t n f ha
      split at hh
      · rename_i hg
        cases hh
        obtain ⟨rfl, hin⟩ := hg
        exact va_zald hx hb hK S.1 _ 2 (rW_at ha) rfl hin hdg (kk rfl)
      · cases hh
    · cases hh
  · cases hh
theorem s_ldAL (E : sEnv p s m c args cc nL base b D dA own) {h h' : sHp} (S : sSt base b D dA s h H locs) (hdg : decode cc pc = .ok (.laload, 1)) {st st' : List Value} (hh : sLdAL st h = some (st', h'))
    (kk : h' = h → W p l e R s m args below meth c H locs cells slots Q (F0 m (pc + 1) ls (rS (sAd base b) st'))) : W p l e R s m args below meth c H locs cells slots Q (F0 m pc ls (rS (sAd base b) st)) := by
  obtain ⟨hx, hb, hml, hown, hts, hK, hbs, hnw, hou⟩ := E
  unfold sLdAL at hh
  split at hh
  · split at hh
    · rename_i t n f ha
      split at hh
      · rename_i hg
        cases hh
        obtain ⟨rfl, hin⟩ := hg
        exact va_lald hx hb hK S.1 _ 1 (rW_at ha) rfl hin hdg (kk rfl)
      · cases hh
    · cases hh
  · cases hh
theorem s_ldAA (E : sEnv p s m c args cc nL base b D dA own) {h h' : sHp} (S : sSt base b D dA s h H locs) (hdg : decode cc pc = .ok (.aaload, 1)) {st st' : List Value} (hh : sLdAA st h = some (st', h'))
    (kk : h' = h → W p l e R s m args below meth c H locs cells slots Q (F0 m (pc + 1) ls (rS (sAd base b) st'))) : W p l e R s m args below meth c H locs cells slots Q (F0 m pc ls (rS (sAd base b) st)) := by
  obtain ⟨hx, hb, hml, hown, hts, hK, hbs, hnw, hou⟩ := E
  unfold sLdAA at hh
  split at hh
  · rename_i i a r
    split at hh
    · rename_i t n f ha
      split at hh
      · rename_i hg
        cases hh
        obtain ⟨ht, hin⟩ := hg
        have hlt : i.toNatClampNeg < n := Nat.not_le.mp fun q => hin (Or.inr q)
        have key : ∀ (t0 : Nat) (ty : FieldType), (sTys dA)[t0]? = some (dA t, ty) → ty.isReference = true → W p l e R s m args below meth c H locs cells slots Q (F0 m pc ls (rS (sAd base b) (.int i :: .ref a :: r))) := by
          intro t0 ty h1 h2
          have hPa : H[sAd base b a]? = some (vp_cell (dA t) (n, .inr (.inr (.inr (.inr (fun j => (f j).map (sAd base b))))))) := S.1 _ _ (rW_at ha)
          rw [vp_cell_q] at hPa
          refine W.aald (v := va_rf ((f i.toNatClampNeg).map (sAd base b))) (ty := ty) hx hb hPa ((hK.2 t0 _ h1).1 n (fun j => va_rf ((f j).map (sAd base b)))) h2 (fun q => by cases q) (by rw [arrV_size]; exact hin) (by rw [arrV_read _ _ hlt]) rfl rfl hdg ?_
          have k2 := kk rfl
          rw [rS, List.map_cons, rV_rf] at k2
          exact k2
        rcases ht with rfl | rfl | rfl
        · exact key 3 (.object RX7) rfl rfl
        · exact key 4 (.object RX2) rfl rfl
        · exact key 5 (.array .int) rfl rfl
      · cases hh
    · cases hh
  · cases hh
theorem s_stAI (E : sEnv p s m c args cc nL base b D dA own) {h h' : sHp} (S : sSt base b D dA s h H locs) (hdg : decode cc pc = .ok (.iastore, 1)) {st st' : List Value} (hh : sStAI st h = some (st', h'))
    (kk : ∀ (H1 : Heap) (locs1 : List Loc), sSt base b D dA s h' H1 locs1 → h'.length = h.length → sSl h' = sSl h → W p l e R s m args below meth c H1 locs1 cells slots Q (F0 m (pc + 1) ls (rS (sAd base b) st'))) : W p l e R s m args below meth c H locs cells slots Q (F0 m pc ls (rS (sAd base b) st)) := by
  obtain ⟨hx, hb, hml, hown, hts, hK, hbs, hnw, hou⟩ := E
  unfold sStAI at hh
  split at hh
  · split at hh
    · rename_i t n f ha
      split at hh
      · rename_i hg
        cases hh
        obtain ⟨rfl, hin⟩ := hg
        refine va_iast hx hb hK S.1 (rW_apart S.2.2) S.2.1 _ 0 (rW_at ha) rfl hin hdg fun H1 l1 P1 _ S1 => kk H1 l1 ⟨?_, S1, by rw [List.length_set]; exact S.2.2⟩ (by rw [List.length_set]) (sSl_set ha rfl)
        rw [← rW_set]
        exact P1
      · cases hh
    · cases hh
  · cases hh
theorem s_stAZ (E : sEnv p s m c args cc nL base b D dA own) {h h' : sHp} (S : sSt base b D dA s h H locs) (hdg : decode cc pc = .ok (.bastore, 1)) {st st' : List Value} (hh : sStAZ st h = some (st', h'))
    (kk : ∀ (H1 : Heap) (locs1 : List Loc), sSt base b D dA s h' H1 locs1 → h'.length = h.length → sSl h' = sSl h → W p l e R s m args below meth c H1 locs1 cells slots Q (F0 m (pc + 1) ls (rS (sAd base b) st'))) : W p l e R s m args below meth c H locs cells slots Q (F0 m pc ls (rS (sAd base b) st)) := by
  obtain ⟨hx, hb, hml, hown, hts, hK, hbs, hnw, hou⟩ := E
  unfold sStAZ at hh
  split at hh
  · rename_i x i a r
    split at hh
    · rename_i t n f ha
      split at hh
      · rename_i hg
        cases hh
        obtain ⟨rfl, hx01, hin⟩ := hg
        refine va_zast hx hb hK S.1 (rW_apart S.2.2) S.2.1 _ 2 (rW_at ha) rfl hin hdg fun H1 l1 P1 _ S1 => kk H1 l1 ⟨?_, S1, by rw [List.length_set]; exact S.2.2⟩ (by rw [List.length_set]) (sSl_set ha rfl)
        have hz : vp_nar .boolean x = x := by rcases hx01 with rfl | rfl <;> decide
        rw [hz] at P1
        rw [← rW_set]
        exact P1
      · cases hh
    · cases hh
  · cases hh
theorem s_stAL (E : sEnv p s m c args cc nL base b D dA own) {h h' : sHp} (S : sSt base b D dA s h H locs) (hdg : decode cc pc = .ok (.lastore, 1)) {st st' : List Value} (hh : sStAL st h = some (st', h'))
    (kk : ∀ (H1 : Heap) (locs1 : List Loc), sSt base b D dA s h' H1 locs1 → h'.length = h.length → sSl h' = sSl h → W p l e R s m args below meth c H1 locs1 cells slots Q (F0 m (pc + 1) ls (rS (sAd base b) st'))) : W p l e R s m args below meth c H locs cells slots Q (F0 m pc ls (rS (sAd base b) st)) := by
  obtain ⟨hx, hb, hml, hown, hts, hK, hbs, hnw, hou⟩ := E
  unfold sStAL at hh
  split at hh
  · split at hh
    · rename_i t n f ha
      split at hh
      · rename_i hg
        cases hh
        obtain ⟨rfl, hin⟩ := hg
        refine va_last hx hb hK S.1 (rW_apart S.2.2) S.2.1 _ 1 (rW_at ha) rfl hin hdg fun H1 l1 P1 _ S1 => kk H1 l1 ⟨?_, S1, by rw [List.length_set]; exact S.2.2⟩ (by rw [List.length_set]) (sSl_set ha rfl)
        rw [← rW_set]
        exact P1
      · cases hh
    · cases hh
  · cases hh
theorem s_cpy (E : sEnv p s m c args cc nL base b D dA own) (hsl : ls.size = nL) {h h' : sHp} (S : sSt base b D dA s h H locs) {idx : Nat} (hdg : decode cc pc = .ok (.invokestatic idx, 3)) (w1 : Jvm.Cond.methodLink own idx arraycopyName ∈ sTB) (w2 : Jvm.Cond.native arraycopyName ∈ sTB) (w3 : Jvm.Cond.static arraycopyName ∈ sTB) (w4 : Jvm.Cond.initialized "java/lang/System" ∈ sTB) (hRf : 1 ≤ R.frames) (hRl : 39 ≤ R.locals) {st st' : List Value} (hh : sCpy st h = some (st', h'))
    (kk : ∀ (H1 : Heap) (locs1 : List Loc), sSt base b D dA s h' H1 locs1 → h'.length = h.length → sSl h' = sSl h → W p l e R s m args below meth c H1 locs1 cells slots Q (F0 m (pc + 3) ls (rS (sAd base b) st'))) : W p l e R s m args below meth c H locs cells slots Q (F0 m pc ls (rS (sAd base b) st)) := by
  obtain ⟨hx, hb, hml, hown, hts, hK, hbs, hnw, hou⟩ := E
  unfold sCpy at hh
  split at hh
  · rename_i n dp a sp a0
    split at hh
    · rename_i n0 f n1 g ha0 ha
      split at hh
      · rename_i hg
        cases hh
        obtain ⟨h1, h2, h3, h4, h5⟩ := hg
        refine va_copyl (a := sAd base b a) (rest := []) hx hb (hml.trans hsl.symm) hown (hts _ w1) (hts _ w2) (hts _ w3) (hts _ w4) hK S.1 (rW_apart S.2.2) S.2.1 a0 a 1 1 (rW_at ha0) (rW_at ha) rfl rfl rfl h1 h2 h3 h4 h5 (fun _ _ => rfl) hRf (Nat.le_trans (by decide) hRl) hdg fun H1 l1 P1 _ S1 => kk H1 l1 ⟨?_, S1, by rw [List.length_set]; exact S.2.2⟩ (by rw [List.length_set]) (sSl_set ha rfl)
        rw [← rW_set]
        exact P1
      · cases hh
    · cases hh
  · cases hh
theorem s_ldcS (E : sEnv p s m c args cc nL base b D dA RX6) {i idx : Nat} (hi : i < 7) (hk : sTxI[i]? = some idx) (hdg : decode cc pc = .ok (.ldc idx, 2)) {st : List Value}
    (kk : W p l e R s m args below meth c H locs cells slots Q (F0 m (pc + 2) ls (rS (sAd base b) (.ref (2000000 + i) :: st)))) : W p l e R s m args below meth c H locs cells slots Q (F0 m pc ls (rS (sAd base b) st)) := by
  obtain ⟨hx, hb, hml, hown, hts, hK, hbs, hnw, hou⟩ := E
  obtain ⟨tx, htx⟩ : ∃ tx, sTxT[i]? = some tx := ⟨sTxT[i]'hi, List.getElem?_eq_getElem hi⟩
  refine va_ldcS hx hb hown (hou.1 i idx tx hk htx) hdg ?_
  have e : rS (sAd base b) (.ref (2000000 + i) :: st) = .ref (b (2000000 + i)) :: rS (sAd base b) st := by
    show Value.ref (sAd base b (2000000 + i)) :: _ = _
    unfold sAd
    rw [if_pos (by omega)]
  rw [e] at kk
  exact kk
theorem s_castOk (hnw : sNw s) {ci : Nat} {q : vw_C} (hq : vwCl[ci]? = some q) (hg : sGrp ci = 2) (hl : ci < 11) : ci = 2 ∨ (Jvm.Cond.castable q.1 RX2).before #[] s = true := by
  match ci, hq, hg, hl with
  | 0, hq, _, _ => cases hq; exact Or.inr (hnw _ (by simp [sNwl]))
  | 1, hq, _, _ => cases hq; exact Or.inr (hnw _ (by simp [sNwl]))
  | 2, hq, _, _ => exact Or.inl rfl
  | 3, hq, hg, _ => exact absurd hg (by decide)
  | 4, hq, _, _ => cases hq; exact Or.inr (hnw _ (by simp [sNwl]))
  | 5, hq, _, _ => cases hq; exact Or.inr (hnw _ (by simp [sNwl]))
  | 6, hq, hg, _ => exact absurd hg (by decide)
  | 7, hq, hg, _ => exact absurd hg (by decide)
  | 8, hq, hg, _ => exact absurd hg (by decide)
  | 9, hq, _, _ => cases hq; exact Or.inr (hnw _ (by simp [sNwl]))
  | 10, hq, _, _ => cases hq; exact Or.inr (hnw _ (by simp [sNwl]))
  | k + 11, _, _, hl => omega
theorem s_stAA (E : sEnv p s m c args cc nL base b D dA own) {h h' : sHp} (S : sSt base b D dA s h H locs) (hdg : decode cc pc = .ok (.aastore, 1)) {st st' : List Value} (hh : sStAA st h = some (st', h'))
    (kk : ∀ (H1 : Heap) (locs1 : List Loc), sSt base b D dA s h' H1 locs1 → h'.length = h.length → sSl h' = sSl h → W p l e R s m args below meth c H1 locs1 cells slots Q (F0 m (pc + 1) ls (rS (sAd base b) st'))) : W p l e R s m args below meth c H locs cells slots Q (F0 m pc ls (rS (sAd base b) st)) := by
  obtain ⟨hx, hb, hml, hown, hts, hK, hbs, hnw, hou⟩ := E
  unfold sStAA at hh
  split at hh
  · rename_i q i a r
    split at hh
    · rename_i t n f ha
      split at hh
      · rename_i hg
        cases hh
        obtain ⟨hob, hin⟩ := hg
        have fin : ∀ (H1 : Heap) (l1 : List Loc), va_P D vwCl ((rW (sAd base b) dA h).set a (sAd base b a, .inl (dA t, n, .inr (.inr (.inr (.inr (va_up (fun j => (f j).map (sAd base b)) i.toNatClampNeg (some (sAd base b q))))))))) H1 → va_D (fun q => base ≤ q) ((rW (sAd base b) dA h).set a (sAd base b a, .inl (dA t, n, .inr (.inr (.inr (.inr (va_up (fun j => (f j).map (sAd base b)) i.toNatClampNeg (some (sAd base b q))))))))) → va_S (fun q => base ≤ q) s.heap H1 l1 → W p l e R s m args below meth c H1 l1 cells slots Q (F0 m (pc + 1) ls (rS (sAd base b) st')) := by
          intro H1 l1 P1 _ S1
          refine kk H1 l1 ⟨?_, S1, by rw [List.length_set]; exact S.2.2⟩ (by rw [List.length_set]) (sSl_set ha rfl)
          rw [← rW_set]
          show va_P D vwCl ((rW (sAd base b) dA h).set a (sAd base b a, .inl (dA t, n, .inr (.inr (.inr (.inr (fun j => (va_up f i.toNatClampNeg (some q) j).map (sAd base b)))))))) H1
          rw [sUpd_map]
          exact P1
        unfold sIsObj at hob
        split at hob
        · rename_i ci fs hq
          simp only [Bool.or_eq_true, Bool.and_eq_true, beq_iff_eq, decide_eq_true_eq] at hob
          obtain ⟨qc, hqc⟩ := s_cls S hq
          rcases hob with ⟨rfl, rfl⟩ | ⟨rfl, hg2, hl⟩
          · cases hqc
            refine va_astqM (E := RX7) hx hb hK S.1 (rW_apart S.2.2) S.2.1 _ 3 (rW_at ha) rfl (va_rAny hK S.1 (rW_at hq) rfl ?_) hin hdg fin
            intro comp c0 h1 h2
            cases h1.symm.trans h2
            have h3 := (hK.1 7 _ rfl).2
            cases h3.1.symm.trans h1
            exact va_assign h3
          · refine va_astqM (E := RX2) hx hb hK S.1 (rW_apart S.2.2) S.2.1 _ 4 (rW_at ha) rfl (va_rAny hK S.1 (rW_at hq) hqc ?_) hin hdg fin
            intro comp c0 h1 h2
            rcases s_castOk hnw hqc hg2 hl with rfl | hc
            · cases hqc
              cases h1.symm.trans h2
              have h3 := (hK.1 2 _ rfl).2
              cases h3.1.symm.trans h1
              exact va_assign h3
            · obtain ⟨c3, c4, e3, e4, hasg⟩ := Cond.castable_spec hc
              cases h2.symm.trans e3
              cases h1.symm.trans e4
              exact hasg
        · cases hob
      · cases hh
    · cases hh
  · rename_i i a r
    split at hh
    · rename_i t n f ha
      split at hh
      · rename_i hg
        cases hh
        obtain ⟨ht, hin⟩ := hg
        have fin : ∀ (H1 : Heap) (l1 : List Loc), va_P D vwCl ((rW (sAd base b) dA h).set a (sAd base b a, .inl (dA t, n, .inr (.inr (.inr (.inr (va_up (fun j => (f j).map (sAd base b)) i.toNatClampNeg none))))))) H1 → va_D (fun q => base ≤ q) ((rW (sAd base b) dA h).set a (sAd base b a, .inl (dA t, n, .inr (.inr (.inr (.inr (va_up (fun j => (f j).map (sAd base b)) i.toNatClampNeg none))))))) → va_S (fun q => base ≤ q) s.heap H1 l1 → W p l e R s m args below meth c H1 l1 cells slots Q (F0 m (pc + 1) ls (rS (sAd base b) st')) := by
          intro H1 l1 P1 _ S1
          refine kk H1 l1 ⟨?_, S1, by rw [List.length_set]; exact S.2.2⟩ (by rw [List.length_set]) (sSl_set ha rfl)
          rw [← rW_set]
          show va_P D vwCl ((rW (sAd base b) dA h).set a (sAd base b a, .inl (dA t, n, .inr (.inr (.inr (.inr (fun j => (va_up f i.toNatClampNeg none j).map (sAd base b)))))))) H1
          rw [sUpd_map]
          exact P1
        rcases ht with rfl | rfl
        · exact va_astqN hx hb hK S.1 (rW_apart S.2.2) S.2.1 _ 3 (rW_at ha) rfl hin hdg fin
        · exact va_astqN hx hb hK S.1 (rW_apart S.2.2) S.2.1 _ 4 (rW_at ha) rfl hin hdg fin
      · cases hh
    · cases hh
  · cases hh
theorem rA_len (σ : Nat → Nat) (a : vp_A) : (rA σ a).1 = a.1 := by
  obtain ⟨n, d⟩ := a
  rcases d with d | d | d | d | d <;> rfl
theorem s_alen (E : sEnv p s m c args cc nL base b D dA own) {h h' : sHp} (S : sSt base b D dA s h H locs) (hdg : decode cc pc = .ok (.arraylength, 1)) {st st' : List Value} (hh : sALen st h = some (st', h'))
    (kk : h' = h → W p l e R s m args below meth c H locs cells slots Q (F0 m (pc + 1) ls (rS (sAd base b) st'))) : W p l e R s m args below meth c H locs cells slots Q (F0 m pc ls (rS (sAd base b) st)) := by
  obtain ⟨hx, hb, hml, hown, hts, hK, hbs, hnw, hou⟩ := E
  unfold sALen at hh
  split at hh
  · split at hh
    · rename_i t n d ha
      split at hh
      · rename_i ht
        cases hh
        have hty : ∃ ty, (sTys dA)[t]? = some (dA t, ty) := by
          match t, ht with
          | 0, _ => exact ⟨_, rfl⟩
          | 1, _ => exact ⟨_, rfl⟩
          | 2, _ => exact ⟨_, rfl⟩
          | 3, _ => exact ⟨_, rfl⟩
          | 4, _ => exact ⟨_, rfl⟩
          | 5, _ => exact ⟨_, rfl⟩
        obtain ⟨ty, hty⟩ := hty
        exact va_alen hx hb hK S.1 _ t (rW_at ha) hty (by rw [rA_len]) hdg (kk rfl)
      · cases hh
    · cases hh
  · cases hh
end HEAP
end
section
/-! ===== new cells, constants, jumps, ends ===== -/
section NEW
variable {p : Program} {l : Launch} {e : Env} {R : Room} {s : State} {m : MethodId} {args : Array Value} {below : List Frame} {meth : Method} {c : Code} {H : Heap} {locs : List Loc} {cells slots : Nat} {Q : State → Prop} {cc : ByteArray} {pc : Nat} {ls : Array Slot} {nL base : Nat} {b : Nat → Nat} {D : va_G} {dA : Nat → ClassId} {own : String}
theorem W_size {g : JFrame} (k : H.size ≤ s.heap.size + cells → W p l e R s m args below meth c H locs cells slots Q g) : W p l e R s m args below meth c H locs cells slots Q g := fun T hT X => k (by rw [← hT]; exact X.heapSize) T hT X
theorem s_size {h : sHp} (S : sSt base b D dA s h H locs) (hb : base ≤ s.heap.size) (ac : s.heap.size + cells = base + h.length) (hz : H.size ≤ s.heap.size + cells) : H.size = base + h.length := by
  cases hl : h.length with
  | zero =>
    have := S.2.1.1
    omega
  | succ n =>
    have hn : n < h.length := by omega
    have h1 := (S.1 n _ (rW_at (List.getElem?_eq_getElem hn))).lt
    have h2 : sAd base b n = base + n := sAd_in (by have := S.2.2; omega)
    have h3 : sAd base b n < H.size := h1
    omega
theorem rV_def (σ : Nat → Nat) (ty : FieldType) : rV σ (defaultValue ty) = defaultValue ty := by cases ty <;> rfl
theorem s_push {h : sHp} (S : sSt base b D dA s h H locs) (hs : H.size = base + h.length) (hl : h.length < 1000000) {x : va_E} {H1 : Heap} (hx : va_at D vwCl (base + h.length, rC (sAd base b) dA x) H1) (ho : ∀ q, q < base + h.length → H1[q]? = H[q]?) (hz : H.size ≤ H1.size) : sSt base b D dA s (h ++ [x]) H1 locs := by
  refine ⟨?_, ⟨Nat.le_trans S.2.1.1 hz, fun q h1 h2 => (ho q (by have := S.2.1.1; omega)).trans (S.2.1.2.1 q h1 h2), S.2.1.2.2⟩, by rw [List.length_append]; exact hl⟩
  rw [rW_app, sAd_in hl]
  refine (S.1.kept fun k y hk => ho y.1 (by have := (S.1 k y hk).lt; omega)).app fun k y hk => ?_
  have h0 : k < 1 := (List.getElem?_eq_some_iff.mp hk).1
  rw [show k = 0 by omega] at hk
  cases hk
  exact hx
def sNewOk (own : String) (idx k : Nat) : Prop := ∃ q, vwCl[k]? = some q ∧ Jvm.Cond.classLink own idx q.1 ∈ sTB ∧ Jvm.Cond.instantiable q.1 q.2.2 ∈ sTB ∧ Jvm.Cond.initialized q.1 ∈ sTB
theorem s_new (E : sEnv p s m c args cc nL base b D dA own) {h h' : sHp} (S : sSt base b D dA s h H locs) (ac : s.heap.size + cells = base + h.length) {k idx : Nat} (hdg : decode cc pc = .ok (.new idx, 3)) (hf : sNewOk own idx k) {st st' : List Value} (hh : sNew k st h = some (st', h')) (hl : h'.length ≤ 1000000)
    (hc : cells + (h'.length - h.length) ≤ R.cells) (hs : slots + (sSl h' - sSl h) ≤ R.slots)
    (kk : ∀ (H1 : Heap), sSt base b D dA s h' H1 locs → W p l e R s m args below meth c H1 locs (cells + (h'.length - h.length)) (slots + (sSl h' - sSl h)) Q (F0 m (pc + 3) ls (rS (sAd base b) st'))) : W p l e R s m args below meth c H locs cells slots Q (F0 m pc ls (rS (sAd base b) st)) := by
  obtain ⟨hx, hb, hml, hown, hts, hK, hbs, hnw, hou⟩ := E
  obtain ⟨q, hq, f1, f2, f3⟩ := hf
  unfold sNew at hh
  split at hh
  · cases hh
    have hsz : sSl (h ++ [.inr (k, sDef k)]) - sSl h = q.2.2 := by
      rw [sSl_app]
      show sSl h + ((sDef k).length + 0) - sSl h = _
      have : (sDef k).length = q.2.2 := by unfold sDef sNF; rw [hq, List.length_map, List.length_range]
      omega
    have hln : (h ++ [(.inr (k, sDef k) : va_E)]).length - h.length = 1 := by rw [List.length_append]; simp
    rw [hln] at hc kk
    rw [hsz] at hs kk
    have hl1 : h.length < 1000000 := by rw [List.length_append] at hl; exact hl
    refine W_size fun hz => ?_
    have hH := s_size S hbs ac hz
    obtain ⟨C, T, N⟩ := q
    obtain ⟨c1, c2, c3⟩ := sCF_all k _ hq
    have hKn := hK.1 k _ hq
    refine W.newcK hx hb hown (hts _ f1) (hts _ f2) (hts _ f3) rfl hdg hc hs hKn.2.1 hH fun H1 kC hkC e1 z1 o1 => ?_
    have h2 := kk H1 (s_push S hH hl1 ⟨_, hq, (u_born (sTy k) hts c1 hKn hkC e1 c2).to fun j hj => ?_⟩ o1 (by omega))
    · rw [rS, List.map_cons] at h2
      have e5 : rV (sAd base b) (.ref h.length) = .ref (base + h.length) := by show Value.ref (sAd base b h.length) = _; rw [sAd_in hl1]
      rw [e5] at h2
      exact h2
    · have hN : sNF k = N := by unfold sNF; rw [hq]
      show defaultValue (sTy k j) = vp_V ((sDef k).map (rV (sAd base b))) j
      unfold vp_V sDef
      rw [hN, List.map_map, List.getD_eq_getElem?_getD, List.getElem?_map, List.getElem?_range hj]
      show _ = rV (sAd base b) (defaultValue (sTy k j))
      rw [rV_def]
  · cases hh
theorem s_newAt (E : sEnv p s m c args cc nL base b D dA own) {h : sHp} (S : sSt base b D dA s h H locs) (ac : s.heap.size + cells = base + h.length) {aty : ArrayType} (hdg : decode cc pc = .ok (.newarray aty, 2)) (hw : Jvm.Cond.arrayClass (newarray.typeOf aty) ∈ sTB) {n : Int32} {r : List Value} (hn : ¬ (n < 0 ∨ 100000 < n.toNatClampNeg)) (hl : h.length < 1000000)
    (hc : cells + 1 ≤ R.cells) (hs : slots + n.toNatClampNeg ≤ R.slots) {t : Nat} {d : vp_A} (ht : s.vm.findClass ("[" ++ (newarray.typeOf aty).toString) = some (dA t)) (hb8 : componentBytes (newarray.typeOf aty) ≤ 8) (hd : ∀ cA, vp_cell cA (rA (sAd base b) d) = arrV cA n.toNatClampNeg (fun _ => defaultValue (newarray.typeOf aty)))
    (kk : ∀ (H1 : Heap), sSt base b D dA s (h ++ [.inl (t, d)]) H1 locs → W p l e R s m args below meth c H1 locs (cells + 1) (slots + n.toNatClampNeg) Q (F0 m (pc + 2) ls (rS (sAd base b) (.ref h.length :: r)))) : W p l e R s m args below meth c H locs cells slots Q (F0 m pc ls (rS (sAd base b) (.int n :: r))) := by
  obtain ⟨hx, hb, hml, hown, hts, hK, hbs, hnw, hou⟩ := E
  refine W_size fun hz => ?_
  have hH := s_size S hbs ac hz
  have hn1 : ¬ n < 0 := fun q => hn (Or.inl q)
  have hn2 : n.toNatClampNeg ≤ 100000 := by
    rcases Nat.lt_or_ge 100000 n.toNatClampNeg with q | q
    · exact absurd (Or.inr q) hn
    · exact q
  refine va_newaK hx hb (hts _ hw) rfl hdg rfl hn1 rfl (Nat.le_trans (Nat.mul_le_mul hn2 hb8) (by decide)) hc hs hH fun H1 cA e1 z1 o1 hAr hNm => ?_
  have e : cA = dA t := Option.some.inj (hNm.symm.trans ht)
  subst e
  have h2 := kk H1 (s_push S hH hl (by
    show H1[base + h.length]? = some (vp_cell (dA t) (rA (sAd base b) d))
    rw [hd]
    exact e1) o1 (by omega))
  rw [rS, List.map_cons] at h2
  have e5 : rV (sAd base b) (.ref h.length) = .ref (base + h.length) := by show Value.ref (sAd base b h.length) = _; rw [sAd_in hl]
  rw [e5] at h2
  exact h2
theorem s_newA (E : sEnv p s m c args cc nL base b D dA own) {h h' : sHp} (S : sSt base b D dA s h H locs) (ac : s.heap.size + cells = base + h.length) {aty : ArrayType} (hdg : decode cc pc = .ok (.newarray aty, 2)) (hw : Jvm.Cond.arrayClass (newarray.typeOf aty) ∈ sTB) {st st' : List Value} (hh : sNewA aty st h = some (st', h')) (hl : h'.length ≤ 1000000)
    (hc : cells + (h'.length - h.length) ≤ R.cells) (hs : slots + (sSl h' - sSl h) ≤ R.slots)
    (kk : ∀ (H1 : Heap), sSt base b D dA s h' H1 locs → W p l e R s m args below meth c H1 locs (cells + (h'.length - h.length)) (slots + (sSl h' - sSl h)) Q (F0 m (pc + 2) ls (rS (sAd base b) st'))) : W p l e R s m args below meth c H locs cells slots Q (F0 m pc ls (rS (sAd base b) st)) := by
  have hK : va_K D vwCl (sTys dA) s := E.2.2.2.2.2.1
  have key : ∀ (x : va_E) (n : Nat), sSz x = n → (h ++ [x]).length - h.length = 1 ∧ sSl (h ++ [x]) - sSl h = n := by
    intro x n hx
    refine ⟨by rw [List.length_append]; simp, ?_⟩
    rw [sSl_app]
    show sSl h + (sSz x + 0) - sSl h = n
    omega
  unfold sNewA at hh
  split at hh
  · rename_i n r
    split at hh
    · cases hh
    · rename_i hn
      split at hh
      · cases hh
        obtain ⟨k1, k2⟩ := key (.inl (0, n.toNatClampNeg, .inl (fun _ => 0))) _ rfl
        rw [k1] at hc kk
        rw [k2] at hs kk
        rw [List.length_append] at hl
        exact s_newAt E S ac hdg hw hn hl hc hs (hK.2 0 _ rfl).2 (by decide) (fun cA => rfl) kk
      · cases hh
        obtain ⟨k1, k2⟩ := key (.inl (1, n.toNatClampNeg, .inr (.inl (fun _ => 0)))) _ rfl
        rw [k1] at hc kk
        rw [k2] at hs kk
        rw [List.length_append] at hl
        exact s_newAt E S ac hdg hw hn hl hc hs (hK.2 1 _ rfl).2 (by decide) (fun cA => rfl) kk
      · cases hh
        obtain ⟨k1, k2⟩ := key (.inl (2, n.toNatClampNeg, .inl (fun _ => 0))) _ rfl
        rw [k1] at hc kk
        rw [k2] at hs kk
        rw [List.length_append] at hl
        exact s_newAt E S ac hdg hw hn hl hc hs (hK.2 2 _ rfl).2 (by decide) (fun cA => rfl) kk
      · cases hh
  · cases hh
def sNewQOk (own : String) (idx k : Nat) : Prop := (k = 3 ∧ Jvm.Cond.classLink own idx RX7 ∈ sTB) ∨ (k = 4 ∧ Jvm.Cond.classLink own idx RX2 ∈ sTB)
theorem s_newQ (E : sEnv p s m c args cc nL base b D dA own) {h h' : sHp} (S : sSt base b D dA s h H locs) (ac : s.heap.size + cells = base + h.length) {k idx : Nat} (hdg : decode cc pc = .ok (.anewarray idx, 3)) (hf : sNewQOk own idx k) {st st' : List Value} (hh : sNewQ k st h = some (st', h')) (hl : h'.length ≤ 1000000)
    (hc : cells + (h'.length - h.length) ≤ R.cells) (hs : slots + (sSl h' - sSl h) ≤ R.slots)
    (kk : ∀ (H1 : Heap), sSt base b D dA s h' H1 locs → W p l e R s m args below meth c H1 locs (cells + (h'.length - h.length)) (slots + (sSl h' - sSl h)) Q (F0 m (pc + 3) ls (rS (sAd base b) st'))) : W p l e R s m args below meth c H locs cells slots Q (F0 m pc ls (rS (sAd base b) st)) := by
  obtain ⟨hx, hb, hml, hown, hts, hK, hbs, hnw, hou⟩ := E
  unfold sNewQ at hh
  split at hh
  · rename_i n r
    split at hh
    · cases hh
    · rename_i hn
      cases hh
      have hn1 : ¬ n < 0 := fun q => hn (Or.inl q)
      have hn2 : n.toNatClampNeg ≤ 100000 := by
        rcases Nat.lt_or_ge 100000 n.toNatClampNeg with q | q
        · exact absurd (Or.inr (Or.inl q)) hn
        · exact q
      have k1 : (h ++ [(.inl (k, n.toNatClampNeg, .inr (.inr (.inr (.inr (fun _ => none))))) : va_E)]).length - h.length = 1 := by rw [List.length_append]; simp
      have k2 : sSl (h ++ [(.inl (k, n.toNatClampNeg, .inr (.inr (.inr (.inr (fun _ => none))))) : va_E)]) - sSl h = n.toNatClampNeg := by
        rw [sSl_app]
        show sSl h + (n.toNatClampNeg + 0) - sSl h = _
        omega
      rw [k1] at hc kk
      rw [k2] at hs kk
      rw [List.length_append] at hl
      have hl1 : h.length < 1000000 := hl
      refine W_size fun hz => ?_
      have hH := s_size S hbs ac hz
      have go : ∀ (C : String), Jvm.Cond.classLink own idx C ∈ sTB → (Jvm.Cond.arrayOver (.object C)).before #[] s = true → s.vm.findClass ("[" ++ (FieldType.object C).toString) = some (dA k) → W p l e R s m args below meth c H locs cells slots Q (F0 m pc ls (rS (sAd base b) (.int n :: r))) := by
        intro C w1 w2 w3
        refine W.anew hx hb hown (hts _ w1) (va_AO.use w2) rfl hdg rfl hn1 (by omega) hc hs fun cA kA comp f1 f2 f3 f4 => ?_
        have e : cA = dA k := Option.some.inj (f1.symm.trans w3)
        subst e
        have h2 := kk _ (s_push (H1 := H.push { cls := dA k, slots := Array.replicate n.toNatClampNeg .null, vm := .none }) S hH hl1 (by
          show (H.push _)[base + h.length]? = some (vp_cell (dA k) (n.toNatClampNeg, .inr (.inr (.inr (.inr (fun _ => none))))))
          rw [vp_cell_q, ← hH, Array.getElem?_push_size, arrV_new]
          rfl) (fun q hq => by rw [Array.getElem?_push, if_neg (by omega)]) (by rw [Array.size_push]; omega))
        rw [rS, List.map_cons] at h2
        have e5 : rV (sAd base b) (.ref h.length) = .ref H.size := by show Value.ref (sAd base b h.length) = _; rw [sAd_in hl1, hH]
        rw [e5] at h2
        exact h2
      rcases hf with ⟨rfl, hf⟩ | ⟨rfl, hf⟩
      · obtain ⟨_, _, _, _, _, w⟩ := (hK.2 3 _ rfl).2
        exact go RX7 hf (hnw _ (by simp [sNwl])) w
      · obtain ⟨_, _, _, _, _, w⟩ := (hK.2 4 _ rfl).2
        exact go RX2 hf (hnw _ (by simp [sNwl])) w
  · cases hh
/-! jumps -/
theorem sTgt_of {off : Int} {t : Nat} (h : sTgt pc off = some t) : (pc : Int) + off = (t : Int) := by
  unfold sTgt at h
  split at h
  · rename_i t' e
    cases h
    exact e
  · cases h
theorem sIf_of {off : Int} {bb : Bool} {r st' : List Value} {pc' : Nat} (h : sIf pc off bb r = some (pc', st'))   : ∃ t : Nat, (pc : Int) + off = (t : Int) ∧ pc' = (bif bb then t else pc + 3) ∧ st' = r := by
  unfold sIf at h
  split at h
  · rename_i t e
    cases h
    exact ⟨t, sTgt_of e, rfl, rfl⟩
  · cases h
set_option maxHeartbeats 4000000 in
theorem s_jmp (hx : p.tables.exec = Jvm.exec) (hb : c.code = cc) {σ : Nat → Nat} {ins : Instr} {pc' len : Nat} {st st' : List Value} (h : sJmp ins pc st = some (pc', st')) (hdg : decode cc pc = .ok (ins, len)) (hlen : (∃ d lo hi o, ins = .tableswitch d lo hi o) ∨ (∃ d ps, ins = .lookupswitch d ps ∧ (ps.toList.zip (ps.toList.drop 1)).all (fun (a, next) => a.1 < next.1) = true) ∨ (len = 3 ∧ ∀ d ps, ins ≠ .lookupswitch d ps))
    (kk : W p l e R s m args below meth c H locs cells slots Q (F0 m pc' ls (rS σ st'))) : W p l e R s m args below meth c H locs cells slots Q (F0 m pc ls (rS σ st)) := by
  unfold sJmp at h
  split at h
  · rename_i off
    rcases hlen with ⟨_, _, _, _, q⟩ | ⟨_, _, q, _⟩ | ⟨rfl, -⟩
    · cases q
    · cases q
    obtain ⟨t, h1, h2⟩ := Option.map_eq_some_iff.mp h
    cases h2
    exact lv_goto hx hb hdg (sTgt_of h1) kk
  · rename_i cnd off
    rcases hlen with ⟨_, _, _, _, q⟩ | ⟨_, _, q, _⟩ | ⟨rfl, -⟩
    · cases q
    · cases q
    split at h
    · rename_i y x r
      obtain ⟨t, ht, h2, rfl⟩ := sIf_of h
      subst h2
      cases cnd
      · exact lv_icmp_eq hx hb hdg ht (fun q => by rw [show sC2 .eq x y = true from decide_eq_true q] at kk; exact kk) (fun q => by rw [show sC2 .eq x y = false from decide_eq_false q] at kk; exact kk)
      · exact lv_icmp_ne hx hb hdg ht (fun q => by rw [show sC2 .ne x y = true from by show (!decide (x = y)) = true; rw [decide_eq_false q]; rfl] at kk; exact kk) (fun q => by rw [show sC2 .ne x y = false from by show (!decide (x = y)) = false; rw [decide_eq_true q]; rfl] at kk; exact kk)
      · exact lv_icmp_lt hx hb hdg ht (fun q => by rw [show sC2 .lt x y = true from decide_eq_true q] at kk; exact kk) (fun q => by rw [show sC2 .lt x y = false from decide_eq_false q] at kk; exact kk)
      · exact lv_icmp_ge hx hb hdg ht (fun q => by rw [show sC2 .ge x y = true from decide_eq_true q] at kk; exact kk) (fun q => by rw [show sC2 .ge x y = false from decide_eq_false q] at kk; exact kk)
      · exact lv_icmp_gt hx hb hdg ht (fun q => by rw [show sC2 .gt x y = true from decide_eq_true q] at kk; exact kk) (fun q => by rw [show sC2 .gt x y = false from decide_eq_false q] at kk; exact kk)
      · exact lv_icmp_le hx hb hdg ht (fun q => by rw [show sC2 .le x y = true from decide_eq_true q] at kk; exact kk) (fun q => by rw [show sC2 .le x y = false from decide_eq_false q] at kk; exact kk)
    · cases h
  · rename_i cnd off
    rcases hlen with ⟨_, _, _, _, q⟩ | ⟨_, _, q, _⟩ | ⟨rfl, -⟩
    · cases q
    · cases q
    split at h
    · rename_i x r
      obtain ⟨t, ht, h2, rfl⟩ := sIf_of h
      subst h2
      cases cnd
      · exact lv_if_eq hx hb hdg ht (fun q => by rw [show sC2 .eq x 0 = true from decide_eq_true q] at kk; exact kk) (fun q => by rw [show sC2 .eq x 0 = false from decide_eq_false q] at kk; exact kk)
      · exact lv_if_ne hx hb hdg ht (fun q => by rw [show sC2 .ne x 0 = true from by show (!decide (x = 0)) = true; rw [decide_eq_false q]; rfl] at kk; exact kk) (fun q => by rw [show sC2 .ne x 0 = false from by show (!decide (x = 0)) = false; rw [decide_eq_true q]; rfl] at kk; exact kk)
      · exact lv_if_lt hx hb hdg ht (fun q => by rw [show sC2 .lt x 0 = true from decide_eq_true q] at kk; exact kk) (fun q => by rw [show sC2 .lt x 0 = false from decide_eq_false q] at kk; exact kk)
      · exact lv_if_ge hx hb hdg ht (fun q => by rw [show sC2 .ge x 0 = true from decide_eq_true q] at kk; exact kk) (fun q => by rw [show sC2 .ge x 0 = false from decide_eq_false q] at kk; exact kk)
      · exact lv_if_gt hx hb hdg ht (fun q => by rw [show sC2 .gt x 0 = true from decide_eq_true q] at kk; exact kk) (fun q => by rw [show sC2 .gt x 0 = false from decide_eq_false q] at kk; exact kk)
      · exact lv_if_le hx hb hdg ht (fun q => by rw [show sC2 .le x 0 = true from decide_eq_true q] at kk; exact kk) (fun q => by rw [show sC2 .le x 0 = false from decide_eq_false q] at kk; exact kk)
    · cases h
  · rename_i off
    rcases hlen with ⟨_, _, _, _, q⟩ | ⟨_, _, q, _⟩ | ⟨rfl, -⟩
    · cases q
    · cases q
    split at h
    · obtain ⟨t, ht, h2, rfl⟩ := sIf_of h
      subst h2
      exact lv_ifnullN hx hb hdg ht kk
    · obtain ⟨t, ht, h2, rfl⟩ := sIf_of h
      subst h2
      exact lv_ifnull hx hb hdg kk
    · cases h
  · rename_i off
    rcases hlen with ⟨_, _, _, _, q⟩ | ⟨_, _, q, _⟩ | ⟨rfl, -⟩
    · cases q
    · cases q
    split at h
    · obtain ⟨t, ht, h2, rfl⟩ := sIf_of h
      subst h2
      exact lv_ifnonnullN hx hb hdg kk
    · obtain ⟨t, ht, h2, rfl⟩ := sIf_of h
      subst h2
      exact lv_ifnonnull hx hb hdg ht kk
    · cases h
  · rename_i dflt lo hi offs
    split at h
    · rename_i x r
      split at h
      · rename_i hc
        obtain ⟨t, h1, h2⟩ := Option.map_eq_some_iff.mp h
        cases h2
        exact lv_tableOut hx hb hdg hc (sTgt_of h1) kk
      · rename_i hc
        split at h
        · rename_i off ho
          obtain ⟨t, h1, h2⟩ := Option.map_eq_some_iff.mp h
          cases h2
          exact lv_tableIn hx hb hdg (fun q => hc (Or.inl q)) (fun q => hc (Or.inr q)) ho (sTgt_of h1) kk
        · cases h
    · cases h
  · rename_i dflt ps
    rcases hlen with ⟨_, _, _, _, q⟩ | ⟨_, _, q, hp⟩ | ⟨-, q⟩
    · cases q
    · cases q
      split at h
      · rename_i x r
        obtain ⟨t, h1, h2⟩ := Option.map_eq_some_iff.mp h
        cases h2
        exact lv_lookup hx hb hdg hp rfl (sTgt_of h1) kk
      · cases h
    · exact absurd rfl (q _ _)
  · cases h
/-! ends -/
theorem s_ret (hx : p.tables.exec = Jvm.exec) (hb : c.code = cc) {σ : Nat → Nat} {Qc : Array Value → State → Outcome → State → Prop} {free : Addr → Prop} {rt : Option FieldType} {ins : Instr} {st : List Value} {v : Option Value} (h : sRet rt ins st = some v) (hr : meth.sig.returnType = rt) (hlocks : meth.locks = false)
    (hq : ∀ t : State, t.heap = H → s.WarmedH t.vm → Qc args s (.returned (v.map (rV σ))) t) (hf : ∀ q ∈ locs, free q.base) (hdg : decode cc pc = .ok (ins, 1)) : W p l e R s m args below meth c H locs cells slots (MQ below Qc args s cells slots free) (F0 m pc ls (rS σ st)) := by
  unfold sRet at h
  split at h
  · split at h
    · split at h
      · rename_i hn
        cases h
        exact W.zret hx hb hr hn hq hf hdg hlocks
      · cases h
    · cases h
  · split at h
    · cases h
      exact W.lret hx hb hr hq hf hdg hlocks
    · cases h
  · split at h
    · cases h
      exact W.aret hx hb hr (Or.inl ⟨_, rfl⟩) (Or.inr ⟨_, rfl⟩) hq hf hdg hlocks
    · cases h
      exact W.aret hx hb hr (Or.inl ⟨_, rfl⟩) (Or.inl rfl) hq hf hdg hlocks
    · cases h
  · split at h
    · cases h
      exact W.vret hx hb hr hq hf hdg hlocks
    · cases h
  · cases h
end NEW
end
section
/-! ===== the rows are what the bytes say, and their words stand in the tables ===== -/
def mY (q : sMt) : MethodName := q.1
def mC (q : sMt) : ByteArray := q.2.1
def mN (q : sMt) : Nat := q.2.2.1
def mR (q : sMt) : Option FieldType := q.2.2.2.1
def mK (q : sMt) : Nat := q.2.2.2.2.1
def mI (q : sMt) : Nat := q.2.2.2.2.2.1
def mA (q : sMt) : Nat := q.2.2.2.2.2.2.1
def mW (q : sMt) : List Nat := q.2.2.2.2.2.2.2.1
def mT (q : sMt) : List sEt := q.2.2.2.2.2.2.2.2
def sM (k : Nat) : Option sMt := sMs[k]?
def sNA (k : Nat) : Nat := match sM k with
  | some q => mA q
  | none => 0
def sOwn (k : Nat) : Nat := match sM k with
  | some q => mI q
  | none => 99
def sFt (q : sMt) (pc : Nat) : Option Instr := match (mT q).find? (fun e => e.1 == pc) with
  | some e => some e.2.2.1
  | none => none
/-- length and charAt of the words -/
def sStC (d k : Nat) (as : List Value) (h : sHp) : sOr := match as with
  | [.ref a] => if k = 300 ∧ 1 ≤ d ∧ 2000000 ≤ a ∧ a < 2000007 then some (some (.int (Int32.ofNat (sTxL.getD (a - 2000000) 0))), h) else none
  | [.ref a, .int i] => if k = 301 ∧ 3 ≤ d ∧ (2000000 ≤ a ∧ a < 2000007) ∧ ¬ (i < 0 ∨ sTxL.getD (a - 2000000) 0 ≤ i.toNatClampNeg) then some (some (.int (sTxC (a - 2000000) i.toNatClampNeg)), h) else none
  | _ => none
def sCall : Nat → Nat → Nat → List Value → sHp → sOr
  | 0, _, _, _, _ => none
  | d + 1, n, k, as, h => if 300 ≤ k then sStC d k as h else (sM k).bind fun q => (sIni (mN q) as).bind fun L => sRun none (sFt q) (mR q) (sCal sNA sOwn sVt) (sCall d n) n 0 L [] h
def sCN (ci : Nat) : String := match vwCl[ci]? with
  | some q => q.1
  | none => ""
def sWi (p : Nat) (w : Jvm.Cond) : Bool := decide (sW p = some w)
theorem sWi_in {p : Nat} {w : Jvm.Cond} (h : sWi p w = true) : w ∈ sTB := sW_in (of_decide_eq_true h)
def sR1 (i : Instr) (r : List Nat) (f : Nat → Instr) : Instr := match r with
  | x :: _ => f x
  | [] => i
def sReal (i : Instr) (r : List Nat) : Instr := match i with
  | .getfield k => sR1 (.getfield k) r (fun x => .getfield x)
  | .putfield k => sR1 (.putfield k) r (fun x => .putfield x)
  | .new k => sR1 (.new k) r (fun x => .new x)
  | .anewarray k => sR1 (.anewarray k) r (fun x => .anewarray x)
  | .multianewarray k d => sR1 (.multianewarray k d) r (fun x => .multianewarray x d)
  | .ldc2_w k => sR1 (.ldc2_w k) r (fun x => .ldc2_w x)
  | .ldc k => sR1 (.ldc k) r (fun x => .ldc x)
  | .ldc_w k => sR1 (.ldc_w k) r (fun x => .ldc_w x)
  | .invokevirtual k => sR1 (.invokevirtual k) r (fun x => .invokevirtual x)
  | .invokestatic k => sR1 (.invokestatic k) r (fun x => .invokestatic x)
  | .invokespecial k => sR1 (.invokespecial k) r (fun x => .invokespecial x)
  | .invokeinterface k c => sR1 (.invokeinterface k c) r (fun x => .invokevirtual x)
  | i => i
def sAllC (P : Nat → vw_C → Bool) : Bool := (List.range 13).all (fun ci => match vwCl[ci]? with
  | some q => P ci q
  | none => true)
theorem sAllC_of {P : Nat → vw_C → Bool} (h : sAllC P = true) (ci : Nat) (q : vw_C) (hq : vwCl[ci]? = some q) : P ci q = true := by
  have hl : ci < 13 := (List.getElem?_eq_some_iff.mp hq).1
  have h1 := List.all_eq_true.mp h ci (List.mem_range.mpr hl)
  rw [hq] at h1
  exact h1
def sChkG (own : String) (k idx p1 rc p2 : Nat) : Bool := sAllC (fun ci q => !(sGrp ci == k / 64) || (decide (k % 64 < q.2.2) && sWi p1 (.fieldLink own idx (sCN rc) (q.2.1 (k % 64)).2.1 (q.2.1 (k % 64)).2.2.1) && (decide (sCN rc = (q.2.1 (k % 64)).1) || sWi p2 (.sameField (sCN rc) (q.2.1 (k % 64)).1 (q.2.1 (k % 64)).2.1 (q.2.1 (k % 64)).2.2.1))))
def sChkF (own nm : String) (k : Nat) : Bool := sAllC (fun ci q => !(sGrp ci == k / 64) || (!(q.2.1 (k % 64)).2.2.2 || (decide (nm = "<init>") && decide ((q.2.1 (k % 64)).1 = own))))
theorem sChkG_ok {own : String} {k idx p1 rc p2 : Nat} (h : sChkG own k idx p1 rc p2 = true) : sGetOk own idx k := by
  refine ⟨sCN rc, fun ci q hq hg => ?_⟩
  have h1 := sAllC_of h ci q hq
  simp only [Bool.or_eq_true, Bool.and_eq_true, Bool.not_eq_true', beq_eq_false_iff_ne, decide_eq_true_eq] at h1
  rcases h1 with h1 | ⟨⟨h1, h2⟩, h3⟩
  · exact absurd hg h1
  · exact ⟨h1, sWi_in h2, h3.imp id sWi_in⟩
theorem sChkF_ok {own nm : String} {k idx p1 rc p2 : Nat} (h : sChkG own k idx p1 rc p2 = true) (h' : sChkF own nm k = true) : sPutOk own (nm = "<init>") idx k := by
  obtain ⟨ref, h0⟩ := sChkG_ok h
  refine ⟨ref, fun ci q hq hg => ?_⟩
  obtain ⟨f1, f2, f3⟩ := h0 ci q hq hg
  refine ⟨f1, f2, f3, fun hf => ?_⟩
  have h1 := sAllC_of h' ci q hq
  simp only [Bool.or_eq_true, Bool.and_eq_true, Bool.not_eq_true', beq_eq_false_iff_ne, decide_eq_true_eq] at h1
  rcases h1 with h1 | h1 | h1
  · exact absurd hg h1
  · rw [hf] at h1; cases h1
  · exact h1
/-- the names under which a cut's calls stand -/
def sFx (k : Nat) : MethodName := match k with
  | 1000 => yX2_isOf
  | 1001 => yX2_firstIn
  | 1002 => yX2_laneIn
  | 1003 => yX2_partsBody
  | 1004 => yX2_weighsBody
  | _ => yX2_hedgesBody
def sFn (k : Nat) : Nat := sVt k 2
def sSup (own : String) (idx p p2 p3 : Nat) (y : MethodName) : Bool := sWi p (.methodLink own idx y) && sWi p2 (.sameMethod y.cls y.cls y.name y.desc) && sWi p3 (.superclass own y.cls)
/-- a method that the superclass itself has from above -/
def sSup2 (own : String) (idx p p2 p3 p4 : Nat) (y : MethodName) : Bool := match sW p with
  | some (.methodLink o i x) => decide (o = own ∧ i = idx ∧ x.name = y.name ∧ x.desc = y.desc) && (sWi p2 (.sameMethod x.cls y.cls y.name y.desc) && (sWi p3 (.superclass own x.cls) && sWi p4 (.superclass x.cls y.cls)))
  | _ => false
theorem sSup2_of {own : String} {idx p p2 p3 p4 : Nat} {y : MethodName} (h : sSup2 own idx p p2 p3 p4 y = true) : ∃ xc : String, Jvm.Cond.methodLink own idx ⟨xc, y.name, y.desc⟩ ∈ sTB ∧ Jvm.Cond.sameMethod xc y.cls y.name y.desc ∈ sTB ∧ Jvm.Cond.superclass own xc ∈ sTB ∧ Jvm.Cond.superclass xc y.cls ∈ sTB := by
  unfold sSup2 at h
  split at h
  · rename_i o i x hw
    simp only [Bool.and_eq_true, decide_eq_true_eq] at h
    obtain ⟨⟨rfl, rfl, e1, e2⟩, h2, h3, h4⟩ := h
    obtain ⟨xc, xn, xd⟩ := x
    dsimp only at e1 e2 h2 h3 h4
    subst e1 e2
    exact ⟨xc, sW_in hw, sWi_in h2, sWi_in h3, sWi_in h4⟩
  · cases h
def sExt (own nm : String) (ins : Instr) (r : List Nat) : Bool := match ins with
  | .getfield k => (match r with
    | [idx, p1, rc, p2] => sChkG own k idx p1 rc p2
    | _ => false)
  | .putfield k => (match r with
    | [idx, p1, rc, p2] => sChkG own k idx p1 rc p2 && sChkF own nm k
    | _ => false)
  | .new k => (match r, vwCl[k]? with
    | [idx, p1, p2, p3], some q => sWi p1 (.classLink own idx q.1) && sWi p2 (.instantiable q.1 q.2.2) && sWi p3 (.initialized q.1)
    | _, _ => false)
  | .newarray t => (match r with
    | [p] => sWi p (.arrayClass (newarray.typeOf t))
    | _ => false)
  | .anewarray k => (match r with
    | [idx, p] => (k == 3 && sWi p (.classLink own idx RX7)) || (k == 4 && sWi p (.classLink own idx RX2))
    | _ => false)
  | .multianewarray k d => (match r with
    | [idx, p, p2] => d == 2 && (sWi p (.classLink own idx ("[" ++ (FieldType.array .int).toString)) && sWi p2 (.arrayClass .int))
    | _ => false)
  | .ldc2_w k => (match r with
    | [idx, p] => sWi p (.constantLong own idx (Int64.ofNat k))
    | _ => false)
  | .ldc k => (match r with
    | [idx, p] => decide (k < 4294967296) && sWi p (.constant own idx (Int32.ofNat k))
    | [idx] => decide (own = RX6 ∧ 4294967296 ≤ k ∧ sTxI[k - 4294967296]? = some idx)
    | _ => false)
  | .ldc_w k => (match r with
    | [idx, p] => sWi p (.constant own idx (Int32.ofNat k))
    | _ => false)
  | .lookupswitch _ ps => (ps.toList.zip (ps.toList.drop 1)).all (fun (a, next) => a.1 < next.1)
  | .invokestatic k => if k < 258 then (match r, sM k with
    | [idx, p], some z => mK z == 0 && sWi p (.methodLink own idx (mY z))
    | _, _ => false) else if k = 1003 then (match r with
    | [idx, p, p1, p2, p3] => sWi p (.methodLink own idx arraycopyName) && (sWi p1 (.native arraycopyName) && (sWi p2 (.static arraycopyName) && sWi p3 (.initialized "java/lang/System")))
    | _ => false) else (match r with
    | [idx, p, p1, p2, p3] => decide (1000 ≤ k) && sWi p2 (.initialized "java/lang/Math") && (if k = 1000 then sWi p (.methodLink own idx Lib.Math.max.name) && sWi p1 (.static Lib.Math.max.name) && sWi p3 (.code Lib.Math.max.name Lib.Math.max.code 2 (some .int)) else if k = 1001 then sWi p (.methodLink own idx Lib.Math.min.name) && sWi p1 (.static Lib.Math.min.name) && sWi p3 (.code Lib.Math.min.name Lib.Math.min.code 2 (some .int)) else sWi p (.methodLink own idx Lib.Math.abs.name) && sWi p1 (.static Lib.Math.abs.name) && sWi p3 (.code Lib.Math.abs.name Lib.Math.abs.code 1 (some .int)))
    | _ => false)
  | .invokespecial k => if k < 258 then (match r, sM k with
    | [idx, p], some z => mK z == 2 && sWi p (.methodLink own idx (mY z))
    | [idx], some z => mK z == 2 && decide (Jvm.Cond.methodLinkNest own idx (mY z) RX11 ∈ sNwl)
    | [idx, p, p2, p3], some z => mK z == 1 && sSup own idx p p2 p3 (mY z)
    | [idx, p, p2, p3, p4], some z => mK z == 1 && sSup2 own idx p p2 p3 p4 (mY z)
    | _, _ => false) else (match r with
    | [idx, p, p2, p3] => decide (1000 ≤ k) && sWi p (.methodLink own idx Lib.objectInit) && sWi p2 (.instanceMethod Lib.objectInit) && sWi p3 (.code Lib.objectInit ⟨#[0xb1]⟩ 1 none)
    | _ => false)
  | .invokevirtual k => if k < 258 then (match r, sM k with
    | [idx, p], some z => mK z == 1 && sWi p (.methodLink own idx (mY z)) && (match mW z with
      | [_, _, _, s] => sWi s (.selects (mY z).cls (mY z) (mY z))
      | _ => false)
    | _, _ => false) else (match r with
    | [idx, p] => decide (1000 ≤ k ∧ k < 1006) && sWi p (.methodLink own idx (sFx k))
    | _ => false)
  | .invokeinterface k _ => (match r with
    | [idx, p] => (k == 3000 && sWi p (.methodLink own idx Jvm.Lib.Str.length.name)) || (k == 3001 && sWi p (.methodLink own idx Jvm.Lib.Str.charAt.name))
    | _ => false)
  | _ => true
def sSw (ins : Instr) : Bool := match ins with
  | .tableswitch _ _ _ _ => true
  | .lookupswitch _ _ => true
  | .nop => true
  | _ => false
def sChkE (q : sMt) (e : sEt) : Bool := (match e.2.2.1 with
  | .nop => true
  | _ => decide (decode (mC q) e.1 = .ok (sReal e.2.2.1 e.2.2.2, e.2.1)) && ((sSw e.2.2.1 || decide (e.2.1 = sLen e.2.2.1)) && sExt (mY q).cls (mY q).name e.2.2.1 e.2.2.2))
def sChkM (q : sMt) : Bool := (match mW q with
  | pc :: pi :: pn :: _ => sWi pc (.code (mY q) (mC q) (mN q) (mR q)) && (sWi pn (.initialized (mY q).cls) && (if mK q = 0 then sWi pi (.static (mY q)) else sWi pi (.instanceMethod (mY q))))
  | _ => false) && (Jvm.plainName (mY q).cls && (decide ((mY q).cls ≠ "java/lang/invoke/MethodHandle" ∧ (mY q).cls ≠ "java/lang/invoke/VarHandle" ∧ (parseMethodDescriptor (mY q).desc).map (fun d => d.parameters.length) = some (mA q)) && (decide (mN q ≤ 16) && (decide (mK q = 2 → (mY q).name = "<init>" ∧ mR q = none) && (decide (mK q = 1 → (mY q).name ≠ "<init>") && decide (mK q ≠ 0 → vwCl[mI q]?.map (fun z => z.1) = some (mY q).cls))))))
end
section
/-! ===== every row holds ===== -/
def sOkp (j : Nat) : Bool := match sM (j / 3) with
  | some q => (j % 3 != 0 || (sChkM q && decide ((mT q).length ≤ 300))) && ((((mT q).drop (100 * (j % 3))).take 100).all (sChkE q))
  | none => false
theorem sOkc {a n : Nat} (h : (List.range' a n).all sOkp = true) (j : Nat) (h1 : a ≤ j) (h2 : j < a + n) : sOkp j = true := List.all_eq_true.mp h j (List.mem_range'_1.mpr ⟨h1, h2⟩)
theorem sOk_0 : (List.range' 0 33).all sOkp = true := by decide +kernel
theorem sOk_33 : (List.range' 33 18).all sOkp = true := by decide +kernel
theorem sOk_51 : (List.range' 51 3).all sOkp = true := by decide +kernel
theorem sOk_54 : (List.range' 54 1).all sOkp = true := by decide +kernel
theorem sOk_55 : (List.range' 55 20).all sOkp = true := by decide +kernel
theorem sOk_75 : (List.range' 75 27).all sOkp = true := by decide +kernel
theorem sOk_102 : (List.range' 102 9).all sOkp = true := by decide +kernel
theorem sOk_111 : (List.range' 111 9).all sOkp = true := by decide +kernel
theorem sOk_120 : (List.range' 120 12).all sOkp = true := by decide +kernel
theorem sOk_132 : (List.range' 132 9).all sOkp = true := by decide +kernel
theorem sOk_141 : (List.range' 141 6).all sOkp = true := by decide +kernel
theorem sOk_147 : (List.range' 147 12).all sOkp = true := by decide +kernel
theorem sOk_159 : (List.range' 159 30).all sOkp = true := by decide +kernel
theorem sOk_189 : (List.range' 189 18).all sOkp = true := by decide +kernel
theorem sOk_207 : (List.range' 207 9).all sOkp = true := by decide +kernel
theorem sOk_216 : (List.range' 216 9).all sOkp = true := by decide +kernel
theorem sOk_225 : (List.range' 225 6).all sOkp = true := by decide +kernel
theorem sOk_231 : (List.range' 231 18).all sOkp = true := by decide +kernel
theorem sOk_249 : (List.range' 249 18).all sOkp = true := by decide +kernel
theorem sOk_267 : (List.range' 267 12).all sOkp = true := by decide +kernel
theorem sOk_279 : (List.range' 279 12).all sOkp = true := by decide +kernel
theorem sOk_291 : (List.range' 291 3).all sOkp = true := by decide +kernel
theorem sOk_294 : (List.range' 294 3).all sOkp = true := by decide +kernel
theorem sOk_297 : (List.range' 297 6).all sOkp = true := by decide +kernel
end
section
theorem sOk_303 : (List.range' 303 6).all sOkp = true := by decide +kernel
theorem sOk_309 : (List.range' 309 12).all sOkp = true := by decide +kernel
theorem sOk_321 : (List.range' 321 18).all sOkp = true := by decide +kernel
theorem sOk_339 : (List.range' 339 6).all sOkp = true := by decide +kernel
theorem sOk_345 : (List.range' 345 9).all sOkp = true := by decide +kernel
theorem sOk_354 : (List.range' 354 6).all sOkp = true := by decide +kernel
theorem sOk_360 : (List.range' 360 12).all sOkp = true := by decide +kernel
theorem sOk_372 : (List.range' 372 12).all sOkp = true := by decide +kernel
theorem sOk_384 : (List.range' 384 6).all sOkp = true := by decide +kernel
theorem sOk_390 : (List.range' 390 12).all sOkp = true := by decide +kernel
theorem sOk_402 : (List.range' 402 3).all sOkp = true := by decide +kernel
theorem sOk_405 : (List.range' 405 15).all sOkp = true := by decide +kernel
theorem sOk_420 : (List.range' 420 9).all sOkp = true := by decide +kernel
theorem sOk_429 : (List.range' 429 3).all sOkp = true := by decide +kernel
theorem sOk_432 : (List.range' 432 9).all sOkp = true := by decide +kernel
theorem sOk_441 : (List.range' 441 6).all sOkp = true := by decide +kernel
theorem sOk_447 : (List.range' 447 9).all sOkp = true := by decide +kernel
theorem sOk_456 : (List.range' 456 12).all sOkp = true := by decide +kernel
theorem sOk_468 : (List.range' 468 18).all sOkp = true := by decide +kernel
theorem sOk_486 : (List.range' 486 9).all sOkp = true := by decide +kernel
theorem sOk_495 : (List.range' 495 9).all sOkp = true := by decide +kernel
theorem sOk_504 : (List.range' 504 1).all sOkp = true := by decide +kernel
theorem sOk_505 : (List.range' 505 1).all sOkp = true := by decide +kernel
theorem sOk_506 : (List.range' 506 13).all sOkp = true := by decide +kernel
end
section
theorem sOk_519 : (List.range' 519 15).all sOkp = true := by decide +kernel
theorem sOk_534 : (List.range' 534 3).all sOkp = true := by decide +kernel
theorem sOk_537 : (List.range' 537 3).all sOkp = true := by decide +kernel
theorem sOk_540 : (List.range' 540 1).all sOkp = true := by decide +kernel
theorem sOk_541 : (List.range' 541 5).all sOkp = true := by decide +kernel
theorem sOk_546 : (List.range' 546 9).all sOkp = true := by decide +kernel
theorem sOk_555 : (List.range' 555 6).all sOkp = true := by decide +kernel
theorem sOk_561 : (List.range' 561 6).all sOkp = true := by decide +kernel
theorem sOk_567 : (List.range' 567 3).all sOkp = true := by decide +kernel
theorem sOk_570 : (List.range' 570 9).all sOkp = true := by decide +kernel
theorem sOk_579 : (List.range' 579 6).all sOkp = true := by decide +kernel
theorem sOk_585 : (List.range' 585 9).all sOkp = true := by decide +kernel
theorem sOk_594 : (List.range' 594 3).all sOkp = true := by decide +kernel
theorem sOk_597 : (List.range' 597 1).all sOkp = true := by decide +kernel
theorem sOk_598 : (List.range' 598 2).all sOkp = true := by decide +kernel
theorem sOk_600 : (List.range' 600 3).all sOkp = true := by decide +kernel
theorem sOk_603 : (List.range' 603 1).all sOkp = true := by decide +kernel
theorem sOk_604 : (List.range' 604 2).all sOkp = true := by decide +kernel
theorem sOk_606 : (List.range' 606 9).all sOkp = true := by decide +kernel
theorem sOk_615 : (List.range' 615 9).all sOkp = true := by decide +kernel
theorem sOk_624 : (List.range' 624 6).all sOkp = true := by decide +kernel
theorem sOk_630 : (List.range' 630 6).all sOkp = true := by decide +kernel
theorem sOk_636 : (List.range' 636 15).all sOkp = true := by decide +kernel
theorem sOk_651 : (List.range' 651 3).all sOkp = true := by decide +kernel
end
section
theorem sOk_654 : (List.range' 654 6).all sOkp = true := by decide +kernel
theorem sOk_660 : (List.range' 660 6).all sOkp = true := by decide +kernel
theorem sOk_666 : (List.range' 666 6).all sOkp = true := by decide +kernel
theorem sOk_672 : (List.range' 672 9).all sOkp = true := by decide +kernel
theorem sOk_681 : (List.range' 681 1).all sOkp = true := by decide +kernel
theorem sOk_682 : (List.range' 682 14).all sOkp = true := by decide +kernel
theorem sOk_696 : (List.range' 696 1).all sOkp = true := by decide +kernel
theorem sOk_697 : (List.range' 697 8).all sOkp = true := by decide +kernel
theorem sOk_705 : (List.range' 705 3).all sOkp = true := by decide +kernel
theorem sOk_708 : (List.range' 708 3).all sOkp = true := by decide +kernel
theorem sOk_711 : (List.range' 711 1).all sOkp = true := by decide +kernel
theorem sOk_712 : (List.range' 712 8).all sOkp = true := by decide +kernel
theorem sOk_720 : (List.range' 720 6).all sOkp = true := by decide +kernel
theorem sOk_726 : (List.range' 726 6).all sOkp = true := by decide +kernel
theorem sOk_732 : (List.range' 732 6).all sOkp = true := by decide +kernel
theorem sOk_738 : (List.range' 738 6).all sOkp = true := by decide +kernel
theorem sOk_744 : (List.range' 744 6).all sOkp = true := by decide +kernel
theorem sOk_750 : (List.range' 750 3).all sOkp = true := by decide +kernel
theorem sOk_753 : (List.range' 753 9).all sOkp = true := by decide +kernel
theorem sOk_762 : (List.range' 762 9).all sOkp = true := by decide +kernel
theorem sOk_771 : (List.range' 771 3).all sOkp = true := by decide +kernel
def sOkL (i : Nat) : Bool := match sM 258 with
  | some q => decide ((mT q).length ≤ 1100) && ((((mT q).drop (100 * i)).take 100).all (sChkE q))
  | none => false
theorem sOkL_0 : sOkL 0 = true := by decide +kernel
theorem sOkL_1 : sOkL 1 = true := by decide +kernel
theorem sOkL_2 : sOkL 2 = true := by decide +kernel
theorem sOkL_3 : sOkL 3 = true := by decide +kernel
theorem sOkL_4 : sOkL 4 = true := by decide +kernel
theorem sOkL_5 : sOkL 5 = true := by decide +kernel
theorem sOkL_6 : sOkL 6 = true := by decide +kernel
theorem sOkL_7 : sOkL 7 = true := by decide +kernel
theorem sOkL_8 : sOkL 8 = true := by decide +kernel
theorem sOkL_9 : sOkL 9 = true := by decide +kernel
theorem sOkL_10 : sOkL 10 = true := by decide +kernel
theorem sOk_all (j : Nat) (h : j < 774) : sOkp j = true := by
  rcases Nat.lt_or_ge j 33 with q | q
  · exact sOkc sOk_0 j (by omega) (by omega)
  rcases Nat.lt_or_ge j 51 with q | q
  · exact sOkc sOk_33 j (by omega) (by omega)
  rcases Nat.lt_or_ge j 54 with q | q
  · exact sOkc sOk_51 j (by omega) (by omega)
  rcases Nat.lt_or_ge j 55 with q | q
  · exact sOkc sOk_54 j (by omega) (by omega)
  rcases Nat.lt_or_ge j 75 with q | q
  · exact sOkc sOk_55 j (by omega) (by omega)
  rcases Nat.lt_or_ge j 102 with q | q
  · exact sOkc sOk_75 j (by omega) (by omega)
  rcases Nat.lt_or_ge j 111 with q | q
  · exact sOkc sOk_102 j (by omega) (by omega)
  rcases Nat.lt_or_ge j 120 with q | q
  · exact sOkc sOk_111 j (by omega) (by omega)
  rcases Nat.lt_or_ge j 132 with q | q
  · exact sOkc sOk_120 j (by omega) (by omega)
  rcases Nat.lt_or_ge j 141 with q | q
  · exact sOkc sOk_132 j (by omega) (by omega)
  rcases Nat.lt_or_ge j 147 with q | q
  · exact sOkc sOk_141 j (by omega) (by omega)
  rcases Nat.lt_or_ge j 159 with q | q
  · exact sOkc sOk_147 j (by omega) (by omega)
  rcases Nat.lt_or_ge j 189 with q | q
  · exact sOkc sOk_159 j (by omega) (by omega)
  rcases Nat.lt_or_ge j 207 with q | q
  · exact sOkc sOk_189 j (by omega) (by omega)
  rcases Nat.lt_or_ge j 216 with q | q
  · exact sOkc sOk_207 j (by omega) (by omega)
  rcases Nat.lt_or_ge j 225 with q | q
  · exact sOkc sOk_216 j (by omega) (by omega)
  rcases Nat.lt_or_ge j 231 with q | q
  · exact sOkc sOk_225 j (by omega) (by omega)
  rcases Nat.lt_or_ge j 249 with q | q
  · exact sOkc sOk_231 j (by omega) (by omega)
  rcases Nat.lt_or_ge j 267 with q | q
  · exact sOkc sOk_249 j (by omega) (by omega)
  rcases Nat.lt_or_ge j 279 with q | q
  · exact sOkc sOk_267 j (by omega) (by omega)
  rcases Nat.lt_or_ge j 291 with q | q
  · exact sOkc sOk_279 j (by omega) (by omega)
  rcases Nat.lt_or_ge j 294 with q | q
  · exact sOkc sOk_291 j (by omega) (by omega)
  rcases Nat.lt_or_ge j 297 with q | q
  · exact sOkc sOk_294 j (by omega) (by omega)
  rcases Nat.lt_or_ge j 303 with q | q
  · exact sOkc sOk_297 j (by omega) (by omega)
  rcases Nat.lt_or_ge j 309 with q | q
  · exact sOkc sOk_303 j (by omega) (by omega)
  rcases Nat.lt_or_ge j 321 with q | q
  · exact sOkc sOk_309 j (by omega) (by omega)
  rcases Nat.lt_or_ge j 339 with q | q
  · exact sOkc sOk_321 j (by omega) (by omega)
  rcases Nat.lt_or_ge j 345 with q | q
  · exact sOkc sOk_339 j (by omega) (by omega)
  rcases Nat.lt_or_ge j 354 with q | q
  · exact sOkc sOk_345 j (by omega) (by omega)
  rcases Nat.lt_or_ge j 360 with q | q
  · exact sOkc sOk_354 j (by omega) (by omega)
  rcases Nat.lt_or_ge j 372 with q | q
  · exact sOkc sOk_360 j (by omega) (by omega)
  rcases Nat.lt_or_ge j 384 with q | q
  · exact sOkc sOk_372 j (by omega) (by omega)
  rcases Nat.lt_or_ge j 390 with q | q
  · exact sOkc sOk_384 j (by omega) (by omega)
  rcases Nat.lt_or_ge j 402 with q | q
  · exact sOkc sOk_390 j (by omega) (by omega)
  rcases Nat.lt_or_ge j 405 with q | q
  · exact sOkc sOk_402 j (by omega) (by omega)
  rcases Nat.lt_or_ge j 420 with q | q
  · exact sOkc sOk_405 j (by omega) (by omega)
  rcases Nat.lt_or_ge j 429 with q | q
  · exact sOkc sOk_420 j (by omega) (by omega)
  rcases Nat.lt_or_ge j 432 with q | q
  · exact sOkc sOk_429 j (by omega) (by omega)
  rcases Nat.lt_or_ge j 441 with q | q
  · exact sOkc sOk_432 j (by omega) (by omega)
  rcases Nat.lt_or_ge j 447 with q | q
  · exact sOkc sOk_441 j (by omega) (by omega)
  rcases Nat.lt_or_ge j 456 with q | q
  · exact sOkc sOk_447 j (by omega) (by omega)
  rcases Nat.lt_or_ge j 468 with q | q
  · exact sOkc sOk_456 j (by omega) (by omega)
  rcases Nat.lt_or_ge j 486 with q | q
  · exact sOkc sOk_468 j (by omega) (by omega)
  rcases Nat.lt_or_ge j 495 with q | q
  · exact sOkc sOk_486 j (by omega) (by omega)
  rcases Nat.lt_or_ge j 504 with q | q
  · exact sOkc sOk_495 j (by omega) (by omega)
  rcases Nat.lt_or_ge j 505 with q | q
  · exact sOkc sOk_504 j (by omega) (by omega)
  rcases Nat.lt_or_ge j 506 with q | q
  · exact sOkc sOk_505 j (by omega) (by omega)
  rcases Nat.lt_or_ge j 519 with q | q
  · exact sOkc sOk_506 j (by omega) (by omega)
  rcases Nat.lt_or_ge j 534 with q | q
  · exact sOkc sOk_519 j (by omega) (by omega)
  rcases Nat.lt_or_ge j 537 with q | q
  · exact sOkc sOk_534 j (by omega) (by omega)
  rcases Nat.lt_or_ge j 540 with q | q
  · exact sOkc sOk_537 j (by omega) (by omega)
  rcases Nat.lt_or_ge j 541 with q | q
  · exact sOkc sOk_540 j (by omega) (by omega)
  rcases Nat.lt_or_ge j 546 with q | q
  · exact sOkc sOk_541 j (by omega) (by omega)
  rcases Nat.lt_or_ge j 555 with q | q
  · exact sOkc sOk_546 j (by omega) (by omega)
  rcases Nat.lt_or_ge j 561 with q | q
  · exact sOkc sOk_555 j (by omega) (by omega)
  rcases Nat.lt_or_ge j 567 with q | q
  · exact sOkc sOk_561 j (by omega) (by omega)
  rcases Nat.lt_or_ge j 570 with q | q
  · exact sOkc sOk_567 j (by omega) (by omega)
  rcases Nat.lt_or_ge j 579 with q | q
  · exact sOkc sOk_570 j (by omega) (by omega)
  rcases Nat.lt_or_ge j 585 with q | q
  · exact sOkc sOk_579 j (by omega) (by omega)
  rcases Nat.lt_or_ge j 594 with q | q
  · exact sOkc sOk_585 j (by omega) (by omega)
  rcases Nat.lt_or_ge j 597 with q | q
  · exact sOkc sOk_594 j (by omega) (by omega)
  rcases Nat.lt_or_ge j 598 with q | q
  · exact sOkc sOk_597 j (by omega) (by omega)
  rcases Nat.lt_or_ge j 600 with q | q
  · exact sOkc sOk_598 j (by omega) (by omega)
  rcases Nat.lt_or_ge j 603 with q | q
  · exact sOkc sOk_600 j (by omega) (by omega)
  rcases Nat.lt_or_ge j 604 with q | q
  · exact sOkc sOk_603 j (by omega) (by omega)
  rcases Nat.lt_or_ge j 606 with q | q
  · exact sOkc sOk_604 j (by omega) (by omega)
  rcases Nat.lt_or_ge j 615 with q | q
  · exact sOkc sOk_606 j (by omega) (by omega)
  rcases Nat.lt_or_ge j 624 with q | q
  · exact sOkc sOk_615 j (by omega) (by omega)
  rcases Nat.lt_or_ge j 630 with q | q
  · exact sOkc sOk_624 j (by omega) (by omega)
  rcases Nat.lt_or_ge j 636 with q | q
  · exact sOkc sOk_630 j (by omega) (by omega)
  rcases Nat.lt_or_ge j 651 with q | q
  · exact sOkc sOk_636 j (by omega) (by omega)
  rcases Nat.lt_or_ge j 654 with q | q
  · exact sOkc sOk_651 j (by omega) (by omega)
  rcases Nat.lt_or_ge j 660 with q | q
  · exact sOkc sOk_654 j (by omega) (by omega)
  rcases Nat.lt_or_ge j 666 with q | q
  · exact sOkc sOk_660 j (by omega) (by omega)
  rcases Nat.lt_or_ge j 672 with q | q
  · exact sOkc sOk_666 j (by omega) (by omega)
  rcases Nat.lt_or_ge j 681 with q | q
  · exact sOkc sOk_672 j (by omega) (by omega)
  rcases Nat.lt_or_ge j 682 with q | q
  · exact sOkc sOk_681 j (by omega) (by omega)
  rcases Nat.lt_or_ge j 696 with q | q
  · exact sOkc sOk_682 j (by omega) (by omega)
  rcases Nat.lt_or_ge j 697 with q | q
  · exact sOkc sOk_696 j (by omega) (by omega)
  rcases Nat.lt_or_ge j 705 with q | q
  · exact sOkc sOk_697 j (by omega) (by omega)
  rcases Nat.lt_or_ge j 708 with q | q
  · exact sOkc sOk_705 j (by omega) (by omega)
  rcases Nat.lt_or_ge j 711 with q | q
  · exact sOkc sOk_708 j (by omega) (by omega)
  rcases Nat.lt_or_ge j 712 with q | q
  · exact sOkc sOk_711 j (by omega) (by omega)
  rcases Nat.lt_or_ge j 720 with q | q
  · exact sOkc sOk_712 j (by omega) (by omega)
  rcases Nat.lt_or_ge j 726 with q | q
  · exact sOkc sOk_720 j (by omega) (by omega)
  rcases Nat.lt_or_ge j 732 with q | q
  · exact sOkc sOk_726 j (by omega) (by omega)
  rcases Nat.lt_or_ge j 738 with q | q
  · exact sOkc sOk_732 j (by omega) (by omega)
  rcases Nat.lt_or_ge j 744 with q | q
  · exact sOkc sOk_738 j (by omega) (by omega)
  rcases Nat.lt_or_ge j 750 with q | q
  · exact sOkc sOk_744 j (by omega) (by omega)
  rcases Nat.lt_or_ge j 753 with q | q
  · exact sOkc sOk_750 j (by omega) (by omega)
  rcases Nat.lt_or_ge j 762 with q | q
  · exact sOkc sOk_753 j (by omega) (by omega)
  rcases Nat.lt_or_ge j 771 with q | q
  · exact sOkc sOk_762 j (by omega) (by omega)
  exact sOkc sOk_771 j (by omega) (by omega)
theorem sBlk {α : Type} {l : List α} {f : α → Bool} {P : Nat} (h : ∀ i, i < P → ((l.drop (100 * i)).take 100).all f = true) (hl : l.length ≤ 100 * P) : ∀ x ∈ l, f x = true := by
  intro x hx
  obtain ⟨j, hj⟩ := List.getElem?_of_mem hx
  have hlt := (List.getElem?_eq_some_iff.mp hj).1
  have h1 := h (j / 100) (by omega)
  refine List.all_eq_true.mp h1 x (List.mem_of_getElem? (i := j % 100) ?_)
  rw [List.getElem?_take, if_pos (Nat.mod_lt _ (by decide)), List.getElem?_drop, show 100 * (j / 100) + j % 100 = j by omega]
  exact hj
theorem sOk_m (k : Nat) (hk : k < 258) (q : sMt) (hq : sM k = some q) : sChkM q = true ∧ ∀ e ∈ mT q, sChkE q e = true := by
  have h0 := sOk_all (3 * k) (by omega)
  have h1 := sOk_all (3 * k + 1) (by omega)
  have h2 := sOk_all (3 * k + 2) (by omega)
  unfold sOkp at h0 h1 h2
  rw [show 3 * k / 3 = k by omega, show 3 * k % 3 = 0 by omega, hq] at h0
  rw [show (3 * k + 1) / 3 = k by omega, show (3 * k + 1) % 3 = 1 by omega, hq] at h1
  rw [show (3 * k + 2) / 3 = k by omega, show (3 * k + 2) % 3 = 2 by omega, hq] at h2
  simp only [Bool.and_eq_true] at h0 h1 h2
  obtain ⟨h00, h01⟩ := h0
  have h3 : sChkM q = true ∧ (mT q).length ≤ 300 := by
    rw [show ((0 : Nat) != 0) = false from rfl, Bool.false_or, Bool.and_eq_true, decide_eq_true_eq] at h00
    exact h00
  refine ⟨h3.1, sBlk (P := 3) (fun i hi => ?_) h3.2⟩
  match i, hi with
  | 0, _ => exact h01
  | 1, _ => exact h1.2
  | 2, _ => exact h2.2
theorem sOk_law (q : sMt) (hq : sM 258 = some q) : ∀ e ∈ mT q, sChkE q e = true := by
  have key : ∀ i, i < 11 → sOkL i = true := by
    intro i hi
    match i, hi with
    | 0, _ => exact sOkL_0
    | 1, _ => exact sOkL_1
    | 2, _ => exact sOkL_2
    | 3, _ => exact sOkL_3
    | 4, _ => exact sOkL_4
    | 5, _ => exact sOkL_5
    | 6, _ => exact sOkL_6
    | 7, _ => exact sOkL_7
    | 8, _ => exact sOkL_8
    | 9, _ => exact sOkL_9
    | 10, _ => exact sOkL_10
  refine sBlk (P := 11) (fun i hi => ?_) ?_
  · have h := key i hi
    unfold sOkL at h
    rw [hq] at h
    exact (Bool.and_eq_true _ _ ▸ h).2
  · have h := key 0 (by decide)
    unfold sOkL at h
    rw [hq] at h
    exact of_decide_eq_true (Bool.and_eq_true _ _ ▸ h).1
end
section
/-! ===== sizes only grow ===== -/
def sLe (h h' : sHp) : Prop := h.length ≤ h'.length ∧ sSl h ≤ sSl h'
theorem sLe_rf (h : sHp) : sLe h h := ⟨Nat.le_refl _, Nat.le_refl _⟩
theorem sLe.tr {a b c : sHp} (h1 : sLe a b) (h2 : sLe b c) : sLe a c := ⟨Nat.le_trans h1.1 h2.1, Nat.le_trans h1.2 h2.2⟩
theorem sLe_set {h : sHp} {k : Nat} {c c0 : va_E} (hk : h[k]? = some c0) (hs : sSz c = sSz c0) : sLe h (h.set k c) := ⟨by rw [List.length_set]; exact Nat.le_refl _, by rw [sSl_set hk hs]; exact Nat.le_refl _⟩
theorem sLe_app (h g : sHp) : sLe h (h ++ g) := ⟨by rw [List.length_append]; omega, by rw [sSl_app]; omega⟩
theorem sLe_get {k : Nat} {st st' : List Value} {h h' : sHp} (hh : sGetF k st h = some (st', h')) : sLe h h' := by
  unfold sGetF at hh
  (repeat' split at hh) <;> first | (cases hh; done) | (cases hh; exact sLe_rf _)
theorem sLe_put {k : Nat} {st st' : List Value} {h h' : sHp} (hh : sPutF k st h = some (st', h')) : sLe h h' := by
  unfold sPutF at hh
  split at hh
  · split at hh
    · rename_i ci fs ha
      split at hh
      · cases hh
        exact sLe_set ha (by show (fs.set _ _).length = fs.length; rw [List.length_set])
      · cases hh
    · cases hh
  · cases hh
theorem sLe_ldI {k : Nat} {st st' : List Value} {h h' : sHp} (hh : sLdAI k st h = some (st', h')) : sLe h h' := by
  unfold sLdAI at hh
  (repeat' split at hh) <;> first | (cases hh; done) | (cases hh; exact sLe_rf _)
theorem sLe_ldL {st st' : List Value} {h h' : sHp} (hh : sLdAL st h = some (st', h')) : sLe h h' := by
  unfold sLdAL at hh
  (repeat' split at hh) <;> first | (cases hh; done) | (cases hh; exact sLe_rf _)
theorem sLe_ldA {st st' : List Value} {h h' : sHp} (hh : sLdAA st h = some (st', h')) : sLe h h' := by
  unfold sLdAA at hh
  (repeat' split at hh) <;> first | (cases hh; done) | (cases hh; exact sLe_rf _)
theorem sLe_al {st st' : List Value} {h h' : sHp} (hh : sALen st h = some (st', h')) : sLe h h' := by
  unfold sALen at hh
  (repeat' split at hh) <;> first | (cases hh; done) | (cases hh; exact sLe_rf _)
theorem sLe_stI {st st' : List Value} {h h' : sHp} (hh : sStAI st h = some (st', h')) : sLe h h' := by
  unfold sStAI at hh
  split at hh
  · split at hh
    · rename_i ha
      split at hh
      · cases hh; exact sLe_set ha rfl
      · cases hh
    · cases hh
  · cases hh
theorem sLe_stZ {st st' : List Value} {h h' : sHp} (hh : sStAZ st h = some (st', h')) : sLe h h' := by
  unfold sStAZ at hh
  split at hh
  · split at hh
    · rename_i ha
      split at hh
      · cases hh; exact sLe_set ha rfl
      · cases hh
    · cases hh
  · cases hh
theorem sLe_stL {st st' : List Value} {h h' : sHp} (hh : sStAL st h = some (st', h')) : sLe h h' := by
  unfold sStAL at hh
  split at hh
  · split at hh
    · rename_i ha
      split at hh
      · cases hh; exact sLe_set ha rfl
      · cases hh
    · cases hh
  · cases hh
theorem sLe_stA {st st' : List Value} {h h' : sHp} (hh : sStAA st h = some (st', h')) : sLe h h' := by
  unfold sStAA at hh
  split at hh
  · split at hh
    · rename_i ha
      split at hh
      · cases hh; exact sLe_set ha rfl
      · cases hh
    · cases hh
  · split at hh
    · rename_i ha
      split at hh
      · cases hh; exact sLe_set ha rfl
      · cases hh
    · cases hh
  · cases hh
theorem sLe_new {k : Nat} {st st' : List Value} {h h' : sHp} (hh : sNew k st h = some (st', h')) : sLe h h' := by
  unfold sNew at hh
  (repeat' split at hh) <;> first | (cases hh; done) | (cases hh; exact sLe_app _ _)
theorem sLe_newA {k : ArrayType} {st st' : List Value} {h h' : sHp} (hh : sNewA k st h = some (st', h')) : sLe h h' := by
  unfold sNewA at hh
  (repeat' split at hh) <;> first | (cases hh; done) | (cases hh; exact sLe_app _ _)
theorem sLe_newQ {k : Nat} {st st' : List Value} {h h' : sHp} (hh : sNewQ k st h = some (st', h')) : sLe h h' := by
  unfold sNewQ at hh
  (repeat' split at hh) <;> first | (cases hh; done) | (cases hh; exact sLe_app _ _)
theorem sLe_newM {st st' : List Value} {h h' : sHp} (hh : sNewM st h = some (st', h')) : sLe h h' := by
  unfold sNewM at hh
  (repeat' split at hh) <;> first | (cases hh; done) | (cases hh; exact sLe_app _ _)
theorem sLe_cpy {st st' : List Value} {h h' : sHp} (hh : sCpy st h = some (st', h')) : sLe h h' := by
  unfold sCpy at hh
  split at hh
  · split at hh
    · rename_i ha
      split at hh
      · cases hh; exact sLe_set ha rfl
      · cases hh
    · cases hh
  · cases hh
theorem sStC_eq {d k : Nat} {as : List Value} {h h' : sHp} {r : Option Value} (hr : sStC d k as h = some (r, h')) : h' = h := by
  unfold sStC at hr
  split at hr
  · split at hr
    · cases hr; rfl
    · cases hr
  · split at hr
    · cases hr; rfl
    · cases hr
  · cases hr
theorem sHeap_le {ins : Instr} {st st' : List Value} {h h' : sHp} (hh : sHeap ins st h = some (st', h')) : sLe h h' := by
  unfold sHeap at hh
  split at hh
  · exact sLe_get hh
  · exact sLe_put hh
  · exact sLe_ldI hh
  · exact sLe_ldI hh
  · exact sLe_ldL hh
  · exact sLe_ldA hh
  · exact sLe_stI hh
  · exact sLe_stZ hh
  · exact sLe_stL hh
  · exact sLe_stA hh
  · exact sLe_al hh
  · exact sLe_new hh
  · exact sLe_newA hh
  · exact sLe_newQ hh
  · exact sLe_newM hh
  · cases hh; exact sLe_rf _
  · split at hh
    · cases hh; exact sLe_rf _
    · split at hh
      · cases hh; exact sLe_rf _
      · cases hh
  · cases hh; exact sLe_rf _
  · split at hh
    · exact sLe_cpy hh
    · cases hh
  · cases hh
theorem sRun_le {X : sX} {F : Nat → Option Instr} {rt : Option FieldType} {cal : Instr → List Value → sHp → Option (Nat × List Value × List Value)} {call : Nat → List Value → sHp → sOr} (hc : ∀ k as h r h', call k as h = some (r, h') → sLe h h') :
    ∀ (n pc : Nat) (L : sLo) (st : List Value) (h : sHp) (v : Option Value) (hf : sHp), sRun X F rt cal call n pc L st h = some (v, hf) → sLe h hf := by
  intro n
  induction n with
  | zero => intro pc L st h v hf hr; cases hr
  | succ n ih =>
    intro pc L st h v hf hr
    rw [sRun] at hr
    cases hF : F pc with
    | none => rw [hF] at hr; cases hr
    | some ins =>
      rw [hF] at hr
      dsimp only at hr
      split at hr
      · obtain ⟨st1, h1, h2⟩ := Option.bind_eq_some_iff.mp hr
        exact ih _ _ _ _ _ _ h2
      · obtain ⟨q, h1, h2⟩ := Option.bind_eq_some_iff.mp hr
        exact ih _ _ _ _ _ _ h2
      · split at hr
        · exact ih _ _ _ _ _ _ hr
        · obtain ⟨q, h1, h2⟩ := Option.bind_eq_some_iff.mp hr
          exact (sHeap_le h1).tr (ih _ _ _ _ _ _ h2)
      · obtain ⟨q, h1, h2⟩ := Option.bind_eq_some_iff.mp hr
        exact ih _ _ _ _ _ _ h2
      · obtain ⟨q, h1, h2⟩ := Option.map_eq_some_iff.mp hr
        cases h2
        exact sLe_rf _
      · obtain ⟨q, h1, h2⟩ := Option.bind_eq_some_iff.mp hr
        split at h2
        · obtain ⟨z, h3, h4⟩ := Option.bind_eq_some_iff.mp h2
          exact (hc _ _ _ _ _ h3).tr (ih _ _ _ _ _ _ h4)
        · cases h2
      · split at hr
        · obtain ⟨q, h1, h2⟩ := Option.bind_eq_some_iff.mp hr
          exact ih _ _ _ _ _ _ h2
        · cases hr
theorem sCall_le : ∀ (d n k : Nat) (as : List Value) (h : sHp) (r : Option Value) (h' : sHp), sCall d n k as h = some (r, h') → sLe h h' := by
  intro d
  induction d with
  | zero => intro n k as h r h' hr; cases hr
  | succ d ih =>
    intro n k as h r h' hr
    rw [sCall] at hr
    split at hr
    · rw [sStC_eq hr]
      exact sLe_rf h
    obtain ⟨q, h1, h2⟩ := Option.bind_eq_some_iff.mp hr
    obtain ⟨L, h3, h4⟩ := Option.bind_eq_some_iff.mp h2
    exact sRun_le (fun k as h r h' => ih n k as h r h') _ _ _ _ _ _ _ h4
/-! ===== the locals with which a method begins ===== -/
theorem sIniA_len (σ : Nat → Nat) : ∀ as : List Value, (lg_sl (as.map (rV σ))).length = (sIniA as).length
  | [] => rfl
  | v :: vs => by
    have ih := sIniA_len σ vs
    unfold lg_sl at ih ⊢
    rw [List.map_cons, List.flatMap_cons, List.length_append, ih, sIniA, rV_cat]
    split
    · simp; omega
    · simp; omega
theorem sIniA_at (σ : Nat → Nat) : ∀ (as : List Value) (i j : Nat) (v : Value), (sIniA as)[j]? = some (some v) → (i + j, rV σ v) ∈ lv_args i (as.map (rV σ))
  | [], i, j, v, h => by cases h
  | w :: vs, i, j, v, h => by
    rw [sIniA] at h
    rw [List.map_cons, lv_args, rV_cat]
    by_cases hc : w.category = 2
    · rw [if_pos hc] at h ⊢
      match j, h with
      | 0, h => rw [List.getElem?_cons_zero] at h; cases h; exact List.mem_cons_self
      | 1, h => rw [List.getElem?_cons_succ, List.getElem?_cons_zero] at h; cases h
      | j + 2, h =>
        rw [List.getElem?_cons_succ, List.getElem?_cons_succ] at h
        have := sIniA_at σ vs (i + 2) j v h
        rw [show i + (j + 2) = i + 2 + j by omega]
        exact List.mem_cons_of_mem _ this
    · rw [if_neg hc] at h ⊢
      match j, h with
      | 0, h => rw [List.getElem?_cons_zero] at h; cases h; exact List.mem_cons_self
      | j + 1, h =>
        rw [List.getElem?_cons_succ] at h
        have := sIniA_at σ vs (i + 1) j v h
        rw [show i + (j + 1) = i + 1 + j by omega]
        exact List.mem_cons_of_mem _ this
theorem sIniA_nd : ∀ (as : List Value), as.all sNd = true → ∀ (j : Nat) (x : UInt64), (sIniA as)[j]? ≠ some (some (.double x))
  | [], _, j, x => by intro h; cases h
  | w :: vs, ha, j, x => by
    rw [List.all_cons, Bool.and_eq_true] at ha
    have ih := sIniA_nd vs ha.2
    rw [sIniA]
    split
    · match j with
      | 0 => rw [List.getElem?_cons_zero]; intro h; cases h; exact absurd (show sNd (.double x) = true from ha.1) (fun q => by cases q)
      | 1 => rw [List.getElem?_cons_succ, List.getElem?_cons_zero]; intro h; cases h
      | j + 2 => rw [List.getElem?_cons_succ, List.getElem?_cons_succ]; exact ih j x
    · match j with
      | 0 => rw [List.getElem?_cons_zero]; intro h; cases h; exact absurd (show sNd (.double x) = true from ha.1) (fun q => by cases q)
      | j + 1 => rw [List.getElem?_cons_succ]; exact ih j x
theorem s_ini {σ : Nat → Nat} {nL : Nat} {as : List Value} {L : sLo} (h : sIni nL as = some L) : sLs σ nL L ((lg_sl (as.map (rV σ)) ++ List.replicate (nL - (lg_sl (as.map (rV σ))).length) Slot.unset).toArray) := by
  unfold sIni at h
  split at h
  · rename_i hc
    cases h
    obtain ⟨h1, h2⟩ := hc
    refine ⟨by rw [List.length_append, List.length_replicate]; omega, fun i x hi => ?_, lv_mono (lv_entry _ (by rw [sIniA_len]; exact h2)) fun q hq => ?_⟩
    · by_cases hl : i < (sIniA as).length
      · rw [List.getElem?_append_left hl] at hi
        exact sIniA_nd as h1 i x hi
      · rw [List.getElem?_append_right (by omega)] at hi
        have := List.eq_of_mem_replicate (List.mem_of_getElem? hi)
        cases this
    · obtain ⟨v, g1, g2⟩ := sEnt_mem.mp hq
      by_cases hl : q.1 < (sIniA as).length
      · rw [List.getElem?_append_left hl] at g1
        have g3 := sIniA_at σ as 0 q.1 v g1
        rw [Nat.zero_add] at g3
        have : q = (q.1, rV σ v) := by rw [← g2]
        rw [this]
        exact g3
      · rw [List.getElem?_append_right (by omega)] at g1
        have := List.eq_of_mem_replicate (List.mem_of_getElem? g1)
        cases this
  · cases h
/-! ===== what is carried beside the tables ===== -/
theorem sAO_use {s : State} {t : FieldType} {args : Array Value} (h : (Jvm.Cond.arrayOver (.array t)).before args s = true) : ∃ (comp c : ClassId) (k : Class), s.vm.findClass (FieldType.array t).toString = some comp ∧ (s.vm.classes.findIdx? fun (x : Class) => match x.kind with | .array component _ => component == comp | _ => false) = some c ∧ s.vm.classes[c]? = some k ∧ k.kind = .array comp (.array t) ∧ s.vm.findClass ("[" ++ (FieldType.array t).toString) = some c := by
  unfold Jvm.Cond.before at h
  simp only [Jvm.Cond.holds, Jvm.Cond.value, beq_iff_eq] at h
  cases hc : s.vm.findClass (FieldType.array t).toString with
  | none => simp [hc] at h
  | some comp =>
    simp only [hc, Option.bind_some, Option.bind_eq_some_iff, Option.map_eq_some_iff] at h
    obtain ⟨c, hi, k, hk, hb⟩ := h
    obtain ⟨hlt, hp, -⟩ := Array.findIdx?_eq_some_iff_getElem.mp hi
    have hkk : s.vm.classes[c] = k := (Array.getElem?_eq_some_iff.mp hk).2
    rw [hkk] at hp
    cases hkind : k.kind with
    | array component ty =>
      rw [hkind] at hb hp
      simp at hb hp
      exact ⟨comp, c, k, rfl, hi, hk, by rw [hkind, hp, hb.1], hb.2⟩
    | _ => rw [hkind] at hb; simp at hb
theorem sAO_moved {t : FieldType} {args args' : Array Value} {u U : State} (hvm : u.vm.Alike U.vm) (h : (Jvm.Cond.arrayOver (.array t)).before args u = true) : (Jvm.Cond.arrayOver (.array t)).before args' U = true := by
  obtain ⟨comp, c, k, h1, h2, h3, h4, h5⟩ := sAO_use h
  obtain ⟨k', hk', he⟩ := hvm.2.2 _ _ h3
  have hi : (U.vm.classes.findIdx? fun (x : Class) => match x.kind with | .array component _ => component == comp | _ => false) = some c := by
    refine (va_idx_bare U.vm comp).symm.trans ?_
    first | rw [hvm.bare_eq] | rw [← hvm.bare_eq]
    exact (va_idx_bare u.vm comp).trans h2
  have hkind : k'.kind = .array comp (.array t) := by rw [he]; exact h4
  have f1 : U.vm.findClass (FieldType.array t).toString = some comp := by rw [hvm.findClass]; exact h1
  have f2 : U.vm.findClass ("[" ++ (FieldType.array t).toString) = some c := by rw [hvm.findClass]; exact h5
  unfold Jvm.Cond.before Jvm.Cond.holds
  simp only [Jvm.Cond.value]
  rw [f1, Option.bind_some]
  refine (congrArg (fun o : Option Nat => (o.bind (fun c => (U.vm.classes[c]?).map fun (k : Class) => match k.kind with | .array _ ty => decide (ty = FieldType.array t) && decide (U.vm.findClass ("[" ++ (FieldType.array t).toString) = some c) | _ => false) == some true)) hi).trans ?_
  simp [hk', hkind, f2]
theorem sNw_warm {s U : State} (hW : s.WarmedH U.vm) (h : sNw s) : sNw U := by
  intro w hw
  have hs := h w hw
  simp only [sNwl, List.mem_cons, List.not_mem_nil, or_false] at hw
  rcases hw with rfl | rfl | rfl | rfl | rfl | rfl | rfl | rfl | rfl | rfl | rfl
  · exact va_AO.moved hW.alike hs
  · exact va_AO.moved hW.alike hs
  · exact sAO_moved hW.alike hs
  all_goals first | exact va_Nw.warmC hW hs | exact va_Nw.warmM hW hs
theorem sNw_same {u U : State} (e : u.vm = U.vm) (h : sNw u) : sNw U := by
  intro w hw
  have hs := h w hw
  have ha : u.vm.Alike U.vm := by rw [e]; exact Vm.Alike.refl _
  simp only [sNwl, List.mem_cons, List.not_mem_nil, or_false] at hw
  rcases hw with rfl | rfl | rfl | rfl | rfl | rfl | rfl | rfl | rfl | rfl | rfl
  · exact va_AO.moved ha hs
  · exact va_AO.moved ha hs
  · exact sAO_moved ha hs
  all_goals exact va_Nw.same rfl e hs
end
section
/-! ===== the calls that a cut answers by its kind ===== -/
def sFpL : List (List (List Nat)) := [[[2219, 2217, 3007, 2220], [2219, 2217, 3007, 2227], [2219, 2217, 3007, 2218], [0, 0, 0, 0], [2219, 2217, 3007, 2231], [2219, 2217, 3007, 2235], [0, 0, 0, 0], [0, 0, 0, 0], [0, 0, 0, 0], [2219, 2217, 3007, 3002], [2219, 2217, 3007, 3003]], [[3017, 3015, 3057, 3018], [3017, 3015, 3057, 3025], [3017, 3015, 3057, 3016], [0, 0, 0, 0], [3017, 3015, 3057, 3037], [3017, 3015, 3057, 3044], [0, 0, 0, 0], [0, 0, 0, 0], [0, 0, 0, 0], [3017, 3015, 3057, 3048], [3017, 3015, 3057, 3052]], [[3065, 3063, 3075, 3066], [3065, 3063, 3075, 3067], [3065, 3063, 3075, 3064], [0, 0, 0, 0], [3065, 3063, 3075, 3068], [3065, 3063, 3075, 3069], [0, 0, 0, 0], [0, 0, 0, 0], [0, 0, 0, 0], [3065, 3063, 3075, 3073], [3065, 3063, 3075, 3074]], [[5088, 5086, 5111, 5089], [5088, 5086, 5111, 5101], [5088, 5086, 5111, 5087], [0, 0, 0, 0], [5088, 5086, 5111, 5102], [5088, 5086, 5111, 5103], [0, 0, 0, 0], [0, 0, 0, 0], [0, 0, 0, 0], [5088, 5086, 5111, 5104], [5088, 5086, 5111, 5105]], [[5116, 5114, 5134, 5117], [5116, 5114, 5134, 5122], [5116, 5114, 5134, 5115], [0, 0, 0, 0], [5116, 5114, 5134, 5127], [5116, 5114, 5134, 5128], [0, 0, 0, 0], [0, 0, 0, 0], [0, 0, 0, 0], [5116, 5114, 5134, 5129], [5116, 5114, 5134, 5130]], [[5139, 5137, 5155, 5140], [5139, 5137, 5155, 5141], [5139, 5137, 5155, 5138], [0, 0, 0, 0], [5139, 5137, 5155, 5142], [5139, 5137, 5155, 5148], [0, 0, 0, 0], [0, 0, 0, 0], [0, 0, 0, 0], [5139, 5137, 5155, 5153], [5139, 5137, 5155, 5154]]]
def sFamB (k ci p0 p1 p2 p3 : Nat) : Bool := match sM (sVt k ci), sM (sFn k) with
  | some z, some zx => decide (sVt k ci < 258 ∧ mA z = 1 ∧ mK z = 1 ∧ (parseMethodDescriptor (sFx k).desc).map (fun d => d.parameters.length) = some 1) && (sWi p0 (.sameMethod (sFx k).cls RX2 (sFx k).name (sFx k).desc) && (sWi p1 (.instanceMethod ⟨RX2, (sFx k).name, (sFx k).desc⟩) && (sWi p3 (.selects (sCN ci) (sFx k) (mY z)) && sWi p2 (.code ⟨RX2, (sFx k).name, (sFx k).desc⟩ (mC zx) (mN zx) (mR zx)))))
  | _, _ => false
def sFamC (k ci : Nat) : Bool := sGrp ci != 2 || (match ((sFpL[k - 1000]?).bind (fun r => r[ci]?)) with
  | some [p0, p1, p2, p3] => sFamB k ci p0 p1 p2 p3
  | _ => false)
theorem sFam_dec : ((List.range 6).all fun f => (List.range 11).all fun ci => sFamC (1000 + f) ci) = true := by decide +kernel
theorem sFam_of {k ci : Nat} (h1 : 1000 ≤ k) (h2 : k < 1006) (h3 : ci < 11) (h4 : sGrp ci = 2) : ∃ z zx, sM (sVt k ci) = some z ∧ sVt k ci < 258 ∧ mA z = 1 ∧ mK z = 1 ∧ (parseMethodDescriptor (sFx k).desc).map (fun d => d.parameters.length) = some 1 ∧ Jvm.Cond.sameMethod (sFx k).cls RX2 (sFx k).name (sFx k).desc ∈ sTB ∧ Jvm.Cond.instanceMethod ⟨RX2, (sFx k).name, (sFx k).desc⟩ ∈ sTB ∧ Jvm.Cond.selects (sCN ci) (sFx k) (mY z) ∈ sTB ∧ Jvm.Cond.code ⟨RX2, (sFx k).name, (sFx k).desc⟩ (mC zx) (mN zx) (mR zx) ∈ sTB := by
  have h := List.all_eq_true.mp (List.all_eq_true.mp sFam_dec (k - 1000) (List.mem_range.mpr (by omega))) ci (List.mem_range.mpr h3)
  rw [show 1000 + (k - 1000) = k by omega] at h
  unfold sFamC at h
  rw [h4, show ((2 : Nat) != 2) = false from rfl, Bool.false_or] at h
  split at h
  · unfold sFamB at h
    split at h
    · rename_i z zx e1 e2
      simp only [Bool.and_eq_true, decide_eq_true_eq] at h
      obtain ⟨⟨a1, a2, a3, a4⟩, b0, b1, b3, b2⟩ := h
      exact ⟨z, zx, e1, a1, a2, a3, a4, sWi_in b0, sWi_in b1, sWi_in b3, sWi_in b2⟩
    · cases h
  · cases h
end
section
/-! ===== the run: calls, and all of it ===== -/
theorem sChkM_of {q : sMt} (h : sChkM q = true) : Jvm.Cond.code (mY q) (mC q) (mN q) (mR q) ∈ sTB ∧ Jvm.Cond.initialized (mY q).cls ∈ sTB ∧ (mK q = 0 → Jvm.Cond.static (mY q) ∈ sTB) ∧ (mK q ≠ 0 → Jvm.Cond.instanceMethod (mY q) ∈ sTB) ∧ Jvm.plainName (mY q).cls = true ∧ ((mY q).cls ≠ "java/lang/invoke/MethodHandle" ∧ (mY q).cls ≠ "java/lang/invoke/VarHandle" ∧ (parseMethodDescriptor (mY q).desc).map (fun d => d.parameters.length) = some (mA q)) ∧ mN q ≤ 16 ∧ (mK q = 2 → (mY q).name = "<init>" ∧ mR q = none) ∧ (mK q = 1 → (mY q).name ≠ "<init>") ∧ (mK q ≠ 0 → vwCl[mI q]?.map (fun z => z.1) = some (mY q).cls) := by
  unfold sChkM at h
  simp only [Bool.and_eq_true] at h
  obtain ⟨h1, h2, h3, h4, h5, h6, h7⟩ := h
  split at h1
  · simp only [Bool.and_eq_true] at h1
    obtain ⟨a1, a2, a3⟩ := h1
    refine ⟨sWi_in a1, sWi_in a2, fun e => ?_, fun e => ?_, h2, of_decide_eq_true h3, of_decide_eq_true h4, of_decide_eq_true h5, of_decide_eq_true h6, of_decide_eq_true h7⟩
    · rw [if_pos e] at a3; exact sWi_in a3
    · rw [if_neg e] at a3; exact sWi_in a3
  · cases h1
theorem sFt_of {q : sMt} {pc : Nat} {ins : Instr} (h : sFt q pc = some ins) : ∃ e ∈ mT q, e.1 = pc ∧ e.2.2.1 = ins := by
  unfold sFt at h
  split at h
  · rename_i e he
    cases h
    exact ⟨e, List.mem_of_find?_eq_some he, by have := List.find?_some he; exact beq_iff_eq.mp this, rfl⟩
  · cases h
theorem sChkE_of {q : sMt} {pc : Nat} {ins : Instr} (hq : ∀ e ∈ mT q, sChkE q e = true) (h : sFt q pc = some ins) (hn : ins ≠ .nop) : ∃ (r : List Nat) (len : Nat), decode (mC q) pc = .ok (sReal ins r, len) ∧ (sSw ins = true ∨ len = sLen ins) ∧ sExt (mY q).cls (mY q).name ins r = true := by
  obtain ⟨e, he, h1, h2⟩ := sFt_of h
  have hc := hq e he
  unfold sChkE at hc
  split at hc
  · rename_i e2
    exact absurd (h2.symm.trans e2) hn
  · simp only [Bool.and_eq_true, Bool.or_eq_true, decide_eq_true_eq] at hc
    obtain ⟨a1, a2, a3⟩ := hc
    rw [h1, h2] at a1
    rw [h2] at a2 a3
    exact ⟨e.2.2.2, e.2.1, a1, a2, a3⟩
theorem sPure_real {ins : Instr} {st st' : List Value} (h : sPure ins st = some st') (r : List Nat) : sReal ins r = ins ∧ sSw ins = false ∧ ins ≠ .nop := by
  unfold sPure at h
  split at h <;> first | (cases h; done) | exact ⟨rfl, rfl, (fun z => by cases z)⟩
theorem sLoc_real {ins : Instr} {L : sLo} {st : List Value} {z : sLo × List Value} (h : sLoc ins L st = some z) (r : List Nat) : sReal ins r = ins ∧ sSw ins = false ∧ ins ≠ .nop := by
  unfold sLoc at h
  split at h <;> first | (cases h; done) | exact ⟨rfl, rfl, (fun z => by cases z)⟩
theorem sRet_real {rt : Option FieldType} {ins : Instr} {st : List Value} {z : Option Value} (h : sRet rt ins st = some z) (r : List Nat) : sReal ins r = ins ∧ sSw ins = false ∧ ins ≠ .nop ∧ sLen ins = 1 := by
  unfold sRet at h
  split at h <;> first | (cases h; done) | exact ⟨rfl, rfl, (fun z => by cases z), rfl⟩
theorem sJmp_real {ins : Instr} {pc : Nat} {st : List Value} {z : Nat × List Value} (h : sJmp ins pc st = some z) (r : List Nat) : sReal ins r = ins ∧ ins ≠ .nop ∧ ((∃ d lo hi o, ins = .tableswitch d lo hi o) ∨ (∃ d ps, ins = .lookupswitch d ps) ∨ (sSw ins = false ∧ sLen ins = 3 ∧ ∀ d ps, ins ≠ .lookupswitch d ps)) := by
  unfold sJmp at h
  split at h
  · exact ⟨rfl, (fun z => by cases z), Or.inr (Or.inr ⟨rfl, rfl, (fun _ _ z => by cases z)⟩)⟩
  · exact ⟨rfl, (fun z => by cases z), Or.inr (Or.inr ⟨rfl, rfl, (fun _ _ z => by cases z)⟩)⟩
  · exact ⟨rfl, (fun z => by cases z), Or.inr (Or.inr ⟨rfl, rfl, (fun _ _ z => by cases z)⟩)⟩
  · exact ⟨rfl, (fun z => by cases z), Or.inr (Or.inr ⟨rfl, rfl, (fun _ _ z => by cases z)⟩)⟩
  · exact ⟨rfl, (fun z => by cases z), Or.inr (Or.inr ⟨rfl, rfl, (fun _ _ z => by cases z)⟩)⟩
  · exact ⟨rfl, (fun z => by cases z), Or.inl ⟨_, _, _, _, rfl⟩⟩
  · exact ⟨rfl, (fun z => by cases z), Or.inr (Or.inl ⟨_, _, rfl⟩)⟩
  · cases h
theorem sHeap_nop {ins : Instr} {st : List Value} {h : sHp} {z : List Value × sHp} (hh : sHeap ins st h = some z) : ins ≠ .nop ∧ sSw ins = false := by
  unfold sHeap at hh
  split at hh <;> first | exact ⟨(fun z => by cases z), rfl⟩ | (cases hh; done)
section RUN
variable {p : Program} {l : Launch} {e : Env} {R : Room} {s : State} {m : MethodId} {args : Array Value} {below : List Frame} {meth : Method} {c : Code} {H : Heap} {locs : List Loc} {cells slots : Nat} {Q : State → Prop} {cc : ByteArray} {pc : Nat} {ls : Array Slot} {nL base : Nat} {b : Nat → Nat} {D : va_G} {dA : Nat → ClassId} {own : String}
def sPre (base : Nat) (b : Nat → Nat) (D : va_G) (dA : Nat → ClassId) (h : sHp) : State → Prop := fun U => U.heap.size = base + h.length ∧ va_P D vwCl (rW (sAd base b) dA h) U.heap ∧ va_K D vwCl (sTys dA) U ∧ sNw U ∧ sOuw base b U U.heap
def sQ (base : Nat) (b : Nat → Nat) (D : va_G) (dA : Nat → ClassId) (r : Option Value) (h' : sHp) : Array Value → State → Outcome → State → Prop := fun _ st oc t => (oc = .returned (r.map (rV (sAd base b))) ∧ va_P D vwCl (rW (sAd base b) dA h') t.heap) ∧ va_F (fun q => base ≤ q) st t
def sWs (q : sMt) : List Jvm.Cond := .code (mY q) (mC q) (mN q) (mR q) :: sTB
def sRm (d mc ms : Nat) : Room := { frames := d, cells := mc, slots := ms, locals := 39 * d }
def sMet (l : Launch) (base : Nat) (b : Nat → Nat) (D : va_G) (dA : Nat → ClassId) (d : Nat) (q : sMt) (as : List Value) (h : sHp) (r : Option Value) (h' : sHp) : Prop :=
  Met l (mY q) (sWs q) (sRm d (h'.length - h.length) (sSl h' - sSl h)) (va_Pc (as.map (rV (sAd base b))) (sPre base b D dA h)) (sQ base b D dA r h') (h'.length - h.length) (sSl h' - sSl h) (fun q => base ≤ q)
theorem s_blind {as : List Value} {h : sHp} : FrameBlind (va_Pc as (sPre base b D dA h)) := by
  intro a U g mk hv
  obtain ⟨e1, e2, e3, e4, e5, e6⟩ := hv
  exact ⟨e1, e2, e3, va_K.moved (u := U) (U := U.calling g mk a) (Vm.Alike.refl U.vm) e4, sNw_same (u := U) rfl e5, sOuw_same (s := U) rfl e6⟩
theorem s_back {mc ms : Nat} {a : Array Value} {r : Option Value} {h' : sHp} {st0 rest : List Value} (hr : va_Run p l e R s m args below meth c H locs cells slots mc ms (F0 m pc ls st0) rest (sQ base b D dA r h' a) (fun q => base ≤ q)) (hS : va_S (fun q => base ≤ q) s.heap H locs)
    (kk : ∀ (H1 : Heap) (locs1 : List Loc), va_P D vwCl (rW (sAd base b) dA h') H1 → va_S (fun q => base ≤ q) s.heap H1 locs1 → W p l e R s m args below meth c H1 locs1 (cells + mc) (slots + ms) Q (F0 m (pc + 3) ls ((r.map (rV (sAd base b))).toList ++ rest))) : W p l e R s m args below meth c H locs cells slots Q (F0 m pc ls st0) := by
  intro T hT X
  obtain ⟨v, st₀, t, T', L, h0, X', hL, e1, e2, ⟨⟨hv, hP⟩, hz, hk⟩, st⟩ := hr T hT X
  cases hv
  rw [h0] at hz hk
  obtain ⟨t2, a1, b1⟩ := kk T'.heap (locs ++ L) (by rw [e1]; exact hP) ⟨Nat.le_trans hS.1 (by rw [e1]; exact hz), fun q h1 h2 => by rw [e1, hk q (Nat.lt_of_lt_of_le h1 hS.1) h2]; exact hS.2.1 q h1 h2, fun q hq => by
      rcases List.mem_append.mp hq with h | h
      · exact hS.2.2 q h
      · exact hL q h⟩ T' rfl X'
  exact ⟨t2, st t2 a1, b1⟩
theorem sPop_of {n : Nat} {st : List Value} {z : List Value × List Value} (h : sPop n st = some z) : st = z.1.reverse ++ z.2 ∧ z.1.length = n := by
  unfold sPop at h
  split at h
  · rename_i hn
    cases h
    exact ⟨by simp, by simp; omega⟩
  · cases h
theorem rS_cat (σ : Nat → Nat) (st : List Value) : (rS σ st).map (fun v => v.category) = st.map (fun v => v.category) := by
  unfold rS
  rw [List.map_map]
  exact List.map_congr_left fun v _ => rV_cat σ v
theorem rS_back (σ : Nat → Nat) (r : Option Value) (st : List Value) : (r.map (rV σ)).toList ++ rS σ st = rS σ (r.toList ++ st) := by cases r <;> rfl
theorem sWs_in {q : sMt} (h : sChkM q = true) : ∀ w ∈ sWs q, w ∈ sTB := by
  intro w hw
  rcases List.mem_cons.mp hw with rfl | hw
  · exact (sChkM_of h).1
  · exact hw
/-- what every call needs, and what comes behind it -/
def sNext (p : Program) (l : Launch) (e : Env) (R : Room) (s : State) (m : MethodId) (args : Array Value) (below : List Frame) (meth : Method) (c : Code) (cells slots : Nat) (Q : State → Prop) (pc : Nat) (ls : Array Slot) (base : Nat) (b : Nat → Nat) (D : va_G) (dA : Nat → ClassId) (h : sHp) (r : Option Value) (h' : sHp) (rest : List Value) : Prop :=
  ∀ (H1 : Heap) (locs1 : List Loc), sSt base b D dA s h' H1 locs1 → W p l e R s m args below meth c H1 locs1 (cells + (h'.length - h.length)) (slots + (sSl h' - sSl h)) Q (F0 m (pc + 3) ls (rS (sAd base b) (r.toList ++ rest)))
theorem s_pre (E : sEnv p s m c args cc nL base b D dA own) {h : sHp} (S : sSt base b D dA s h H locs) (hH : H.size = base + h.length) (as : List Value) : ∀ U : State, U.heap = H → s.WarmedH U.vm → va_Pc as (sPre base b D dA h) as.toArray U := by
  obtain ⟨hx, hb, hml, hown, hts, hK, hbs, hnw, hou⟩ := E
  intro U hU hW
  exact ⟨rfl, by rw [hU]; exact hH, by rw [hU]; exact S.1, va_K.moved hW.alike hK, sNw_warm hW hnw, by rw [hU]; exact sOuw_warm hW (sOuw_kept S.2.1.2.1 hou)⟩
theorem s_callStatic (E : sEnv p s m c args cc nL base b D dA own) {h h' : sHp} (S : sSt base b D dA s h H locs) (hsl : ls.size = nL) (ac : s.heap.size + cells = base + h.length) {d idx : Nat} {z : sMt} {as rest : List Value} {r : Option Value} (hz : sChkM z = true) (h0 : mK z = 0) (hl : Jvm.Cond.methodLink own idx (mY z) ∈ sTB) (hM : sMet l base b D dA d z as h r h') (hn : as.length = mA z) (hcat : (rest.map (fun v => v.category)).sum ≤ 8)
    (hRf : d + 1 ≤ R.frames) (hRl : 39 * (d + 1) ≤ R.locals) (hc : cells + (h'.length - h.length) ≤ R.cells) (hs : slots + (sSl h' - sSl h) ≤ R.slots) (hl1 : h'.length ≤ 1000000) (hdg : decode cc pc = .ok (.invokestatic idx, 3))
    (kk : sNext p l e R s m args below meth c cells slots Q pc ls base b D dA h r h' rest) : W p l e R s m args below meth c H locs cells slots Q (F0 m pc ls (rS (sAd base b) (as.reverse ++ rest))) := by
  obtain ⟨hx, hb, hml, hown, hts, hK, hbs, hnw, hou⟩ := id E
  obtain ⟨f1, f2, f3, f4, f5, f6, f7, f8, f9, f10⟩ := sChkM_of hz
  refine W_size fun hzz => ?_
  have hH := s_size S hbs ac hzz
  have hr := va_runS (p := p) (l := l) (e := e) (R := R) (below := below) (meth := meth) (locs := locs) (cells := cells) (slots := slots) (As := rS (sAd base b) as) (rest := rS (sAd base b) rest) (g := F0 m pc ls (rS (sAd base b) (as.reverse ++ rest))) ⟨hx, hb, hml, hown, hts⟩ hM (va_cwS (mA z) hts (sTB_in (fun w hw => by
    rcases List.mem_append.mp hw with hw | hw
    · simp only [List.mem_cons, List.not_mem_nil, or_false] at hw
      rcases hw with rfl | rfl | rfl
      · exact hl
      · exact f3 h0
      · exact f2
    · exact sWs_in hz w hw)) rfl rfl rfl f6 ⟨hRf, by show 8 + (mN z + 11) + 39 * d ≤ _; omega⟩) ⟨s_blind, s_pre E S hH _⟩ rfl (by rw [List.length_map]; exact hn) hsl (by rw [rS, List.map_append, List.map_reverse]) (lv_room (by rw [rS_cat]; exact hcat)) hdg ⟨hc, hs⟩
  refine s_back hr S.2.1 fun H1 l1 P1 S1 => ?_
  rw [rS_back]
  exact kk H1 l1 ⟨P1, S1, hl1⟩
theorem s_callInit (E : sEnv p s m c args cc nL base b D dA own) {h h' : sHp} (S : sSt base b D dA s h H locs) (hsl : ls.size = nL) (ac : s.heap.size + cells = base + h.length) {d idx o : Nat} {z : sMt} {as rest : List Value} {r : Option Value} (hz : sChkM z = true) (h0 : mK z = 2) (hl : Jvm.Cond.methodLink own idx (mY z) ∈ sTB ∨ Jvm.Cond.methodLinkNest own idx (mY z) RX11 ∈ sNwl) (hM : sMet l base b D dA d z (.ref o :: as) h r h') (hn : as.length = mA z) (hcat : (rest.map (fun v => v.category)).sum ≤ 8)
    (hRf : d + 1 ≤ R.frames) (hRl : 39 * (d + 1) ≤ R.locals) (hc : cells + (h'.length - h.length) ≤ R.cells) (hs : slots + (sSl h' - sSl h) ≤ R.slots) (hl1 : h'.length ≤ 1000000) (hdg : decode cc pc = .ok (.invokespecial idx, 3))
    (kk : sNext p l e R s m args below meth c cells slots Q pc ls base b D dA h r h' rest) : W p l e R s m args below meth c H locs cells slots Q (F0 m pc ls (rS (sAd base b) (as.reverse ++ .ref o :: rest))) := by
  obtain ⟨hx, hb, hml, hown, hts, hK, hbs, hnw, hou⟩ := id E
  obtain ⟨f1, f2, f3, f4, f5, f6, f7, f8, f9, f10⟩ := sChkM_of hz
  obtain ⟨g1, g2⟩ := f8 h0
  refine W_size fun hzz => ?_
  have hH := s_size S hbs ac hzz
  have hin : Jvm.Cond.instanceMethod (mY z) ∈ sTB := f4 (by rw [h0]; decide)
  have hw : sWs z = Jvm.Cond.code (mY z) (mC z) (mN z) none :: sTB := by unfold sWs; rw [g2]
  have hroom : (sRm d (h'.length - h.length) (sSl h' - sSl h)).frames + 1 ≤ R.frames ∧ 8 + (mN z + 11) + (sRm d (h'.length - h.length) (sSl h' - sSl h)).locals ≤ R.locals := ⟨hRf, by show 8 + (mN z + 11) + 39 * d ≤ _; omega⟩
  have hst : rS (sAd base b) (as.reverse ++ .ref o :: rest) = (rS (sAd base b) as).reverse ++ .ref (sAd base b o) :: rS (sAd base b) rest := by rw [rS, List.map_append, List.map_reverse]; rfl
  rcases hl with hl | hl
  · have hr := va_runI (p := p) (l := l) (e := e) (R := R) (below := below) (meth := meth) (locs := locs) (cells := cells) (slots := slots) (As := rS (sAd base b) as) (rest := rS (sAd base b) rest) (g := F0 m pc ls (rS (sAd base b) (as.reverse ++ .ref o :: rest))) ⟨hx, hb, hml, hown, hts⟩ hM (cwI (mA z) hts (sTB_in (sWs_in hz)) hw rfl rfl (hts _ f2) (hts _ hl) (hts _ hin) g1 f6 hroom) ⟨s_blind, s_pre E S hH _⟩ rfl (by rw [List.length_map]; exact hn) hsl hst (lv_room (by rw [rS_cat]; exact hcat)) hdg ⟨hc, hs⟩
    refine s_back hr S.2.1 fun H1 l1 P1 S1 => ?_
    rw [rS_back]
    exact kk H1 l1 ⟨P1, S1, hl1⟩
  · have hr := va_runIN (p := p) (l := l) (e := e) (R := R) (below := below) (meth := meth) (locs := locs) (cells := cells) (slots := slots) (As := rS (sAd base b) as) (rest := rS (sAd base b) rest) (g := F0 m pc ls (rS (sAd base b) (as.reverse ++ .ref o :: rest))) ⟨hx, hb, hml, hown, hts⟩ hM ⟨va_cnB (mA z) hts (sTB_in (sWs_in hz)) hw rfl rfl (hnw _ hl) (hts _ f2) f6 hroom, g1, hts _ hin⟩ ⟨s_blind, s_pre E S hH _⟩ rfl (by rw [List.length_map]; exact hn) hsl hst (lv_room (by rw [rS_cat]; exact hcat)) hdg ⟨hc, hs⟩
    refine s_back hr S.2.1 fun H1 l1 P1 S1 => ?_
    rw [rS_back]
    exact kk H1 l1 ⟨P1, S1, hl1⟩
theorem s_recv (E : sEnv p s m c args cc nL base b D dA own) {h : sHp} (S : sSt base b D dA s h H locs) {o ci : Nat} {fs : List Value} (ho : h[o]? = some (.inr (ci, fs))) : ∃ q, vwCl[ci]? = some q ∧ (∃ cell : Cell, H[sAd base b o]? = some cell ∧ cell.vm.isStatics = false ∧ s.vm.findClass q.1 = some cell.cls) ∧ ClassAt s q.1 (D.1 ci) := by
  obtain ⟨hx, hb, hml, hown, hts, hK, hbs, hnw, hou⟩ := E
  obtain ⟨q, hq⟩ := s_cls S ho
  exact ⟨q, hq, va_recv hK S.1 hq (rW_at ho), (hK.1 ci q hq).2⟩
theorem s_callUp (E : sEnv p s m c args cc nL base b D dA own) {h h' : sHp} (S : sSt base b D dA s h H locs) (hsl : ls.size = nL) (ac : s.heap.size + cells = base + h.length) {d idx o ci : Nat} {fs : List Value} (ho : h[o]? = some (.inr (ci, fs))) {z : sMt} {as rest : List Value} {r : Option Value} (hz : sChkM z = true) (h0 : mK z = 1) (hl : Jvm.Cond.methodLink own idx (mY z) ∈ sTB) (hl2 : Jvm.Cond.sameMethod (mY z).cls (mY z).cls (mY z).name (mY z).desc ∈ sTB) (hl3 : Jvm.Cond.superclass own (mY z).cls ∈ sTB) (hM : sMet l base b D dA d z (.ref o :: as) h r h') (hn : as.length = mA z) (hcat : (rest.map (fun v => v.category)).sum ≤ 8)
    (hRf : d + 1 ≤ R.frames) (hRl : 39 * (d + 1) ≤ R.locals) (hc : cells + (h'.length - h.length) ≤ R.cells) (hs : slots + (sSl h' - sSl h) ≤ R.slots) (hl1 : h'.length ≤ 1000000) (hdg : decode cc pc = .ok (.invokespecial idx, 3))
    (kk : sNext p l e R s m args below meth c cells slots Q pc ls base b D dA h r h' rest) : W p l e R s m args below meth c H locs cells slots Q (F0 m pc ls (rS (sAd base b) (as.reverse ++ .ref o :: rest))) := by
  obtain ⟨hx, hb, hml, hown, hts, hK, hbs, hnw, hou⟩ := id E
  obtain ⟨f1, f2, f3, f4, f5, f6, f7, f8, f9, f10⟩ := sChkM_of hz
  obtain ⟨q, hq, hrc, hat⟩ := s_recv E S ho
  refine W_size fun hzz => ?_
  have hH := s_size S hbs ac hzz
  have hin : Jvm.Cond.instanceMethod (mY z) ∈ sTB := f4 (by rw [h0]; decide)
  have hroom : (sRm d (h'.length - h.length) (sSl h' - sSl h)).frames + 1 ≤ R.frames ∧ 8 + (mN z + 11) + (sRm d (h'.length - h.length) (sSl h' - sSl h)).locals ≤ R.locals := ⟨hRf, by show 8 + (mN z + 11) + 39 * d ≤ _; omega⟩
  have hst : rS (sAd base b) (as.reverse ++ .ref o :: rest) = (rS (sAd base b) as).reverse ++ .ref (sAd base b o) :: rS (sAd base b) rest := by rw [rS, List.map_append, List.map_reverse]; rfl
  have hr := va_runSU (p := p) (l := l) (e := e) (R := R) (below := below) (meth := meth) (locs := locs) (cells := cells) (slots := slots) (As := rS (sAd base b) as) (rest := rS (sAd base b) rest) (g := F0 m pc ls (rS (sAd base b) (as.reverse ++ .ref o :: rest))) hat ⟨hx, hb, hml, hown, hts⟩ hM (va_cwSU (mA z) hts (sTB_in (fun w hw => by
    rcases List.mem_append.mp hw with hw | hw
    · simp only [List.mem_cons, List.not_mem_nil, or_false] at hw
      rcases hw with rfl | rfl | rfl | rfl | rfl
      · exact hl
      · exact hl2
      · exact hl3
      · exact hin
      · exact f2
    · exact sWs_in hz w hw)) rfl rfl rfl ⟨f9 h0, f6.2.2⟩ hroom) ⟨s_blind, hrc, s_pre E S hH _⟩ rfl (by rw [List.length_map]; exact hn) hsl hst (lv_room (by rw [rS_cat]; exact hcat)) hdg ⟨hc, hs⟩
  refine s_back hr S.2.1 fun H1 l1 P1 S1 => ?_
  rw [rS_back]
  exact kk H1 l1 ⟨P1, S1, hl1⟩
theorem s_isSub {vm : Vm} {a c : ClassId} {k : Class} (h1 : vm.classes[a]? = some k) (h2 : k.super = some c) : vm.isSubclass a c = true := by
  have hp : 0 < vm.classes.size := Nat.lt_of_le_of_lt (Nat.zero_le _) (Array.getElem?_eq_some_iff.mp h1).1
  obtain ⟨n, hn⟩ : ∃ n, vm.classes.size = n + 1 := ⟨vm.classes.size - 1, by omega⟩
  unfold Vm.isSubclass
  rw [hn]
  simp [Vm.isSubclassAux, h1, h2]
theorem s_callSU2 {T : State} (X : Stand p l e R s m args below meth c T locs cells slots) (hexec : p.tables.exec = Jvm.exec) {xc : String} {index : Nat} {y : MethodName} {bytes : ByteArray} {maxL : Nat} {ret : Option FieldType}
    (hown : s.vm.findClass own = some m.cls) (hlink : (Jvm.Cond.methodLink own index ⟨xc, y.name, y.desc⟩).before args s = true) (hsame : (Jvm.Cond.sameMethod xc y.cls y.name y.desc).before args s = true) (hsup : (Jvm.Cond.superclass own xc).before args s = true) (hsup2 : (Jvm.Cond.superclass xc y.cls).before args s = true)
    (hinst : (Jvm.Cond.instanceMethod y).before args s = true) (hcode : (Jvm.Cond.code y bytes maxL ret).before args s = true) (hno : y.name ≠ "<init>")
    {W : Nat} {Pre : Pt → Array Value → Prop} {Post : Pt → Array Value → Option Value → Pt → Prop} (hK : Back l R p e below s args y 3 W Pre Post)
    {b : Addr} {cellB : Cell} {kB : Class} (hcell : T.heap[b]? = some cellB) (hobj : cellB.vm.isStatics = false) (hkB : s.vm.classes[cellB.cls]? = some kB)
    {g : JFrame} (hg : g.method = m) (hsize : g.locals.size = c.maxLocals) {argsL rest : List Value} (hlen : ∀ sig, parseMethodDescriptor y.desc = some sig → argsL.length = sig.parameters.length)
    (hstack : g.stack = argsL.reverse ++ .ref b :: rest) (hW : 2 * g.monitorRoom + (rest.map fun v => v.category).sum ≤ W) (hdg : decode c.code g.pc = .ok (.invokespecial index, 3))
    (hpre : ∀ vm₁, s.WarmedH vm₁ → Pre ⟨T.setVm vm₁, locs, cells, slots⟩ (Value.ref b :: argsL).toArray) :
    ∃ (v : Option Value) (vm₁ : Vm) (B : Pt), s.WarmedH vm₁ ∧ Stand p l e R s m args below meth c B.U B.locs B.cells B.slots ∧ Post ⟨T.setVm vm₁, locs, cells, slots⟩ (Value.ref b :: argsL).toArray v B ∧
      ∀ target, Steps p.tables e below (B.U.setTop { g with pc := g.pc + 3, stack := v.toList ++ rest }) target → Steps p.tables e below (T.setTop g) target := by
  obtain ⟨mk, methM, hnamed, hmethM, hstM, habM⟩ := Cond.instanceMethod_spec hinst
  obtain ⟨methM', cM, hmethM', -, -, -, -, -, -, hsigM⟩ := Cond.code_spec hnamed hcode
  cases hmethM.symm.trans hmethM'
  obtain ⟨ps, dk, kp, hps, hdk, hkp, hsuper, -, -, hnid⟩ := Cond.superclass_spec hown hsup
  obtain ⟨ps2, dk2, kp2, hps2, hdk2, hkp2, hsuper2, -, -, -⟩ := Cond.superclass_spec hps hsup2
  have hn : s.methodNamed? ⟨y.cls, y.name, y.desc⟩ = some mk := hnamed
  have hpm : ps2 = mk.cls := Option.some.inj (hps2.symm.trans (findClass_of_methodNamed hnamed))
  have hsub : s.vm.isSubclass ps mk.cls = true := by rw [← hpm]; exact s_isSub hdk2 hsuper2
  obtain ⟨vm₁, X₁, hstep₁⟩ := X.invokespecialUp (x := ⟨xc, y.name, y.desc⟩) hexec hown hlink hsame hn hmethM hstM habM hno hdk hnid hps hsuper hsub (a := b) (cell := cellB) hcell
    (fun z h => by rw [h] at hobj; cases hobj) hkB (g := g) hg (argsL := argsL) (rest := rest) (hlen _ hsigM) hstack hdg
  obtain ⟨v, B, X', hpost, hsteps⟩ := hK m meth c ⟨T.setVm vm₁, locs, cells, slots⟩ { g with stack := rest } (.invokespecial index) mk (Value.ref b :: argsL).toArray X₁ hg hsize hdg hW (X₁.named hnamed) (hpre vm₁ X₁.warmed)
  exact ⟨v, vm₁, B, X₁.warmed, X', hpost, fun target h => hstep₁ _ (by rw [doInvoke_state]; exact hsteps.trans h)⟩
theorem s_runSU2 {y : MethodName} {bytes : ByteArray} {maxL mc ms n index : Nat} {ret : Option FieldType} {ws : List Jvm.Cond} {rm : Room} {Pc : Array Value → State → Prop} {Qc : Array Value → State → Outcome → State → Prop} {free : Addr → Prop} {Ts : List Jvm.Cond} {xc C : String} {cC : ClassId} {b : Addr} {As rest : List Value} {g : JFrame}
    (hat : ClassAt s C cC) (S : CallFix p m c cc nL s args Ts own) (hM : Met l y ws rm Pc Qc mc ms free) (hTs : GoodIn Ts ([.methodLink own index ⟨xc, y.name, y.desc⟩, .sameMethod xc y.cls y.name y.desc, .superclass own xc, .superclass xc y.cls, .instanceMethod y, .initialized y.cls] ++ ws)) (hcw : Jvm.Cond.code y bytes maxL ret ∈ ws) (hrc : rm.cells = mc) (hrs : rm.slots = ms) (hd : y.name ≠ "<init>" ∧ (parseMethodDescriptor y.desc).map (fun d => d.parameters.length) = some n) (hR : rm.frames + 1 ≤ R.frames ∧ 8 + (maxL + 11) + rm.locals ≤ R.locals) (hp : PreV s H C b Pc As)
    (hg : g.method = m) (hn : As.length = n) (hsize : g.locals.size = nL) (hstack : g.stack = As.reverse ++ .ref b :: rest) (hW : 2 * g.monitorRoom + (rest.map fun v => v.category).sum ≤ 8) (hdg : decode cc g.pc = .ok (.invokespecial index, 3)) (hf : cells + mc ≤ R.cells ∧ slots + ms ≤ R.slots) :
    va_Run p l e R s m args below meth c H locs cells slots mc ms g rest (Qc (Value.ref b :: As).toArray) (free) := by
  obtain ⟨hx, hb, hml, ho, ht⟩ := S
  have ok : ∀ w ∈ ([.methodLink own index ⟨xc, y.name, y.desc⟩, .sameMethod xc y.cls y.name y.desc, .superclass own xc, .superclass xc y.cls, .instanceMethod y, .initialized y.cls] : List Jvm.Cond) ++ ws, w.before args s = true := fun w h => ht w (hTs w h).1
  have hG : GoodIn Ts ws := fun w h => hTs w (List.mem_append_right _ h)
  have hini : (Jvm.Cond.initialized y.cls).before args s = true := ok _ (by simp)
  have hK : Back l R p e below s args y 3 8 (PreOf R mc ms Pc) (PostOf Qc mc ms free) := back_of (bytes := bytes) (maxL := maxL) (ret := ret) hM hp.1 hrc hrs hR.1 hR.2 (pay_in ht hG) hcw (fun a' U hW => word_at hW (Or.inl (by first | rfl | simp [Cond.onTables, Cond.keeps, Cond.steady])) hini)
  obtain ⟨-, ⟨cellB, hcB, hoB, hclB⟩, hPc⟩ := hp
  obtain ⟨hfc, kB, hkB, -⟩ := hat
  cases hfc.symm.trans hclB
  intro T hT X
  obtain ⟨v, vm₁, ⟨U', l2, c2, s2⟩, hW₁, X', ⟨g', mk, t, L, e1, e2, hq, h1, hL, h2, h3⟩, st⟩ := s_callSU2 X hx (xc := xc) (index := index) (bytes := bytes) (maxL := maxL) (ret := ret) ho (ok _ (by simp)) (ok _ (by simp)) (ok _ (by simp)) (ok _ (by simp)) (ok _ (by simp)) (ht _ (hG _ hcw).1) hd.1 hK (by rw [hT]; exact hcB) hoB hkB hg (hsize.trans hml.symm) (argsL := As) (rest := rest) (fun sig h => by
    have h2 := hd.2
    rw [h] at h2
    exact hn.trans (Option.some.inj h2).symm) hstack hW (by rw [hb]; exact hdg)
    (fun vm₁ hW₁ => ⟨hf.1, hf.2, hPc (T.setVm vm₁) hT hW₁⟩)
  dsimp only [Pt.U, Pt.locs, Pt.cells, Pt.slots] at X' e1 e2 h1 h2 h3 st
  subst h1; subst h2; subst h3
  exact ⟨v, (T.setVm vm₁).calling g' mk (Value.ref b :: As).toArray, t, U', L, hT, X', hL, e1, e2, hq, st⟩
theorem s_callUp2 (E : sEnv p s m c args cc nL base b D dA own) {h h' : sHp} (S : sSt base b D dA s h H locs) (hsl : ls.size = nL) (ac : s.heap.size + cells = base + h.length) {d idx o ci : Nat} {fs : List Value} (ho : h[o]? = some (.inr (ci, fs))) {z : sMt} {as rest : List Value} {r : Option Value} (hz : sChkM z = true) (h0 : mK z = 1) {xc : String} (hl : Jvm.Cond.methodLink own idx ⟨xc, (mY z).name, (mY z).desc⟩ ∈ sTB) (hl2 : Jvm.Cond.sameMethod xc (mY z).cls (mY z).name (mY z).desc ∈ sTB) (hl3 : Jvm.Cond.superclass own xc ∈ sTB) (hl4 : Jvm.Cond.superclass xc (mY z).cls ∈ sTB) (hM : sMet l base b D dA d z (.ref o :: as) h r h') (hn : as.length = mA z) (hcat : (rest.map (fun v => v.category)).sum ≤ 8)
    (hRf : d + 1 ≤ R.frames) (hRl : 39 * (d + 1) ≤ R.locals) (hc : cells + (h'.length - h.length) ≤ R.cells) (hs : slots + (sSl h' - sSl h) ≤ R.slots) (hl1 : h'.length ≤ 1000000) (hdg : decode cc pc = .ok (.invokespecial idx, 3))
    (kk : sNext p l e R s m args below meth c cells slots Q pc ls base b D dA h r h' rest) : W p l e R s m args below meth c H locs cells slots Q (F0 m pc ls (rS (sAd base b) (as.reverse ++ .ref o :: rest))) := by
  obtain ⟨hx, hb, hml, hown, hts, hK, hbs, hnw, hou⟩ := id E
  obtain ⟨f1, f2, f3, f4, f5, f6, f7, f8, f9, f10⟩ := sChkM_of hz
  obtain ⟨q, hq, hrc, hat⟩ := s_recv E S ho
  refine W_size fun hzz => ?_
  have hH := s_size S hbs ac hzz
  have hin : Jvm.Cond.instanceMethod (mY z) ∈ sTB := f4 (by rw [h0]; decide)
  have hroom : (sRm d (h'.length - h.length) (sSl h' - sSl h)).frames + 1 ≤ R.frames ∧ 8 + (mN z + 11) + (sRm d (h'.length - h.length) (sSl h' - sSl h)).locals ≤ R.locals := ⟨hRf, by show 8 + (mN z + 11) + 39 * d ≤ _; omega⟩
  have hst : rS (sAd base b) (as.reverse ++ .ref o :: rest) = (rS (sAd base b) as).reverse ++ .ref (sAd base b o) :: rS (sAd base b) rest := by rw [rS, List.map_append, List.map_reverse]; rfl
  have hr := s_runSU2 (p := p) (l := l) (e := e) (R := R) (below := below) (meth := meth) (locs := locs) (cells := cells) (slots := slots) (As := rS (sAd base b) as) (rest := rS (sAd base b) rest) (g := F0 m pc ls (rS (sAd base b) (as.reverse ++ .ref o :: rest))) hat ⟨hx, hb, hml, hown, hts⟩ hM (sTB_in (fun w hw => by
    rcases List.mem_append.mp hw with hw | hw
    · simp only [List.mem_cons, List.not_mem_nil, or_false] at hw
      rcases hw with rfl | rfl | rfl | rfl | rfl | rfl
      · exact hl
      · exact hl2
      · exact hl3
      · exact hl4
      · exact hin
      · exact f2
    · exact sWs_in hz w hw)) (List.mem_cons_self) rfl rfl ⟨f9 h0, f6.2.2⟩ hroom ⟨s_blind, hrc, s_pre E S hH _⟩ rfl (by rw [List.length_map]; exact hn) hsl hst (lv_room (by rw [rS_cat]; exact hcat)) hdg ⟨hc, hs⟩
  refine s_back hr S.2.1 fun H1 l1 P1 S1 => ?_
  rw [rS_back]
  exact kk H1 l1 ⟨P1, S1, hl1⟩
theorem s_callVirt (E : sEnv p s m c args cc nL base b D dA own) {h h' : sHp} (S : sSt base b D dA s h H locs) (hsl : ls.size = nL) (ac : s.heap.size + cells = base + h.length) {d idx o : Nat} {fs : List Value} {z : sMt} (ho : h[o]? = some (.inr (mI z, fs))) {as rest : List Value} {r : Option Value} (hz : sChkM z = true) (h0 : mK z = 1) (hl : Jvm.Cond.methodLink own idx (mY z) ∈ sTB) (hl2 : Jvm.Cond.selects (mY z).cls (mY z) (mY z) ∈ sTB) (hM : sMet l base b D dA d z (.ref o :: as) h r h') (hn : as.length = mA z) (hcat : (rest.map (fun v => v.category)).sum ≤ 8)
    (hRf : d + 1 ≤ R.frames) (hRl : 39 * (d + 1) ≤ R.locals) (hc : cells + (h'.length - h.length) ≤ R.cells) (hs : slots + (sSl h' - sSl h) ≤ R.slots) (hl1 : h'.length ≤ 1000000) (hdg : decode cc pc = .ok (.invokevirtual idx, 3))
    (kk : sNext p l e R s m args below meth c cells slots Q pc ls base b D dA h r h' rest) : W p l e R s m args below meth c H locs cells slots Q (F0 m pc ls (rS (sAd base b) (as.reverse ++ .ref o :: rest))) := by
  obtain ⟨hx, hb, hml, hown, hts, hK, hbs, hnw, hou⟩ := id E
  obtain ⟨f1, f2, f3, f4, f5, f6, f7, f8, f9, f10⟩ := sChkM_of hz
  obtain ⟨q, hq, hrc, hat⟩ := s_recv E S ho
  have hqc : q.1 = (mY z).cls := by
    have := f10 (by rw [h0]; decide)
    rw [hq] at this
    exact Option.some.inj this
  rw [hqc] at hrc
  refine W_size fun hzz => ?_
  have hH := s_size S hbs ac hzz
  have hin : Jvm.Cond.instanceMethod (mY z) ∈ sTB := f4 (by rw [h0]; decide)
  have hroom : (sRm d (h'.length - h.length) (sSl h' - sSl h)).frames + 1 ≤ R.frames ∧ 8 + (mN z + 11) + (sRm d (h'.length - h.length) (sSl h' - sSl h)).locals ≤ R.locals := ⟨hRf, by show 8 + (mN z + 11) + 39 * d ≤ _; omega⟩
  have hst : rS (sAd base b) (as.reverse ++ .ref o :: rest) = (rS (sAd base b) as).reverse ++ .ref (sAd base b o) :: rS (sAd base b) rest := by rw [rS, List.map_append, List.map_reverse]; rfl
  have hr := va_runV (p := p) (l := l) (e := e) (R := R) (below := below) (meth := meth) (locs := locs) (cells := cells) (slots := slots) (As := rS (sAd base b) as) (rest := rS (sAd base b) rest) (g := F0 m pc ls (rS (sAd base b) (as.reverse ++ .ref o :: rest))) ⟨hx, hb, hml, hown, hts⟩ hM (cwV (C := (mY z).cls) (mA z) hts (sTB_in (fun w hw => by
    rcases List.mem_append.mp hw with hw | hw
    · simp only [List.mem_cons, List.not_mem_nil, or_false] at hw
      rcases hw with rfl | rfl | rfl | rfl
      · exact hl
      · exact hin
      · exact hl2
      · exact f2
    · exact sWs_in hz w hw)) rfl rfl rfl ⟨rfl, f6⟩ hroom) ⟨s_blind, hrc, s_pre E S hH _⟩ rfl (by rw [List.length_map]; exact hn) hsl hst (lv_room (by rw [rS_cat]; exact hcat)) hdg ⟨hc, hs⟩
  refine s_back hr S.2.1 fun H1 l1 P1 S1 => ?_
  rw [rS_back]
  exact kk H1 l1 ⟨P1, S1, hl1⟩
theorem s_callFam (E : sEnv p s m c args cc nL base b D dA own) {h h' : sHp} (S : sSt base b D dA s h H locs) (hsl : ls.size = nL) (ac : s.heap.size + cells = base + h.length) {d idx o k ci : Nat} (hk1 : 1000 ≤ k) (hk2 : k < 1006) (hci : ci < 11) (hg : sGrp ci = 2) {fs : List Value} (ho : h[o]? = some (.inr (ci, fs))) {z : sMt} (hsz : sM (sVt k ci) = some z) {as rest : List Value} {r : Option Value} (hz : sChkM z = true) (hl : Jvm.Cond.methodLink own idx (sFx k) ∈ sTB) (hM : sMet l base b D dA d z (.ref o :: as) h r h') (hn : as.length = 1) (hcat : (rest.map (fun v => v.category)).sum ≤ 8)
    (hRf : d + 1 ≤ R.frames) (hRl : 39 * (d + 1) ≤ R.locals) (hc : cells + (h'.length - h.length) ≤ R.cells) (hs : slots + (sSl h' - sSl h) ≤ R.slots) (hl1 : h'.length ≤ 1000000) (hdg : decode cc pc = .ok (.invokevirtual idx, 3))
    (kk : sNext p l e R s m args below meth c cells slots Q pc ls base b D dA h r h' rest) : W p l e R s m args below meth c H locs cells slots Q (F0 m pc ls (rS (sAd base b) (as.reverse ++ .ref o :: rest))) := by
  obtain ⟨hx, hb, hml, hown, hts, hK, hbs, hnw, hou⟩ := id E
  obtain ⟨z', zx, e1, a1, a2, h0, a4, w1, w2, w3, w4⟩ := sFam_of hk1 hk2 hci hg
  cases hsz.symm.trans e1
  obtain ⟨f1, f2, f3, f4, f5, f6, f7, f8, f9, f10⟩ := sChkM_of hz
  obtain ⟨q, hq, hrc, hat⟩ := s_recv E S ho
  have hqc : q.1 = sCN ci := by unfold sCN; rw [hq]
  rw [hqc] at hrc
  refine W_size fun hzz => ?_
  have hH := s_size S hbs ac hzz
  have hin : Jvm.Cond.instanceMethod (mY z) ∈ sTB := f4 (by rw [h0]; decide)
  have hroom : (sRm d (h'.length - h.length) (sSl h' - sSl h)).frames + 1 ≤ R.frames ∧ 8 + (mN z + 11) + (sRm d (h'.length - h.length) (sSl h' - sSl h)).locals ≤ R.locals := ⟨hRf, by show 8 + (mN z + 11) + 39 * d ≤ _; omega⟩
  have hst : rS (sAd base b) (as.reverse ++ .ref o :: rest) = (rS (sAd base b) as).reverse ++ .ref (sAd base b o) :: rS (sAd base b) rest := by rw [rS, List.map_append, List.map_reverse]; rfl
  have hr := va_runU (p := p) (l := l) (e := e) (R := R) (below := below) (meth := meth) (locs := locs) (cells := cells) (slots := slots) (As := rS (sAd base b) as) (rest := rS (sAd base b) rest) (g := F0 m pc ls (rS (sAd base b) (as.reverse ++ .ref o :: rest))) ⟨hx, hb, hml, hown, hts⟩ hM (va_cwO (C := sCN ci) (owner := RX2) (x := sFx k) 1 hts (sTB_in (fun w hw => by
    rcases List.mem_append.mp hw with hw | hw
    · simp only [List.mem_cons, List.not_mem_nil, or_false] at hw
      rcases hw with rfl | rfl | rfl | rfl | rfl | rfl
      · exact hl
      · exact w1
      · exact w2
      · exact w3
      · exact hin
      · exact f2
    · exact sWs_in hz w hw)) rfl rfl rfl w4 ⟨by decide, by decide, a4⟩ hroom) ⟨s_blind, hrc, s_pre E S hH _⟩ rfl (by rw [List.length_map]; exact hn) hsl hst (lv_room (by rw [rS_cat]; exact hcat)) hdg ⟨hc, hs⟩
  refine s_back hr S.2.1 fun H1 l1 P1 S1 => ?_
  rw [rS_back]
  exact kk H1 l1 ⟨P1, S1, hl1⟩
end RUN
end
section
/-! ===== new int[5][6] ===== -/
section MNA
def sOut (cA : ClassId) (h0 i : Nat) : Cell := arrV cA 5 (fun j => va_rf (if j < i then some (h0 + 1 + j) else none))
def sInn (cB : ClassId) : Cell := arrV cB 6 (fun _ => .int 0)
def sFil (T : State) (cA cB : ClassId) : Nat → State
  | 0 => T.pushCell (sOut cA T.heap.size 0)
  | i + 1 => ((sFil T cA cB i).pushCell (sInn cB)).setCell T.heap.size (sOut cA T.heap.size (i + 1))
theorem sOut_next (cA : ClassId) (h0 i : Nat) : (sOut cA h0 i).setSlot i (.ref (h0 + 1 + i)) = sOut cA h0 (i + 1) := by
  unfold sOut
  rw [arrV_store]
  refine congrArg (arrV cA 5) (funext fun j => ?_)
  unfold updV
  by_cases e : j = i
  · subst e
    rw [if_pos rfl, if_pos (Nat.lt_succ_self j)]
    rfl
  · rw [if_neg e]
    dsimp only
    by_cases h : j < i
    · rw [if_pos h, if_pos (by omega)]
    · rw [if_neg h, if_neg (by omega)]
theorem sFil_facts (T : State) (cA cB : ClassId) : ∀ i, (sFil T cA cB i).heap.size = T.heap.size + 1 + i ∧ (sFil T cA cB i).heap[T.heap.size]? = some (sOut cA T.heap.size i) ∧ (sFil T cA cB i).vm = T.vm ∧ (sFil T cA cB i).slotsUsed = T.slotsUsed + 5 + 6 * i ∧ (∀ a, a < T.heap.size → (sFil T cA cB i).heap[a]? = T.heap[a]?) ∧ ∀ j, j < i → (sFil T cA cB i).heap[T.heap.size + 1 + j]? = some (sInn cB)
  | 0 => ⟨by simp [sFil], by simp [sFil], rfl, by simp [sFil, sOut, arrV_size], fun a ha => State.heap_pushCell_of_lt _ _ ha, fun j h => absurd h (Nat.not_lt_zero _)⟩
  | i + 1 => by
    obtain ⟨f1, f2, f3, f4, f5, f6⟩ := sFil_facts T cA cB i
    have hlt : T.heap.size < (sFil T cA cB i).heap.size := by omega
    have hb : ((sFil T cA cB i).pushCell (sInn cB)).heap[T.heap.size]? = some (sOut cA T.heap.size i) := by rw [State.heap_pushCell_of_lt (h := hlt)]; exact f2
    refine ⟨?_, State.heap_setCell_self hb, by simp [sFil, f3], ?_, fun a ha => ?_, fun j hj => ?_⟩
    · simp [sFil, State.setCell, f1]; omega
    · simp [sFil, f4, sInn, arrV_size]; omega
    · show (((sFil T cA cB i).pushCell (sInn cB)).setCell T.heap.size _).heap[a]? = _
      rw [State.heap_setCell_other (Nat.ne_of_gt ha), State.heap_pushCell_of_lt (h := Nat.lt_trans ha hlt)]
      exact f5 a ha
    · show (((sFil T cA cB i).pushCell (sInn cB)).setCell T.heap.size _).heap[T.heap.size + 1 + j]? = _
      rw [State.heap_setCell_other (show T.heap.size ≠ T.heap.size + 1 + j by omega)]
      rcases Nat.lt_or_ge j i with h | h
      · rw [State.heap_pushCell_of_lt (h := show T.heap.size + 1 + j < (sFil T cA cB i).heap.size by omega)]
        exact f6 j h
      · have e : T.heap.size + 1 + j = (sFil T cA cB i).heap.size := by omega
        rw [e]
        exact State.heap_pushCell_size _ _
theorem sFil_top (T : State) (f : JFrame) (cA cB : ClassId) : ∀ i, sFil (T.setTop f) cA cB i = (sFil T cA cB i).setTop f
  | 0 => rfl
  | i + 1 => by simp only [sFil, sFil_top T f cA cB i, State.heap_setTop, State.pushCell_setTop, State.setCell_setTop]
variable {p : Program} {l : Launch} {e : Env} {R : Room} {s : State} {m : MethodId} {args : Array Value} {below : List Frame} {meth : Method} {c : Code} {T : State} {H : Heap} {locs : List Loc} {cells slots : Nat} {Q : State → Prop}
theorem sFil_stand (X : Stand p l e R s m args below meth c T locs cells slots) (cA cB : ClassId) : ∀ i, ∃ L : List Loc, (∀ q ∈ L, q.base = T.heap.size) ∧ Stand p l e R s m args below meth c (sFil T cA cB i) (locs ++ L) (cells + 1 + i) (slots + 5 + 6 * i)
  | 0 => by
    have h := X.pushed (sOut cA T.heap.size 0)
    rw [show (sOut cA T.heap.size 0).slots.size = 5 from arrV_size _ _ _] at h
    exact ⟨[], (fun q hq => by cases hq), by rw [List.append_nil]; exact h⟩
  | i + 1 => by
    obtain ⟨L, hL, Xi⟩ := sFil_stand X cA cB i
    obtain ⟨f1, f2, -⟩ := sFil_facts T cA cB i
    have hlt : T.heap.size < (sFil T cA cB i).heap.size := by omega
    have hb : ((sFil T cA cB i).pushCell (sInn cB)).heap[T.heap.size]? = some (sOut cA T.heap.size i) := by rw [State.heap_pushCell_of_lt (h := hlt)]; exact f2
    have h := (Xi.pushed (sInn cB)).stored hb i (.ref (T.heap.size + 1 + i))
    rw [show (sInn cB).slots.size = 6 from arrV_size _ _ _, sOut_next] at h
    refine ⟨L ++ [⟨T.heap.size, i⟩], fun q hq => ?_, ?_⟩
    · rcases List.mem_append.mp hq with h | h
      · exact hL q h
      · rw [List.mem_singleton.mp h]
    · rw [← List.append_assoc, show slots + 5 + 6 * (i + 1) = slots + 5 + 6 * i + 6 by omega]
      exact h
section WPN
variable {E : CtlPost} {d : Bool} {acts : List Action} {t : State}
theorem s_wpNew {cX comp : ClassId} {k : Class} {type : FieldType} {len : Nat} {init : Value} (hk : t.vm.classes[cX]? = some k) (hkind : k.kind = .array comp type) (hlimit : ¬ len > e.platform.arrayLengthLimit) (hheap : ¬ len * componentBytes type > e.platform.maxHeapBytes) (hfit : fits type init = true) (hdef : init.isDefault = true) {Qa : Addr → Pre} (h1 : t.heap.size < e.platform.maxCells) (h2 : t.slotsUsed + len ≤ e.platform.maxSlots)
    (hq : Qa t.heap.size d acts (t.pushCell (arrV cX len (fun _ => init)))) : wp (Jvm.newArray cX len init) Qa E e d acts t := by
  rw [← arrV_new] at hq
  have hfits : ∀ i v, (Array.replicate len init)[i]? = some v → t.fitsSlot cX .none i v = true := by
    intro i v hv
    rw [Array.getElem?_replicate] at hv
    split at hv
    · cases hv
      simp [State.fitsSlot, State.slotType?, hk, hkind, hfit]
    · cases hv
  have hall : ((Array.replicate len init).all (·.isDefault)) = true := by
    rw [Array.all_replicate]
    split <;> simp [hdef]
  have hda : allocActs (Array.replicate len init) t.heap.size acts = acts := by
    unfold allocActs
    rw [if_pos hall]
  simp only [Jvm.newArray, Jvm.arrayFits, wp_bind', W.ask, W.ite, hlimit, if_false, wp_pure', W.theClass, hk, hkind, hheap, W.alloc, W.stop, Option.some.injEq, exists_eq_left', Array.size_replicate, hda]
  rw [if_neg (by omega)]
  exact ⟨h1, h2, hfits, hq⟩
theorem s_wpMake {cA cB cI : ClassId} {kA kB : Class} (hkA : t.vm.classes[cA]? = some kA) (hkindA : kA.kind = .array cB (.array .int)) (hkB : t.vm.classes[cB]? = some kB) (hkindB : kB.kind = .array cI .int)
    (hl1 : ¬ 5 > e.platform.arrayLengthLimit) (hh1 : ¬ 5 * componentBytes (.array .int) > e.platform.maxHeapBytes) (hl2 : ¬ 6 > e.platform.arrayLengthLimit) (hh2 : ¬ 6 * componentBytes .int > e.platform.maxHeapBytes)
    (hc : t.heap.size + 6 ≤ e.platform.maxCells) (hs : t.slotsUsed + 35 ≤ e.platform.maxSlots) {Qa : Addr → Pre} (hq : ∀ d' acts', Qa t.heap.size d' acts' (sFil t cA cB 5)) : wp (multianewarray.make cA [5, 6]) Qa E e d acts t := by
  have n5 : ¬ (5 : Int32) < 0 := by decide
  have n6 : ¬ (6 : Int32) < 0 := by decide
  have c5 : (5 : Int32).toNatClampNeg = 5 := by decide
  have c6 : (6 : Int32).toNatClampNeg = 6 := by decide
  have hfind : (([6] : List Int32).find? (· < 0)) = none := by simp [n6]
  have href : ∀ v : Value, (v = .null ∨ ∃ a, v = .ref a) → fits (.array .int) v = true := by
    rintro v (rfl | ⟨a, rfl⟩) <;> rfl
  rw [multianewarray.make]
  simp only [wp_bind', W.ite, n5, if_false, wp_pure', W.theClass, hkA, hkindA, Option.some.injEq, exists_eq_left', c5]
  refine s_wpNew hkA hkindA hl1 hh1 rfl rfl (by omega) (by omega) ?_
  simp only [hfind]
  rw [ite_self, wp_bind', Std.Legacy.Range.forIn_eq_forIn_range']
  have hsz : ([:5] : Std.Legacy.Range).size = 5 := by simp [Std.Legacy.Range.size]
  rw [hsz]
  show wp (forIn (List.range' 0 5 1) PUnit.unit _) _ E e d acts _
  refine wp_forIn_inv (fun rest t' => ∃ i, i ≤ 5 ∧ rest = List.range' i (5 - i) ∧ t' = sFil t cA cB i) _ _ ⟨0, Nat.zero_le _, rfl, rfl⟩ ?_ ?_
  · rintro x rest t' d' acts' Q' ⟨i, hi, hl, rfl⟩ hnext
    have hlt : i < 5 := by
      rcases Nat.lt_or_ge i 5 with h | h
      · exact h
      · rw [show 5 - i = 0 by omega] at hl; cases hl
    rw [show 5 - i = (5 - (i + 1)) + 1 by omega, List.range'_succ] at hl
    obtain ⟨rfl, rfl⟩ := List.cons.inj hl
    obtain ⟨f1, f2, f3, f4, -⟩ := sFil_facts t cA cB x
    rw [multianewarray.make]
    simp only [wp_bind', W.ite, n6, if_false, wp_pure', W.theClass, f3, hkB, hkindB, Option.some.injEq, exists_eq_left', c6]
    refine s_wpNew (by rw [f3]; exact hkB) hkindB hl2 hh2 rfl rfl (by omega) (by omega) ?_
    have hlt0 : t.heap.size < (sFil t cA cB x).heap.size := by omega
    simp only [wp_bind', W.writeLoc, wp_pure']
    refine ⟨sOut cA t.heap.size x, by rw [State.heap_pushCell_of_lt (h := hlt0)]; exact f2, (fun q => by cases q), by rw [show (sOut cA t.heap.size x).slots.size = 5 from arrV_size _ _ _]; exact hlt, ?_, hnext _ _ _ ⟨x + 1, hlt, rfl, ?_⟩⟩
    · show (_ : State).fitsSlot cA .none x _ = true
      simp [State.fitsSlot, State.slotType?, f3, hkA, hkindA, href _ (Or.inr ⟨_, rfl⟩)]
    · rw [f1, sOut_next]
      rfl
  · rintro t' d' acts' ⟨i, hi, hl, rfl⟩
    have hiN : i = 5 := by
      rcases Nat.lt_or_ge i 5 with h | h
      · rw [show 5 - i = (5 - (i + 1)) + 1 by omega, List.range'_succ] at hl; cases hl
      · omega
    subst hiN
    simp only [wp_pure']
    exact hq _ _
end WPN
end MNA
end
section
/-! ===== length and charAt of the words ===== -/
def sQl : sMt := (Jvm.Lib.Str.length.name, Jvm.Lib.String.length.code, 1, some .int, 1, 99, 0, [], [])
def sQc : sMt := (Jvm.Lib.Str.charAt.name, Jvm.Lib.Str.charAt.code, 2, some .char, 1, 99, 1, [], [])
theorem s_StaticIs {C n d : String} {v : Value} {A : Nat → Prop} {U : State} (h : va_Z C n d v A U U.heap) : Jvm.Lib.Cold.StaticIs U C n d v := by
  obtain ⟨cf, kf, fi, f, a, cell, h1, h2, h3, h4, h5, h6, h7, -⟩ := h
  exact ⟨cf, fi, kf, f, a, cell, h1, h2, h3, h4, h5, (fun z => by rw [z] at h6; cases h6), h7⟩
theorem s_Sig {args : Array Value} {s : State} {y : MethodName} {cc : ByteArray} {n : Nat} {ret : Option FieldType} {mk : MethodId} (hn : s.methodNamed? y = some mk) (h : (Jvm.Cond.code y cc n ret).before args s = true) : Jvm.Lib.Cold.Sig s y := by
  obtain ⟨meth, c, h1, -, -, -, -, -, -, h8⟩ := Cond.code_spec hn h
  exact ⟨mk, meth, hn, h1, h8⟩
theorem s_declares {args : Array Value} {s : State} {y : MethodName} {cc : ByteArray} {n : Nat} {ret : Option FieldType} (h1 : (Jvm.Cond.instanceMethod y).before args s = true) (h2 : (Jvm.Cond.code y cc n ret).before args s = true) : (Jvm.Cond.declares y).before args s = true ∧ Jvm.Lib.Cold.Sig s y := by
  obtain ⟨mk, meth, a1, a2, a3, -⟩ := Cond.instanceMethod_spec h1
  obtain ⟨meth', c, b1, -, -, -, -, -, -, b8⟩ := Cond.code_spec a1 h2
  cases a2.symm.trans b1
  refine ⟨?_, mk, meth, a1, a2, b8⟩
  simp [Cond.before, Cond.holds, Cond.value, a1, a2, a3, b8]
theorem s_static {args : Array Value} {s : State} {y : MethodName} {cc : ByteArray} {n : Nat} {ret : Option FieldType} (h1 : (Jvm.Cond.static y).before args s = true) (h2 : (Jvm.Cond.code y cc n ret).before args s = true) : Jvm.Lib.Cold.Sig s y := by
  cases hn : s.methodNamed? y with
  | none => simp [Cond.before, Cond.holds, Cond.value, hn] at h1
  | some mk => exact s_Sig hn h2
theorem s_room0 {s : State} {pl : Platform} {r r' : Room} (h : s.hasRoom pl r' = true) (h1 : r.frames ≤ r'.frames) (h2 : r.locals ≤ r'.locals) (h3 : r.cells ≤ r'.cells) (h4 : r.slots ≤ r'.slots) : s.hasRoom pl r = true := by
  simp only [State.hasRoom, Bool.and_eq_true, decide_eq_true_eq] at h ⊢
  obtain ⟨⟨⟨⟨a0, a1, a2, a3, a4, a6⟩, a7⟩, a8⟩, a9⟩ := h
  exact ⟨⟨⟨⟨by omega, by omega, by omega, by omega, by omega, a6⟩, by omega⟩, by omega⟩, a9⟩
theorem s_new0 {s u : State} (h : s.sameBut u []) : u.heap = s.heap ∧ s.sameButNew u [] 0 0 := by
  have h0 := State.sameBut_nil.mp h
  have e1 : u.heap = s.heap := (congrArg State.heap h0).trans rfl
  have e2 : u.slotsUsed = s.slotsUsed := (congrArg State.slotsUsed h0).trans rfl
  have e3 : (u.heap.toList.drop s.heap.size).map (fun c => c.slots.size) = [] := by
    rw [e1, List.drop_of_length_le (by simp)]; rfl
  refine ⟨e1, ?_, by rw [e1]; exact Nat.le_refl _, by rw [e1]; exact Nat.le_refl _, ?_, ?_, fun a c hc => ⟨c, by rw [e1]; exact hc, rfl, rfl, fun _ _ => rfl⟩⟩
  · rw [← h0]
  · rw [e2]
    show s.slotsUsed = s.slotsUsed + ((u.heap.toList.drop s.heap.size).map (fun c => c.slots.size)).sum
    rw [e3]; rfl
  · show ((u.heap.toList.drop s.heap.size).map (fun c => c.slots.size)).sum ≤ 0
    rw [e3]; exact Nat.le_refl _
/-- what such a pure call leaves -/
theorem s_pure_end {base : Nat} {b : Nat → Nat} {D : va_G} {dA : Nat → ClassId} {h : sHp} {a : Array Value} {s t : State} {o : Outcome} {v : Value} (hP : va_P D vwCl (rW (sAd base b) dA h) s.heap) (hv : rV (sAd base b) v = v) (q : Jvm.Free.PureEnd s o t) (ho : o = .returned (some v)) : sQ base b D dA (some v) h a s o t ∧ ∃ L, Jvm.Free.FrameEnd s o t L (h.length - h.length) (sSl h - sSl h) ∧ ∀ q ∈ L, base ≤ q.base := by
  obtain ⟨q1, q2, q3⟩ := q
  obtain ⟨e1, e2⟩ := s_new0 q3
  have e1 : t.heap = s.heap := e1
  refine ⟨⟨⟨by rw [ho]; show _ = Outcome.returned (some (rV (sAd base b) v)); rw [hv], by rw [e1]; exact hP⟩, by rw [e1]; exact Nat.le_refl _, fun q _ _ => by rw [e1]⟩, [], ⟨q1, q2, by rw [Nat.sub_self, Nat.sub_self]; exact e2⟩, fun q hq => by cases hq⟩
theorem sAd_out {base i : Nat} {b : Nat → Nat} : rV (sAd base b) (.ref (2000000 + i)) = .ref (b (2000000 + i)) := by
  show Value.ref (sAd base b (2000000 + i)) = _
  unfold sAd
  rw [if_pos (by omega)]
section STR
variable {l : Launch} {base : Nat} {b : Nat → Nat} {D : va_G} {dA : Nat → ClassId}
theorem s_metLen {d i : Nat} (hd : 1 ≤ d) (hi : i < 7) (h : sHp) : sMet l base b D dA d sQl [.ref (2000000 + i)] h (some (.int (Int32.ofNat (sTxL.getD i 0)))) h := by
  intro p e ha hc hk s m args below hf happ hP _
  obtain ⟨hargs, hsz, hPw, hK, hN, hou⟩ := hP
  have hargs : args = #[.ref (b (2000000 + i))] := by
    rw [hargs]
    show [rV (sAd base b) (.ref (2000000 + i))].toArray = _
    rw [sAd_out]
  subst hargs
  obtain ⟨h1, ⟨adV, h2⟩, h3, fmt, h5, h4⟩ := hou
  obtain ⟨x1, x2, x3, cell, t1, t2, t3, t4, t5, t6, t7⟩ := h2 i hi
  obtain ⟨c1, c2, c3, c4, c5, c6, c7, c8⟩ := (Spec.appliesLoose_iff hf).mp happ
  have hts : ∀ w ∈ sWs sQl, w.before #[.ref (b (2000000 + i))] s = true := atoms_spec (ws := sWs sQl) c8
  have w : ∀ (p : Nat) {w : Jvm.Cond}, sW p = some w → w.before #[.ref (b (2000000 + i))] s = true := fun p w hw => hts w (List.mem_cons_of_mem _ (sW_in hw))
  have ht : (Jvm.Term.arg 0).eval #[.ref (b (2000000 + i))] s none [] s = some (.ref (b (2000000 + i))) := rfl
  have hcode : (Jvm.Cond.code Jvm.Lib.String.coder.name Jvm.Lib.String.coder.code 1 (some .byte)).before #[.ref (b (2000000 + i))] s = true := w 3141 (by decide +kernel)
  have hins : (Jvm.Cond.instanceMethod Jvm.Lib.String.coder.name).before #[.ref (b (2000000 + i))] s = true := w 3139 (by decide +kernel)
  obtain ⟨hdec, hsig⟩ := s_declares hins hcode
  have hpre : Jvm.Lib.Cold.length.spec.pre.before #[.ref (b (2000000 + i))] s = true := by
    simp only [Jvm.Lib.Cold.length.spec, Cond.before_and, Bool.and_eq_true]
    exact ⟨hts _ List.mem_cons_self, rfl, sEx_ex ht x1, w 7157 (by decide +kernel), w 3138 (by decide +kernel), hdec, w 3140 (by decide +kernel), hins, w 1017 (by decide +kernel)⟩
  obtain ⟨n, o, r1, r2, r3, hQ⟩ := Jvm.Lib.Cold.length.met l (b (2000000 + i)) (adV i) 1 cell p e ha hc hk s m #[.ref (b (2000000 + i))] below hf
    ((Spec.appliesLoose_iff hf).mpr ⟨c1, c2, c3, c4, c5, c6, s_room0 c7 (by show 1 ≤ d; exact hd) (by show 24 ≤ 39 * d; omega) (Nat.zero_le _) (Nat.zero_le _), hpre⟩)
    ⟨rfl, sFd_ev ht x3, t1, t2, by
      simp only [Jvm.Lib.Cold.coder.spec, Cond.before_and, Bool.and_eq_true]
      exact ⟨hcode, rfl, w 3142 (by decide +kernel), w 7158 (by decide +kernel)⟩, rfl, s_StaticIs h3, by decide, sFd_ev ht x2⟩ trivial
  refine ⟨n, o, r1, r2, r3, ?_⟩
  obtain ⟨q1, q2⟩ := hQ
  rw [t5] at q2
  exact s_pure_end hPw rfl q1 q2
theorem sTxC_ch : ∀ i : Nat, i < 7 → ∀ j : Nat, j < 5 → ((sTxC i j &&& 255).toUInt32.toUInt16.toUInt32.toInt32) = sTxC i j := by decide +kernel
theorem sTxL_5 : ∀ i : Nat, i < 7 → sTxL.getD i 0 ≤ 5 := by decide +kernel
theorem s_metCh {d i : Nat} (hd : 3 ≤ d) (hi : i < 7) {x : Int32} (hx : ¬ (x < 0 ∨ sTxL.getD i 0 ≤ x.toNatClampNeg)) (h : sHp) : sMet l base b D dA d sQc [.ref (2000000 + i), .int x] h (some (.int (sTxC i x.toNatClampNeg))) h := by
  intro p e ha hc hk s m args below hf happ hP _
  obtain ⟨hargs, hsz, hPw, hK, hN, hou⟩ := hP
  have hargs : args = #[.ref (b (2000000 + i)), .int x] := by
    rw [hargs]
    show [rV (sAd base b) (.ref (2000000 + i)), .int x].toArray = _
    rw [sAd_out]
  subst hargs
  obtain ⟨h1, ⟨adV, h2⟩, h3, fmt, h5, h4⟩ := hou
  obtain ⟨x1, x2, x3, cell, t1, t2, t3, t4, t5, t6, t7⟩ := h2 i hi
  obtain ⟨c1, c2, c3, c4, c5, c6, c7, c8⟩ := (Spec.appliesLoose_iff hf).mp happ
  have hts : ∀ w ∈ sWs sQc, w.before #[.ref (b (2000000 + i)), .int x] s = true := atoms_spec (ws := sWs sQc) c8
  have w : ∀ (p : Nat) (a' : Array Value) {w : Jvm.Cond}, sW p = some w → w.before a' s = true := fun p a' w hw => pay_in (big := sTB) (ws := sTB) (args := #[.ref (b (2000000 + i)), .int x]) (fun w h => hts w (List.mem_cons_of_mem _ h)) (sTB_in (fun w h => h)) w (sW_in hw) a' s (State.WarmedH.refl s)
  have ht : ∀ vs : List Value, (Jvm.Term.arg 0).eval (Value.ref (b (2000000 + i)) :: vs).toArray s none [] s = some (.ref (b (2000000 + i))) := fun vs => rfl
  have lt5 := sTxL_5 i hi
  have xlt : x.toNatClampNeg < sTxL.getD i 0 := by omega
  have hIL : (Jvm.Cond.instanceMethod Jvm.Lib.Str.isLatin1.name).before #[] s = true := w 3152 _ (by decide +kernel)
  have hILc : (Jvm.Cond.code Jvm.Lib.Str.isLatin1.name Jvm.Lib.String.isLatin1.code 1 (some .boolean)).before #[] s = true := w 3154 _ (by decide +kernel)
  obtain ⟨hdec0, hsig0⟩ := s_declares hIL hILc
  have hdec : (Jvm.Cond.declares Jvm.Lib.Str.isLatin1.name).before #[.ref (b (2000000 + i)), .int x] s = true := by
    simpa only [Cond.before, Cond.holds, Cond.value] using hdec0
  have hpre : Jvm.Lib.Cold.charAt.spec.pre.before #[.ref (b (2000000 + i)), .int x] s = true := by
    simp only [Jvm.Lib.Cold.charAt.spec, Cond.before_and, Bool.and_eq_true]
    exact ⟨hts _ List.mem_cons_self, rfl, sEx_ex (ht [.int x]) x1, w 3151 _ (by decide +kernel), hdec, w 3153 _ (by decide +kernel), w 3152 _ (by decide +kernel), w 7157 _ (by decide +kernel), w 3155 _ (by decide +kernel), w 3156 _ (by decide +kernel), w 1018 _ (by decide +kernel), w 1017 _ (by decide +kernel)⟩
  have hsz2 : cell.slots.size.toInt32 = Int32.ofNat (sTxL.getD i 0) := t5
  have hPC : Jvm.Lib.Preconditions.checkIndex.spec.pre.before #[.int x, .int cell.slots.size.toInt32, fmt] s = true := by
    rw [hsz2]
    have e0 : (0 : Int32).toInt = 0 := rfl
    have g1 : ¬ x.toInt < 0 := fun z => hx (Or.inl (Int32.lt_iff_toInt_lt.mpr z))
    have g2 : (x.toNatClampNeg : Int) = x.toInt := by
      show ((x.toInt.toNat : Nat) : Int) = x.toInt
      omega
    have k1 : (0 : Int32) ≤ x := Int32.le_iff_toInt_le.mpr (by omega)
    have k2 : x < Int32.ofNat (sTxL.getD i 0) := Int32.lt_iff_toInt_lt.mpr (by rw [Int32.toInt_ofNat_of_lt (by omega)]; omega)
    simp only [Jvm.Lib.Preconditions.checkIndex.spec, Cond.before_and, Bool.and_eq_true]
    refine ⟨w 3164 _ (by decide +kernel), rfl, ?_, ?_, ?_, ?_, ?_⟩
    · simp [Cond.before, Cond.holds, Cond.value, Term.eval]
    · simp [Cond.before, Cond.holds, Cond.value, Term.eval]
    · simp [Cond.before, Cond.holds, Cond.value, Term.eval]
      cases fmt <;> first | rfl | cases h5
    · simp [Cond.before, Cond.holds, Cond.value, Term.eval, k1]
    · generalize Int32.ofNat (sTxL.getD i 0) = n at k2 ⊢
      simp [Cond.before, Cond.holds, Cond.value, Term.eval, k2]
  obtain ⟨n, o, r1, r2, r3, hQ⟩ := Jvm.Lib.Cold.charAt.met l (b (2000000 + i)) (adV i) x (sTxC i x.toNatClampNeg) 1 fmt cell p e ha hc hk s m #[.ref (b (2000000 + i)), .int x] below hf
    ((Spec.appliesLoose_iff hf).mpr ⟨c1, c2, c3, c4, c5, c6, s_room0 c7 (by show 3 ≤ d; exact hd) (by show 72 ≤ 39 * d; omega) (Nat.zero_le _) (Nat.zero_le _), hpre⟩)
    ⟨rfl, sFd_ev (ht [.int x]) x3, s_static (args := #[]) (w 3156 _ (by decide +kernel)) (w 3157 _ (by decide +kernel : sW 3157 = some (.code Jvm.Lib.SL1.charAt.name Jvm.Lib.SL1.charAt.code 2 (some .char)))), by
      simp only [Jvm.Lib.Cold.isLatin1.spec, Cond.before_and, Bool.and_eq_true]
      exact ⟨w 3154 _ (by decide +kernel), rfl, w 3142 _ (by decide +kernel), w 7158 _ (by decide +kernel)⟩, ⟨rfl, s_StaticIs h3, by decide, sFd_ev (ht []) x2⟩, by
      simp only [Jvm.Lib.Cold.latin1.spec, Cond.before_and, Bool.and_eq_true]
      exact ⟨w 3157 _ (by decide +kernel), rfl, w 3158 _ (by decide +kernel), w 3159 _ (by decide +kernel), w 1017 _ (by decide +kernel)⟩, ⟨rfl, t1, t2, t3, (fun z => hx (z.imp id (fun z => by omega))), t6 _ xlt, s_static (args := #[]) (w 3159 _ (by decide +kernel)) (w 3160 _ (by decide +kernel : sW 3160 = some (.code Jvm.Lib.Str.checkIndex.name Jvm.Lib.Str.checkIndex.code 2 none))), by
      simp only [Jvm.Lib.Cold.checkIndex.spec, Cond.before_and, Bool.and_eq_true]
      exact ⟨w 3160 _ (by decide +kernel), rfl, w 3161 _ (by decide +kernel), w 3162 _ (by decide +kernel), w 3163 _ (by decide +kernel), w 1019 _ (by decide +kernel)⟩, ⟨rfl, s_StaticIs h4, s_static (args := #[]) (w 3163 _ (by decide +kernel)) (w 3164 _ (by decide +kernel : sW 3164 = some (.code Jvm.Lib.Preconditions.checkIndex.name Jvm.Lib.Preconditions.checkIndex.code 3 (some .int)))), hPC⟩⟩⟩ trivial
  refine ⟨n, o, r1, r2, r3, ?_⟩
  obtain ⟨q1, q2⟩ := hQ
  rw [sTxC_ch i hi _ (by omega)] at q2
  exact s_pure_end hPw rfl q1 q2
end STR
end
section
/-! ===== calls on the words ===== -/
theorem s_out_i {o : Nat} (h : 2000000 ≤ o ∧ o < 2000007) : ∃ i : Nat, i < 7 ∧ o = 2000000 + i := ⟨o - 2000000, by omega, by omega⟩
section RUN
variable {p : Program} {l : Launch} {e : Env} {R : Room} {s : State} {m : MethodId} {args : Array Value} {below : List Frame} {meth : Method} {c : Code} {H : Heap} {locs : List Loc} {cells slots : Nat} {Q : State → Prop} {cc : ByteArray} {pc : Nat} {ls : Array Slot} {nL base : Nat} {b : Nat → Nat} {D : va_G} {dA : Nat → ClassId} {own : String}
theorem s_callStr (E : sEnv p s m c args cc nL base b D dA own) {h : sHp} (S : sSt base b D dA s h H locs) (hsl : ls.size = nL) (ac : s.heap.size + cells = base + h.length) {d idx i : Nat} (hi : i < 7) {z : sMt} {as rest : List Value} {r : Option Value} (hcl : (mY z).cls = "java/lang/String") (f2 : Jvm.Cond.initialized (mY z).cls ∈ sTB) (hin : Jvm.Cond.instanceMethod (mY z) ∈ sTB) (hcd : Jvm.Cond.code (mY z) (mC z) (mN z) (mR z) ∈ sTB) (hl : Jvm.Cond.methodLink own idx (mY z) ∈ sTB) (hl2 : Jvm.Cond.selects (mY z).cls (mY z) (mY z) ∈ sTB) (f6 : (mY z).cls ≠ "java/lang/invoke/MethodHandle" ∧ (mY z).cls ≠ "java/lang/invoke/VarHandle" ∧ (parseMethodDescriptor (mY z).desc).map (fun d => d.parameters.length) = some (mA z)) (f7 : mN z ≤ 16) (hM : sMet l base b D dA d z (.ref (2000000 + i) :: as) h r h) (hn : as.length = mA z) (hcat : (rest.map (fun v => v.category)).sum ≤ 8)
    (hRf : d + 1 ≤ R.frames) (hRl : 39 * (d + 1) ≤ R.locals) (hc : cells ≤ R.cells) (hs : slots ≤ R.slots) (hl1 : h.length ≤ 1000000) (hdg : decode cc pc = .ok (.invokevirtual idx, 3))
    (kk : sNext p l e R s m args below meth c cells slots Q pc ls base b D dA h r h rest) : W p l e R s m args below meth c H locs cells slots Q (F0 m pc ls (rS (sAd base b) (as.reverse ++ .ref (2000000 + i) :: rest))) := by
  obtain ⟨hx, hb, hml, hown, hts, hK, hbs, hnw, hou⟩ := id E
  have hrc : ∃ cell : Cell, H[sAd base b (2000000 + i)]? = some cell ∧ cell.vm.isStatics = false ∧ s.vm.findClass (mY z).cls = some cell.cls := by
    obtain ⟨-, ⟨adV, h2⟩, -⟩ := sOuw_kept S.2.1.2.1 hou
    obtain ⟨⟨cS, kS, cell, h1, h2, h3, h4, h5, -⟩, -⟩ := h2 i hi
    have e : sAd base b (2000000 + i) = b (2000000 + i) := by unfold sAd; rw [if_pos (by omega)]
    exact ⟨cell, by rw [e]; exact h2, h4, by rw [hcl, h5]; exact h1⟩
  refine W_size fun hzz => ?_
  have hH := s_size S hbs ac hzz
  have hroom : (sRm d (h.length - h.length) (sSl h - sSl h)).frames + 1 ≤ R.frames ∧ 8 + (mN z + 11) + (sRm d (h.length - h.length) (sSl h - sSl h)).locals ≤ R.locals := ⟨hRf, by show 8 + (mN z + 11) + 39 * d ≤ _; omega⟩
  have hst : rS (sAd base b) (as.reverse ++ .ref (2000000 + i) :: rest) = (rS (sAd base b) as).reverse ++ .ref (sAd base b (2000000 + i)) :: rS (sAd base b) rest := by rw [rS, List.map_append, List.map_reverse]; rfl
  have hr := va_runV (p := p) (l := l) (e := e) (R := R) (below := below) (meth := meth) (locs := locs) (cells := cells) (slots := slots) (As := rS (sAd base b) as) (rest := rS (sAd base b) rest) (g := F0 m pc ls (rS (sAd base b) (as.reverse ++ .ref (2000000 + i) :: rest))) ⟨hx, hb, hml, hown, hts⟩ hM (cwV (C := (mY z).cls) (mA z) hts (sTB_in (fun w hw => by
    rcases List.mem_append.mp hw with hw | hw
    · simp only [List.mem_cons, List.not_mem_nil, or_false] at hw
      rcases hw with rfl | rfl | rfl | rfl
      · exact hl
      · exact hin
      · exact hl2
      · exact f2
    · rcases List.mem_cons.mp hw with rfl | hw
      · exact hcd
      · exact hw)) rfl rfl rfl ⟨rfl, f6⟩ hroom) ⟨s_blind, hrc, s_pre E S hH _⟩ rfl (by rw [List.length_map]; exact hn) hsl hst (lv_room (by rw [rS_cat]; exact hcat)) hdg ⟨by rw [Nat.sub_self]; exact hc, by rw [Nat.sub_self]; exact hs⟩
  refine s_back hr S.2.1 fun H1 l1 P1 S1 => ?_
  rw [rS_back]
  exact kk H1 l1 ⟨P1, S1, hl1⟩
theorem s_callLen (E : sEnv p s m c args cc nL base b D dA own) {h : sHp} (S : sSt base b D dA s h H locs) (hsl : ls.size = nL) (ac : s.heap.size + cells = base + h.length) {d idx i : Nat} (hd : 1 ≤ d) (hi : i < 7) {rest : List Value} (hl : Jvm.Cond.methodLink own idx Jvm.Lib.Str.length.name ∈ sTB) (hcat : (rest.map (fun v => v.category)).sum ≤ 8)
    (hRf : d + 1 ≤ R.frames) (hRl : 39 * (d + 1) ≤ R.locals) (hc : cells ≤ R.cells) (hs : slots ≤ R.slots) (hl1 : h.length ≤ 1000000) (hdg : decode cc pc = .ok (.invokevirtual idx, 3))
    (kk : sNext p l e R s m args below meth c cells slots Q pc ls base b D dA h (some (.int (Int32.ofNat (sTxL.getD i 0)))) h rest) : W p l e R s m args below meth c H locs cells slots Q (F0 m pc ls (rS (sAd base b) (.ref (2000000 + i) :: rest))) :=
  s_callStr E S hsl ac hi (z := sQl) (as := []) rfl (sW_in (p := 1017) (by decide +kernel)) (sW_in (p := 3135) (by decide +kernel)) (sW_in (p := 3137) (by decide +kernel)) hl (sW_in (p := 3136) (by decide +kernel)) (by decide +kernel) (by decide) (s_metLen hd hi h) rfl hcat hRf hRl hc hs hl1 hdg kk
theorem s_callCh (E : sEnv p s m c args cc nL base b D dA own) {h : sHp} (S : sSt base b D dA s h H locs) (hsl : ls.size = nL) (ac : s.heap.size + cells = base + h.length) {d idx i : Nat} (hd : 3 ≤ d) (hi : i < 7) {x : Int32} (hx : ¬ (x < 0 ∨ sTxL.getD i 0 ≤ x.toNatClampNeg)) {rest : List Value} (hl : Jvm.Cond.methodLink own idx Jvm.Lib.Str.charAt.name ∈ sTB) (hcat : (rest.map (fun v => v.category)).sum ≤ 8)
    (hRf : d + 1 ≤ R.frames) (hRl : 39 * (d + 1) ≤ R.locals) (hc : cells ≤ R.cells) (hs : slots ≤ R.slots) (hl1 : h.length ≤ 1000000) (hdg : decode cc pc = .ok (.invokevirtual idx, 3))
    (kk : sNext p l e R s m args below meth c cells slots Q pc ls base b D dA h (some (.int (sTxC i x.toNatClampNeg))) h rest) : W p l e R s m args below meth c H locs cells slots Q (F0 m pc ls (rS (sAd base b) (.int x :: .ref (2000000 + i) :: rest))) :=
  s_callStr E S hsl ac hi (z := sQc) (as := [.int x]) rfl (sW_in (p := 1017) (by decide +kernel)) (sW_in (p := 3148) (by decide +kernel)) (sW_in (p := 3150) (by decide +kernel)) hl (sW_in (p := 3149) (by decide +kernel)) (by decide +kernel) (by decide) (s_metCh hd hi hx h) rfl hcat hRf hRl hc hs hl1 hdg kk
end RUN
end
section
/-! ===== all of it ===== -/
section ALL
variable {p : Program} {l : Launch} {e : Env} {R : Room} {s : State} {m : MethodId} {args : Array Value} {below : List Frame} {meth : Method} {c : Code} {H : Heap} {locs : List Loc} {cells slots : Nat} {Q : State → Prop} {cc : ByteArray} {pc : Nat} {ls : Array Slot} {nL base : Nat} {b : Nat → Nat} {D : va_G} {dA : Nat → ClassId} {own : String}
theorem s_mnaStep {T : State} {locs2 : List Loc} {cells2 slots2 : Nat} (X : Stand p l e R s m args below meth c T locs cells slots) {vm₁ : Vm} {cA cB cI : ClassId} (XF : Stand p l e R s m args below meth c (sFil (T.setVm vm₁) cA cB 5) locs2 cells2 slots2) (hexec : p.tables.exec = Jvm.exec) {idx : Nat} {g : JFrame} (hg : g.method = m) (hdg : decode c.code g.pc = .ok (.multianewarray idx 2, 4)) {rest : List Value} (hstack : g.stack = .int 6 :: .int 5 :: rest)
    (hg₁ : (Jvm.resolveClass m.cls idx).Gives e.toSetting T.vm (.ok cA) vm₁) (hwarm₁ : s.WarmedH vm₁) {kA kB : Class} (hkA : vm₁.classes[cA]? = some kA) (hkindA : kA.kind = .array cB (.array .int)) (hkB : vm₁.classes[cB]? = some kB) (hkindB : kB.kind = .array cI .int)
    (hl1 : ¬ 5 > e.platform.arrayLengthLimit) (hh1 : ¬ 5 * componentBytes (.array .int) > e.platform.maxHeapBytes) (hl2 : ¬ 6 > e.platform.arrayLengthLimit) (hh2 : ¬ 6 * componentBytes .int > e.platform.maxHeapBytes)
    (hc : T.heap.size + 6 ≤ e.platform.maxCells) (hs : T.slotsUsed + 35 ≤ e.platform.maxSlots) :
    ∀ target, Steps p.tables e below ((sFil (T.setVm vm₁) cA cB 5).setTop { g with pc := g.pc + 4, stack := .ref T.heap.size :: rest }) target → Steps p.tables e below (T.setTop g) target := by
  subst hg
  intro target hrest
  jvm_step X.here [hexec, hdg]
  simp only [multianewarray.sem, wp_bind', W.resolveClassAt_links (State.method?_setTop g X.here.top) hg₁]
  rw [W.popN, if_neg (by decide)]
  refine ⟨g, State.topJava?_setTop' (s := T.setVm vm₁) g X.here.top, [.int 5, .int 6], rest, rfl, hstack, ?_⟩
  simp only [List.mapM_cons, List.mapM_nil, wp_bind', wp_pure']
  refine s_wpMake (kA := kA) (kB := kB) (cB := cB) (cI := cI) hkA hkindA hkB hkindB hl1 hh1 hl2 hh2 (by show T.heap.size + 6 ≤ _; exact hc) (by show T.slotsUsed + 35 ≤ _; exact hs) (fun d' acts' => ?_)
  have eS : ((T.setTop g).setVm vm₁).setTop { g with stack := rest } = (T.setVm vm₁).setTop { g with stack := rest } := by
    show ((T.setVm vm₁).setTop g).setTop _ = _
    rw [State.setTop_setTop]
  rw [eS, sFil_top]
  simp only [wp_bind', W.mark, W.pushRef, State.topJava?_setTop' _ XF.here.top, Option.some.injEq, exists_eq_left', State.setTop_setTop, State.heap_setTop]
  intro acts
  simp [jvm, XF.here.top]
  exact hrest
set_option maxHeartbeats 4000000 in
theorem s_newM (E : sEnv p s m c args cc nL base b D dA own) {h h' : sHp} (S : sSt base b D dA s h H locs) (ac : s.heap.size + cells = base + h.length) {idx : Nat} (hdg : decode cc pc = .ok (.multianewarray idx 2, 4)) (hw1 : Jvm.Cond.classLink own idx ("[" ++ (FieldType.array .int).toString) ∈ sTB) (hw2 : Jvm.Cond.arrayClass .int ∈ sTB) {st st' : List Value} (hh : sNewM st h = some (st', h')) (hl : h'.length ≤ 1000000)
    (hc : cells + (h'.length - h.length) ≤ R.cells) (hs : slots + (sSl h' - sSl h) ≤ R.slots)
    (kk : ∀ (H1 : Heap) (locs1 : List Loc), sSt base b D dA s h' H1 locs1 → W p l e R s m args below meth c H1 locs1 (cells + (h'.length - h.length)) (slots + (sSl h' - sSl h)) Q (F0 m (pc + 4) ls (rS (sAd base b) st'))) : W p l e R s m args below meth c H locs cells slots Q (F0 m pc ls (rS (sAd base b) st)) := by
  obtain ⟨hx, hb, hml, hown, hts, hK, hbs, hnw, hou⟩ := E
  unfold sNewM at hh
  split at hh
  · rename_i k n r
    split at hh
    · rename_i hkn
      obtain ⟨rfl, rfl⟩ := hkn
      cases hh
      have e1 : (h ++ ((.inl (5, 5, .inr (.inr (.inr (.inr (fun j => if j < 5 then some (h.length + 1 + j) else none))))) : va_E) :: List.replicate 5 (.inl (0, 6, .inl (fun _ => 0))))).length = h.length + 6 := by rw [List.length_append]; rfl
      have e2 : sSl (h ++ ((.inl (5, 5, .inr (.inr (.inr (.inr (fun j => if j < 5 then some (h.length + 1 + j) else none))))) : va_E) :: List.replicate 5 (.inl (0, 6, .inl (fun _ => 0))))) = sSl h + 35 := by rw [sSl_app]; rfl
      rw [e1, e2, show h.length + 6 - h.length = 6 by omega, show sSl h + 35 - sSl h = 35 by omega] at kk
      rw [e1, show h.length + 6 - h.length = 6 by omega] at hc
      rw [e2, show sSl h + 35 - sSl h = 35 by omega] at hs
      rw [e1] at hl
      refine W_size fun hz => ?_
      have hH := s_size S hbs ac hz
      intro T hT X
      subst hb
      have hpl : e.platform.magicAccessors = ({} : Platform).magicAccessors := by rw [X.admits.platform]
      obtain ⟨comp, cA, kA, hcomp, -, hkA, hkindA, hnameA⟩ := sAO_use (hnw (.arrayOver (.array .int)) (by simp [sNwl]))
      obtain ⟨comp', kC, cI, hcomp', hkC, hkindC⟩ := Cond.arrayClass_spec (hts _ hw2)
      have ecomp : comp' = comp := Option.some.inj (hcomp'.symm.trans hcomp)
      subst ecomp
      have eA : cA = dA 5 := Option.some.inj (hnameA.symm.trans (hK.2 5 _ rfl).2)
      have eC : comp' = dA 0 := Option.some.inj (hcomp'.symm.trans (hK.2 0 _ rfl).2)
      obtain ⟨c0, hfc0, hcl⟩ := Cond.classLink_spec hown (hts _ hw1) e.platform hpl
      cases hnameA.symm.trans hfc0
      obtain ⟨hg₁, hwarm₁, hready₁⟩ := State.classEntry (e := e) X.warmed hcl
      generalize T.vm.noted m.cls idx (.cls cA) = vm₁ at hg₁ hwarm₁ hready₁
      have hal : s.vm.Alike vm₁ := hwarm₁.alike
      obtain ⟨kA₁, hkA₁, heA⟩ := hal.2.2 _ _ hkA
      obtain ⟨kC₁, hkC₁, heC⟩ := hal.2.2 _ _ hkC
      have hkindA₁ : kA₁.kind = .array comp' (.array .int) := by rw [heA]; exact hkindA
      have hkindC₁ : kC₁.kind = .array cI .int := by rw [heC]; exact hkindC
      have X₁ := X.noted hwarm₁
      obtain ⟨hr1, hr2⟩ := X.roomAbove hc hs
      obtain ⟨Lf, hLf, XF⟩ := sFil_stand X₁ cA comp' 5
      obtain ⟨f1, f2, f3, f4, f5, f6⟩ := sFil_facts (T.setVm vm₁) cA comp' 5
      have hTs : (T.setVm vm₁).heap.size = base + h.length := by show T.heap.size = _; rw [hT]; exact hH
      have hTh : (T.setVm vm₁).heap = H := hT
      rw [hTs] at f1 f2 f5 f6
      have hst : sSt base b D dA s (h ++ ((.inl (5, 5, .inr (.inr (.inr (.inr (fun j => if j < 5 then some (h.length + 1 + j) else none))))) : va_E) :: List.replicate 5 (.inl (0, 6, .inl (fun _ => 0))))) (sFil (T.setVm vm₁) cA comp' 5).heap (locs ++ Lf) := by
        refine ⟨fun k q hk => ?_, ⟨by rw [f1]; have := S.2.1.1; omega, fun q g1 g2 => ?_, fun q hq => ?_⟩, by rw [e1]; exact hl⟩
        · rw [rW_get] at hk
          obtain ⟨x, hx1, hx2⟩ := Option.map_eq_some_iff.mp hk
          by_cases hkl : k < h.length
          · rw [List.getElem?_append_left hkl] at hx1
            have h7 := S.1 k _ (rW_at hx1)
            rw [hx2] at h7
            refine h7.kept ?_
            have h8 := h7.lt
            rw [f5 _ (by omega), hTh]
          · rw [List.getElem?_append_right (by omega)] at hx1
            obtain ⟨j, hj⟩ : ∃ j, k - h.length = j := ⟨_, rfl⟩
            rw [hj] at hx1
            have hsk : sAd base b k = base + k := sAd_in (by
              have h9 := (List.getElem?_eq_some_iff.mp hx1).1
              rw [List.length_cons, List.length_replicate] at h9
              omega)
            rw [← hx2]
            cases j with
            | zero =>
              rw [List.getElem?_cons_zero] at hx1
              cases hx1
              show (sFil (T.setVm vm₁) cA comp' 5).heap[sAd base b k]? = some (vp_cell (dA 5) (5, .inr (.inr (.inr (.inr (fun j => (if j < 5 then some (h.length + 1 + j) else none).map (sAd base b)))))))
              rw [hsk, show base + k = base + h.length by omega, f2, ← eA, vp_cell_q]
              refine congrArg some (congrArg (arrV cA 5) (funext fun j => ?_))
              by_cases hj5 : j < 5
              · rw [if_pos hj5, if_pos hj5]
                show va_rf (some (base + h.length + 1 + j)) = va_rf (some (sAd base b (h.length + 1 + j)))
                rw [sAd_in (by omega)]
                exact congrArg (fun x => va_rf (some x)) (by omega)
              · rw [if_neg hj5, if_neg hj5]
                rfl
            | succ j =>
              rw [List.getElem?_cons_succ, List.getElem?_replicate] at hx1
              split at hx1
              · rename_i hj5
                cases hx1
                show (sFil (T.setVm vm₁) cA comp' 5).heap[sAd base b k]? = some (vp_cell (dA 0) (6, .inl (fun _ => 0)))
                rw [hsk, show base + k = base + h.length + 1 + j by omega, f6 j hj5, ← eC]
                rfl
              · cases hx1
        · rw [f5 q (by have := S.2.1.1; omega), hTh]
          exact S.2.1.2.1 q g1 g2
        · rcases List.mem_append.mp hq with h7 | h7
          · exact S.2.1.2.2 q h7
          · rw [hLf q h7, hTs]
            omega
      have h2 := kk (sFil (T.setVm vm₁) cA comp' 5).heap (locs ++ Lf) hst
      rw [rS, List.map_cons] at h2
      have e5 : rV (sAd base b) (.ref h.length) = .ref T.heap.size := by show Value.ref (sAd base b h.length) = _; rw [sAd_in (by omega), hT, hH]
      rw [e5] at h2
      obtain ⟨t, a1, b1⟩ := h2 (sFil (T.setVm vm₁) cA comp' 5) rfl XF
      refine ⟨t, ?_, b1⟩
      have hl1 : ¬ 5 > e.platform.arrayLengthLimit := by rw [Launch.admits_arrayLengthLimit X.admits]; omega
      have hh1 : ¬ 5 * componentBytes (.array .int) > e.platform.maxHeapBytes := by rw [Launch.admits_maxHeapBytes X.admits]; show ¬ 5 * 4 > 536870912; omega
      have hl2 : ¬ 6 > e.platform.arrayLengthLimit := by rw [Launch.admits_arrayLengthLimit X.admits]; omega
      have hh2 : ¬ 6 * componentBytes .int > e.platform.maxHeapBytes := by rw [Launch.admits_maxHeapBytes X.admits]; show ¬ 6 * 4 > 536870912; omega
      exact s_mnaStep X XF hx (g := F0 m pc ls (rS (sAd base b) (.int 6 :: .int 5 :: r))) rfl hdg rfl hg₁ hwarm₁ hkA₁ hkindA₁ hkC₁ hkindC₁ hl1 hh1 hl2 hh2 (by omega) (by omega) t a1
    · cases hh
  · cases hh
set_option maxHeartbeats 4000000 in
theorem s_heap (E : sEnv p s m c args cc nL base b D dA own) {h h' : sHp} (S : sSt base b D dA s h H locs) (ac : s.heap.size + cells = base + h.length) {nm : String} (hnm : nm = "<init>" → meth.name = "<init>") {ins : Instr} {st st' : List Value} (hh : sHeap ins st h = some (st', h')) {r : List Nat} {len : Nat} (hd : decode cc pc = .ok (sReal ins r, len)) (hln : sSw ins = true ∨ len = sLen ins) (hex : sExt own nm ins r = true) (hl : h'.length ≤ 1000000)
    (hsl : ls.size = nL) (hRf : 1 ≤ R.frames) (hRl : 39 ≤ R.locals) (hc : cells + (h'.length - h.length) ≤ R.cells) (hs : slots + (sSl h' - sSl h) ≤ R.slots)
    (kk : ∀ (H1 : Heap) (locs1 : List Loc), sSt base b D dA s h' H1 locs1 → W p l e R s m args below meth c H1 locs1 (cells + (h'.length - h.length)) (slots + (sSl h' - sSl h)) Q (F0 m (pc + sLen ins) ls (rS (sAd base b) st'))) : W p l e R s m args below meth c H locs cells slots Q (F0 m pc ls (rS (sAd base b) st)) := by
  have kk0 : h'.length = h.length → sSl h' = sSl h → ∀ (H1 : Heap) (locs1 : List Loc), sSt base b D dA s h' H1 locs1 → W p l e R s m args below meth c H1 locs1 cells slots Q (F0 m (pc + sLen ins) ls (rS (sAd base b) st')) := by
    intro e1 e2 H1 l1 S1
    have h2 := kk H1 l1 S1
    rw [e1, e2, Nat.sub_self, Nat.sub_self, Nat.add_zero, Nat.add_zero] at h2
    exact h2
  have hlen := hln.resolve_left (fun z => by rw [(sHeap_nop hh).2] at z; cases z)
  subst hlen
  have hx := E.1
  have hb := E.2.1
  have hown := E.2.2.2.1
  have hts := E.2.2.2.2.1
  unfold sHeap at hh
  split at hh
  · simp only [sExt] at hex
    split at hex
    · exact s_get E S hd (sChkG_ok hex) hh (fun e => by subst e; exact kk0 rfl rfl _ _ S)
    · cases hex
  · simp only [sExt] at hex
    split at hex
    · rw [Bool.and_eq_true] at hex
      exact s_put E S hd (ini := nm = "<init>") hnm (sChkF_ok hex.1 hex.2) hh (fun H1 l1 S1 e1 e2 => kk0 e1 e2 H1 l1 S1)
    · cases hex
  · exact s_ldAI E S hd hh (fun e => by subst e; exact kk0 rfl rfl _ _ S)
  · exact s_ldAZ E S hd hh (fun e => by subst e; exact kk0 rfl rfl _ _ S)
  · exact s_ldAL E S hd hh (fun e => by subst e; exact kk0 rfl rfl _ _ S)
  · exact s_ldAA E S hd hh (fun e => by subst e; exact kk0 rfl rfl _ _ S)
  · exact s_stAI E S hd hh (fun H1 l1 S1 e1 e2 => kk0 e1 e2 H1 l1 S1)
  · exact s_stAZ E S hd hh (fun H1 l1 S1 e1 e2 => kk0 e1 e2 H1 l1 S1)
  · exact s_stAL E S hd hh (fun H1 l1 S1 e1 e2 => kk0 e1 e2 H1 l1 S1)
  · exact s_stAA E S hd hh (fun H1 l1 S1 e1 e2 => kk0 e1 e2 H1 l1 S1)
  · exact s_alen E S hd hh (fun e => by subst e; exact kk0 rfl rfl _ _ S)
  · rename_i k
    simp only [sExt] at hex
    split at hex
    · rename_i idx p1 p2 p3 q hq
      simp only [Bool.and_eq_true] at hex
      exact s_new E S ac hd ⟨q, hq, sWi_in hex.1.1, sWi_in hex.1.2, sWi_in hex.2⟩ hh hl hc hs (fun H1 S1 => kk H1 locs S1)
    · cases hex
  · simp only [sExt] at hex
    split at hex
    · exact s_newA E S ac hd (sWi_in hex) hh hl hc hs (fun H1 S1 => kk H1 locs S1)
    · cases hex
  · simp only [sExt] at hex
    split at hex
    · simp only [Bool.or_eq_true, Bool.and_eq_true, beq_iff_eq] at hex
      exact s_newQ E S ac hd (hex.imp (fun z => ⟨z.1, sWi_in z.2⟩) (fun z => ⟨z.1, sWi_in z.2⟩)) hh hl hc hs (fun H1 S1 => kk H1 locs S1)
    · cases hex
  · simp only [sExt] at hex
    split at hex
    · simp only [Bool.and_eq_true, beq_iff_eq] at hex
      obtain ⟨rfl, w1, w2⟩ := hex
      exact s_newM E S ac hd (sWi_in w1) (sWi_in w2) hh hl hc hs kk
    · cases hex
  · cases hh
    simp only [sExt] at hex
    split at hex
    · exact lv_ldc2 hx hb hown (hts _ (sWi_in hex)) hd (kk0 rfl rfl _ _ S)
    · cases hex
  · rename_i k
    simp only [sExt] at hex
    split at hex
    · simp only [Bool.and_eq_true, decide_eq_true_eq] at hex
      rw [if_pos hex.1] at hh
      cases hh
      exact lv_ldc hx hb hown (hts _ (sWi_in hex.2)) hd (kk0 rfl rfl _ _ S)
    · simp only [decide_eq_true_eq] at hex
      obtain ⟨e1, e2, e3⟩ := hex
      rw [if_neg (by omega)] at hh
      split at hh
      · cases hh
        subst e1
        exact s_ldcS E (i := k - 4294967296) (by omega) e3 hd (kk0 rfl rfl _ _ S)
      · cases hh
    · cases hex
  · cases hh
    simp only [sExt] at hex
    split at hex
    · exact lv_ldcw hx hb hown (hts _ (sWi_in hex)) hd (kk0 rfl rfl _ _ S)
    · cases hex
  · split at hh
    · rename_i e3
      subst e3
      simp only [sExt] at hex
      rw [if_neg (by decide), if_pos trivial] at hex
      split at hex
      · simp only [Bool.and_eq_true] at hex
        exact s_cpy E hsl S hd (sWi_in hex.1) (sWi_in hex.2.1) (sWi_in hex.2.2.1) (sWi_in hex.2.2.2) hRf hRl hh (fun H1 l1 S1 e1 e2 => kk0 e1 e2 H1 l1 S1)
      · cases hex
    · cases hh
  · cases hh
theorem s_scr (E : sEnv p s m c args cc nL base b D dA own) {h : sHp} (S : sSt base b D dA s h H locs) {X : sX} (hX : ∀ L xs, X = some (L, xs) → va_X (b 1000000) L xs s s.heap ∧ b 1000000 < s.heap.size ∧ ¬ base ≤ b 1000000) {ins : Instr} {st st' : List Value} (hh : sScr X ins st = some st') {r : List Nat} {len : Nat} (hd : decode cc pc = .ok (sReal ins r, len)) (hln : sSw ins = true ∨ len = sLen ins)
    (kk : W p l e R s m args below meth c H locs cells slots Q (F0 m (pc + sLen ins) ls (rS (sAd base b) st'))) : W p l e R s m args below meth c H locs cells slots Q (F0 m pc ls (rS (sAd base b) st)) := by
  have hx := E.1
  have hb := E.2.1
  unfold sScr at hh
  split at hh
  · rename_i L xs
    obtain ⟨h1, h2, h3⟩ := hX L xs rfl
    split at hh
    · have hlen := hln.resolve_left (fun z => by cases z)
      subst hlen
      split at hh
      · split at hh
        · rename_i ha
          cases hh
          subst ha
          exact va_slen hx hb h1 h2 h3 S.2.1 hd kk
        · cases hh
      · cases hh
    · have hlen := hln.resolve_left (fun z => by cases z)
      subst hlen
      split at hh
      · split at hh
        · rename_i ha
          cases hh
          obtain ⟨rfl, hin⟩ := ha
          exact va_sld hx hb h1 h2 h3 S.2.1 hin hd kk
        · cases hh
      · cases hh
    · cases hh
  · cases hh
theorem sScr_nop {X : sX} {ins : Instr} {st st' : List Value} (hh : sScr X ins st = some st') : ins ≠ .nop := by
  unfold sScr at hh
  split at hh
  · split at hh
    · intro z; cases z
    · intro z; cases z
    · cases hh
  · cases hh
theorem s_sum {v w : Value} {r : List Value} (h : ((v :: w :: r).map (fun v => v.category)).sum ≤ 10) : (r.map (fun v => v.category)).sum ≤ 8 := by
  have h1 : 1 ≤ v.category := by rcases lv_cat v with q | q <;> omega
  have h2 : 1 ≤ w.category := by rcases lv_cat w with q | q <;> omega
  simp only [List.map_cons, List.sum_cons] at h
  omega
theorem s_spec (E : sEnv p s m c args cc nL base b D dA own) (hsl : ls.size = nL) {ins : Instr} {st st' : List Value} (hk : sKnd ins ≠ 5) (hh : sSpec ins st = some st') (hcat : (st.map (fun v => v.category)).sum ≤ 10) {nm : String} {r : List Nat} {len : Nat} (hd : decode cc pc = .ok (sReal ins r, len)) (hln : sSw ins = true ∨ len = sLen ins) (hex : sExt own nm ins r = true) (hRf : 1 ≤ R.frames) (hRl : 39 ≤ R.locals) (hc : cells ≤ R.cells) (hs : slots ≤ R.slots)
    (kk : W p l e R s m args below meth c H locs cells slots Q (F0 m (pc + 3) ls (rS (sAd base b) st'))) : W p l e R s m args below meth c H locs cells slots Q (F0 m pc ls (rS (sAd base b) st)) := by
  obtain ⟨hx, hb, hml, hown, hts, hK, hbs, hnw, hou⟩ := id E
  unfold sSpec at hh
  split at hh
  · rename_i k
    have hlen := hln.resolve_left (fun z => by cases z)
    subst hlen
    have hk1 : ¬ k < 258 := by
      intro z
      apply hk
      unfold sKnd
      dsimp only
      rw [if_pos (by omega)]
    have hk3 : ¬ k = 1003 := by
      intro z
      subst z
      rw [if_neg (by decide), if_neg (by decide), if_neg (by decide)] at hh
      cases hh
    simp only [sExt] at hex
    rw [if_neg hk1, if_neg hk3] at hex
    split at hex
    · simp only [Bool.and_eq_true, decide_eq_true_eq] at hex
      obtain ⟨⟨-, w2⟩, w⟩ := hex
      split at hh
      · rename_i h0
        rw [if_pos h0] at w
        simp only [Bool.and_eq_true] at w
        obtain ⟨x, y, v, r', rfl, h1, rfl⟩ := s2i_of hh
        cases h1
        have hct := s_sum hcat
        exact va_mmax hx hb (hml.trans hsl.symm) hown (hts _ (sWi_in w.1.1)) (hts _ (sWi_in w.1.2)) (hts _ (sWi_in w2)) (hts _ (sWi_in w.2)) hRf (by rw [rS_cat]; omega) hc hs hd kk
      · split at hh
        · rename_i h0' h0
          rw [if_neg h0', if_pos h0] at w
          simp only [Bool.and_eq_true] at w
          obtain ⟨x, y, v, r', rfl, h1, rfl⟩ := s2i_of hh
          cases h1
          have hct := s_sum hcat
          exact va_mmin hx hb (hml.trans hsl.symm) hown (hts _ (sWi_in w.1.1)) (hts _ (sWi_in w.1.2)) (hts _ (sWi_in w2)) (hts _ (sWi_in w.2)) hRf (by rw [rS_cat]; omega) hc hs hd kk
        · split at hh
          · rename_i h0' h0'' h0
            rw [if_neg h0', if_neg h0''] at w
            simp only [Bool.and_eq_true] at w
            obtain ⟨x, r', rfl, rfl⟩ := s1i_of hh
            have hct : (r'.map (fun v => v.category)).sum ≤ 10 := by
              simp only [List.map_cons, List.sum_cons] at hcat
              omega
            exact va_mabs hx hb (hml.trans hsl.symm) hown (hts _ (sWi_in w.1.1)) (hts _ (sWi_in w.1.2)) (hts _ (sWi_in w2)) (hts _ (sWi_in w.2)) hRf (by rw [rS_cat]; omega) hc hs hd kk
          · cases hh
    · cases hex
  · rename_i k
    have hlen := hln.resolve_left (fun z => by cases z)
    subst hlen
    split at hh
    · rename_i h0
      subst h0
      split at hh
      · rename_i o r'
        cases hh
        simp only [sExt] at hex
        rw [if_neg (by decide)] at hex
        split at hex
        · simp only [Bool.and_eq_true] at hex
          have hct : (st'.map (fun v => v.category)).sum ≤ 10 := by
            simp only [List.map_cons, List.sum_cons] at hcat
            omega
          exact W.objInit hx hb hown (hts _ (sWi_in hex.1.1.2)) (hts _ (sWi_in hex.1.2)) (hts _ (sWi_in hex.2)) (g := F0 m pc ls (.ref (sAd base b o) :: rS (sAd base b) st')) rfl (hsl.trans hml.symm) rfl hd hRf (by rw [rS_cat]; show 2 * 0 + _ + 12 ≤ _; omega) kk
        · cases hex
      · cases hh
    · cases hh
  · cases hh
set_option maxHeartbeats 4000000 in
theorem s_run {q : sMt} (hq : ∀ e ∈ mT q, sChkE q e = true) {X : sX} {d nf : Nat} (E : sEnv p s m c args (mC q) (mN q) base b D dA (mY q).cls) (hnm : (mY q).name = "<init>" → meth.name = "<init>") (hX : ∀ L xs, X = some (L, xs) → va_X (b 1000000) L xs s s.heap ∧ b 1000000 < s.heap.size ∧ ¬ base ≤ b 1000000) (hRf : d + 1 ≤ R.frames) (hRl : 39 * (d + 1) ≤ R.locals)
    (hgood : ∀ (k : Nat) (z : sMt), k < 258 → sM k = some z → sChkM z = true)
    (hmet : ∀ (k : Nat) (as : List Value) (h : sHp) (r : Option Value) (h' : sHp) (z : sMt), k < 258 → sM k = some z → sCall d nf k as h = some (r, h') → h'.length ≤ 1000000 → sMet l base b D dA d z as h r h')
    {sl0 : Nat} {hf : sHp} {v : Option Value} (hfl : hf.length ≤ 1000000) (hRc : base + hf.length ≤ s.heap.size + R.cells) (hRs : sSl hf ≤ sl0 + R.slots)
    (kret : ∀ (pc' : Nat) (ins : Instr) (ls' : Array Slot) (st' : List Value) (H' : Heap) (locs' : List Loc) (cells' slots' : Nat), sRet (mR q) ins st' = some v → decode (mC q) pc' = .ok (ins, 1) → sSt base b D dA s hf H' locs' → s.heap.size + cells' = base + hf.length → slots' + sl0 = sSl hf → W p l e R s m args below meth c H' locs' cells' slots' Q (F0 m pc' ls' (rS (sAd base b) st'))) :
    ∀ (n pc : Nat) (L : sLo) (st : List Value) (h : sHp) (H : Heap) (ls : Array Slot) (locs : List Loc) (cells slots : Nat), sRun X (sFt q) (mR q) (sCal sNA sOwn sVt) (sCall d nf) n pc L st h = some (v, hf) → sSt base b D dA s h H locs → sLs (sAd base b) (mN q) L ls → s.heap.size + cells = base + h.length → slots + sl0 = sSl h → W p l e R s m args below meth c H locs cells slots Q (F0 m pc ls (rS (sAd base b) st)) := by
  have cle : ∀ k as h r h', sCall d nf k as h = some (r, h') → sLe h h' := fun k as h r h' => sCall_le d nf k as h r h'
  intro n
  induction n with
  | zero => intro pc L st h H ls locs cells slots hr; cases hr
  | succ n ih =>
    intro pc L st h H ls locs cells slots hr S hl ac as
    have hle0 := sRun_le cle _ _ _ _ _ _ _ hr
    rw [sRun] at hr
    cases hF : sFt q pc with
    | none => rw [hF] at hr; cases hr
    | some ins =>
      rw [hF] at hr
      dsimp only at hr
      have hx := E.1
      have hb := E.2.1
      split at hr
      · obtain ⟨st1, h1, h2⟩ := Option.bind_eq_some_iff.mp hr
        obtain ⟨r, len, hd, hln, hex⟩ := sChkE_of hq hF (sPure_real h1 []).2.2
        obtain ⟨e1, e2, -⟩ := sPure_real h1 r
        rw [e1] at hd
        have e3 := hln.resolve_left (fun z => by rw [e2] at z; cases z)
        subst e3
        exact s_pure hx hb h1 hd (ih _ _ _ _ _ _ _ _ _ h2 S hl ac as)
      · obtain ⟨z, h1, h2⟩ := Option.bind_eq_some_iff.mp hr
        obtain ⟨r, len, hd, hln, hex⟩ := sChkE_of hq hF (sLoc_real h1 []).2.2
        obtain ⟨e1, e2, -⟩ := sLoc_real h1 r
        rw [e1] at hd
        have e3 := hln.resolve_left (fun z => by rw [e2] at z; cases z)
        subst e3
        exact s_loc hx hb hl h1 hd (fun ls' hl' => ih _ _ _ _ _ _ _ _ _ h2 S hl' ac as)
      · split at hr
        · rename_i st1 h1
          obtain ⟨r, len, hd, hln, hex⟩ := sChkE_of hq hF (sScr_nop h1)
          exact s_scr E S hX h1 hd hln (ih _ _ _ _ _ _ _ _ _ hr S hl ac as)
        · obtain ⟨z, h1, h2⟩ := Option.bind_eq_some_iff.mp hr
          obtain ⟨r, len, hd, hln, hex⟩ := sChkE_of hq hF (sHeap_nop h1).1
          have hle1 := sHeap_le h1
          have hle2 := sRun_le cle _ _ _ _ _ _ _ h2
          have g1 := hle1.1
          have g2 := hle1.2
          have g3 := hle2.1
          have g4 := hle2.2
          exact s_heap E S ac hnm h1 hd hln hex (by omega) hl.2.2.1 (by omega) (by omega) (by omega) (by omega) (fun H1 l1 S1 => ih _ _ _ _ _ _ _ _ _ h2 S1 hl (by omega) (by omega))
      · obtain ⟨z, h1, h2⟩ := Option.bind_eq_some_iff.mp hr
        obtain ⟨r, len, hd, hln, hex⟩ := sChkE_of hq hF (sJmp_real h1 []).2.1
        obtain ⟨e1, -, e2⟩ := sJmp_real h1 r
        rw [e1] at hd
        refine s_jmp hx hb h1 hd ?_ (ih _ _ _ _ _ _ _ _ _ h2 S hl ac as)
        rcases e2 with e2 | ⟨dd, ps, rfl⟩ | ⟨e2, e3, e4⟩
        · exact Or.inl e2
        · exact Or.inr (Or.inl ⟨dd, ps, rfl, hex⟩)
        · exact Or.inr (Or.inr ⟨(hln.resolve_left (fun z => by rw [e2] at z; cases z)).trans e3, e4⟩)
      · obtain ⟨z, h1, h2⟩ := Option.map_eq_some_iff.mp hr
        cases h2
        obtain ⟨r, len, hd, hln, hex⟩ := sChkE_of hq hF (sRet_real h1 []).2.2.1
        obtain ⟨e1, e2, -, e4⟩ := sRet_real h1 r
        rw [e1] at hd
        have e3 := (hln.resolve_left (fun z => by rw [e2] at z; cases z)).trans e4
        subst e3
        exact kret _ _ _ _ _ _ _ _ h1 hd S ac as
      · rename_i hkd
        obtain ⟨z, h1, h2⟩ := Option.bind_eq_some_iff.mp hr
        split at h2
        · rename_i hcat
          obtain ⟨y, h3, h4⟩ := Option.bind_eq_some_iff.mp h2
          have hle1 := cle _ _ _ _ _ h3
          have hle2 := sRun_le cle _ _ _ _ _ _ _ h4
          have g1 := hle1.1
          have g2 := hle1.2
          have g3 := hle2.1
          have g4 := hle2.2
          have hsl := hl.2.2.1
          have knx : ∀ (ls0 : Array Slot), ls0 = ls → sNext p l e R s m args below meth c cells slots Q pc ls0 base b D dA h y.1 y.2 z.2.2 := fun ls0 e0 H1 l1 S1 => by
            subst e0
            exact ih _ _ _ _ _ _ _ _ _ h4 S1 hl (by omega) (by omega)
          have hni : ins ≠ .nop := fun z => by rw [z] at hkd; cases hkd
          obtain ⟨r, len, hd, hln, hex⟩ := sChkE_of hq hF hni
          unfold sCal at h1
          split at h1
          · rename_i k
            obtain ⟨w, h5, h6⟩ := Option.map_eq_some_iff.mp h1
            subst h6
            obtain ⟨h7, h8⟩ := sPop_of h5
            have hlen := hln.resolve_left (fun z => by cases z)
            subst hlen
            have hk0 : k < 1000 := by
              rcases Nat.lt_or_ge k 1000 with z | z
              · exact z
              · unfold sKnd at hkd
                dsimp only at hkd
                rw [if_neg (by omega)] at hkd
                split at hkd <;> cases hkd
            simp only [sExt] at hex
            by_cases hk : k < 258
            · rw [if_pos hk] at hex
              split at hex
              · rename_i idx p1 zz hzz
                simp only [Bool.and_eq_true, beq_iff_eq] at hex
                have hna : sNA k = mA zz := by unfold sNA; rw [hzz]
                have hm := hmet k w.1 h y.1 y.2 zz hk hzz h3 (by omega)
                rw [h7]
                exact s_callStatic E S hsl ac (hgood k zz hk hzz) hex.1 (sWi_in hex.2) hm (h8.trans hna) hcat hRf hRl (by omega) (by omega) (by omega) hd (knx ls rfl)
              · cases hex
            · rw [if_neg hk, if_neg (show ¬ k = 1003 by omega)] at hex
              split at hex
              · simp only [Bool.and_eq_true, decide_eq_true_eq] at hex
                omega
              · cases hex
          · rename_i k
            obtain ⟨w, h5, h6⟩ := Option.bind_eq_some_iff.mp h1
            obtain ⟨h7, h8⟩ := sPop_of h5
            have hlen := hln.resolve_left (fun z => by cases z)
            subst hlen
            have hk0 : k < 1000 := by
              rcases Nat.lt_or_ge k 1000 with z | z
              · exact z
              · unfold sKnd at hkd
                dsimp only at hkd
                rw [if_neg (by omega)] at hkd
                cases hkd
            split at h6
            · rename_i o rr hw2
              split at h6
              · rename_i ob hob
                cases h6
                simp only [sExt] at hex
                by_cases hk : k < 258
                · rw [if_pos hk] at hex
                  rw [h7, hw2]
                  split at hex
                  · rename_i idx p1 zz hzz
                    simp only [Bool.and_eq_true, beq_iff_eq] at hex
                    have hna : sNA k = mA zz := by unfold sNA; rw [hzz]
                    have hm := hmet k _ h y.1 y.2 zz hk hzz h3 (by omega)
                    exact s_callInit E S hsl ac (hgood k zz hk hzz) hex.1 (Or.inl (sWi_in hex.2)) hm (h8.trans hna) hcat hRf hRl (by omega) (by omega) (by omega) hd (knx ls rfl)
                  · rename_i idx zz hzz
                    simp only [Bool.and_eq_true, beq_iff_eq, decide_eq_true_eq] at hex
                    have hna : sNA k = mA zz := by unfold sNA; rw [hzz]
                    have hm := hmet k _ h y.1 y.2 zz hk hzz h3 (by omega)
                    exact s_callInit E S hsl ac (hgood k zz hk hzz) hex.1 (Or.inr hex.2) hm (h8.trans hna) hcat hRf hRl (by omega) (by omega) (by omega) hd (knx ls rfl)
                  · rename_i idx p1 p2 p3 zz hzz
                    unfold sSup at hex
                    simp only [Bool.and_eq_true, beq_iff_eq] at hex
                    have hna : sNA k = mA zz := by unfold sNA; rw [hzz]
                    have hm := hmet k _ h y.1 y.2 zz hk hzz h3 (by omega)
                    obtain ⟨ci, fs⟩ := ob
                    exact s_callUp E S hsl ac hob (hgood k zz hk hzz) hex.1 (sWi_in hex.2.1.1) (sWi_in hex.2.1.2) (sWi_in hex.2.2) hm (h8.trans hna) hcat hRf hRl (by omega) (by omega) (by omega) hd (knx ls rfl)
                  · rename_i idx p1 p2 p3 p4 zz hzz
                    simp only [Bool.and_eq_true, beq_iff_eq] at hex
                    have hna : sNA k = mA zz := by unfold sNA; rw [hzz]
                    have hm := hmet k _ h y.1 y.2 zz hk hzz h3 (by omega)
                    obtain ⟨ci, fs⟩ := ob
                    obtain ⟨xc, w1, w2, w3, w4⟩ := sSup2_of hex.2
                    exact s_callUp2 E S hsl ac hob (hgood k zz hk hzz) hex.1 w1 w2 w3 w4 hm (h8.trans hna) hcat hRf hRl (by omega) (by omega) (by omega) hd (knx ls rfl)
                  · cases hex
                · rw [if_neg hk] at hex
                  split at hex
                  · simp only [Bool.and_eq_true, decide_eq_true_eq] at hex
                    omega
                  · cases hex
              · cases h6
            · cases h6
          · rename_i k
            have hlen := hln.resolve_left (fun z => by cases z)
            subst hlen
            simp only [sExt] at hex
            split at h1
            · rename_i hk0
              obtain ⟨w, h5, h6⟩ := Option.bind_eq_some_iff.mp h1
              obtain ⟨h7, h8⟩ := sPop_of h5
              split at h6
              · rename_i o rr hw2
                split at h6
                · rename_i ci fs hob
                  split at h6
                  · rename_i hci
                    cases h6
                    by_cases hk : k < 258
                    · rw [if_pos hk] at hex
                      split at hex
                      · rename_i idx p1 zz hzz
                        simp only [Bool.and_eq_true, beq_iff_eq] at hex
                        obtain ⟨⟨x1, x2⟩, x3⟩ := hex
                        split at x3
                        · have hna : sNA k = mA zz := by unfold sNA; rw [hzz]
                          have how : sOwn k = mI zz := by unfold sOwn; rw [hzz]
                          have hm := hmet k _ h y.1 y.2 zz hk hzz h3 (by omega)
                          rw [h7, hw2]
                          rw [hci, how] at hob
                          exact s_callVirt E S hsl ac hob (hgood k zz hk hzz) x1 (sWi_in x2) (sWi_in x3) hm (h8.trans hna) hcat hRf hRl (by omega) (by omega) (by omega) hd (knx ls rfl)
                        · cases x3
                      · cases hex
                    · rw [if_neg hk] at hex
                      split at hex
                      · simp only [Bool.and_eq_true, decide_eq_true_eq] at hex
                        omega
                      · cases hex
                  · cases h6
                · cases h6
              · cases h6
            · rename_i hk0
              obtain ⟨w, h5, h6⟩ := Option.bind_eq_some_iff.mp h1
              obtain ⟨h7, h8⟩ := sPop_of h5
              split at h6
              · rename_i o rr hw2
                split at h6
                · rename_i ci fs hob
                  split at h6
                  · rename_i hci
                    cases h6
                    rw [if_neg (by omega)] at hex
                    split at hex
                    · simp only [Bool.and_eq_true, decide_eq_true_eq] at hex
                      obtain ⟨⟨x1, x2⟩, x3⟩ := hex
                      obtain ⟨zz, zx, e1, a1, a2, a3, a4, -⟩ := sFam_of x1 x2 hci.2 hci.1
                      have hm := hmet _ _ h y.1 y.2 zz a1 e1 h3 (by omega)
                      rw [h7, hw2]
                      exact s_callFam E S hsl ac x1 x2 hci.2 hci.1 hob e1 (hgood _ zz a1 e1) (sWi_in x3) hm (h8.trans (by unfold sVt; rfl)) hcat hRf hRl (by omega) (by omega) (by omega) hd (knx ls rfl)
                    · cases hex
                  · cases h6
                · cases h6
              · cases h6
          · rename_i k cnt
            obtain ⟨w, h5, h6⟩ := Option.bind_eq_some_iff.mp h1
            obtain ⟨h7, h8⟩ := sPop_of h5
            have hlen := hln.resolve_left (fun z => by cases z)
            subst hlen
            split at h6
            · rename_i o rr hw2
              split at h6
              · rename_i ho
                replace h6 := Option.some.inj h6
                subst h6
                obtain ⟨i, hi7, rfl⟩ := s_out_i ho
                simp only [sExt] at hex
                split at hex
                · rename_i idx p1
                  obtain ⟨y1, y2⟩ := y
                  cases d with
                  | zero => cases h3
                  | succ d =>
                    rw [sCall] at h3
                    simp only [Bool.or_eq_true, Bool.and_eq_true, beq_iff_eq] at hex
                    rw [h7, hw2]
                    rcases hex with ⟨rfl, hex⟩ | ⟨rfl, hex⟩
                    · rw [if_pos (show 300 ≤ 3000 - 2700 by decide)] at h3
                      have hw1 : w.1 = [] := List.length_eq_zero_iff.mp h8
                      rw [hw1] at h3 knx ⊢
                      unfold sStC at h3
                      dsimp only at h3
                      split at h3
                      · rename_i hg
                        cases h3
                        rw [Nat.add_sub_cancel_left] at knx
                        exact s_callLen E S hsl ac hg.2.1 hi7 (sWi_in hex) hcat (by omega) (by omega) (by omega) (by omega) (by omega) hd (knx ls rfl)
                      · cases h3
                    · rw [if_pos (show 300 ≤ 3001 - 2700 by decide)] at h3
                      obtain ⟨v0, hw1⟩ := List.length_eq_one_iff.mp h8
                      rw [hw1] at h3 knx ⊢
                      unfold sStC at h3
                      dsimp only at h3
                      split at h3
                      · rename_i x e0
                        cases e0
                      · rename_i a x e0
                        cases e0
                        split at h3
                        · rename_i hg
                          cases h3
                          obtain ⟨g5, g6, g7, g8⟩ := hg
                          rw [Nat.add_sub_cancel_left] at knx g8
                          exact s_callCh E S hsl ac g6 hi7 g8 (sWi_in hex) hcat (by omega) (by omega) (by omega) (by omega) (by omega) hd (knx ls rfl)
                        · cases h3
                      · cases h3
                · cases hex
              · cases h6
            · cases h6
          · cases h1
        · cases h2
      · rename_i hk5
        split at hr
        · rename_i hcat
          obtain ⟨st1, h1, h2⟩ := Option.bind_eq_some_iff.mp hr
          have hni : ins ≠ .nop := fun z => by rw [z] at h1; cases h1
          obtain ⟨r, len, hd, hln, hex⟩ := sChkE_of hq hF hni
          have g1 := hle0.1
          have g2 := hle0.2
          exact s_spec E hl.2.2.1 (by assumption) h1 hcat hd hln hex (by omega) (by omega) (by omega) (by omega) (ih _ _ _ _ _ _ _ _ _ h2 S hl ac as)
        · cases hr
theorem s_met (l : Launch) (base : Nat) (b : Nat → Nat) (D : va_G) (dA : Nat → ClassId) : ∀ (d n k : Nat) (as : List Value) (h : sHp) (r : Option Value) (h' : sHp) (q : sMt), k < 258 → sM k = some q → sCall d n k as h = some (r, h') → h'.length ≤ 1000000 → sMet l base b D dA d q as h r h' := by
  intro d
  induction d with
  | zero => intro n k as h r h' q _ _ hr; cases hr
  | succ d ih =>
    intro n k as h r h' q hk hq hr hl
    have hle := sCall_le _ _ _ _ _ _ _ hr
    rw [sCall, if_neg (by omega)] at hr
    obtain ⟨q', h1, h2⟩ := Option.bind_eq_some_iff.mp hr
    cases hq.symm.trans h1
    obtain ⟨L, h3, h4⟩ := Option.bind_eq_some_iff.mp h2
    obtain ⟨hm, he⟩ := sOk_m k hk q hq
    refine Met.ofW (cc := mC q) (maxL := mN q) (ret := mR q) (sChkM_of hm).2.2.2.2.1 rfl ?_
    intro p e s m args below meth c s₁ B hml hv
    obtain ⟨rfl, hsz, hP, hK, hN, hOu⟩ := hv
    have hts : ∀ w ∈ sTB, w.before ((as.map (rV (sAd base b))).toArray) s = true := fun w hw => atoms_spec (ws := sWs q) B.pre w (List.mem_cons_of_mem _ hw)
    have hown : s.vm.findClass (mY q).cls = some m.cls := findClass_of_methodNamed B.named
    have hnm : (mY q).name = "<init>" → meth.name = "<init>" := fun z => ((name_of_methodNamed B.named B.method).1).trans z
    rw [lg_entry_eq]
    have g1 := hle.1
    have g2 := hle.2
    refine s_run (d := d) (nf := n) (X := none) (sl0 := sSl h) (hf := h') (v := r) he ⟨B.exec, B.bytes, hml, hown, hts, hK, by omega, hN, hOu⟩ hnm ((fun _ _ z => by cases z)) (by show d + 1 ≤ d + 1; omega) (by show 39 * (d + 1) ≤ 39 * (d + 1); omega) (fun k z hk hz => (sOk_m k hk z hz).1) (fun k as h r h' z hk hz => ih n k as h r h' z hk hz) hl (by show base + h'.length ≤ s.heap.size + (h'.length - h.length); omega) (by show sSl h' ≤ sSl h + (sSl h' - sSl h); omega) ?_ n 0 L [] h s.heap _ [] 0 0 h4 ⟨hP, va_S.rf, by omega⟩ (s_ini h3) (by omega) (by omega)
    intro pc' ins ls' st' H' locs' cells' slots' q1 q2 q3 q4 q5
    obtain rfl : cells' = h'.length - h.length := by omega
    obtain rfl : slots' = sSl h' - sSl h := by omega
    exact s_ret B.exec B.bytes q1 B.returns B.notSynchronized (fun t ht _ => ⟨⟨rfl, by rw [ht]; exact q3.1⟩, q3.2.1.F ht⟩) q3.2.1.2.2 q2
end ALL
end
section
/-! ===== walking the simple machine ===== -/
def sUp (f g : Nat → List Value → sHp → sOr) : Prop := ∀ (k : Nat) (as : List Value) (h : sHp) (z : Option Value × sHp), f k as h = some z → g k as h = some z
theorem sRun_up {X : sX} {F : Nat → Option Instr} {rt : Option FieldType} {cal : Instr → List Value → sHp → Option (Nat × List Value × List Value)} {f g : Nat → List Value → sHp → sOr} (hfg : sUp f g) :
    ∀ (n n' : Nat), n ≤ n' → ∀ (pc : Nat) (L : sLo) (st : List Value) (h : sHp) (z : Option Value × sHp), sRun X F rt cal f n pc L st h = some z → sRun X F rt cal g n' pc L st h = some z := by
  intro n
  induction n with
  | zero => intro n' _ pc L st h z hr; cases hr
  | succ n ih =>
    intro n' hn pc L st h z hr
    obtain ⟨m, rfl⟩ : ∃ m, n' = m + 1 := ⟨n' - 1, by omega⟩
    have hm : n ≤ m := by omega
    rw [sRun] at hr ⊢
    cases hF : F pc with
    | none => rw [hF] at hr; cases hr
    | some ins =>
      rw [hF] at hr
      dsimp only at hr ⊢
      generalize sKnd ins = kd at hr ⊢
      match kd, hr with
      | 0, hr =>
        obtain ⟨st1, h1, h2⟩ := Option.bind_eq_some_iff.mp hr
        exact Option.bind_eq_some_iff.mpr ⟨st1, h1, ih m hm _ _ _ _ _ h2⟩
      | 1, hr =>
        obtain ⟨st1, h1, h2⟩ := Option.bind_eq_some_iff.mp hr
        exact Option.bind_eq_some_iff.mpr ⟨st1, h1, ih m hm _ _ _ _ _ h2⟩
      | 2, hr =>
        have h3 : (match sScr X ins st with
          | some st1 => sRun X F rt cal f n (pc + sLen ins) L st1 h
          | none => (sHeap ins st h).bind fun q => sRun X F rt cal f n (pc + sLen ins) L q.1 q.2) = some z := hr
        show (match sScr X ins st with
          | some st1 => sRun X F rt cal g m (pc + sLen ins) L st1 h
          | none => (sHeap ins st h).bind fun q => sRun X F rt cal g m (pc + sLen ins) L q.1 q.2) = some z
        cases hs : sScr X ins st with
        | some st1 =>
          rw [hs] at h3
          exact ih m hm _ _ _ _ _ h3
        | none =>
          rw [hs] at h3
          obtain ⟨st1, h1, h2⟩ := Option.bind_eq_some_iff.mp h3
          exact Option.bind_eq_some_iff.mpr ⟨st1, h1, ih m hm _ _ _ _ _ h2⟩
      | 3, hr =>
        obtain ⟨st1, h1, h2⟩ := Option.bind_eq_some_iff.mp hr
        exact Option.bind_eq_some_iff.mpr ⟨st1, h1, ih m hm _ _ _ _ _ h2⟩
      | 4, hr => exact hr
      | 5, hr =>
        obtain ⟨q, h1, h2⟩ := Option.bind_eq_some_iff.mp hr
        refine Option.bind_eq_some_iff.mpr ⟨q, h1, ?_⟩
        split at h2
        · rename_i hc
          rw [if_pos hc]
          obtain ⟨y, h3, h4⟩ := Option.bind_eq_some_iff.mp h2
          exact Option.bind_eq_some_iff.mpr ⟨y, hfg _ _ _ _ h3, ih m hm _ _ _ _ _ h4⟩
        · cases h2
      | j + 6, hr =>
        have h3 : (if (st.map (fun v => v.category)).sum ≤ 10 then (sSpec ins st).bind fun st1 => sRun X F rt cal f n (pc + 3) L st1 h else none) = some z := hr
        show (if (st.map (fun v => v.category)).sum ≤ 10 then (sSpec ins st).bind fun st1 => sRun X F rt cal g m (pc + 3) L st1 h else none) = some z
        by_cases hc : (st.map (fun v => v.category)).sum ≤ 10
        · rw [if_pos hc] at h3 ⊢
          obtain ⟨st1, h1, h2⟩ := Option.bind_eq_some_iff.mp h3
          exact Option.bind_eq_some_iff.mpr ⟨st1, h1, ih m hm _ _ _ _ _ h2⟩
        · rw [if_neg hc] at h3
          cases h3
theorem sCall_up : ∀ (d n n' : Nat), n ≤ n' → sUp (sCall d n) (sCall d n') := by
  intro d
  induction d with
  | zero => intro n n' _ k as h z hr; cases hr
  | succ d ih =>
    intro n n' hn k as h z hr
    rw [sCall] at hr ⊢
    by_cases hk : 300 ≤ k
    · rw [if_pos hk] at hr ⊢
      exact hr
    rw [if_neg hk] at hr ⊢
    obtain ⟨q, h1, h2⟩ := Option.bind_eq_some_iff.mp hr
    obtain ⟨L, h3, h4⟩ := Option.bind_eq_some_iff.mp h2
    exact Option.bind_eq_some_iff.mpr ⟨q, h1, Option.bind_eq_some_iff.mpr ⟨L, h3, sRun_up (ih n n' hn) n n' hn _ _ _ _ _ h4⟩⟩
theorem sStC_up {d k : Nat} {as : List Value} {h : sHp} {z : Option Value × sHp} (hr : sStC d k as h = some z) : sStC (d + 1) k as h = some z := by
  unfold sStC at hr ⊢
  split at hr
  · split at hr
    · rename_i hg
      rw [if_pos ⟨hg.1, by omega, hg.2.2⟩]
      exact hr
    · cases hr
  · split at hr
    · rename_i hg
      rw [if_pos ⟨hg.1, by omega, hg.2.2⟩]
      exact hr
    · cases hr
  · cases hr
theorem sM_lt {k : Nat} {q : sMt} (h : sM k = some q) : k < 300 := by
  have h1 := (List.getElem?_eq_some_iff.mp h).1
  have e : sMs.length = 259 := by decide +kernel
  omega
theorem sCall_dp : ∀ (d n : Nat), sUp (sCall d n) (sCall (d + 1) n) := by
  intro d
  induction d with
  | zero => intro n k as h z hr; cases hr
  | succ d ih =>
    intro n k as h z hr
    rw [sCall] at hr ⊢
    by_cases hk : 300 ≤ k
    · rw [if_pos hk] at hr ⊢
      exact sStC_up hr
    rw [if_neg hk] at hr ⊢
    obtain ⟨q, h1, h2⟩ := Option.bind_eq_some_iff.mp hr
    obtain ⟨L, h3, h4⟩ := Option.bind_eq_some_iff.mp h2
    exact Option.bind_eq_some_iff.mpr ⟨q, h1, Option.bind_eq_some_iff.mpr ⟨L, h3, sRun_up (ih n) n n (Nat.le_refl n) _ _ _ _ _ h4⟩⟩
def sFk (k pc : Nat) : Option Instr := (sM k).bind (fun q => sFt q pc)
def sNk (k : Nat) : Option Nat := (sM k).map mN
def sRk (k : Nat) : Option (Option FieldType) := (sM k).map mR
def sGo (X : sX) (k d pc : Nat) (L : sLo) (st : List Value) (h : sHp) (Q : Option Value → sHp → Prop) : Prop := ∃ (q : sMt) (nf n : Nat) (v : Option Value) (h' : sHp), sM k = some q ∧ sRun X (sFt q) (mR q) (sCal sNA sOwn sVt) (sCall d nf) n pc L st h = some (v, h') ∧ Q v h'
def sDo (d k : Nat) (as : List Value) (h : sHp) (Q : Option Value → sHp → Prop) : Prop := ∃ (nf : Nat) (r : Option Value) (h' : sHp), sCall d nf k as h = some (r, h') ∧ Q r h'
theorem sDo_up {d d' k : Nat} {as : List Value} {h : sHp} {Q : Option Value → sHp → Prop} (hd : d ≤ d') (g : sDo d k as h Q) : sDo d' k as h Q := by
  obtain ⟨nf, r, h', h1, h2⟩ := g
  refine ⟨nf, r, h', ?_, h2⟩
  obtain ⟨j, rfl⟩ : ∃ j, d' = d + j := ⟨d' - d, by omega⟩
  clear hd
  induction j with
  | zero => exact h1
  | succ j ih => exact sCall_dp _ _ _ _ _ _ ih
theorem sDo_mono {d k : Nat} {as : List Value} {h : sHp} {Q Q' : Option Value → sHp → Prop} (g : sDo d k as h Q) (hq : ∀ r h', Q r h' → Q' r h') : sDo d k as h Q' := by
  obtain ⟨nf, r, h', h1, h2⟩ := g
  exact ⟨nf, r, h', h1, hq r h' h2⟩
theorem sGo_mono {X : sX} {k d pc : Nat} {L : sLo} {st : List Value} {h : sHp} {Q Q' : Option Value → sHp → Prop} (g : sGo X k d pc L st h Q) (hq : ∀ r h', Q r h' → Q' r h') : sGo X k d pc L st h Q' := by
  obtain ⟨q, nf, n, v, h', h1, h2, h3⟩ := g
  exact ⟨q, nf, n, v, h', h1, h2, hq v h' h3⟩
theorem sDo_of {d k nL : Nat} {as : List Value} {h : sHp} {Q : Option Value → sHp → Prop} {L : sLo} (hn : sNk k = some nL) (hi : sIni nL as = some L) (g : sGo none k d 0 L [] h Q) : sDo (d + 1) k as h Q := by
  obtain ⟨q, nf, n, v, h', hq, hr, hQ⟩ := g
  refine ⟨nf + n, v, h', ?_, hQ⟩
  have hlt := sM_lt hq
  rw [sCall, if_neg (by omega)]
  have hnq : mN q = nL := by
    unfold sNk at hn
    rw [hq] at hn
    exact Option.some.inj hn
  refine Option.bind_eq_some_iff.mpr ⟨q, hq, Option.bind_eq_some_iff.mpr ⟨L, by rw [hnq]; exact hi, ?_⟩⟩
  exact sRun_up (sCall_up d nf (nf + n) (by omega)) n (nf + n) (by omega) _ _ _ _ _ hr
section GO
variable {X : sX} {k d pc : Nat} {L : sLo} {st : List Value} {h : sHp} {Q : Option Value → sHp → Prop} {ins : Instr}
theorem sFk_at {q : sMt} (hq : sM k = some q) (hF : sFk k pc = some ins) : sFt q pc = some ins := by
  unfold sFk at hF
  rw [hq] at hF
  exact hF
theorem go_pure {st1 : List Value} (hF : sFk k pc = some ins) (hk : sKnd ins = 0) (h1 : sPure ins st = some st1) (g : sGo X k d (pc + sLen ins) L st1 h Q) : sGo X k d pc L st h Q := by
  obtain ⟨q, nf, n, v, h', hq, hr, hQ⟩ := g
  refine ⟨q, nf, n + 1, v, h', hq, ?_, hQ⟩
  rw [sRun, sFk_at hq hF]
  dsimp only
  rw [hk]
  exact Option.bind_eq_some_iff.mpr ⟨st1, h1, hr⟩
theorem go_loc {L1 : sLo} {st1 : List Value} (hF : sFk k pc = some ins) (hk : sKnd ins = 1) (h1 : sLoc ins L st = some (L1, st1)) (g : sGo X k d (pc + sLen ins) L1 st1 h Q) : sGo X k d pc L st h Q := by
  obtain ⟨q, nf, n, v, h', hq, hr, hQ⟩ := g
  refine ⟨q, nf, n + 1, v, h', hq, ?_, hQ⟩
  rw [sRun, sFk_at hq hF]
  dsimp only
  rw [hk]
  exact Option.bind_eq_some_iff.mpr ⟨(L1, st1), h1, hr⟩
theorem go_heap {st1 : List Value} {h1 : sHp} (hF : sFk k pc = some ins) (hk : sKnd ins = 2) (hs : sScr X ins st = none) (hh : sHeap ins st h = some (st1, h1)) (g : sGo X k d (pc + sLen ins) L st1 h1 Q) : sGo X k d pc L st h Q := by
  obtain ⟨q, nf, n, v, h', hq, hr, hQ⟩ := g
  refine ⟨q, nf, n + 1, v, h', hq, ?_, hQ⟩
  rw [sRun, sFk_at hq hF]
  dsimp only
  rw [hk]
  try dsimp only
  rw [hs]
  exact Option.bind_eq_some_iff.mpr ⟨(st1, h1), hh, hr⟩
theorem go_scr {st1 : List Value} (hF : sFk k pc = some ins) (hk : sKnd ins = 2) (hs : sScr X ins st = some st1) (g : sGo X k d (pc + sLen ins) L st1 h Q) : sGo X k d pc L st h Q := by
  obtain ⟨q, nf, n, v, h', hq, hr, hQ⟩ := g
  refine ⟨q, nf, n + 1, v, h', hq, ?_, hQ⟩
  rw [sRun, sFk_at hq hF]
  dsimp only
  rw [hk]
  try dsimp only
  rw [hs]
  exact hr
theorem go_jmp {pc1 : Nat} {st1 : List Value} (hF : sFk k pc = some ins) (hk : sKnd ins = 3) (hj : sJmp ins pc st = some (pc1, st1)) (g : sGo X k d pc1 L st1 h Q) : sGo X k d pc L st h Q := by
  obtain ⟨q, nf, n, v, h', hq, hr, hQ⟩ := g
  refine ⟨q, nf, n + 1, v, h', hq, ?_, hQ⟩
  rw [sRun, sFk_at hq hF]
  dsimp only
  rw [hk]
  exact Option.bind_eq_some_iff.mpr ⟨(pc1, st1), hj, hr⟩
theorem go_ret {v : Option Value} {rt : Option FieldType} (hF : sFk k pc = some ins) (hk : sKnd ins = 4) (hrk : sRk k = some rt) (h1 : sRet rt ins st = some v) (hQ : Q v h) : sGo X k d pc L st h Q := by
  unfold sRk at hrk
  cases hq : sM k with
  | none => rw [hq] at hrk; cases hrk
  | some q =>
    rw [hq] at hrk
    have e : mR q = rt := Option.some.inj hrk
    refine ⟨q, 0, 1, v, h, hq, ?_, hQ⟩
    rw [sRun, sFk_at hq hF]
    dsimp only
    rw [hk, e]
    try dsimp only
    rw [h1]
    rfl
theorem go_spec {st1 : List Value} (hF : sFk k pc = some ins) (hk : sKnd ins = 6) (hcat : (st.map (fun v => v.category)).sum ≤ 10) (h1 : sSpec ins st = some st1) (g : sGo X k d (pc + 3) L st1 h Q) : sGo X k d pc L st h Q := by
  obtain ⟨q, nf, n, v, h', hq, hr, hQ⟩ := g
  refine ⟨q, nf, n + 1, v, h', hq, ?_, hQ⟩
  rw [sRun, sFk_at hq hF]
  dsimp only
  rw [hk]
  try dsimp only
  rw [if_pos hcat]
  exact Option.bind_eq_some_iff.mpr ⟨st1, h1, hr⟩
theorem go_call {k1 : Nat} {as rest : List Value} {Qc : Option Value → sHp → Prop} (hF : sFk k pc = some ins) (hk : sKnd ins = 5) (hc : sCal sNA sOwn sVt ins st h = some (k1, as, rest)) (hcat : (rest.map (fun v => v.category)).sum ≤ 8) (hD : sDo d k1 as h Qc) (g : ∀ (r : Option Value) (h1 : sHp), Qc r h1 → sGo X k d (pc + 3) L (r.toList ++ rest) h1 Q) : sGo X k d pc L st h Q := by
  obtain ⟨nc, r, h1, e1, hQc⟩ := hD
  obtain ⟨q, nf, n, v, h', hq, hr, hQ⟩ := g r h1 hQc
  refine ⟨q, nf + nc, n + 1, v, h', hq, ?_, hQ⟩
  rw [sRun, sFk_at hq hF]
  dsimp only
  rw [hk]
  refine Option.bind_eq_some_iff.mpr ⟨(k1, as, rest), hc, ?_⟩
  rw [if_pos hcat]
  refine Option.bind_eq_some_iff.mpr ⟨(r, h1), sCall_up d nc (nf + nc) (by omega) _ _ _ _ e1, ?_⟩
  exact sRun_up (sCall_up d nf (nf + nc) (by omega)) n n (Nat.le_refl n) _ _ _ _ _ hr

theorem g_iconst {n : Int} (hF : sFk k pc = some (.iconst n)) (g : sGo X k d (pc + 1) L (.int (Int32.ofInt n) :: st) h Q) : sGo X k d pc L (st) h Q := go_pure hF rfl rfl g
theorem g_bipush {n : Int} (hF : sFk k pc = some (.bipush n)) (g : sGo X k d (pc + 2) L (.int (Int8.ofInt n).toInt32 :: st) h Q) : sGo X k d pc L (st) h Q := go_pure hF rfl rfl g
theorem g_sipush {n : Int} (hF : sFk k pc = some (.sipush n)) (g : sGo X k d (pc + 3) L (.int (Int16.ofInt n).toInt32 :: st) h Q) : sGo X k d pc L (st) h Q := go_pure hF rfl rfl g
theorem g_lconst {n : Fin 2} (hF : sFk k pc = some (.lconst n)) (g : sGo X k d (pc + 1) L (.long (Int64.ofNat (n : Nat)) :: st) h Q) : sGo X k d pc L (st) h Q := go_pure hF rfl rfl g
theorem g_aconst_null (hF : sFk k pc = some (.aconst_null)) (g : sGo X k d (pc + 1) L (.null :: st) h Q) : sGo X k d pc L (st) h Q := go_pure hF rfl rfl g
theorem g_iadd {x y : Int32} (hF : sFk k pc = some (.iadd)) (g : sGo X k d (pc + 1) L (.int (x + y) :: st) h Q) : sGo X k d pc L (.int y :: .int x :: st) h Q := go_pure hF rfl rfl g
theorem g_isub {x y : Int32} (hF : sFk k pc = some (.isub)) (g : sGo X k d (pc + 1) L (.int (x - y) :: st) h Q) : sGo X k d pc L (.int y :: .int x :: st) h Q := go_pure hF rfl rfl g
theorem g_imul {x y : Int32} (hF : sFk k pc = some (.imul)) (g : sGo X k d (pc + 1) L (.int (x * y) :: st) h Q) : sGo X k d pc L (.int y :: .int x :: st) h Q := go_pure hF rfl rfl g
theorem g_iand {x y : Int32} (hF : sFk k pc = some (.iand)) (g : sGo X k d (pc + 1) L (.int (x &&& y) :: st) h Q) : sGo X k d pc L (.int y :: .int x :: st) h Q := go_pure hF rfl rfl g
theorem g_ior {x y : Int32} (hF : sFk k pc = some (.ior)) (g : sGo X k d (pc + 1) L (.int (x ||| y) :: st) h Q) : sGo X k d pc L (.int y :: .int x :: st) h Q := go_pure hF rfl rfl g
theorem g_ixor {x y : Int32} (hF : sFk k pc = some (.ixor)) (g : sGo X k d (pc + 1) L (.int (x ^^^ y) :: st) h Q) : sGo X k d pc L (.int y :: .int x :: st) h Q := go_pure hF rfl rfl g
theorem g_ishl {x y : Int32} (hF : sFk k pc = some (.ishl)) (g : sGo X k d (pc + 1) L (.int (x <<< (y &&& 31)) :: st) h Q) : sGo X k d pc L (.int y :: .int x :: st) h Q := go_pure hF rfl rfl g
theorem g_ishr {x y : Int32} (hF : sFk k pc = some (.ishr)) (g : sGo X k d (pc + 1) L (.int (x >>> (y &&& 31)) :: st) h Q) : sGo X k d pc L (.int y :: .int x :: st) h Q := go_pure hF rfl rfl g
theorem g_idiv {x y : Int32} (hF : sFk k pc = some (.idiv)) (h0 : ¬ y = 0) (g : sGo X k d (pc + 1) L (.int (x / y) :: st) h Q) : sGo X k d pc L (.int y :: .int x :: st) h Q := go_pure hF rfl (show (if y = 0 then none else some (Value.int (x / y))).map (fun v => v :: st) = _ by rw [if_neg h0]; rfl) g
theorem g_irem {x y : Int32} (hF : sFk k pc = some (.irem)) (h0 : ¬ y = 0) (g : sGo X k d (pc + 1) L (.int (x - x / y * y) :: st) h Q) : sGo X k d pc L (.int y :: .int x :: st) h Q := go_pure hF rfl (show (if y = 0 then none else some (Value.int (x - x / y * y))).map (fun v => v :: st) = _ by rw [if_neg h0]; rfl) g
theorem g_ladd {x y : Int64} (hF : sFk k pc = some (.ladd)) (g : sGo X k d (pc + 1) L (.long (x + y) :: st) h Q) : sGo X k d pc L (.long y :: .long x :: st) h Q := go_pure hF rfl rfl g
theorem g_lsub {x y : Int64} (hF : sFk k pc = some (.lsub)) (g : sGo X k d (pc + 1) L (.long (x - y) :: st) h Q) : sGo X k d pc L (.long y :: .long x :: st) h Q := go_pure hF rfl rfl g
theorem g_land {x y : Int64} (hF : sFk k pc = some (.land)) (g : sGo X k d (pc + 1) L (.long (x &&& y) :: st) h Q) : sGo X k d pc L (.long y :: .long x :: st) h Q := go_pure hF rfl rfl g
theorem g_lor {x y : Int64} (hF : sFk k pc = some (.lor)) (g : sGo X k d (pc + 1) L (.long (x ||| y) :: st) h Q) : sGo X k d pc L (.long y :: .long x :: st) h Q := go_pure hF rfl rfl g
theorem g_lxor {x y : Int64} (hF : sFk k pc = some (.lxor)) (g : sGo X k d (pc + 1) L (.long (x ^^^ y) :: st) h Q) : sGo X k d pc L (.long y :: .long x :: st) h Q := go_pure hF rfl rfl g
theorem g_lcmp {x y : Int64} (hF : sFk k pc = some (.lcmp)) (g : sGo X k d (pc + 1) L (.int (lg_cmp x y) :: st) h Q) : sGo X k d pc L (.long y :: .long x :: st) h Q := go_pure hF rfl rfl g
theorem g_lshl {x : Int64} {y : Int32} (hF : sFk k pc = some (.lshl)) (g : sGo X k d (pc + 1) L (.long (x <<< (y.toInt64 &&& 63)) :: st) h Q) : sGo X k d pc L (.int y :: .long x :: st) h Q := go_pure hF rfl rfl g
theorem g_lshr {x : Int64} {y : Int32} (hF : sFk k pc = some (.lshr)) (g : sGo X k d (pc + 1) L (.long (x >>> (y.toInt64 &&& 63)) :: st) h Q) : sGo X k d pc L (.int y :: .long x :: st) h Q := go_pure hF rfl rfl g
theorem g_lushr {x : Int64} {y : Int32} (hF : sFk k pc = some (.lushr)) (g : sGo X k d (pc + 1) L (.long ((x.toUInt64 >>> (y.toInt64.toUInt64 &&& Int64.toUInt64 63)).toInt64) :: st) h Q) : sGo X k d pc L (.int y :: .long x :: st) h Q := go_pure hF rfl rfl g
theorem g_ineg {x : Int32} (hF : sFk k pc = some (.ineg)) (g : sGo X k d (pc + 1) L (.int (-x) :: st) h Q) : sGo X k d pc L (.int x :: st) h Q := go_pure hF rfl rfl g
theorem g_lneg {x : Int64} (hF : sFk k pc = some (.lneg)) (g : sGo X k d (pc + 1) L (.long (-x) :: st) h Q) : sGo X k d pc L (.long x :: st) h Q := go_pure hF rfl rfl g
theorem g_i2l {x : Int32} (hF : sFk k pc = some (.i2l)) (g : sGo X k d (pc + 1) L (.long x.toInt64 :: st) h Q) : sGo X k d pc L (.int x :: st) h Q := go_pure hF rfl rfl g
theorem g_l2i {x : Int64} (hF : sFk k pc = some (.l2i)) (g : sGo X k d (pc + 1) L (.int x.toInt32 :: st) h Q) : sGo X k d pc L (.long x :: st) h Q := go_pure hF rfl rfl g
theorem g_i2b {x : Int32} (hF : sFk k pc = some (.i2b)) (g : sGo X k d (pc + 1) L (.int x.toInt8.toInt32 :: st) h Q) : sGo X k d pc L (.int x :: st) h Q := go_pure hF rfl rfl g
theorem g_i2s {x : Int32} (hF : sFk k pc = some (.i2s)) (g : sGo X k d (pc + 1) L (.int x.toInt16.toInt32 :: st) h Q) : sGo X k d pc L (.int x :: st) h Q := go_pure hF rfl rfl g
theorem g_i2c {x : Int32} (hF : sFk k pc = some (.i2c)) (g : sGo X k d (pc + 1) L (.int (x.toUInt32 % 65536).toInt32 :: st) h Q) : sGo X k d pc L (.int x :: st) h Q := go_pure hF rfl rfl g
theorem g_dup {a : Value} (hF : sFk k pc = some (.dup)) (ha : a.category = 1) (g : sGo X k d (pc + 1) L (a :: a :: st) h Q) : sGo X k d pc L (a :: st) h Q := go_pure hF rfl (if_pos ha) g
theorem g_pop {a : Value} (hF : sFk k pc = some (.pop)) (ha : a.category = 1) (g : sGo X k d (pc + 1) L (st) h Q) : sGo X k d pc L (a :: st) h Q := go_pure hF rfl (if_pos ha) g
theorem g_dup_x1 {a b : Value} (hF : sFk k pc = some (.dup_x1)) (ha : a.category = 1) (hb : b.category = 1) (g : sGo X k d (pc + 1) L (a :: b :: a :: st) h Q) : sGo X k d pc L (a :: b :: st) h Q := go_pure hF rfl (if_pos ⟨ha, hb⟩) g
theorem g_dup2 {a b : Value} (hF : sFk k pc = some (.dup2)) (ha : a.category = 1) (hb : b.category = 1) (g : sGo X k d (pc + 1) L (a :: b :: a :: b :: st) h Q) : sGo X k d pc L (a :: b :: st) h Q := go_pure hF rfl (if_pos ⟨ha, hb⟩) g
theorem g_iload {i : Nat} {x : Int32} (hF : sFk k pc = some (.iload i)) (hl : L[i]? = some (some (.int x))) (g : sGo X k d (pc + 2) (L) (.int x :: st) h Q) : sGo X k d pc L (st) h Q := go_loc hF rfl (show sLdI L i st = _ by unfold sLdI; rw [hl]) g
theorem g_iload_n {i : Fin 4} {x : Int32} (hF : sFk k pc = some (.iload_n i)) (hl : L[(i : Nat)]? = some (some (.int x))) (g : sGo X k d (pc + 1) (L) (.int x :: st) h Q) : sGo X k d pc L (st) h Q := go_loc hF rfl (show sLdI L (i : Nat) st = _ by unfold sLdI; rw [hl]) g
theorem g_lload {i : Nat} {x : Int64} (hF : sFk k pc = some (.lload i)) (hl : L[i]? = some (some (.long x))) (g : sGo X k d (pc + 2) (L) (.long x :: st) h Q) : sGo X k d pc L (st) h Q := go_loc hF rfl (show sLdL L i st = _ by unfold sLdL; rw [hl]) g
theorem g_lload_n {i : Fin 4} {x : Int64} (hF : sFk k pc = some (.lload_n i)) (hl : L[(i : Nat)]? = some (some (.long x))) (g : sGo X k d (pc + 1) (L) (.long x :: st) h Q) : sGo X k d pc L (st) h Q := go_loc hF rfl (show sLdL L (i : Nat) st = _ by unfold sLdL; rw [hl]) g
theorem g_aload {i : Nat} {x : Nat} (hF : sFk k pc = some (.aload i)) (hl : L[i]? = some (some (.ref x))) (g : sGo X k d (pc + 2) (L) (.ref x :: st) h Q) : sGo X k d pc L (st) h Q := go_loc hF rfl (show sLdA L i st = _ by unfold sLdA; rw [hl]) g
theorem g_aloadN {i : Nat} (hF : sFk k pc = some (.aload i)) (hl : L[i]? = some (some .null)) (g : sGo X k d (pc + 2) (L) (.null :: st) h Q) : sGo X k d pc L (st) h Q := go_loc hF rfl (show sLdA L i st = _ by unfold sLdA; rw [hl]) g
theorem g_aload_n {i : Fin 4} {x : Nat} (hF : sFk k pc = some (.aload_n i)) (hl : L[(i : Nat)]? = some (some (.ref x))) (g : sGo X k d (pc + 1) (L) (.ref x :: st) h Q) : sGo X k d pc L (st) h Q := go_loc hF rfl (show sLdA L (i : Nat) st = _ by unfold sLdA; rw [hl]) g
theorem g_aload_nN {i : Fin 4} (hF : sFk k pc = some (.aload_n i)) (hl : L[(i : Nat)]? = some (some .null)) (g : sGo X k d (pc + 1) (L) (.null :: st) h Q) : sGo X k d pc L (st) h Q := go_loc hF rfl (show sLdA L (i : Nat) st = _ by unfold sLdA; rw [hl]) g
theorem g_istore {i : Nat} {x : Int32} {L1 : sLo} (hF : sFk k pc = some (.istore i)) (hi : i < L.length) (hL : sPut L i (.int x) = L1) (g : sGo X k d (pc + 2) (L1) (st) h Q) : sGo X k d pc L (.int x :: st) h Q := go_loc hF rfl (show sStI L i (.int x :: st) = _ by unfold sStI; dsimp only; rw [if_pos hi, hL]) g
theorem g_istore_n {i : Fin 4} {x : Int32} {L1 : sLo} (hF : sFk k pc = some (.istore_n i)) (hi : (i : Nat) < L.length) (hL : sPut L (i : Nat) (.int x) = L1) (g : sGo X k d (pc + 1) (L1) (st) h Q) : sGo X k d pc L (.int x :: st) h Q := go_loc hF rfl (show sStI L (i : Nat) (.int x :: st) = _ by unfold sStI; dsimp only; rw [if_pos hi, hL]) g
theorem g_lstore {i : Nat} {x : Int64} {L1 : sLo} (hF : sFk k pc = some (.lstore i)) (hi : i + 1 < L.length) (hL : sPutL L i (.long x) = L1) (g : sGo X k d (pc + 2) (L1) (st) h Q) : sGo X k d pc L (.long x :: st) h Q := go_loc hF rfl (show sStL L i (.long x :: st) = _ by unfold sStL; dsimp only; rw [if_pos hi, hL]) g
theorem g_lstore_n {i : Fin 4} {x : Int64} {L1 : sLo} (hF : sFk k pc = some (.lstore_n i)) (hi : (i : Nat) + 1 < L.length) (hL : sPutL L (i : Nat) (.long x) = L1) (g : sGo X k d (pc + 1) (L1) (st) h Q) : sGo X k d pc L (.long x :: st) h Q := go_loc hF rfl (show sStL L (i : Nat) (.long x :: st) = _ by unfold sStL; dsimp only; rw [if_pos hi, hL]) g
theorem g_astore {i : Nat} {x : Nat} {L1 : sLo} (hF : sFk k pc = some (.astore i)) (hi : i < L.length) (hL : sPut L i (.ref x) = L1) (g : sGo X k d (pc + 2) (L1) (st) h Q) : sGo X k d pc L (.ref x :: st) h Q := go_loc hF rfl (show sStA L i (.ref x :: st) = _ by unfold sStA; dsimp only; rw [if_pos hi, hL]) g
theorem g_astoreN {i : Nat} {L1 : sLo} (hF : sFk k pc = some (.astore i)) (hi : i < L.length) (hL : sPut L i .null = L1) (g : sGo X k d (pc + 2) (L1) (st) h Q) : sGo X k d pc L (.null :: st) h Q := go_loc hF rfl (show sStA L i (.null :: st) = _ by unfold sStA; dsimp only; rw [if_pos hi, hL]) g
theorem g_astore_n {i : Fin 4} {x : Nat} {L1 : sLo} (hF : sFk k pc = some (.astore_n i)) (hi : (i : Nat) < L.length) (hL : sPut L (i : Nat) (.ref x) = L1) (g : sGo X k d (pc + 1) (L1) (st) h Q) : sGo X k d pc L (.ref x :: st) h Q := go_loc hF rfl (show sStA L (i : Nat) (.ref x :: st) = _ by unfold sStA; dsimp only; rw [if_pos hi, hL]) g
theorem g_astore_nN {i : Fin 4} {L1 : sLo} (hF : sFk k pc = some (.astore_n i)) (hi : (i : Nat) < L.length) (hL : sPut L (i : Nat) .null = L1) (g : sGo X k d (pc + 1) (L1) (st) h Q) : sGo X k d pc L (.null :: st) h Q := go_loc hF rfl (show sStA L (i : Nat) (.null :: st) = _ by unfold sStA; dsimp only; rw [if_pos hi, hL]) g
theorem g_iinc {i : Nat} {n : Int} {x : Int32} {L1 : sLo} (hF : sFk k pc = some (.iinc i n)) (hl : L[i]? = some (some (.int x))) (hL : sPut L i (.int (x + Int32.ofInt n)) = L1) (g : sGo X k d (pc + 3) (L1) (st) h Q) : sGo X k d pc L (st) h Q := go_loc hF rfl (show sInc L i n st = _ by unfold sInc; rw [hl]; dsimp only; rw [hL]) g
theorem g_icmp_eq {x y : Int32} {off : Int} (t : Nat) (hF : sFk k pc = some (.if_icmp .eq off)) (ht : sTgt pc off = some t) (kt : x = y → sGo X k d t L st h Q) (kf : ¬ x = y → sGo X k d (pc + 3) L st h Q) : sGo X k d pc L (.int y :: .int x :: st) h Q := by
  by_cases hc : x = y
  · exact go_jmp hF rfl (by show sIf pc off (sC2 .eq x y) st = _; unfold sIf; rw [ht, show sC2 .eq x y = true from decide_eq_true hc]; rfl) (kt hc)
  · exact go_jmp hF rfl (by show sIf pc off (sC2 .eq x y) st = _; unfold sIf; rw [ht, show sC2 .eq x y = false from decide_eq_false hc]; rfl) (kf hc)
theorem g_if_eq {x : Int32} {off : Int} (t : Nat) (hF : sFk k pc = some (.ifCond .eq off)) (ht : sTgt pc off = some t) (kt : x = 0 → sGo X k d t L st h Q) (kf : ¬ x = 0 → sGo X k d (pc + 3) L st h Q) : sGo X k d pc L (.int x :: st) h Q := by
  by_cases hc : x = 0
  · exact go_jmp hF rfl (by show sIf pc off (sC2 .eq x 0) st = _; unfold sIf; rw [ht, show sC2 .eq x 0 = true from decide_eq_true hc]; rfl) (kt hc)
  · exact go_jmp hF rfl (by show sIf pc off (sC2 .eq x 0) st = _; unfold sIf; rw [ht, show sC2 .eq x 0 = false from decide_eq_false hc]; rfl) (kf hc)
theorem g_icmp_ne {x y : Int32} {off : Int} (t : Nat) (hF : sFk k pc = some (.if_icmp .ne off)) (ht : sTgt pc off = some t) (kt : ¬ x = y → sGo X k d t L st h Q) (kf : x = y → sGo X k d (pc + 3) L st h Q) : sGo X k d pc L (.int y :: .int x :: st) h Q := by
  by_cases hc : x = y
  · exact go_jmp hF rfl (by show sIf pc off (sC2 .ne x y) st = _; unfold sIf; rw [ht, show sC2 .ne x y = false from by show (!decide (x = y)) = false; rw [decide_eq_true hc]; rfl]; rfl) (kf hc)
  · exact go_jmp hF rfl (by show sIf pc off (sC2 .ne x y) st = _; unfold sIf; rw [ht, show sC2 .ne x y = true from by show (!decide (x = y)) = true; rw [decide_eq_false hc]; rfl]; rfl) (kt hc)
theorem g_if_ne {x : Int32} {off : Int} (t : Nat) (hF : sFk k pc = some (.ifCond .ne off)) (ht : sTgt pc off = some t) (kt : ¬ x = 0 → sGo X k d t L st h Q) (kf : x = 0 → sGo X k d (pc + 3) L st h Q) : sGo X k d pc L (.int x :: st) h Q := by
  by_cases hc : x = 0
  · exact go_jmp hF rfl (by show sIf pc off (sC2 .ne x 0) st = _; unfold sIf; rw [ht, show sC2 .ne x 0 = false from by show (!decide (x = 0)) = false; rw [decide_eq_true hc]; rfl]; rfl) (kf hc)
  · exact go_jmp hF rfl (by show sIf pc off (sC2 .ne x 0) st = _; unfold sIf; rw [ht, show sC2 .ne x 0 = true from by show (!decide (x = 0)) = true; rw [decide_eq_false hc]; rfl]; rfl) (kt hc)
theorem g_icmp_lt {x y : Int32} {off : Int} (t : Nat) (hF : sFk k pc = some (.if_icmp .lt off)) (ht : sTgt pc off = some t) (kt : x < y → sGo X k d t L st h Q) (kf : ¬ x < y → sGo X k d (pc + 3) L st h Q) : sGo X k d pc L (.int y :: .int x :: st) h Q := by
  by_cases hc : x < y
  · exact go_jmp hF rfl (by show sIf pc off (sC2 .lt x y) st = _; unfold sIf; rw [ht, show sC2 .lt x y = true from decide_eq_true hc]; rfl) (kt hc)
  · exact go_jmp hF rfl (by show sIf pc off (sC2 .lt x y) st = _; unfold sIf; rw [ht, show sC2 .lt x y = false from decide_eq_false hc]; rfl) (kf hc)
theorem g_if_lt {x : Int32} {off : Int} (t : Nat) (hF : sFk k pc = some (.ifCond .lt off)) (ht : sTgt pc off = some t) (kt : x < 0 → sGo X k d t L st h Q) (kf : ¬ x < 0 → sGo X k d (pc + 3) L st h Q) : sGo X k d pc L (.int x :: st) h Q := by
  by_cases hc : x < 0
  · exact go_jmp hF rfl (by show sIf pc off (sC2 .lt x 0) st = _; unfold sIf; rw [ht, show sC2 .lt x 0 = true from decide_eq_true hc]; rfl) (kt hc)
  · exact go_jmp hF rfl (by show sIf pc off (sC2 .lt x 0) st = _; unfold sIf; rw [ht, show sC2 .lt x 0 = false from decide_eq_false hc]; rfl) (kf hc)
theorem g_icmp_ge {x y : Int32} {off : Int} (t : Nat) (hF : sFk k pc = some (.if_icmp .ge off)) (ht : sTgt pc off = some t) (kt : y ≤ x → sGo X k d t L st h Q) (kf : ¬ y ≤ x → sGo X k d (pc + 3) L st h Q) : sGo X k d pc L (.int y :: .int x :: st) h Q := by
  by_cases hc : y ≤ x
  · exact go_jmp hF rfl (by show sIf pc off (sC2 .ge x y) st = _; unfold sIf; rw [ht, show sC2 .ge x y = true from decide_eq_true hc]; rfl) (kt hc)
  · exact go_jmp hF rfl (by show sIf pc off (sC2 .ge x y) st = _; unfold sIf; rw [ht, show sC2 .ge x y = false from decide_eq_false hc]; rfl) (kf hc)
theorem g_if_ge {x : Int32} {off : Int} (t : Nat) (hF : sFk k pc = some (.ifCond .ge off)) (ht : sTgt pc off = some t) (kt : 0 ≤ x → sGo X k d t L st h Q) (kf : ¬ 0 ≤ x → sGo X k d (pc + 3) L st h Q) : sGo X k d pc L (.int x :: st) h Q := by
  by_cases hc : 0 ≤ x
  · exact go_jmp hF rfl (by show sIf pc off (sC2 .ge x 0) st = _; unfold sIf; rw [ht, show sC2 .ge x 0 = true from decide_eq_true hc]; rfl) (kt hc)
  · exact go_jmp hF rfl (by show sIf pc off (sC2 .ge x 0) st = _; unfold sIf; rw [ht, show sC2 .ge x 0 = false from decide_eq_false hc]; rfl) (kf hc)
theorem g_icmp_gt {x y : Int32} {off : Int} (t : Nat) (hF : sFk k pc = some (.if_icmp .gt off)) (ht : sTgt pc off = some t) (kt : y < x → sGo X k d t L st h Q) (kf : ¬ y < x → sGo X k d (pc + 3) L st h Q) : sGo X k d pc L (.int y :: .int x :: st) h Q := by
  by_cases hc : y < x
  · exact go_jmp hF rfl (by show sIf pc off (sC2 .gt x y) st = _; unfold sIf; rw [ht, show sC2 .gt x y = true from decide_eq_true hc]; rfl) (kt hc)
  · exact go_jmp hF rfl (by show sIf pc off (sC2 .gt x y) st = _; unfold sIf; rw [ht, show sC2 .gt x y = false from decide_eq_false hc]; rfl) (kf hc)
theorem g_if_gt {x : Int32} {off : Int} (t : Nat) (hF : sFk k pc = some (.ifCond .gt off)) (ht : sTgt pc off = some t) (kt : 0 < x → sGo X k d t L st h Q) (kf : ¬ 0 < x → sGo X k d (pc + 3) L st h Q) : sGo X k d pc L (.int x :: st) h Q := by
  by_cases hc : 0 < x
  · exact go_jmp hF rfl (by show sIf pc off (sC2 .gt x 0) st = _; unfold sIf; rw [ht, show sC2 .gt x 0 = true from decide_eq_true hc]; rfl) (kt hc)
  · exact go_jmp hF rfl (by show sIf pc off (sC2 .gt x 0) st = _; unfold sIf; rw [ht, show sC2 .gt x 0 = false from decide_eq_false hc]; rfl) (kf hc)
theorem g_icmp_le {x y : Int32} {off : Int} (t : Nat) (hF : sFk k pc = some (.if_icmp .le off)) (ht : sTgt pc off = some t) (kt : x ≤ y → sGo X k d t L st h Q) (kf : ¬ x ≤ y → sGo X k d (pc + 3) L st h Q) : sGo X k d pc L (.int y :: .int x :: st) h Q := by
  by_cases hc : x ≤ y
  · exact go_jmp hF rfl (by show sIf pc off (sC2 .le x y) st = _; unfold sIf; rw [ht, show sC2 .le x y = true from decide_eq_true hc]; rfl) (kt hc)
  · exact go_jmp hF rfl (by show sIf pc off (sC2 .le x y) st = _; unfold sIf; rw [ht, show sC2 .le x y = false from decide_eq_false hc]; rfl) (kf hc)
theorem g_if_le {x : Int32} {off : Int} (t : Nat) (hF : sFk k pc = some (.ifCond .le off)) (ht : sTgt pc off = some t) (kt : x ≤ 0 → sGo X k d t L st h Q) (kf : ¬ x ≤ 0 → sGo X k d (pc + 3) L st h Q) : sGo X k d pc L (.int x :: st) h Q := by
  by_cases hc : x ≤ 0
  · exact go_jmp hF rfl (by show sIf pc off (sC2 .le x 0) st = _; unfold sIf; rw [ht, show sC2 .le x 0 = true from decide_eq_true hc]; rfl) (kt hc)
  · exact go_jmp hF rfl (by show sIf pc off (sC2 .le x 0) st = _; unfold sIf; rw [ht, show sC2 .le x 0 = false from decide_eq_false hc]; rfl) (kf hc)
theorem g_goto {off : Int} (t : Nat) (hF : sFk k pc = some (.goto off)) (ht : sTgt pc off = some t) (g : sGo X k d t L st h Q) : sGo X k d pc L st h Q := go_jmp hF rfl (by show (sTgt pc off).map _ = _; rw [ht]; rfl) g
theorem g_ifnull {off : Int} {a : Nat} (t : Nat) (hF : sFk k pc = some (.ifnull off)) (ht : sTgt pc off = some t) (g : sGo X k d (pc + 3) L st h Q) : sGo X k d pc L (.ref a :: st) h Q := go_jmp hF rfl (by show sIf pc off false st = _; unfold sIf; rw [ht]; rfl) g
theorem g_ifnullN {off : Int} (t : Nat) (hF : sFk k pc = some (.ifnull off)) (ht : sTgt pc off = some t) (g : sGo X k d t L st h Q) : sGo X k d pc L (.null :: st) h Q := go_jmp hF rfl (by show sIf pc off true st = _; unfold sIf; rw [ht]; rfl) g
theorem g_getfield {j a ci : Nat} {fs : List Value} {v : Value} (hF : sFk k pc = some (.getfield j)) (ha : h[a]? = some (.inr (ci, fs))) (hg : sGrp ci = j / 64) (hv : fs[j % 64]? = some v) (g : sGo X k d (pc + 3) L (v :: st) h Q) : sGo X k d pc L (.ref a :: st) h Q := go_heap hF rfl (by cases X <;> rfl) (by show sGetF j (.ref a :: st) h = _; unfold sGetF; dsimp only; rw [ha]; dsimp only; rw [if_pos hg, hv]) g
theorem g_putfield {j a ci : Nat} {fs : List Value} {v : Value} {h1 : sHp} (hF : sFk k pc = some (.putfield j)) (ha : h[a]? = some (.inr (ci, fs))) (hg : sGrp ci = j / 64) (hl : j % 64 < fs.length) (hv : sFit (sTy ci (j % 64)) v = true) (he : h.set a (.inr (ci, fs.set (j % 64) v)) = h1) (g : sGo X k d (pc + 3) L st h1 Q) : sGo X k d pc L (v :: .ref a :: st) h Q := go_heap hF rfl (by cases X <;> rfl) (by show sPutF j (v :: .ref a :: st) h = _; unfold sPutF; dsimp only; rw [ha]; dsimp only; rw [if_pos ⟨hg, hl, hv⟩, he]) g
theorem g_new {j : Nat} (hF : sFk k pc = some (.new j)) (hj : j < 13) (g : sGo X k d (pc + 3) L (.ref h.length :: st) (h ++ [.inr (j, sDef j)]) Q) : sGo X k d pc L st h Q := go_heap hF rfl (by cases X <;> rfl) (by show sNew j st h = _; unfold sNew; rw [if_pos hj]) g
theorem g_newarray_int {n : Int32} (hF : sFk k pc = some (.newarray .int)) (hn : ¬ (n < 0 ∨ 100000 < n.toNatClampNeg)) (g : sGo X k d (pc + 2) L (.ref h.length :: st) (h ++ [.inl (0, n.toNatClampNeg, .inl (fun _ => 0))]) Q) : sGo X k d pc L (.int n :: st) h Q := go_heap hF rfl (by cases X <;> rfl) (by show sNewA .int (.int n :: st) h = _; unfold sNewA; dsimp only; rw [if_neg hn]) g
theorem g_newarray_long {n : Int32} (hF : sFk k pc = some (.newarray .long)) (hn : ¬ (n < 0 ∨ 100000 < n.toNatClampNeg)) (g : sGo X k d (pc + 2) L (.ref h.length :: st) (h ++ [.inl (1, n.toNatClampNeg, .inr (.inl (fun _ => 0)))]) Q) : sGo X k d pc L (.int n :: st) h Q := go_heap hF rfl (by cases X <;> rfl) (by show sNewA .long (.int n :: st) h = _; unfold sNewA; dsimp only; rw [if_neg hn]) g
theorem g_newarray_bool {n : Int32} (hF : sFk k pc = some (.newarray .boolean)) (hn : ¬ (n < 0 ∨ 100000 < n.toNatClampNeg)) (g : sGo X k d (pc + 2) L (.ref h.length :: st) (h ++ [.inl (2, n.toNatClampNeg, .inl (fun _ => 0))]) Q) : sGo X k d pc L (.int n :: st) h Q := go_heap hF rfl (by cases X <;> rfl) (by show sNewA .boolean (.int n :: st) h = _; unfold sNewA; dsimp only; rw [if_neg hn]) g
theorem g_anewarray {j : Nat} {n : Int32} (hF : sFk k pc = some (.anewarray j)) (hn : ¬ (n < 0 ∨ 100000 < n.toNatClampNeg ∨ ¬ (j = 3 ∨ j = 4))) (g : sGo X k d (pc + 3) L (.ref h.length :: st) (h ++ [.inl (j, n.toNatClampNeg, .inr (.inr (.inr (.inr (fun _ => none)))))]) Q) : sGo X k d pc L (.int n :: st) h Q := go_heap hF rfl (by cases X <;> rfl) (by show sNewQ j (.int n :: st) h = _; unfold sNewQ; dsimp only; rw [if_neg hn]) g
theorem g_multianewarray {j j2 : Nat} (hF : sFk k pc = some (.multianewarray j j2)) (g : sGo X k d (pc + 4) L (.ref h.length :: st) (h ++ (.inl (5, 5, .inr (.inr (.inr (.inr (fun j => if j < 5 then some (h.length + 1 + j) else none))))) :: List.replicate 5 (.inl (0, 6, .inl (fun _ => 0))))) Q) : sGo X k d pc L (.int 6 :: .int 5 :: st) h Q := go_heap hF rfl (by cases X <;> rfl) (by show sNewM (.int 6 :: .int 5 :: st) h = _; unfold sNewM; dsimp only; rw [if_pos ⟨rfl, rfl⟩]) g
theorem g_ldc2_w {j : Nat} (hF : sFk k pc = some (.ldc2_w j)) (g : sGo X k d (pc + 3) L (.long (Int64.ofNat j) :: st) h Q) : sGo X k d pc L st h Q := go_heap hF rfl (by cases X <;> rfl) rfl g
theorem g_ldc {j : Nat} (hj : j < 4294967296) (hF : sFk k pc = some (.ldc j)) (g : sGo X k d (pc + 2) L (.int (Int32.ofNat j) :: st) h Q) : sGo X k d pc L st h Q := go_heap hF rfl (by cases X <;> rfl) (if_pos hj) g
theorem g_ldc_w {j : Nat} (hF : sFk k pc = some (.ldc_w j)) (g : sGo X k d (pc + 3) L (.int (Int32.ofNat j) :: st) h Q) : sGo X k d pc L st h Q := go_heap hF rfl (by cases X <;> rfl) rfl g
theorem g_iaload {a n : Nat} {i : Int32} {f : Nat → Int32} (hF : sFk k pc = some (.iaload)) (ha : h[a]? = some (.inl (0, n, .inl f))) (hi : ¬ (i < 0 ∨ n ≤ i.toNatClampNeg)) (g : sGo none k d (pc + 1) L (.int (f i.toNatClampNeg) :: st) h Q) : sGo none k d pc L (.int i :: .ref a :: st) h Q := go_heap hF rfl rfl (by show sLdAI 0 (.int i :: .ref a :: st) h = _; unfold sLdAI; dsimp only; rw [ha]; dsimp only; rw [if_pos ⟨rfl, hi⟩]) g
theorem g_baload {a n : Nat} {i : Int32} {f : Nat → Int32} (hF : sFk k pc = some (.baload)) (ha : h[a]? = some (.inl (2, n, .inl f))) (hi : ¬ (i < 0 ∨ n ≤ i.toNatClampNeg)) (g : sGo none k d (pc + 1) L (.int (f i.toNatClampNeg) :: st) h Q) : sGo none k d pc L (.int i :: .ref a :: st) h Q := go_heap hF rfl rfl (by show sLdAI 2 (.int i :: .ref a :: st) h = _; unfold sLdAI; dsimp only; rw [ha]; dsimp only; rw [if_pos ⟨rfl, hi⟩]) g
theorem g_laload {a n : Nat} {i : Int32} {f : Nat → Int64} (hF : sFk k pc = some (.laload)) (ha : h[a]? = some (.inl (1, n, .inr (.inl f)))) (hi : ¬ (i < 0 ∨ n ≤ i.toNatClampNeg)) (g : sGo none k d (pc + 1) L (.long (f i.toNatClampNeg) :: st) h Q) : sGo none k d pc L (.int i :: .ref a :: st) h Q := go_heap hF rfl rfl (by show sLdAL (.int i :: .ref a :: st) h = _; unfold sLdAL; dsimp only; rw [ha]; dsimp only; rw [if_pos ⟨rfl, hi⟩]) g
theorem g_aaload {a n t : Nat} {i : Int32} {f : Nat → Option Nat} (hF : sFk k pc = some .aaload) (ha : h[a]? = some (.inl (t, n, .inr (.inr (.inr (.inr f)))))) (ht : t = 3 ∨ t = 4 ∨ t = 5) (hi : ¬ (i < 0 ∨ n ≤ i.toNatClampNeg)) (g : sGo none k d (pc + 1) L (va_rf (f i.toNatClampNeg) :: st) h Q) : sGo none k d pc L (.int i :: .ref a :: st) h Q := go_heap hF rfl rfl (by show sLdAA (.int i :: .ref a :: st) h = _; unfold sLdAA; dsimp only; rw [ha]; dsimp only; rw [if_pos ⟨ht, hi⟩]) g
theorem g_iastore {a n : Nat} {i x : Int32} {f : Nat → Int32} {h1 : sHp} (hF : sFk k pc = some .iastore) (ha : h[a]? = some (.inl (0, n, .inl f))) (hi : ¬ (i < 0 ∨ n ≤ i.toNatClampNeg)) (he : h.set a (.inl (0, n, .inl (upd f i.toNatClampNeg x))) = h1) (g : sGo X k d (pc + 1) L st h1 Q) : sGo X k d pc L (.int x :: .int i :: .ref a :: st) h Q := go_heap hF rfl (by cases X <;> rfl) (by show sStAI (.int x :: .int i :: .ref a :: st) h = _; unfold sStAI; dsimp only; rw [ha]; dsimp only; rw [if_pos ⟨rfl, hi⟩, he]) g
theorem g_bastore {a n : Nat} {i x : Int32} {f : Nat → Int32} {h1 : sHp} (hF : sFk k pc = some .bastore) (ha : h[a]? = some (.inl (2, n, .inl f))) (hx : x = 0 ∨ x = 1) (hi : ¬ (i < 0 ∨ n ≤ i.toNatClampNeg)) (he : h.set a (.inl (2, n, .inl (upd f i.toNatClampNeg x))) = h1) (g : sGo X k d (pc + 1) L st h1 Q) : sGo X k d pc L (.int x :: .int i :: .ref a :: st) h Q := go_heap hF rfl (by cases X <;> rfl) (by show sStAZ (.int x :: .int i :: .ref a :: st) h = _; unfold sStAZ; dsimp only; rw [ha]; dsimp only; rw [if_pos ⟨rfl, hx, hi⟩, he]) g
theorem g_lastore {a n : Nat} {i : Int32} {x : Int64} {f : Nat → Int64} {h1 : sHp} (hF : sFk k pc = some .lastore) (ha : h[a]? = some (.inl (1, n, .inr (.inl f)))) (hi : ¬ (i < 0 ∨ n ≤ i.toNatClampNeg)) (he : h.set a (.inl (1, n, .inr (.inl (vp_updL f i.toNatClampNeg x)))) = h1) (g : sGo X k d (pc + 1) L st h1 Q) : sGo X k d pc L (.long x :: .int i :: .ref a :: st) h Q := go_heap hF rfl (by cases X <;> rfl) (by show sStAL (.long x :: .int i :: .ref a :: st) h = _; unfold sStAL; dsimp only; rw [ha]; dsimp only; rw [if_pos ⟨rfl, hi⟩, he]) g
theorem g_aastore {a n t q : Nat} {i : Int32} {f : Nat → Option Nat} {h1 : sHp} (hF : sFk k pc = some .aastore) (ha : h[a]? = some (.inl (t, n, .inr (.inr (.inr (.inr f)))))) (hq : sIsObj t h[q]? = true) (hi : ¬ (i < 0 ∨ n ≤ i.toNatClampNeg)) (he : h.set a (.inl (t, n, .inr (.inr (.inr (.inr (va_up f i.toNatClampNeg (some q))))))) = h1) (g : sGo X k d (pc + 1) L st h1 Q) : sGo X k d pc L (.ref q :: .int i :: .ref a :: st) h Q := go_heap hF rfl (by cases X <;> rfl) (by show sStAA (.ref q :: .int i :: .ref a :: st) h = _; unfold sStAA; dsimp only; rw [ha]; dsimp only; rw [if_pos ⟨hq, hi⟩, he]) g
theorem g_aastoreN {a n t : Nat} {i : Int32} {f : Nat → Option Nat} {h1 : sHp} (hF : sFk k pc = some .aastore) (ha : h[a]? = some (.inl (t, n, .inr (.inr (.inr (.inr f)))))) (ht : t = 3 ∨ t = 4) (hi : ¬ (i < 0 ∨ n ≤ i.toNatClampNeg)) (he : h.set a (.inl (t, n, .inr (.inr (.inr (.inr (va_up f i.toNatClampNeg none)))))) = h1) (g : sGo X k d (pc + 1) L st h1 Q) : sGo X k d pc L (.null :: .int i :: .ref a :: st) h Q := go_heap hF rfl (by cases X <;> rfl) (by show sStAA (.null :: .int i :: .ref a :: st) h = _; unfold sStAA; dsimp only; rw [ha]; dsimp only; rw [if_pos ⟨ht, hi⟩, he]) g
theorem g_alen {a n t : Nat} {dd : (Nat → Int32) ⊕ (Nat → Int64) ⊕ (Nat → UInt32) ⊕ (Nat → UInt64) ⊕ (Nat → Option Nat)} (hF : sFk k pc = some .arraylength) (ha : h[a]? = some (.inl (t, n, dd))) (ht : t < 6) (g : sGo none k d (pc + 1) L (.int (Int32.ofNat n) :: st) h Q) : sGo none k d pc L (.ref a :: st) h Q := go_heap hF rfl rfl (by show sALen (.ref a :: st) h = _; unfold sALen; dsimp only; rw [ha]; dsimp only; rw [if_pos ht]) g
theorem g_ireturn {x : Int32} {ty : FieldType} (hF : sFk k pc = some .ireturn) (hR : sRk k = some (some ty)) (hn : narrow ty (.int x) = .int x) (hQ : Q (some (.int x)) h) : sGo X k d pc L [.int x] h Q := go_ret hF rfl hR (by show (if _ then _ else _) = _; rw [if_pos hn]) hQ
theorem g_lreturn {x : Int64} (hF : sFk k pc = some .lreturn) (hR : sRk k = some (some .long)) (hQ : Q (some (.long x)) h) : sGo X k d pc L [.long x] h Q := go_ret hF rfl hR rfl hQ
theorem g_areturn {a : Nat} {C : String} (hF : sFk k pc = some .areturn) (hR : sRk k = some (some (.object C))) (hQ : Q (some (.ref a)) h) : sGo X k d pc L [.ref a] h Q := go_ret hF rfl hR rfl hQ
theorem g_return (hF : sFk k pc = some .return_) (hR : sRk k = some none) (hQ : Q none h) : sGo X k d pc L [] h Q := go_ret hF rfl hR rfl hQ
theorem g_objinit {a : Nat} (hF : sFk k pc = some (.invokespecial 2000)) (hcat : ((Value.ref a :: st).map (fun v => v.category)).sum ≤ 10) (g : sGo X k d (pc + 3) L st h Q) : sGo X k d pc L (.ref a :: st) h Q := go_spec hF rfl hcat rfl g
theorem g_max {x y : Int32} (hF : sFk k pc = some (.invokestatic 1000)) (hcat : ((Value.int y :: Value.int x :: st).map (fun v => v.category)).sum ≤ 10) (g : sGo X k d (pc + 3) L (.int (if x < y then y else x) :: st) h Q) : sGo X k d pc L (.int y :: .int x :: st) h Q := go_spec hF rfl hcat rfl g
theorem g_min {x y : Int32} (hF : sFk k pc = some (.invokestatic 1001)) (hcat : ((Value.int y :: Value.int x :: st).map (fun v => v.category)).sum ≤ 10) (g : sGo X k d (pc + 3) L (.int (if y < x then y else x) :: st) h Q) : sGo X k d pc L (.int y :: .int x :: st) h Q := go_spec hF rfl hcat rfl g
theorem g_abs {x : Int32} (hF : sFk k pc = some (.invokestatic 1002)) (hcat : ((Value.int x :: st).map (fun v => v.category)).sum ≤ 10) (g : sGo X k d (pc + 3) L (.int (if 0 ≤ x then x else 0 - x) :: st) h Q) : sGo X k d pc L (.int x :: st) h Q := go_spec hF rfl hcat rfl g
theorem g_static0 {k1 : Nat} {Qc : Option Value → sHp → Prop} (hF : sFk k pc = some (.invokestatic k1)) (hk : k1 < 1000) (hn : sNA k1 = 0) (hcat : (st.map (fun v => v.category)).sum ≤ 8) (hD : sDo d k1 [] h Qc) (g : ∀ (r : Option Value) (h1 : sHp), Qc r h1 → sGo X k d (pc + 3) L (r.toList ++ st) h1 Q) : sGo X k d pc L (st) h Q := go_call hF (if_pos hk) (by show (sPop (sNA k1) (st)).map _ = _; rw [(show sPop (sNA k1) (st) = some ([], st) by rw [hn]; unfold sPop; rw [if_pos (by first | exact Nat.zero_le _ | (simp only [List.length_cons]; omega))]; rfl)]; rfl) hcat hD g
theorem g_init0 {k1 : Nat} {a : Nat} {x : Nat × List Value} {Qc : Option Value → sHp → Prop} (hF : sFk k pc = some (.invokespecial k1)) (hk : k1 < 1000) (hn : sNA k1 = 0) (ha : h[a]? = some (.inr x)) (hcat : (st.map (fun v => v.category)).sum ≤ 8) (hD : sDo d k1 (.ref a :: []) h Qc) (g : ∀ (r : Option Value) (h1 : sHp), Qc r h1 → sGo X k d (pc + 3) L (r.toList ++ st) h1 Q) : sGo X k d pc L (.ref a :: st) h Q := go_call hF (if_pos hk) (by show (sPop (sNA k1) (.ref a :: st)).bind _ = _; rw [(show sPop (sNA k1) (.ref a :: st) = some ([], .ref a :: st) by rw [hn]; unfold sPop; rw [if_pos (by first | exact Nat.zero_le _ | (simp only [List.length_cons]; omega))]; rfl), Option.bind_some]; dsimp only; rw [ha]) hcat hD g
theorem g_virt0 {k1 : Nat} {a : Nat} {ci : Nat} {fs : List Value} {Qc : Option Value → sHp → Prop} (hF : sFk k pc = some (.invokevirtual k1)) (hk : k1 < 1000) (hn : sNA k1 = 0) (ha : h[a]? = some (.inr (ci, fs))) (ho : sOwn k1 = ci) (hcat : (st.map (fun v => v.category)).sum ≤ 8) (hD : sDo d k1 (.ref a :: []) h Qc) (g : ∀ (r : Option Value) (h1 : sHp), Qc r h1 → sGo X k d (pc + 3) L (r.toList ++ st) h1 Q) : sGo X k d pc L (.ref a :: st) h Q := go_call hF rfl (by show (if k1 < 1000 then (sPop (sNA k1) (.ref a :: st)).bind _ else _) = _; rw [if_pos hk, (show sPop (sNA k1) (.ref a :: st) = some ([], .ref a :: st) by rw [hn]; unfold sPop; rw [if_pos (by first | exact Nat.zero_le _ | (simp only [List.length_cons]; omega))]; rfl), Option.bind_some]; dsimp only; rw [ha]; dsimp only; rw [if_pos ho.symm]) hcat hD g
theorem g_static1 {k1 : Nat} {v0 : Value} {Qc : Option Value → sHp → Prop} (hF : sFk k pc = some (.invokestatic k1)) (hk : k1 < 1000) (hn : sNA k1 = 1) (hcat : (st.map (fun v => v.category)).sum ≤ 8) (hD : sDo d k1 [v0] h Qc) (g : ∀ (r : Option Value) (h1 : sHp), Qc r h1 → sGo X k d (pc + 3) L (r.toList ++ st) h1 Q) : sGo X k d pc L (v0 :: st) h Q := go_call hF (if_pos hk) (by show (sPop (sNA k1) (v0 :: st)).map _ = _; rw [(show sPop (sNA k1) (v0 :: st) = some ([v0], st) by rw [hn]; unfold sPop; rw [if_pos (by first | exact Nat.zero_le _ | (simp only [List.length_cons]; omega))]; rfl)]; rfl) hcat hD g
theorem g_init1 {k1 : Nat} {a : Nat} {v0 : Value} {x : Nat × List Value} {Qc : Option Value → sHp → Prop} (hF : sFk k pc = some (.invokespecial k1)) (hk : k1 < 1000) (hn : sNA k1 = 1) (ha : h[a]? = some (.inr x)) (hcat : (st.map (fun v => v.category)).sum ≤ 8) (hD : sDo d k1 (.ref a :: [v0]) h Qc) (g : ∀ (r : Option Value) (h1 : sHp), Qc r h1 → sGo X k d (pc + 3) L (r.toList ++ st) h1 Q) : sGo X k d pc L (v0 :: .ref a :: st) h Q := go_call hF (if_pos hk) (by show (sPop (sNA k1) (v0 :: .ref a :: st)).bind _ = _; rw [(show sPop (sNA k1) (v0 :: .ref a :: st) = some ([v0], .ref a :: st) by rw [hn]; unfold sPop; rw [if_pos (by first | exact Nat.zero_le _ | (simp only [List.length_cons]; omega))]; rfl), Option.bind_some]; dsimp only; rw [ha]) hcat hD g
theorem g_virt1 {k1 : Nat} {a : Nat} {v0 : Value} {ci : Nat} {fs : List Value} {Qc : Option Value → sHp → Prop} (hF : sFk k pc = some (.invokevirtual k1)) (hk : k1 < 1000) (hn : sNA k1 = 1) (ha : h[a]? = some (.inr (ci, fs))) (ho : sOwn k1 = ci) (hcat : (st.map (fun v => v.category)).sum ≤ 8) (hD : sDo d k1 (.ref a :: [v0]) h Qc) (g : ∀ (r : Option Value) (h1 : sHp), Qc r h1 → sGo X k d (pc + 3) L (r.toList ++ st) h1 Q) : sGo X k d pc L (v0 :: .ref a :: st) h Q := go_call hF rfl (by show (if k1 < 1000 then (sPop (sNA k1) (v0 :: .ref a :: st)).bind _ else _) = _; rw [if_pos hk, (show sPop (sNA k1) (v0 :: .ref a :: st) = some ([v0], .ref a :: st) by rw [hn]; unfold sPop; rw [if_pos (by first | exact Nat.zero_le _ | (simp only [List.length_cons]; omega))]; rfl), Option.bind_some]; dsimp only; rw [ha]; dsimp only; rw [if_pos ho.symm]) hcat hD g
theorem g_static2 {k1 : Nat} {v0 v1 : Value} {Qc : Option Value → sHp → Prop} (hF : sFk k pc = some (.invokestatic k1)) (hk : k1 < 1000) (hn : sNA k1 = 2) (hcat : (st.map (fun v => v.category)).sum ≤ 8) (hD : sDo d k1 [v0, v1] h Qc) (g : ∀ (r : Option Value) (h1 : sHp), Qc r h1 → sGo X k d (pc + 3) L (r.toList ++ st) h1 Q) : sGo X k d pc L (v1 :: v0 :: st) h Q := go_call hF (if_pos hk) (by show (sPop (sNA k1) (v1 :: v0 :: st)).map _ = _; rw [(show sPop (sNA k1) (v1 :: v0 :: st) = some ([v0, v1], st) by rw [hn]; unfold sPop; rw [if_pos (by first | exact Nat.zero_le _ | (simp only [List.length_cons]; omega))]; rfl)]; rfl) hcat hD g
theorem g_init2 {k1 : Nat} {a : Nat} {v0 v1 : Value} {x : Nat × List Value} {Qc : Option Value → sHp → Prop} (hF : sFk k pc = some (.invokespecial k1)) (hk : k1 < 1000) (hn : sNA k1 = 2) (ha : h[a]? = some (.inr x)) (hcat : (st.map (fun v => v.category)).sum ≤ 8) (hD : sDo d k1 (.ref a :: [v0, v1]) h Qc) (g : ∀ (r : Option Value) (h1 : sHp), Qc r h1 → sGo X k d (pc + 3) L (r.toList ++ st) h1 Q) : sGo X k d pc L (v1 :: v0 :: .ref a :: st) h Q := go_call hF (if_pos hk) (by show (sPop (sNA k1) (v1 :: v0 :: .ref a :: st)).bind _ = _; rw [(show sPop (sNA k1) (v1 :: v0 :: .ref a :: st) = some ([v0, v1], .ref a :: st) by rw [hn]; unfold sPop; rw [if_pos (by first | exact Nat.zero_le _ | (simp only [List.length_cons]; omega))]; rfl), Option.bind_some]; dsimp only; rw [ha]) hcat hD g
theorem g_virt2 {k1 : Nat} {a : Nat} {v0 v1 : Value} {ci : Nat} {fs : List Value} {Qc : Option Value → sHp → Prop} (hF : sFk k pc = some (.invokevirtual k1)) (hk : k1 < 1000) (hn : sNA k1 = 2) (ha : h[a]? = some (.inr (ci, fs))) (ho : sOwn k1 = ci) (hcat : (st.map (fun v => v.category)).sum ≤ 8) (hD : sDo d k1 (.ref a :: [v0, v1]) h Qc) (g : ∀ (r : Option Value) (h1 : sHp), Qc r h1 → sGo X k d (pc + 3) L (r.toList ++ st) h1 Q) : sGo X k d pc L (v1 :: v0 :: .ref a :: st) h Q := go_call hF rfl (by show (if k1 < 1000 then (sPop (sNA k1) (v1 :: v0 :: .ref a :: st)).bind _ else _) = _; rw [if_pos hk, (show sPop (sNA k1) (v1 :: v0 :: .ref a :: st) = some ([v0, v1], .ref a :: st) by rw [hn]; unfold sPop; rw [if_pos (by first | exact Nat.zero_le _ | (simp only [List.length_cons]; omega))]; rfl), Option.bind_some]; dsimp only; rw [ha]; dsimp only; rw [if_pos ho.symm]) hcat hD g
theorem g_static3 {k1 : Nat} {v0 v1 v2 : Value} {Qc : Option Value → sHp → Prop} (hF : sFk k pc = some (.invokestatic k1)) (hk : k1 < 1000) (hn : sNA k1 = 3) (hcat : (st.map (fun v => v.category)).sum ≤ 8) (hD : sDo d k1 [v0, v1, v2] h Qc) (g : ∀ (r : Option Value) (h1 : sHp), Qc r h1 → sGo X k d (pc + 3) L (r.toList ++ st) h1 Q) : sGo X k d pc L (v2 :: v1 :: v0 :: st) h Q := go_call hF (if_pos hk) (by show (sPop (sNA k1) (v2 :: v1 :: v0 :: st)).map _ = _; rw [(show sPop (sNA k1) (v2 :: v1 :: v0 :: st) = some ([v0, v1, v2], st) by rw [hn]; unfold sPop; rw [if_pos (by first | exact Nat.zero_le _ | (simp only [List.length_cons]; omega))]; rfl)]; rfl) hcat hD g
theorem g_init3 {k1 : Nat} {a : Nat} {v0 v1 v2 : Value} {x : Nat × List Value} {Qc : Option Value → sHp → Prop} (hF : sFk k pc = some (.invokespecial k1)) (hk : k1 < 1000) (hn : sNA k1 = 3) (ha : h[a]? = some (.inr x)) (hcat : (st.map (fun v => v.category)).sum ≤ 8) (hD : sDo d k1 (.ref a :: [v0, v1, v2]) h Qc) (g : ∀ (r : Option Value) (h1 : sHp), Qc r h1 → sGo X k d (pc + 3) L (r.toList ++ st) h1 Q) : sGo X k d pc L (v2 :: v1 :: v0 :: .ref a :: st) h Q := go_call hF (if_pos hk) (by show (sPop (sNA k1) (v2 :: v1 :: v0 :: .ref a :: st)).bind _ = _; rw [(show sPop (sNA k1) (v2 :: v1 :: v0 :: .ref a :: st) = some ([v0, v1, v2], .ref a :: st) by rw [hn]; unfold sPop; rw [if_pos (by first | exact Nat.zero_le _ | (simp only [List.length_cons]; omega))]; rfl), Option.bind_some]; dsimp only; rw [ha]) hcat hD g
theorem g_virt3 {k1 : Nat} {a : Nat} {v0 v1 v2 : Value} {ci : Nat} {fs : List Value} {Qc : Option Value → sHp → Prop} (hF : sFk k pc = some (.invokevirtual k1)) (hk : k1 < 1000) (hn : sNA k1 = 3) (ha : h[a]? = some (.inr (ci, fs))) (ho : sOwn k1 = ci) (hcat : (st.map (fun v => v.category)).sum ≤ 8) (hD : sDo d k1 (.ref a :: [v0, v1, v2]) h Qc) (g : ∀ (r : Option Value) (h1 : sHp), Qc r h1 → sGo X k d (pc + 3) L (r.toList ++ st) h1 Q) : sGo X k d pc L (v2 :: v1 :: v0 :: .ref a :: st) h Q := go_call hF rfl (by show (if k1 < 1000 then (sPop (sNA k1) (v2 :: v1 :: v0 :: .ref a :: st)).bind _ else _) = _; rw [if_pos hk, (show sPop (sNA k1) (v2 :: v1 :: v0 :: .ref a :: st) = some ([v0, v1, v2], .ref a :: st) by rw [hn]; unfold sPop; rw [if_pos (by first | exact Nat.zero_le _ | (simp only [List.length_cons]; omega))]; rfl), Option.bind_some]; dsimp only; rw [ha]; dsimp only; rw [if_pos ho.symm]) hcat hD g
theorem g_static4 {k1 : Nat} {v0 v1 v2 v3 : Value} {Qc : Option Value → sHp → Prop} (hF : sFk k pc = some (.invokestatic k1)) (hk : k1 < 1000) (hn : sNA k1 = 4) (hcat : (st.map (fun v => v.category)).sum ≤ 8) (hD : sDo d k1 [v0, v1, v2, v3] h Qc) (g : ∀ (r : Option Value) (h1 : sHp), Qc r h1 → sGo X k d (pc + 3) L (r.toList ++ st) h1 Q) : sGo X k d pc L (v3 :: v2 :: v1 :: v0 :: st) h Q := go_call hF (if_pos hk) (by show (sPop (sNA k1) (v3 :: v2 :: v1 :: v0 :: st)).map _ = _; rw [(show sPop (sNA k1) (v3 :: v2 :: v1 :: v0 :: st) = some ([v0, v1, v2, v3], st) by rw [hn]; unfold sPop; rw [if_pos (by first | exact Nat.zero_le _ | (simp only [List.length_cons]; omega))]; rfl)]; rfl) hcat hD g
theorem g_init4 {k1 : Nat} {a : Nat} {v0 v1 v2 v3 : Value} {x : Nat × List Value} {Qc : Option Value → sHp → Prop} (hF : sFk k pc = some (.invokespecial k1)) (hk : k1 < 1000) (hn : sNA k1 = 4) (ha : h[a]? = some (.inr x)) (hcat : (st.map (fun v => v.category)).sum ≤ 8) (hD : sDo d k1 (.ref a :: [v0, v1, v2, v3]) h Qc) (g : ∀ (r : Option Value) (h1 : sHp), Qc r h1 → sGo X k d (pc + 3) L (r.toList ++ st) h1 Q) : sGo X k d pc L (v3 :: v2 :: v1 :: v0 :: .ref a :: st) h Q := go_call hF (if_pos hk) (by show (sPop (sNA k1) (v3 :: v2 :: v1 :: v0 :: .ref a :: st)).bind _ = _; rw [(show sPop (sNA k1) (v3 :: v2 :: v1 :: v0 :: .ref a :: st) = some ([v0, v1, v2, v3], .ref a :: st) by rw [hn]; unfold sPop; rw [if_pos (by first | exact Nat.zero_le _ | (simp only [List.length_cons]; omega))]; rfl), Option.bind_some]; dsimp only; rw [ha]) hcat hD g
theorem g_virt4 {k1 : Nat} {a : Nat} {v0 v1 v2 v3 : Value} {ci : Nat} {fs : List Value} {Qc : Option Value → sHp → Prop} (hF : sFk k pc = some (.invokevirtual k1)) (hk : k1 < 1000) (hn : sNA k1 = 4) (ha : h[a]? = some (.inr (ci, fs))) (ho : sOwn k1 = ci) (hcat : (st.map (fun v => v.category)).sum ≤ 8) (hD : sDo d k1 (.ref a :: [v0, v1, v2, v3]) h Qc) (g : ∀ (r : Option Value) (h1 : sHp), Qc r h1 → sGo X k d (pc + 3) L (r.toList ++ st) h1 Q) : sGo X k d pc L (v3 :: v2 :: v1 :: v0 :: .ref a :: st) h Q := go_call hF rfl (by show (if k1 < 1000 then (sPop (sNA k1) (v3 :: v2 :: v1 :: v0 :: .ref a :: st)).bind _ else _) = _; rw [if_pos hk, (show sPop (sNA k1) (v3 :: v2 :: v1 :: v0 :: .ref a :: st) = some ([v0, v1, v2, v3], .ref a :: st) by rw [hn]; unfold sPop; rw [if_pos (by first | exact Nat.zero_le _ | (simp only [List.length_cons]; omega))]; rfl), Option.bind_some]; dsimp only; rw [ha]; dsimp only; rw [if_pos ho.symm]) hcat hD g
theorem g_static5 {k1 : Nat} {v0 v1 v2 v3 v4 : Value} {Qc : Option Value → sHp → Prop} (hF : sFk k pc = some (.invokestatic k1)) (hk : k1 < 1000) (hn : sNA k1 = 5) (hcat : (st.map (fun v => v.category)).sum ≤ 8) (hD : sDo d k1 [v0, v1, v2, v3, v4] h Qc) (g : ∀ (r : Option Value) (h1 : sHp), Qc r h1 → sGo X k d (pc + 3) L (r.toList ++ st) h1 Q) : sGo X k d pc L (v4 :: v3 :: v2 :: v1 :: v0 :: st) h Q := go_call hF (if_pos hk) (by show (sPop (sNA k1) (v4 :: v3 :: v2 :: v1 :: v0 :: st)).map _ = _; rw [(show sPop (sNA k1) (v4 :: v3 :: v2 :: v1 :: v0 :: st) = some ([v0, v1, v2, v3, v4], st) by rw [hn]; unfold sPop; rw [if_pos (by first | exact Nat.zero_le _ | (simp only [List.length_cons]; omega))]; rfl)]; rfl) hcat hD g
theorem g_init5 {k1 : Nat} {a : Nat} {v0 v1 v2 v3 v4 : Value} {x : Nat × List Value} {Qc : Option Value → sHp → Prop} (hF : sFk k pc = some (.invokespecial k1)) (hk : k1 < 1000) (hn : sNA k1 = 5) (ha : h[a]? = some (.inr x)) (hcat : (st.map (fun v => v.category)).sum ≤ 8) (hD : sDo d k1 (.ref a :: [v0, v1, v2, v3, v4]) h Qc) (g : ∀ (r : Option Value) (h1 : sHp), Qc r h1 → sGo X k d (pc + 3) L (r.toList ++ st) h1 Q) : sGo X k d pc L (v4 :: v3 :: v2 :: v1 :: v0 :: .ref a :: st) h Q := go_call hF (if_pos hk) (by show (sPop (sNA k1) (v4 :: v3 :: v2 :: v1 :: v0 :: .ref a :: st)).bind _ = _; rw [(show sPop (sNA k1) (v4 :: v3 :: v2 :: v1 :: v0 :: .ref a :: st) = some ([v0, v1, v2, v3, v4], .ref a :: st) by rw [hn]; unfold sPop; rw [if_pos (by first | exact Nat.zero_le _ | (simp only [List.length_cons]; omega))]; rfl), Option.bind_some]; dsimp only; rw [ha]) hcat hD g
theorem g_virt5 {k1 : Nat} {a : Nat} {v0 v1 v2 v3 v4 : Value} {ci : Nat} {fs : List Value} {Qc : Option Value → sHp → Prop} (hF : sFk k pc = some (.invokevirtual k1)) (hk : k1 < 1000) (hn : sNA k1 = 5) (ha : h[a]? = some (.inr (ci, fs))) (ho : sOwn k1 = ci) (hcat : (st.map (fun v => v.category)).sum ≤ 8) (hD : sDo d k1 (.ref a :: [v0, v1, v2, v3, v4]) h Qc) (g : ∀ (r : Option Value) (h1 : sHp), Qc r h1 → sGo X k d (pc + 3) L (r.toList ++ st) h1 Q) : sGo X k d pc L (v4 :: v3 :: v2 :: v1 :: v0 :: .ref a :: st) h Q := go_call hF rfl (by show (if k1 < 1000 then (sPop (sNA k1) (v4 :: v3 :: v2 :: v1 :: v0 :: .ref a :: st)).bind _ else _) = _; rw [if_pos hk, (show sPop (sNA k1) (v4 :: v3 :: v2 :: v1 :: v0 :: .ref a :: st) = some ([v0, v1, v2, v3, v4], .ref a :: st) by rw [hn]; unfold sPop; rw [if_pos (by first | exact Nat.zero_le _ | (simp only [List.length_cons]; omega))]; rfl), Option.bind_some]; dsimp only; rw [ha]; dsimp only; rw [if_pos ho.symm]) hcat hD g
theorem g_static6 {k1 : Nat} {v0 v1 v2 v3 v4 v5 : Value} {Qc : Option Value → sHp → Prop} (hF : sFk k pc = some (.invokestatic k1)) (hk : k1 < 1000) (hn : sNA k1 = 6) (hcat : (st.map (fun v => v.category)).sum ≤ 8) (hD : sDo d k1 [v0, v1, v2, v3, v4, v5] h Qc) (g : ∀ (r : Option Value) (h1 : sHp), Qc r h1 → sGo X k d (pc + 3) L (r.toList ++ st) h1 Q) : sGo X k d pc L (v5 :: v4 :: v3 :: v2 :: v1 :: v0 :: st) h Q := go_call hF (if_pos hk) (by show (sPop (sNA k1) (v5 :: v4 :: v3 :: v2 :: v1 :: v0 :: st)).map _ = _; rw [(show sPop (sNA k1) (v5 :: v4 :: v3 :: v2 :: v1 :: v0 :: st) = some ([v0, v1, v2, v3, v4, v5], st) by rw [hn]; unfold sPop; rw [if_pos (by first | exact Nat.zero_le _ | (simp only [List.length_cons]; omega))]; rfl)]; rfl) hcat hD g
theorem g_init6 {k1 : Nat} {a : Nat} {v0 v1 v2 v3 v4 v5 : Value} {x : Nat × List Value} {Qc : Option Value → sHp → Prop} (hF : sFk k pc = some (.invokespecial k1)) (hk : k1 < 1000) (hn : sNA k1 = 6) (ha : h[a]? = some (.inr x)) (hcat : (st.map (fun v => v.category)).sum ≤ 8) (hD : sDo d k1 (.ref a :: [v0, v1, v2, v3, v4, v5]) h Qc) (g : ∀ (r : Option Value) (h1 : sHp), Qc r h1 → sGo X k d (pc + 3) L (r.toList ++ st) h1 Q) : sGo X k d pc L (v5 :: v4 :: v3 :: v2 :: v1 :: v0 :: .ref a :: st) h Q := go_call hF (if_pos hk) (by show (sPop (sNA k1) (v5 :: v4 :: v3 :: v2 :: v1 :: v0 :: .ref a :: st)).bind _ = _; rw [(show sPop (sNA k1) (v5 :: v4 :: v3 :: v2 :: v1 :: v0 :: .ref a :: st) = some ([v0, v1, v2, v3, v4, v5], .ref a :: st) by rw [hn]; unfold sPop; rw [if_pos (by first | exact Nat.zero_le _ | (simp only [List.length_cons]; omega))]; rfl), Option.bind_some]; dsimp only; rw [ha]) hcat hD g
theorem g_virt6 {k1 : Nat} {a : Nat} {v0 v1 v2 v3 v4 v5 : Value} {ci : Nat} {fs : List Value} {Qc : Option Value → sHp → Prop} (hF : sFk k pc = some (.invokevirtual k1)) (hk : k1 < 1000) (hn : sNA k1 = 6) (ha : h[a]? = some (.inr (ci, fs))) (ho : sOwn k1 = ci) (hcat : (st.map (fun v => v.category)).sum ≤ 8) (hD : sDo d k1 (.ref a :: [v0, v1, v2, v3, v4, v5]) h Qc) (g : ∀ (r : Option Value) (h1 : sHp), Qc r h1 → sGo X k d (pc + 3) L (r.toList ++ st) h1 Q) : sGo X k d pc L (v5 :: v4 :: v3 :: v2 :: v1 :: v0 :: .ref a :: st) h Q := go_call hF rfl (by show (if k1 < 1000 then (sPop (sNA k1) (v5 :: v4 :: v3 :: v2 :: v1 :: v0 :: .ref a :: st)).bind _ else _) = _; rw [if_pos hk, (show sPop (sNA k1) (v5 :: v4 :: v3 :: v2 :: v1 :: v0 :: .ref a :: st) = some ([v0, v1, v2, v3, v4, v5], .ref a :: st) by rw [hn]; unfold sPop; rw [if_pos (by first | exact Nat.zero_le _ | (simp only [List.length_cons]; omega))]; rfl), Option.bind_some]; dsimp only; rw [ha]; dsimp only; rw [if_pos ho.symm]) hcat hD g
theorem g_fam {k1 a ci : Nat} {v0 : Value} {fs : List Value} {Qc : Option Value → sHp → Prop} (hF : sFk k pc = some (.invokevirtual k1)) (hk : ¬ k1 < 1000) (ha : h[a]? = some (.inr (ci, fs))) (hc : sGrp ci = 2 ∧ ci < 11) (hcat : (st.map (fun v => v.category)).sum ≤ 8) (hD : sDo d (sVt k1 ci) [.ref a, v0] h Qc) (g : ∀ (r : Option Value) (h1 : sHp), Qc r h1 → sGo X k d (pc + 3) L (r.toList ++ st) h1 Q) : sGo X k d pc L (v0 :: .ref a :: st) h Q := go_call hF rfl (by show (if k1 < 1000 then _ else (sPop (sVt k1 100) (v0 :: .ref a :: st)).bind _) = _; rw [if_neg hk, show sPop (sVt k1 100) (v0 :: .ref a :: st) = some ([v0], .ref a :: st) by (rw [show sVt k1 100 = 1 from rfl]; unfold sPop; rw [if_pos (by simp only [List.length_cons]; omega)]; rfl), Option.bind_some]; dsimp only; rw [ha]; dsimp only; rw [if_pos hc]) hcat hD g
end GO
end
section
/-! ===== the run with unknown numbers: terms for values, bounds for ints ===== -/
abbrev aIn : Type := (Nat → Int32) × (Nat → Int64) × (Nat → va_E)
abbrev tM : Type := Jvm.Term
def vI (v : Value) : Int32 := match v with
  | .int x => x
  | _ => 0
def vL (v : Value) : Int64 := match v with
  | .long x => x
  | _ => 0
def vR (v : Value) : Option Nat := match v with
  | .ref k => some k
  | _ => none
def o2 (o : Jvm.Binary) (x y : Value) : Value := match o with
  | .iand => .int (vI x &&& vI y)
  | .ior => .int (vI x ||| vI y)
  | .ixor => .int (vI x ^^^ vI y)
  | .ishl => .int (vI x <<< (vI y &&& 31))
  | .ishr => .int (vI x >>> (vI y &&& 31))
  | .ladd => .long (vL x + vL y)
  | .lsub => .long (vL x - vL y)
  | .land => .long (vL x &&& vL y)
  | .lor => .long (vL x ||| vL y)
  | .lxor => .long (vL x ^^^ vL y)
  | .lshl => .long (vL x <<< ((vI y).toInt64 &&& 63))
  | .lshr => .long (vL x >>> ((vI y).toInt64 &&& 63))
  | .lushr => .long ((vL x).toUInt64 >>> ((vI y).toInt64.toUInt64 &&& Int64.toUInt64 63)).toInt64
  | .lcmp => .int (lg_cmp (vL x) (vL y))
  | _ => .null
def k2 (o : Jvm.Binary) : Nat := match o with
  | .iand => 0
  | .ior => 0
  | .ixor => 0
  | .ishl => 0
  | .ishr => 0
  | .lcmp => 0
  | .ladd => 1
  | .lsub => 1
  | .land => 1
  | .lor => 1
  | .lxor => 1
  | .lshl => 1
  | .lshr => 1
  | .lushr => 1
  | _ => 3
def o1 (o : Jvm.Unary) (x : Value) : Value := match o with
  | .ineg => .int (-(vI x))
  | .lneg => .long (-(vL x))
  | .i2l => .long (vI x).toInt64
  | .l2i => .int (vL x).toInt32
  | .i2b => .int (vI x).toInt8.toInt32
  | .i2s => .int (vI x).toInt16.toInt32
  | .i2c => .int ((vI x).toUInt32 % 65536).toInt32
  | _ => .null
def k1 (o : Jvm.Unary) : Nat := match o with
  | .ineg => 0
  | .l2i => 0
  | .i2b => 0
  | .i2s => 0
  | .i2c => 0
  | .lneg => 1
  | .i2l => 1
  | _ => 3
def eT (ι : aIn) (t : tM) : Value := match t with
  | .int v => .int v
  | .long v => .long v
  | .arg i => if i < 1000 then .int (ι.1 i) else .long (ι.2.1 (i - 1000))
  | .index k => .ref k
  | .add a b => .int (vI (eT ι a) + vI (eT ι b))
  | .sub a b => .int (vI (eT ι a) - vI (eT ι b))
  | .mul a b => .int (vI (eT ι a) * vI (eT ι b))
  | .div a b => .int (vI (eT ι a) / vI (eT ι b))
  | .rem a b => .int (vI (eT ι a) - vI (eT ι a) / vI (eT ι b) * vI (eT ι b))
  | .op2 o a b => o2 o (eT ι a) (eT ι b)
  | .op1 o a => o1 o (eT ι a)
  | _ => .null
/-- int 0, long 1, reference 2 -/
def kT (t : tM) : Nat := match t with
  | .int _ => 0
  | .long _ => 1
  | .arg i => if i < 1000 then 0 else 1
  | .index _ => 2
  | .null => 2
  | .add _ _ => 0
  | .sub _ _ => 0
  | .mul _ _ => 0
  | .div _ _ => 0
  | .rem _ _ => 0
  | .op2 o _ _ => k2 o
  | .op1 o _ => k1 o
  | _ => 3
theorem kT_0 {ι : aIn} {t : tM} (h : kT t = 0) : eT ι t = .int (vI (eT ι t)) := by
  cases t <;> first | rfl | (simp [kT] at h; done) | skip
  · rename_i i
    unfold eT
    by_cases hi : i < 1000
    · rw [if_pos hi]; rfl
    · simp [kT, hi] at h
  · rename_i o a b
    cases o <;> first | rfl | (simp [kT, k2] at h)
  · rename_i o a
    cases o <;> first | rfl | (simp [kT, k1] at h)
theorem kT_1 {ι : aIn} {t : tM} (h : kT t = 1) : eT ι t = .long (vL (eT ι t)) := by
  cases t <;> first | rfl | (simp [kT] at h; done) | skip
  · rename_i i
    unfold eT
    by_cases hi : i < 1000
    · simp [kT, hi] at h
    · rw [if_neg hi]; rfl
  · rename_i o a b
    cases o <;> first | rfl | (simp [kT, k2] at h)
  · rename_i o a
    cases o <;> first | rfl | (simp [kT, k1] at h)
theorem kT_2 {ι : aIn} {t : tM} (h : kT t = 2) : (∃ k, t = .index k) ∨ t = .null := by
  cases t <;> first | exact Or.inl ⟨_, rfl⟩ | exact Or.inr rfl | (simp [kT] at h; done) | skip
  · rename_i i
    by_cases hi : i < 1000 <;> simp [kT, hi] at h
  · rename_i o a b
    cases o <;> simp [kT, k2] at h
  · rename_i o a
    cases o <;> simp [kT, k1] at h
theorem kT_eT {ι : aIn} {t : tM} {x : Int64} (h : eT ι t = .long x) : kT t = 1 := by
  unfold eT at h
  split at h
  all_goals first | rfl | (cases h; done) | skip
  · rename_i i
    split at h
    · cases h
    · rename_i hi
      simp [kT, hi]
  · rename_i o a b
    cases o <;> first | rfl | (cases h)
  · rename_i o a
    cases o <;> first | rfl | (cases h)
theorem eT_cat (ι : aIn) (t : tM) : (eT ι t).category = if kT t = 1 then 2 else 1 := by
  by_cases h : kT t = 1
  · rw [kT_1 h, if_pos h]; rfl
  · rw [if_neg h]
    cases he : eT ι t with
    | long x => exact absurd (kT_eT he) h
    | double x =>
      exfalso
      unfold eT at he
      split at he
      all_goals first | (cases he; done) | skip
      · split at he <;> cases he
      · rename_i o a b
        cases o <;> cases he
      · rename_i o a
        cases o <;> cases he
    | _ => rfl
theorem eT_nd (ι : aIn) (t : tM) : sNd (eT ι t) = true := by
  cases he : eT ι t with
  | double x =>
    exfalso
    unfold eT at he
    split at he
    all_goals first | (cases he; done) | skip
    · split at he <;> cases he
    · rename_i o a b
      cases o <;> cases he
    · rename_i o a
      cases o <;> cases he
  | _ => rfl
/-! numbers brought to one shape -/
def aFc {α : Type} (z : Int) (f : Int → α) : α := match z with
  | .ofNat n => (match n with
    | 0 => f 0
    | m + 1 => f (Int.ofNat (m + 1)))
  | .negSucc n => (match n with
    | 0 => f (Int.negSucc 0)
    | m + 1 => f (Int.negSucc (m + 1)))
theorem aFc_eq {α : Type} (z : Int) (f : Int → α) : aFc z f = f z := by
  cases z with
  | ofNat n => cases n <;> rfl
  | negSucc n => cases n <;> rfl
def aF {α : Type} (n : Nat) (f : Nat → α) : α := match n with
  | 0 => f 0
  | m + 1 => f (m + 1)
theorem aF_eq {α : Type} (n : Nat) (f : Nat → α) : aF n f = f n := by cases n <;> rfl
def aCi (z : Int) : tM := aFc z (fun z => .int (Int32.ofInt z))
def aCl (x : Int64) : tM := aFc x.toInt (fun z => .long (Int64.ofInt z))
theorem aCi_ok (ι : aIn) (z : Int) : eT ι (aCi z) = .int (Int32.ofInt z) := by unfold aCi; rw [aFc_eq]; rfl
theorem aCl_ok (ι : aIn) (x : Int64) : eT ι (aCl x) = .long x := by unfold aCl; rw [aFc_eq]; show Value.long _ = _; rw [Int64.ofInt_toInt]
theorem aCi_k (z : Int) : kT (aCi z) = 0 := by unfold aCi; rw [aFc_eq]; rfl
theorem aCl_k (x : Int64) : kT (aCl x) = 1 := by unfold aCl; rw [aFc_eq]; rfl
/-! the same term -/
def tBq : Nat → tM → tM → Bool
  | 0, _, _ => false
  | n + 1, a, b => match a with
    | .int x => (match b with
      | .int y => decide (x.toInt = y.toInt)
      | _ => false)
    | .long x => (match b with
      | .long y => decide (x.toInt = y.toInt)
      | _ => false)
    | .null => (match b with
      | .null => true
      | _ => false)
    | .index k => (match b with
      | .index j => Nat.beq k j
      | _ => false)
    | .arg k => (match b with
      | .arg j => Nat.beq k j
      | _ => false)
    | .add p q => (match b with
      | .add r s => tBq n p r && tBq n q s
      | _ => false)
    | .sub p q => (match b with
      | .sub r s => tBq n p r && tBq n q s
      | _ => false)
    | .mul p q => (match b with
      | .mul r s => tBq n p r && tBq n q s
      | _ => false)
    | .div p q => (match b with
      | .div r s => tBq n p r && tBq n q s
      | _ => false)
    | .rem p q => (match b with
      | .rem r s => tBq n p r && tBq n q s
      | _ => false)
    | .op2 o p q => (match b with
      | .op2 o' r s => decide (o = o') && (tBq n p r && tBq n q s)
      | _ => false)
    | .op1 o p => (match b with
      | .op1 o' r => decide (o = o') && tBq n p r
      | _ => false)
    | _ => false
theorem tBq_eq : ∀ (n : Nat) (a b : tM), tBq n a b = true → a = b := by
  intro n
  induction n with
  | zero => intro a b h; cases h
  | succ n ih =>
    intro a b h
    unfold tBq at h
    split at h
    all_goals (try split at h)
    all_goals first | (cases h; done) | rfl | skip
    · rw [Int32.toInt_inj.mp (of_decide_eq_true h)]
    · rw [Int64.toInt_inj.mp (of_decide_eq_true h)]
    · rw [Nat.eq_of_beq_eq_true h]
    · rw [Nat.eq_of_beq_eq_true h]
    all_goals
      simp only [Bool.and_eq_true, decide_eq_true_eq] at h
      first
      | (obtain ⟨h1, h2⟩ := h; rw [ih _ _ h1, ih _ _ h2]; done)
      | (obtain ⟨h0, h1, h2⟩ := h; rw [h0, ih _ _ h1, ih _ _ h2]; done)
      | (obtain ⟨h0, h1⟩ := h; rw [h0, ih _ _ h1]; done)
/-! bounds -/
abbrev aG : Type := List (tM × Int × Int)
abbrev aZ (ι : aIn) (t : tM) : Int := (vI (eT ι t)).toInt
def aOk (ι : aIn) (G : aG) : Prop := ∀ e ∈ G, e.2.1 ≤ aZ ι e.1 ∧ aZ ι e.1 ≤ e.2.2
def aW (v : Int) (p : Int × Int) : Prop := p.1 ≤ v ∧ v ≤ p.2
def aFull : Int × Int := (-2147483648, 2147483647)
theorem aFull_ok (x : Int32) : aW x.toInt aFull := by
  have h1 := x.le_toInt
  have h2 := x.toInt_lt
  unfold aW aFull
  constructor <;> simp <;> omega
def aOr (t : tM) : aG → Option (Int × Int)
  | [] => none
  | e :: r => bif tBq 24 e.1 t then some e.2 else aOr t r
theorem aOr_ok {ι : aIn} {t : tM} {p : Int × Int} : ∀ {G : aG}, aOk ι G → aOr t G = some p → aW (aZ ι t) p := by
  intro G
  induction G with
  | nil => intro _ h; cases h
  | cons e r ih =>
    intro hG h
    unfold aOr at h
    cases hb : tBq 24 e.1 t with
    | true =>
      rw [hb] at h
      have h1 := hG e List.mem_cons_self
      rw [tBq_eq _ _ _ hb] at h1
      cases h
      exact h1
    | false =>
      rw [hb] at h
      exact ih (fun e he => hG e (List.mem_cons_of_mem _ he)) h
def aMt (o : Option (Int × Int)) (d : Int × Int) : Int × Int := match o with
  | some e => (max e.1 d.1, min e.2 d.2)
  | none => d
theorem aMt_ok {ι : aIn} {t : tM} {G : aG} {d : Int × Int} (hG : aOk ι G) (hd : aW (aZ ι t) d) : aW (aZ ι t) (aMt (aOr t G) d) := by
  unfold aMt
  cases h : aOr t G with
  | none => exact hd
  | some e =>
    have h1 := aOr_ok hG h
    unfold aW at h1 hd ⊢
    dsimp only
    omega
def aRg (p : Int × Int) : Int × Int := if -2147483648 ≤ p.1 ∧ p.2 ≤ 2147483647 then p else aFull
theorem aRg_ok {z : Int} {p : Int × Int} {x : Int32} (hx : x.toInt = z.bmod (2 ^ 32)) (hz : aW z p) : aW x.toInt (aRg p) := by
  unfold aRg
  split
  · unfold aW at hz
    have e : z.bmod (2 ^ 32) = z := Int.bmod_eq_of_le (by omega) (by omega)
    rw [hx, e]
    exact hz
  · exact aFull_ok x
def aMl (p q : Int × Int) : Int × Int := if 0 ≤ p.1 ∧ 0 ≤ q.1 then aRg (p.1 * q.1, p.2 * q.2) else aFull
theorem aMl_ok {x y z : Int32} {p q : Int × Int} (hz : z.toInt = (x.toInt * y.toInt).bmod (2 ^ 32)) (hx : aW x.toInt p) (hy : aW y.toInt q) : aW z.toInt (aMl p q) := by
  unfold aMl
  split
  · rename_i h
    refine aRg_ok hz ?_
    unfold aW at hx hy ⊢
    exact ⟨Int.mul_le_mul hx.1 hy.1 h.2 (by omega), Int.mul_le_mul hx.2 hy.2 (by omega) (by omega)⟩
  · exact aFull_ok z
def aDv (p : Int × Int) (c : Int) : Int × Int := if 0 < c then (p.1.tdiv c, p.2.tdiv c) else aFull
theorem aDv_ok {x y : Int32} {p : Int × Int} (hx : aW x.toInt p) : aW (x / y).toInt (aDv p y.toInt) := by
  unfold aDv
  split
  · rename_i h
    have e : (x / y).toInt = x.toInt.tdiv y.toInt := Int32.toInt_div_of_ne_right _ _ (fun z => by rw [z] at h; exact absurd h (by decide))
    rw [e]
    exact ⟨Int.tdiv_le_tdiv h hx.1, Int.tdiv_le_tdiv h hx.2⟩
  · exact aFull_ok _
theorem a_rem {x y : Int32} (h : 0 < y.toInt) : (x - x / y * y).toInt = x.toInt.tmod y.toInt := by
  have e : (x / y).toInt = x.toInt.tdiv y.toInt := Int32.toInt_div_of_ne_right _ _ (fun z => by rw [z] at h; exact absurd h (by decide))
  have h1 := Int.tdiv_mul_add_tmod x.toInt y.toInt
  have h3 := x.le_toInt
  have h4 := x.toInt_lt
  have h5 := y.toInt_lt
  have h6 : -(y.toInt) < x.toInt.tmod y.toInt ∧ x.toInt.tmod y.toInt < y.toInt := ⟨by
    by_cases hx : 0 ≤ x.toInt
    · have := Int.tmod_nonneg y.toInt hx; omega
    · have h7 := Int.tmod_lt_of_pos (-x.toInt) h
      rw [Int.neg_tmod] at h7
      omega, Int.tmod_lt_of_pos _ h⟩
  have h8 : (0 ≤ x.toInt → 0 ≤ x.toInt.tmod y.toInt) ∧ (x.toInt ≤ 0 → x.toInt.tmod y.toInt ≤ 0) := ⟨fun hx => Int.tmod_nonneg _ hx, fun hx => by
    have h7 := Int.tmod_nonneg y.toInt (a := -x.toInt) (by omega)
    rw [Int.neg_tmod] at h7
    omega⟩
  have h9 : (0 ≤ x.toInt → 0 ≤ x.toInt.tdiv y.toInt * y.toInt) ∧ (x.toInt ≤ 0 → x.toInt.tdiv y.toInt * y.toInt ≤ 0) := ⟨fun hx => Int.mul_nonneg (Int.tdiv_nonneg hx (by omega)) (by omega), fun hx => by
    have h7 : 0 ≤ (-x.toInt).tdiv y.toInt * y.toInt := Int.mul_nonneg (Int.tdiv_nonneg (by omega) (by omega)) (by omega)
    rw [Int.neg_tdiv, Int.neg_mul] at h7
    omega⟩
  rw [Int32.toInt_sub, Int32.toInt_mul, e]
  have e2 : (x.toInt.tdiv y.toInt * y.toInt).bmod (2 ^ 32) = x.toInt.tdiv y.toInt * y.toInt := by
    generalize x.toInt.tdiv y.toInt * y.toInt = q at *
    exact Int.bmod_eq_of_le (by omega) (by omega)
  rw [e2]
  generalize x.toInt.tdiv y.toInt * y.toInt = q at *
  rw [Int.bmod_eq_of_le (by omega) (by omega)]
  omega
def aRm (p : Int × Int) (c : Int) : Int × Int := if 0 < c then (if 0 ≤ p.1 then (0, c - 1) else (-(c - 1), c - 1)) else aFull
theorem aRm_ok {x y : Int32} {p : Int × Int} (hx : aW x.toInt p) : aW (x - x / y * y).toInt (aRm p y.toInt) := by
  unfold aRm
  split
  · rename_i h
    rw [a_rem h]
    have h1 := Int.tmod_lt_of_pos x.toInt h
    have h7 := Int.tmod_lt_of_pos (-x.toInt) h
    rw [Int.neg_tmod] at h7
    unfold aW at hx
    split
    · have h2 := Int.tmod_nonneg y.toInt (a := x.toInt) (by omega)
      unfold aW
      dsimp only
      omega
    · unfold aW
      dsimp only
      omega
  · exact aFull_ok _
def aAn (c : Int) : Int × Int := if 0 ≤ c then (0, c) else aFull
theorem aAn_ok (x m : Int32) : aW (x &&& m).toInt (aAn m.toInt) := by
  unfold aAn
  split
  · rename_i hm
    obtain ⟨j, hj, rfl⟩ := nI_of (x := m) (by rw [Int32.lt_iff_toInt_lt]; show ¬ m.toInt < 0; omega)
    have hb : ((x &&& nI j).toBitVec.toNat) ≤ j := by
      show (x.toBitVec &&& (nI j).toBitVec).toNat ≤ j
      rw [BitVec.toNat_and, pk_tn (by omega)]
      exact Nat.and_le_right
    rw [nI_toInt hj]
    have hx : (x &&& nI j) = nI ((x &&& nI j).toBitVec.toNat) := by
      apply Int32.toBitVec_inj.mp
      apply BitVec.eq_of_toNat_eq
      rw [pk_tn (by omega)]
    rw [hx, nI_toInt (by omega)]
    unfold aW
    dsimp only
    omega
  · exact aFull_ok _
theorem aCm_ok (x y : Int64) : aW (lg_cmp x y).toInt (-1, 1) := by
  unfold lg_cmp
  split
  · exact ⟨by decide, by decide⟩
  · split
    · exact ⟨by decide, by decide⟩
    · exact ⟨by decide, by decide⟩
def aIv : Nat → aG → tM → Int × Int
  | 0, _, _ => aFull
  | n + 1, G, t => match t with
    | .int x => (x.toInt, x.toInt)
    | .arg i => aMt (aOr (.arg i) G) aFull
    | .add a b => aMt (aOr (.add a b) G) (aRg ((aIv n G a).1 + (aIv n G b).1, (aIv n G a).2 + (aIv n G b).2))
    | .sub a b => aMt (aOr (.sub a b) G) (aRg ((aIv n G a).1 - (aIv n G b).2, (aIv n G a).2 - (aIv n G b).1))
    | .mul a b => aMt (aOr (.mul a b) G) (aMl (aIv n G a) (aIv n G b))
    | .div a (.int c) => aMt (aOr (.div a (.int c)) G) (aDv (aIv n G a) c.toInt)
    | .rem a (.int c) => aMt (aOr (.rem a (.int c)) G) (aRm (aIv n G a) c.toInt)
    | .op2 .lcmp a b => aMt (aOr (.op2 .lcmp a b) G) (-1, 1)
    | .op2 .iand a (.int m) => aMt (aOr (.op2 .iand a (.int m)) G) (aAn m.toInt)
    | t => aMt (aOr t G) aFull
theorem aIv_ok {ι : aIn} {G : aG} (h : aOk ι G) : ∀ (n : Nat) (t : tM), aW (aZ ι t) (aIv n G t) := by
  intro n
  induction n with
  | zero => intro t; exact aFull_ok _
  | succ n ih =>
    intro t
    unfold aIv
    split
    · exact ⟨Int.le_refl _, Int.le_refl _⟩
    · exact aMt_ok h (aFull_ok _)
    · rename_i a b
      refine aMt_ok h (aRg_ok (Int32.toInt_add _ _) ?_)
      have h1 := ih a
      have h2 := ih b
      unfold aW at h1 h2 ⊢
      dsimp only
      unfold aZ at h1 h2
      omega
    · rename_i a b
      refine aMt_ok h (aRg_ok (Int32.toInt_sub _ _) ?_)
      have h1 := ih a
      have h2 := ih b
      unfold aW at h1 h2 ⊢
      dsimp only
      unfold aZ at h1 h2
      omega
    · rename_i a b
      exact aMt_ok h (aMl_ok (Int32.toInt_mul _ _) (ih a) (ih b))
    · rename_i a c
      exact aMt_ok h (aDv_ok (y := c) (ih a))
    · rename_i a c
      exact aMt_ok h (aRm_ok (y := c) (ih a))
    · exact aMt_ok h (aCm_ok _ _)
    · exact aMt_ok h (aAn_ok _ _)
    · exact aMt_ok h (aFull_ok _)
def aNm (G : aG) (t : tM) : tM := match t with
  | .int x => .int x
  | .long x => .long x
  | .index k => .index k
  | .null => .null
  | t => if kT t = 0 then (if (aIv 6 G t).1 = (aIv 6 G t).2 then aCi (aIv 6 G t).1 else t) else t
theorem aNm_ok {ι : aIn} {G : aG} (h : aOk ι G) (t : tM) : eT ι (aNm G t) = eT ι t := by
  unfold aNm
  split
  any_goals rfl
  split
  · rename_i hk
    split
    · rename_i he
      have h1 := aIv_ok h 6 t
      unfold aW aZ at h1
      rw [kT_0 hk, aCi_ok]
      rw [show (aIv 6 G t).1 = (vI (eT ι t)).toInt by omega, Int32.ofInt_toInt]
    · rfl
  · rfl
theorem aNm_k (G : aG) (t : tM) : kT (aNm G t) = kT t := by
  unfold aNm
  split
  any_goals rfl
  split
  · rename_i hk
    split
    · rw [hk]; exact aCi_k _
    · rfl
  · rfl
def aLit (v : Value) (t : tM) : tM := match v with
  | .int w => aCi w.toInt
  | .long w => aCl w
  | _ => t
/-- constants put together -/
def aFo (t : tM) : tM := match t with
  | .add (.int x) (.int y) => aCi (x.toInt + y.toInt)
  | .sub (.int x) (.int y) => aCi (x.toInt - y.toInt)
  | .mul (.int x) (.int y) => aCi (x.toInt * y.toInt)
  | .div (.int x) (.int y) => aCi (x / y).toInt
  | .rem (.int x) (.int y) => aCi (x - x / y * y).toInt
  | .op2 o (.int x) (.int y) => aLit (o2 o (.int x) (.int y)) t
  | .op2 o (.long x) (.long y) => aLit (o2 o (.long x) (.long y)) t
  | .op2 o (.long x) (.int y) => aLit (o2 o (.long x) (.int y)) t
  | .op2 .land (.long x) y => if x.toInt = 0 then .long 0 else .op2 .land (.long x) y
  | .op2 .land y (.long x) => if x.toInt = 0 then .long 0 else .op2 .land y (.long x)
  | .op1 o (.int x) => aLit (o1 o (.int x)) t
  | .op1 o (.long x) => aLit (o1 o (.long x)) t
  | t => t
theorem aLit_ok {ι : aIn} {v : Value} {t : tM} (h : eT ι t = v) : eT ι (aLit v t) = eT ι t := by
  unfold aLit
  split
  · rw [aCi_ok, Int32.ofInt_toInt]; exact h.symm
  · rw [aCl_ok]; exact h.symm
  · rfl
theorem a_l0 {x : Int64} (h : x.toInt = 0) : x = 0 := Int64.toInt_inj.mp h
theorem aFo_ok (ι : aIn) (t : tM) : eT ι (aFo t) = eT ι t := by
  unfold aFo
  split
  · rw [aCi_ok, Int32.ofInt_add, Int32.ofInt_toInt, Int32.ofInt_toInt]; rfl
  · rw [aCi_ok, Int32.ofInt_sub, Int32.ofInt_toInt, Int32.ofInt_toInt]; rfl
  · rw [aCi_ok, Int32.ofInt_mul, Int32.ofInt_toInt, Int32.ofInt_toInt]; rfl
  · rw [aCi_ok, Int32.ofInt_toInt]; rfl
  · rw [aCi_ok, Int32.ofInt_toInt]; rfl
  · exact aLit_ok rfl
  · exact aLit_ok rfl
  · exact aLit_ok rfl
  · split
    · rename_i hx
      rw [a_l0 hx]
      show Value.long 0 = .long (0 &&& _)
      rw [Int64.zero_and]
    · rfl
  · split
    · rename_i hx
      rw [a_l0 hx]
      show Value.long 0 = .long (_ &&& 0)
      rw [Int64.and_zero]
    · rfl
  · exact aLit_ok rfl
  · exact aLit_ok rfl
  · rfl
/-- all the way down -/
def aDp : Nat → aG → tM → tM
  | 0, _, t => t
  | n + 1, G, t => match t with
    | .add a b => aNm G (aFo (.add (aDp n G a) (aDp n G b)))
    | .sub a b => aNm G (aFo (.sub (aDp n G a) (aDp n G b)))
    | .mul a b => aNm G (aFo (.mul (aDp n G a) (aDp n G b)))
    | .div a b => aNm G (aFo (.div (aDp n G a) (aDp n G b)))
    | .rem a b => aNm G (aFo (.rem (aDp n G a) (aDp n G b)))
    | .op2 o a b => aNm G (aFo (.op2 o (aDp n G a) (aDp n G b)))
    | .op1 o a => aNm G (aFo (.op1 o (aDp n G a)))
    | t => aNm G t
theorem aDp_ok {ι : aIn} {G : aG} (h : aOk ι G) : ∀ (n : Nat) (t : tM), eT ι (aDp n G t) = eT ι t := by
  intro n
  induction n with
  | zero => intro t; rfl
  | succ n ih =>
    intro t
    unfold aDp
    split
    all_goals rw [aNm_ok h]
    all_goals
      rw [aFo_ok]
      simp only [eT, ih]
theorem aDp_k {ι : aIn} {G : aG} (h : aOk ι G) (n : Nat) (t : tM) : vI (eT ι (aDp n G t)) = vI (eT ι t) := by rw [aDp_ok h]
end
section
/-! stack -/
def aB (ins : Instr) : Option (Nat × Nat × (tM → tM → tM)) := match ins with
  | .iadd => some (0, 0, .add)
  | .isub => some (0, 0, .sub)
  | .imul => some (0, 0, .mul)
  | .idiv => some (0, 0, .div)
  | .irem => some (0, 0, .rem)
  | .iand => some (0, 0, .op2 .iand)
  | .ior => some (0, 0, .op2 .ior)
  | .ixor => some (0, 0, .op2 .ixor)
  | .ishl => some (0, 0, .op2 .ishl)
  | .ishr => some (0, 0, .op2 .ishr)
  | .ladd => some (1, 1, .op2 .ladd)
  | .lsub => some (1, 1, .op2 .lsub)
  | .land => some (1, 1, .op2 .land)
  | .lor => some (1, 1, .op2 .lor)
  | .lxor => some (1, 1, .op2 .lxor)
  | .lcmp => some (1, 1, .op2 .lcmp)
  | .lshl => some (0, 1, .op2 .lshl)
  | .lshr => some (0, 1, .op2 .lshr)
  | .lushr => some (0, 1, .op2 .lushr)
  | _ => none
def aU (ins : Instr) : Option (Nat × (tM → tM)) := match ins with
  | .ineg => some (0, .op1 .ineg)
  | .lneg => some (1, .op1 .lneg)
  | .i2l => some (0, .op1 .i2l)
  | .l2i => some (1, .op1 .l2i)
  | .i2b => some (0, .op1 .i2b)
  | .i2s => some (0, .op1 .i2s)
  | .i2c => some (0, .op1 .i2c)
  | _ => none
def aK (ins : Instr) : Option tM := match ins with
  | .iconst n => some (.int (Int32.ofInt n))
  | .bipush n => some (.int (Int8.ofInt n).toInt32)
  | .sipush n => some (.int (Int16.ofInt n).toInt32)
  | .lconst n => some (.long (Int64.ofNat (n : Nat)))
  | .aconst_null => some .null
  | _ => none
def aDiv (ins : Instr) : Bool := match ins with
  | .idiv => true
  | .irem => true
  | _ => false
def a1 (t : tM) : Bool := !(Nat.beq (kT t) 1)
def aDx (ins : Instr) (st : List tM) : Option (List tM) := match ins with
  | .dup => (match st with
    | a :: r => if a1 a = true then some (a :: a :: r) else none
    | _ => none)
  | .dup_x1 => (match st with
    | a :: b :: r => if a1 a = true ∧ a1 b = true then some (a :: b :: a :: r) else none
    | _ => none)
  | .dup2 => (match st with
    | a :: b :: r => if a1 a = true ∧ a1 b = true then some (a :: b :: a :: b :: r) else none
    | _ => none)
  | .pop => (match st with
    | a :: r => if a1 a = true then some r else none
    | _ => none)
  | _ => none
def aPure (ins : Instr) (G : aG) (st : List tM) : Option (List tM) := match aK ins with
  | some t => some (t :: st)
  | none => (match aB ins with
    | some (ky, kx, b) => (match st with
      | y :: x :: r => if kT y = ky ∧ kT x = kx ∧ (aDiv ins = true → 0 < (aIv 6 G y).1 ∨ (aIv 6 G y).2 < 0) then some (aFo (b (aNm G x) (aNm G y)) :: r) else none
      | _ => none)
    | none => (match aU ins with
      | some (kx, u) => (match st with
        | x :: r => if kT x = kx then some (aFo (u (aNm G x)) :: r) else none
        | _ => none)
      | none => aDx ins st))
abbrev eS (ι : aIn) (st : List tM) : List Value := st.map (eT ι)
theorem a1_cat {ι : aIn} {t : tM} (h : a1 t = true) : (eT ι t).category = 1 := by
  rw [eT_cat, if_neg]
  intro e
  unfold a1 at h
  rw [e] at h
  cases h
theorem aDiv_ok {ι : aIn} {G : aG} (h : aOk ι G) {y : tM} (hy : 0 < (aIv 6 G y).1 ∨ (aIv 6 G y).2 < 0) : ¬ vI (eT ι y) = 0 := by
  intro e
  have h1 := aIv_ok h 6 y
  unfold aW aZ at h1
  rw [e] at h1
  have h2 : (0 : Int32).toInt = 0 := by decide
  rw [h2] at h1
  omega
theorem aK_ok (ι : aIn) {ins : Instr} {t : tM} (h : aK ins = some t) (r : List Value) : sPure ins r = some (eT ι t :: r) := by
  unfold aK at h
  split at h <;> cases h <;> rfl
theorem aDx_ok (ι : aIn) {ins : Instr} {st st1 : List tM} (h : aDx ins st = some st1) : sPure ins (eS ι st) = some (eS ι st1) := by
  unfold aDx at h
  split at h
  · split at h
    · split at h
      · rename_i ha
        cases h
        exact if_pos (a1_cat ha)
      · cases h
    · cases h
  · split at h
    · split at h
      · rename_i ha
        cases h
        exact if_pos ⟨a1_cat ha.1, a1_cat ha.2⟩
      · cases h
    · cases h
  · split at h
    · split at h
      · rename_i ha
        cases h
        exact if_pos ⟨a1_cat ha.1, a1_cat ha.2⟩
      · cases h
    · cases h
  · split at h
    · split at h
      · rename_i ha
        cases h
        exact if_pos (a1_cat ha)
      · cases h
    · cases h
  · cases h
theorem aB_nm {ins : Instr} {ky kx : Nat} {b : tM → tM → tM} (h : aB ins = some (ky, kx, b)) {ι : aIn} {G : aG} (hG : aOk ι G) (x y : tM) : eT ι (b (aNm G x) (aNm G y)) = eT ι (b x y) := by
  unfold aB at h
  split at h <;> cases h <;> simp only [eT, aNm_ok hG]
theorem aU_nm {ins : Instr} {kx : Nat} {u : tM → tM} (h : aU ins = some (kx, u)) {ι : aIn} {G : aG} (hG : aOk ι G) (x : tM) : eT ι (u (aNm G x)) = eT ι (u x) := by
  unfold aU at h
  split at h <;> cases h <;> simp only [eT, aNm_ok hG]
theorem aB_ok {ι : aIn} {ins : Instr} {ky kx : Nat} {b : tM → tM → tM} (h : aB ins = some (ky, kx, b)) {x y : tM} (hy : kT y = ky) (hx : kT x = kx) (hd : aDiv ins = true → ¬ vI (eT ι y) = 0) (r : List Value) : sPure ins (eT ι y :: eT ι x :: r) = some (eT ι (b x y) :: r) := by
  unfold aB at h
  split at h
  case h_20 => cases h
  case h_4 =>
    cases h
    rw [kT_0 hx, kT_0 hy]
    show (if vI (eT ι y) = 0 then none else some (Value.int (vI (eT ι x) / vI (eT ι y)))).map (fun v => v :: r) = _
    rw [if_neg (hd rfl)]
    rfl
  case h_5 =>
    cases h
    rw [kT_0 hx, kT_0 hy]
    show (if vI (eT ι y) = 0 then none else some (Value.int (vI (eT ι x) - vI (eT ι x) / vI (eT ι y) * vI (eT ι y)))).map (fun v => v :: r) = _
    rw [if_neg (hd rfl)]
    rfl
  all_goals
    cases h
    first
    | (rw [kT_0 hx, kT_0 hy]; rfl)
    | (rw [kT_1 hx, kT_1 hy]; rfl)
    | (rw [kT_1 hx, kT_0 hy]; rfl)
theorem aU_ok {ι : aIn} {ins : Instr} {kx : Nat} {u : tM → tM} (h : aU ins = some (kx, u)) {x : tM} (hx : kT x = kx) (r : List Value) : sPure ins (eT ι x :: r) = some (eT ι (u x) :: r) := by
  unfold aU at h
  split at h <;> cases h
  all_goals first | (rw [kT_0 hx]; rfl) | (rw [kT_1 hx]; rfl)
theorem aPure_ok {ι : aIn} {ins : Instr} {G : aG} {st st1 : List tM} (h : aPure ins G st = some st1) (hG : aOk ι G) : sPure ins (eS ι st) = some (eS ι st1) := by
  unfold aPure at h
  split at h
  · rename_i t ht
    cases h
    exact aK_ok ι ht _
  · split at h
    · rename_i ky kx b hb
      split at h
      · rename_i y x r
        split at h
        · rename_i hc
          cases h
          show sPure ins (eT ι y :: eT ι x :: eS ι r) = some (eT ι (aFo (b (aNm G x) (aNm G y))) :: eS ι r)
          rw [aFo_ok, aB_nm hb hG]
          exact aB_ok hb hc.1 hc.2.1 (fun hd => aDiv_ok hG (hc.2.2 hd)) _
        · cases h
      · cases h
    · split at h
      · rename_i kx u hu
        split at h
        · rename_i x r
          split at h
          · rename_i hc
            cases h
            show sPure ins (eT ι x :: eS ι r) = some (eT ι (aFo (u (aNm G x))) :: eS ι r)
            rw [aFo_ok, aU_nm hu hG]
            exact aU_ok hu hc _
          · cases h
        · cases h
      · exact aDx_ok ι h
/-! locals -/
abbrev aLo : Type := List (Option tM)
abbrev eL (ι : aIn) (L : aLo) : sLo := L.map (fun o => o.map (eT ι))
def aNth {α : Type} : List α → Nat → Option α
  | [], _ => none
  | a :: r, n => match n with
    | 0 => some a
    | m + 1 => aNth r m
theorem aNth_eq {α : Type} : ∀ (l : List α) (n : Nat), aNth l n = l[n]? := by
  intro l
  induction l with
  | nil => intro n; rfl
  | cons a r ih =>
    intro n
    cases n with
    | zero => rfl
    | succ m => exact ih m
theorem eL_at (ι : aIn) (L : aLo) (i : Nat) : (eL ι L)[i]? = (aNth L i).map (fun o => o.map (eT ι)) := by
  rw [aNth_eq]
  exact List.getElem?_map
def aLd (ins : Instr) : Option (Nat × Nat) := match ins with
  | .iload i => some (i, 0)
  | .iload_n i => some (i, 0)
  | .lload i => some (i, 1)
  | .lload_n i => some (i, 1)
  | .aload i => some (i, 2)
  | .aload_n i => some (i, 2)
  | _ => none
def aSto (ins : Instr) : Option (Nat × Nat) := match ins with
  | .istore i => some (i, 0)
  | .istore_n i => some (i, 0)
  | .lstore i => some (i, 1)
  | .lstore_n i => some (i, 1)
  | .astore i => some (i, 2)
  | .astore_n i => some (i, 2)
  | _ => none
def aIc (ins : Instr) : Option (Nat × Int) := match ins with
  | .iinc i n => some (i, n)
  | _ => none
def aIsL (o : Option (Option tM)) : Bool := match o with
  | some (some t) => Nat.beq (kT t) 1
  | _ => false
def aKill (L : aLo) (i : Nat) : aLo := match i with
  | 0 => L
  | j + 1 => bif aIsL (aNth L j) then L.set j none else L
def aPut (L : aLo) (i : Nat) (t : tM) : aLo := (aKill L i).set i (some t)
def aPutL (L : aLo) (i : Nat) (t : tM) : aLo := (aPut L i t).set (i + 1) none
theorem aIsL_ok (ι : aIn) (L : aLo) (j : Nat) : sIsL (eL ι L)[j]? = aIsL (aNth L j) := by
  rw [eL_at]
  cases h : aNth L j with
  | none => rfl
  | some o =>
    cases o with
    | none => rfl
    | some t =>
      show sIsL (some (some (eT ι t))) = Nat.beq (kT t) 1
      by_cases hk : kT t = 1
      · rw [kT_1 hk, hk]; rfl
      · cases he : eT ι t with
        | long x => exact absurd (kT_eT he) hk
        | _ =>
          symm
          show Nat.beq (kT t) 1 = false
          cases hb : Nat.beq (kT t) 1 with
          | false => rfl
          | true => exact absurd (Nat.eq_of_beq_eq_true hb) hk
theorem aKill_ok (ι : aIn) (L : aLo) (i : Nat) : eL ι (aKill L i) = sKill (eL ι L) i := by
  cases i with
  | zero => rfl
  | succ j =>
    show eL ι (bif aIsL (aNth L j) then L.set j none else L) = if sIsL (eL ι L)[j]? = true then (eL ι L).set j none else eL ι L
    rw [aIsL_ok]
    cases aIsL (aNth L j) with
    | false => rfl
    | true => exact List.map_set
theorem aPut_ok (ι : aIn) (L : aLo) (i : Nat) (t : tM) : eL ι (aPut L i t) = sPut (eL ι L) i (eT ι t) := by
  unfold aPut sPut
  rw [← aKill_ok]
  exact List.map_set
theorem aPutL_ok (ι : aIn) (L : aLo) (i : Nat) (t : tM) : eL ι (aPutL L i t) = sPutL (eL ι L) i (eT ι t) := by
  unfold aPutL sPutL
  rw [← aPut_ok]
  exact List.map_set
def aLdS (p : Nat × Nat) (L : aLo) (st : List tM) : Option (aLo × List tM) := match aNth L p.1 with
  | some (some t) => if kT t = p.2 then some (L, t :: st) else none
  | _ => none
def aStS (p : Nat × Nat) (L : aLo) (st : List tM) : Option (aLo × List tM) := match st with
  | t :: r => if kT t = p.2 then (if p.2 = 1 then (if p.1 + 1 < L.length then some (aPutL L p.1 t, r) else none) else (if p.1 < L.length then some (aPut L p.1 t, r) else none)) else none
  | _ => none
def aIcS (p : Nat × Int) (G : aG) (L : aLo) (st : List tM) : Option (aLo × List tM) := match aNth L p.1 with
  | some (some t) => if kT t = 0 then (match aFo (.add (aNm G t) (.int (Int32.ofInt p.2))) with
    | .int x => some (aPut L p.1 (.int x), st)
    | t1 => some (aPut L p.1 t1, st)) else none
  | _ => none
def aLoc (ins : Instr) (G : aG) (L : aLo) (st : List tM) : Option (aLo × List tM) := match aLd ins with
  | some p => aLdS p L st
  | none => (match aSto ins with
    | some p => aStS p L st
    | none => (match aIc ins with
      | some p => aIcS p G L st
      | none => none))
theorem aLd_ok {ι : aIn} {ins : Instr} {p : Nat × Nat} (hp : aLd ins = some p) {L L1 : aLo} {st st1 : List tM} (h : aLdS p L st = some (L1, st1)) : sLoc ins (eL ι L) (eS ι st) = some (eL ι L1, eS ι st1) := by
  unfold aLdS at h
  split at h
  · rename_i t ht
    split at h
    · rename_i hk
      cases h
      have hl : (eL ι L)[p.1]? = some (some (eT ι t)) := by rw [eL_at, ht]; rfl
      unfold aLd at hp
      split at hp <;> cases hp
      · show sLdI _ _ _ = _
        unfold sLdI
        dsimp only at hl hk
        show _ = some (_, eT ι t :: _)
        rw [hl, kT_0 hk]
        (try rfl)
      · show sLdI _ _ _ = _
        unfold sLdI
        dsimp only at hl hk
        show _ = some (_, eT ι t :: _)
        rw [hl, kT_0 hk]
        (try rfl)
      · show sLdL _ _ _ = _
        unfold sLdL
        dsimp only at hl hk
        show _ = some (_, eT ι t :: _)
        rw [hl, kT_1 hk]
        (try rfl)
      · show sLdL _ _ _ = _
        unfold sLdL
        dsimp only at hl hk
        show _ = some (_, eT ι t :: _)
        rw [hl, kT_1 hk]
        (try rfl)
      · show sLdA _ _ _ = _
        unfold sLdA
        dsimp only at hl hk
        rw [hl]
        rcases kT_2 (ι := ι) hk with ⟨k, rfl⟩ | rfl <;> rfl
      · show sLdA _ _ _ = _
        unfold sLdA
        dsimp only at hl hk
        rw [hl]
        rcases kT_2 (ι := ι) hk with ⟨k, rfl⟩ | rfl <;> rfl
    · cases h
  · cases h
theorem aSt_i {ι : aIn} {L L1 : aLo} {st st1 : List tM} {i : Nat} (h : aStS (i, 0) L st = some (L1, st1)) : sStI (eL ι L) i (eS ι st) = some (eL ι L1, eS ι st1) := by
  unfold aStS at h
  split at h
  · rename_i t r
    dsimp only at h
    split at h
    · rename_i hk
      rw [if_neg (by decide)] at h
      split at h
      · rename_i hl
        cases h
        show sStI _ _ (eT ι t :: eS ι st1) = _
        rw [aPut_ok, kT_0 hk]
        exact if_pos (by rw [List.length_map]; exact hl)
      · cases h
    · cases h
  · cases h
theorem aSt_l {ι : aIn} {L L1 : aLo} {st st1 : List tM} {i : Nat} (h : aStS (i, 1) L st = some (L1, st1)) : sStL (eL ι L) i (eS ι st) = some (eL ι L1, eS ι st1) := by
  unfold aStS at h
  split at h
  · rename_i t r
    dsimp only at h
    split at h
    · rename_i hk
      rw [if_pos rfl] at h
      split at h
      · rename_i hl
        cases h
        show sStL _ _ (eT ι t :: eS ι st1) = _
        rw [aPutL_ok, kT_1 hk]
        exact if_pos (by rw [List.length_map]; exact hl)
      · cases h
    · cases h
  · cases h
theorem aSt_a {ι : aIn} {L L1 : aLo} {st st1 : List tM} {i : Nat} (h : aStS (i, 2) L st = some (L1, st1)) : sStA (eL ι L) i (eS ι st) = some (eL ι L1, eS ι st1) := by
  unfold aStS at h
  split at h
  · rename_i t r
    dsimp only at h
    split at h
    · rename_i hk
      rw [if_neg (by decide)] at h
      split at h
      · rename_i hl
        cases h
        show sStA _ _ (eT ι t :: eS ι st1) = _
        rw [aPut_ok]
        rcases kT_2 (ι := ι) hk with ⟨k, rfl⟩ | rfl
        · exact if_pos (by rw [List.length_map]; exact hl)
        · exact if_pos (by rw [List.length_map]; exact hl)
      · cases h
    · cases h
  · cases h
theorem aLoc_ok {ι : aIn} {ins : Instr} {G : aG} {L L1 : aLo} {st st1 : List tM} (h : aLoc ins G L st = some (L1, st1)) (hG : aOk ι G) : sLoc ins (eL ι L) (eS ι st) = some (eL ι L1, eS ι st1) := by
  unfold aLoc at h
  split at h
  · rename_i p hp
    exact aLd_ok hp h
  · split at h
    · rename_i p hp
      unfold aSto at hp
      split at hp <;> cases hp
      · exact aSt_i h
      · exact aSt_i h
      · exact aSt_l h
      · exact aSt_l h
      · exact aSt_a h
      · exact aSt_a h
    · split at h
      · rename_i p hp
        unfold aIc at hp
        split at hp
        · rename_i i n _ _
          cases hp
          unfold aIcS at h
          split at h
          · rename_i t ht
            split at h
            · rename_i hk
              have h2 : L1 = aPut L i (aFo (.add (aNm G t) (.int (Int32.ofInt n)))) ∧ st1 = st := by
                split at h
                · rename_i x hx
                  cases h
                  exact ⟨by rw [hx], rfl⟩
                · cases h
                  exact ⟨rfl, rfl⟩
              obtain ⟨rfl, rfl⟩ := h2
              show sInc _ _ _ _ = _
              unfold sInc
              dsimp only at ht
              rw [eL_at, ht]
              show (match some (some (eT ι t)) with
                | some (some (.int x)) => some (sPut (eL ι L) i (.int (x + Int32.ofInt n)), eS ι st1)
                | _ => none) = _
              rw [aPut_ok, aFo_ok]
              show _ = some (sPut (eL ι L) i (.int (vI (eT ι (aNm G t)) + Int32.ofInt n)), _)
              rw [aNm_ok hG, kT_0 hk]
              rfl
            · cases h
          · cases h
        · cases hp
      · cases h
end
section
/-! ===== cells of terms ===== -/
theorem aBq (a b : Nat) : Nat.beq a b = decide (a = b) := by
  by_cases h : a = b
  · subst h; rw [Nat.beq_refl]; simp
  · rw [decide_eq_false h]
    cases hb : Nat.beq a b with
    | false => rfl
    | true => exact absurd (Nat.eq_of_beq_eq_true hb) h
theorem aBt {a b : Nat} (h : Nat.beq a b = true) : a = b := Nat.eq_of_beq_eq_true h
theorem aBl {a b : Nat} (h : Nat.blt a b = true) : a < b := Nat.le_of_ble_eq_true h
theorem aBf {α : Type} {c : Bool} {a : Option α} {x : α} (h : (bif c then a else none) = some x) : c = true ∧ a = some x := by
  cases c with
  | true => exact ⟨rfl, h⟩
  | false => cases h
theorem aBa {a b : Bool} (h : (a && b) = true) : a = true ∧ b = true := by
  cases a with
  | true => exact ⟨rfl, h⟩
  | false => cases h
def aGt {α : Type} (d : α) (i : Nat) : List (Nat × α) → α
  | [] => d
  | e :: r => bif Nat.beq e.1 i then e.2 else aGt d i r
def aPt {α : Type} (i : Nat) (v : α) : List (Nat × α) → List (Nat × α)
  | [] => [(i, v)]
  | e :: r => bif Nat.beq e.1 i then (i, v) :: r else e :: aPt i v r
theorem aPt_ok {α : Type} (d : α) (i j : Nat) (v : α) : ∀ l : List (Nat × α), aGt d j (aPt i v l) = if j = i then v else aGt d j l := by
  intro l
  induction l with
  | nil =>
    show (bif Nat.beq i j then v else d) = _
    rw [aBq]
    by_cases h : j = i
    · rw [if_pos h, decide_eq_true h.symm]; rfl
    · rw [if_neg h, decide_eq_false (fun e => h e.symm)]; rfl
  | cons e r ih =>
    show aGt d j (bif Nat.beq e.1 i then (i, v) :: r else e :: aPt i v r) = if j = i then v else (bif Nat.beq e.1 j then e.2 else aGt d j r)
    rw [aBq e.1 i]
    by_cases h1 : e.1 = i
    · rw [decide_eq_true h1]
      show (bif Nat.beq i j then v else aGt d j r) = _
      rw [aBq, aBq]
      by_cases h : j = i
      · rw [if_pos h, decide_eq_true h.symm]; rfl
      · rw [if_neg h, decide_eq_false (fun e => h e.symm), decide_eq_false (fun e' => h (by rw [← e', h1]))]; rfl
    · rw [decide_eq_false h1]
      show (bif Nat.beq e.1 j then e.2 else aGt d j (aPt i v r)) = _
      rw [ih, aBq]
      by_cases h : j = i
      · rw [if_pos h, if_pos h, decide_eq_false (fun e' => h1 (by rw [e', h]))]; rfl
      · rw [if_neg h, if_neg h]
theorem map_set_range {β : Type} (n j : Nat) (f g : Nat → β) (v : β) (hg : ∀ i, g i = if i = j then v else f i) : (List.range n).map g = ((List.range n).map f).set j v := by
  apply List.ext_getElem?
  intro i
  rw [List.getElem?_set]
  by_cases hi : i < n
  · rw [List.getElem?_map, List.getElem?_range hi, List.getElem?_map, List.getElem?_range hi, List.length_map, List.length_range]
    show some (g i) = if j = i then (if j < n then some v else none) else some (f i)
    rw [hg]
    by_cases h : i = j
    · rw [if_pos h, if_pos h.symm, if_pos (by omega)]
    · rw [if_neg h, if_neg (fun e => h e.symm)]
  · have e1 : ∀ q : Nat → β, ((List.range n).map q)[i]? = none := fun q => by rw [List.getElem?_eq_none]; rw [List.length_map, List.length_range]; omega
    rw [e1, e1, List.length_map, List.length_range]
    by_cases h : j = i
    · rw [if_pos h, if_neg (by omega)]
    · rw [if_neg h]
def aTd (ty : FieldType) : tM := match ty with
  | .int => .int 0
  | .long => .long 0
  | .boolean => .int 0
  | _ => .null
def aTo (ty : FieldType) : Bool := match ty with
  | .int => true
  | .long => true
  | .boolean => true
  | .object _ => true
  | .array _ => true
  | _ => false
theorem aTd_ok (ι : aIn) {ty : FieldType} (h : aTo ty = true) : eT ι (aTd ty) = defaultValue ty := by
  cases ty <;> first | rfl | cases h
def aAd (c : Nat) : tM := bif Nat.beq c 21 then .long 0 else (bif Nat.beq c 20 || Nat.beq c 22 then .int 0 else .null)
abbrev aC : Type := Nat × Nat × List (Nat × tM)
abbrev aHp : Type := Nat × List (Nat × List (Nat × aC))
/-- an object (under 20), an array (20 and its tag), or a cell of which nothing is known -/
def eC (ι : aIn) (c : aC) : va_E :=
  if c.1 < 20 then .inr (c.1, (List.range c.2.1).map (fun i => eT ι (aGt (aTd (sTy c.1 i)) i c.2.2)))
  else if c.1 = 20 ∨ c.1 = 22 then .inl (c.1 - 20, c.2.1, .inl (fun i => vI (eT ι (aGt (aAd c.1) i c.2.2))))
  else if c.1 = 21 then .inl (1, c.2.1, .inr (.inl (fun i => vL (eT ι (aGt (aAd c.1) i c.2.2)))))
  else if c.1 < 26 then .inl (c.1 - 20, c.2.1, .inr (.inr (.inr (.inr (fun i => vR (eT ι (aGt (aAd c.1) i c.2.2)))))))
  else ι.2.2 c.2.1
theorem eC_o (ι : aIn) {c : aC} (h : c.1 < 20) : eC ι c = .inr (c.1, (List.range c.2.1).map (fun i => eT ι (aGt (aTd (sTy c.1 i)) i c.2.2))) := if_pos h
theorem eC_i (ι : aIn) {c : aC} (h : c.1 = 20 ∨ c.1 = 22) : eC ι c = .inl (c.1 - 20, c.2.1, .inl (fun i => vI (eT ι (aGt (aAd c.1) i c.2.2)))) := by
  unfold eC
  rw [if_neg (by omega), if_pos h]
theorem eC_l (ι : aIn) {c : aC} (h : c.1 = 21) : eC ι c = .inl (1, c.2.1, .inr (.inl (fun i => vL (eT ι (aGt (aAd c.1) i c.2.2))))) := by
  unfold eC
  rw [if_neg (by omega), if_neg (by omega), if_pos h]
theorem eC_r (ι : aIn) {c : aC} (h : 23 ≤ c.1 ∧ c.1 ≤ 25) : eC ι c = .inl (c.1 - 20, c.2.1, .inr (.inr (.inr (.inr (fun i => vR (eT ι (aGt (aAd c.1) i c.2.2))))))) := by
  unfold eC
  rw [if_neg (by omega), if_neg (by omega), if_neg (by omega), if_pos (by omega)]
def aNo : aC := (30, 0, [])
def aCe (h : aHp) (a : Nat) : aC := aGt aNo a (aGt [] (a / 16) h.2)
def aTr (h : aHp) (a : Nat) (c : aC) : List (Nat × List (Nat × aC)) := aPt (a / 16) (aPt a c (aGt [] (a / 16) h.2)) h.2
def aSe (h : aHp) (a : Nat) (c : aC) : aHp := (h.1, aTr h a c)
def aApp (h : aHp) (c : aC) : aHp := aF h.1 (fun m => aF (m + 1) (fun m1 => (m1, aTr h m c)))
theorem aTr_ok (h : aHp) (a b : Nat) (c : aC) (n : Nat) : aCe (n, aTr h a c) b = if b = a then c else aCe h b := by
  unfold aCe aTr
  dsimp only
  rw [aPt_ok]
  by_cases h1 : b / 16 = a / 16
  · rw [if_pos h1, aPt_ok, h1]
  · rw [if_neg h1, if_neg (fun e => h1 (by rw [e]))]
theorem aApp_eq (h : aHp) (c : aC) : aApp h c = (h.1 + 1, aTr h h.1 c) := by unfold aApp; rw [aF_eq, aF_eq]
abbrev eH (ι : aIn) (h : aHp) : sHp := (List.range h.1).map (fun a => eC ι (aCe h a))
theorem eH_len (ι : aIn) (h : aHp) : (eH ι h).length = h.1 := by rw [List.length_map, List.length_range]
theorem eH_at (ι : aIn) {h : aHp} {a : Nat} (ha : a < h.1) : (eH ι h)[a]? = some (eC ι (aCe h a)) := by
  rw [List.getElem?_map, List.getElem?_range ha]; rfl
theorem eH_set (ι : aIn) (h : aHp) (a : Nat) (c : aC) : eH ι (aSe h a c) = (eH ι h).set a (eC ι c) := by
  refine map_set_range h.1 a _ _ _ (fun i => ?_)
  unfold aSe
  rw [aTr_ok]
  by_cases e : i = a
  · rw [if_pos e, if_pos e]
  · rw [if_neg e, if_neg e]
theorem eH_app (ι : aIn) (h : aHp) (c : aC) : eH ι (aApp h c) = eH ι h ++ [eC ι c] := by
  rw [aApp_eq]
  unfold eH
  dsimp only
  rw [List.range_succ, List.map_append]
  congr 1
  · refine List.map_congr_left (fun i hi => ?_)
    rw [aTr_ok, if_neg]
    have := List.mem_range.mp hi
    omega
  · simp only [List.map_cons, List.map_nil]
    rw [aTr_ok, if_pos rfl]
/-! fields -/
def aGetF (k : Nat) (st : List tM) (h : aHp) : Option (List tM × aHp) := match st with
  | t :: r => (match t with
    | .index a => (match aCe h a with
      | (c, n, l) => bif Nat.blt a h.1 && (Nat.blt c 20 && (Nat.beq (sGrp c) (k / 64) && Nat.blt (k % 64) n)) then some (aGt (aTd (sTy c (k % 64))) (k % 64) l :: r, h) else none)
    | _ => none)
  | _ => none
theorem aGetF_ok (ι : aIn) {k : Nat} {st st1 : List tM} {h h1 : aHp} (g : aGetF k st h = some (st1, h1)) : sGetF k (eS ι st) (eH ι h) = some (eS ι st1, eH ι h1) := by
  unfold aGetF at g
  split at g
  · rename_i t r
    split at g
    · rename_i a
      split at g
      rename_i c n l hc
      obtain ⟨b, g⟩ := aBf g
      cases g
      obtain ⟨b1, b⟩ := aBa b
      obtain ⟨b2, b⟩ := aBa b
      obtain ⟨b3, b4⟩ := aBa b
      show sGetF k (.ref a :: eS ι r) (eH ι h) = _
      unfold sGetF
      dsimp only
      rw [eH_at ι (aBl b1), hc, eC_o ι (aBl b2)]
      dsimp only
      rw [if_pos (aBt b3), List.getElem?_map, List.getElem?_range (aBl b4)]
      rfl
    · cases g
  · cases g
def aBo (G : aG) (v : tM) : Bool := Nat.beq (kT v) 0 && (match aIv 6 G v with
  | (lo, hi) => decide (0 ≤ lo) && decide (hi ≤ 1))
theorem aBo_ok {ι : aIn} {G : aG} {v : tM} (h : aBo G v = true) (hG : aOk ι G) : ∃ x : Int32, eT ι v = .int x ∧ (x = 0 ∨ x = 1) := by
  obtain ⟨h1, h2⟩ := aBa h
  have h0 := aIv_ok hG 6 v
  split at h2
  rename_i lo hi he
  rw [he] at h0
  obtain ⟨h2, h3⟩ := aBa h2
  have h2 := of_decide_eq_true h2
  have h3 := of_decide_eq_true h3
  refine ⟨vI (eT ι v), kT_0 (aBt h1), ?_⟩
  unfold aW aZ at h0
  dsimp only at h0
  have h4 : (vI (eT ι v)).toInt = 0 ∨ (vI (eT ι v)).toInt = 1 := by omega
  rcases h4 with h4 | h4
  · exact Or.inl (Int32.toInt_inj.mp h4)
  · exact Or.inr (Int32.toInt_inj.mp h4)
def aFit (G : aG) (ty : FieldType) (v : tM) : Bool := match ty with
  | .int => Nat.beq (kT v) 0
  | .long => Nat.beq (kT v) 1
  | .boolean => aBo G v
  | .object _ => Nat.beq (kT v) 2
  | .array _ => Nat.beq (kT v) 2
  | _ => false
theorem aFit_ok {ι : aIn} {G : aG} {ty : FieldType} {v : tM} (h : aFit G ty v = true) (hG : aOk ι G) : sFit ty (eT ι v) = true := by
  unfold aFit at h
  split at h
  · rw [kT_0 (aBt h)]; rfl
  · rw [kT_1 (aBt h)]; rfl
  · obtain ⟨x, hx, h2⟩ := aBo_ok h hG
    rw [hx]
    exact decide_eq_true h2
  · rcases kT_2 (ι := ι) (aBt h) with ⟨k, rfl⟩ | rfl <;> rfl
  · rcases kT_2 (ι := ι) (aBt h) with ⟨k, rfl⟩ | rfl <;> rfl
  · cases h
def aPutF (k : Nat) (G : aG) (st : List tM) (h : aHp) : Option (List tM × aHp) := match st with
  | v :: t :: r => (match t with
    | .index a => (match aCe h a with
      | (c, n, l) => bif Nat.blt a h.1 && (Nat.blt c 20 && (Nat.beq (sGrp c) (k / 64) && (Nat.blt (k % 64) n && aFit G (sTy c (k % 64)) v))) then some (r, aSe h a (c, n, aPt (k % 64) v l)) else none)
    | _ => none)
  | _ => none
theorem aPutF_ok {ι : aIn} {k : Nat} {G : aG} {st st1 : List tM} {h h1 : aHp} (g : aPutF k G st h = some (st1, h1)) (hG : aOk ι G) : sPutF k (eS ι st) (eH ι h) = some (eS ι st1, eH ι h1) := by
  unfold aPutF at g
  split at g
  · rename_i v t r
    split at g
    · rename_i a
      split at g
      rename_i c n l hc
      obtain ⟨b, g⟩ := aBf g
      cases g
      obtain ⟨b1, b⟩ := aBa b
      obtain ⟨b2, b⟩ := aBa b
      obtain ⟨b3, b⟩ := aBa b
      obtain ⟨b4, b5⟩ := aBa b
      show sPutF k (eT ι v :: .ref a :: eS ι st1) (eH ι h) = _
      unfold sPutF
      dsimp only
      rw [eH_at ι (aBl b1), hc, eC_o ι (aBl b2)]
      dsimp only
      rw [if_pos ⟨aBt b3, by rw [List.length_map, List.length_range]; exact aBl b4, aFit_ok b5 hG⟩, eH_set, eC_o ι (c := (c, n, aPt (k % 64) v l)) (aBl b2)]
      dsimp only
      rw [map_set_range n (k % 64) (fun i => eT ι (aGt (aTd (sTy c i)) i l)) (fun i => eT ι (aGt (aTd (sTy c i)) i (aPt (k % 64) v l))) (eT ι v) (fun i => by
        rw [aPt_ok]
        by_cases e : i = k % 64
        · rw [if_pos e, if_pos e]
        · rw [if_neg e, if_neg e])]
    · cases g
  · cases g
/-! arrays -/
def aNt (G : aG) (i : tM) : Option Nat := match aNm G i with
  | .int x => (match x.toInt with
    | .ofNat j => some j
    | _ => none)
  | _ => none
theorem aNt_ok {ι : aIn} {G : aG} {i : tM} {j : Nat} (h : aNt G i = some j) (hG : aOk ι G) : ∃ x : Int32, eT ι i = .int x ∧ x.toInt = (j : Int) ∧ ¬ x < 0 ∧ x.toNatClampNeg = j := by
  unfold aNt at h
  split at h
  · rename_i x hx
    split at h
    · rename_i j' hj
      cases h
      refine ⟨x, by rw [← aNm_ok hG, hx]; rfl, hj, ?_, ?_⟩
      · rw [Int32.lt_iff_toInt_lt, hj]
        show ¬ (_ < (0 : Int))
        exact Int.not_lt.mpr (Int.natCast_nonneg _)
      · show x.toInt.toNat = _
        rw [hj]
        rfl
    · cases h
  · cases h
def aTg (w c : Nat) : Bool := match w with
  | 0 => Nat.beq c 20
  | 1 => Nat.beq c 21
  | 2 => Nat.beq c 22
  | _ => Nat.ble 23 c && Nat.ble c 25
def aTk (w : Nat) : Nat := match w with
  | 0 => 0
  | 1 => 1
  | 2 => 0
  | _ => 2
def aLdW (w : Nat) (G : aG) (st : List tM) (h : aHp) : Option (List tM × aHp) := match st with
  | i :: t :: r => (match t with
    | .index a => (match aCe h a with
      | (c, n, l) => (match aNt G i with
        | some j => bif Nat.blt a h.1 && (aTg w c && (Nat.blt j n && Nat.beq (kT (aGt (aAd c) j l)) (aTk w))) then some (aGt (aAd c) j l :: r, h) else none
        | none => none))
    | _ => none)
  | _ => none
theorem aLdW_ok {ι : aIn} {w : Nat} {G : aG} {st st1 : List tM} {h h1 : aHp} (g : aLdW w G st h = some (st1, h1)) (hG : aOk ι G) :
    (w = 0 → sLdAI 0 (eS ι st) (eH ι h) = some (eS ι st1, eH ι h1)) ∧ (w = 1 → sLdAL (eS ι st) (eH ι h) = some (eS ι st1, eH ι h1)) ∧ (w = 2 → sLdAI 2 (eS ι st) (eH ι h) = some (eS ι st1, eH ι h1)) ∧ (w = 3 → sLdAA (eS ι st) (eH ι h) = some (eS ι st1, eH ι h1)) := by
  unfold aLdW at g
  split at g
  · rename_i i t r
    split at g
    · rename_i a
      split at g
      rename_i c n l hc
      split at g
      · rename_i j hj
        obtain ⟨b, g⟩ := aBf g
        cases g
        obtain ⟨b1, b⟩ := aBa b
        obtain ⟨b2, b⟩ := aBa b
        obtain ⟨b3, b4⟩ := aBa b
        obtain ⟨x, x1, -, x2, x3⟩ := aNt_ok hj hG
        have hjn := aBl b3
        have hx : ¬ (x < 0 ∨ n ≤ x.toNatClampNeg) := by rw [x3]; exact fun e => e.elim x2 (fun e => by omega)
        have hat := eH_at ι (aBl b1)
        rw [hc] at hat
        have hk := aBt b4
        refine ⟨fun e => ?_, fun e => ?_, fun e => ?_, fun e => ?_⟩
        · subst e
          have hc0 : c = 20 := aBt b2
          rw [eC_i ι (c := (c, n, l)) (Or.inl hc0)] at hat
          show sLdAI 0 (eT ι i :: .ref a :: eS ι r) (eH ι h) = some (eT ι (aGt (aAd c) j l) :: eS ι r, eH ι h)
          unfold sLdAI
          rw [x1]
          dsimp only
          rw [hat]
          dsimp only
          rw [if_pos ⟨by rw [hc0], hx⟩, x3, ← kT_0 hk]
        · subst e
          have hc0 : c = 21 := aBt b2
          rw [eC_l ι (c := (c, n, l)) hc0] at hat
          show sLdAL (eT ι i :: .ref a :: eS ι r) (eH ι h) = some (eT ι (aGt (aAd c) j l) :: eS ι r, eH ι h)
          unfold sLdAL
          rw [x1]
          dsimp only
          rw [hat]
          dsimp only
          rw [if_pos ⟨rfl, hx⟩, x3, ← kT_1 hk]
        · subst e
          have hc0 : c = 22 := aBt b2
          rw [eC_i ι (c := (c, n, l)) (Or.inr hc0)] at hat
          show sLdAI 2 (eT ι i :: .ref a :: eS ι r) (eH ι h) = some (eT ι (aGt (aAd c) j l) :: eS ι r, eH ι h)
          unfold sLdAI
          rw [x1]
          dsimp only
          rw [hat]
          dsimp only
          rw [if_pos ⟨by rw [hc0], hx⟩, x3, ← kT_0 hk]
        · subst e
          have hc0 : 23 ≤ c ∧ c ≤ 25 := ⟨Nat.le_of_ble_eq_true (aBa b2).1, Nat.le_of_ble_eq_true (aBa b2).2⟩
          rw [eC_r ι (c := (c, n, l)) hc0] at hat
          show sLdAA (eT ι i :: .ref a :: eS ι r) (eH ι h) = some (eT ι (aGt (aAd c) j l) :: eS ι r, eH ι h)
          unfold sLdAA
          rw [x1]
          dsimp only
          rw [hat]
          dsimp only
          rw [if_pos ⟨(show c - 20 = 3 ∨ c - 20 = 4 ∨ c - 20 = 5 by omega), hx⟩, x3]
          rcases kT_2 (ι := ι) hk with ⟨q, e⟩ | e <;> rw [e] <;> rfl
      · cases g
    · cases g
  · cases g
def aOb (t : Nat) (h : aHp) (q : Nat) : Bool := match aCe h q with
  | (c, _, _) => Nat.blt q h.1 && (Nat.blt c 20 && ((t == 3 && c == 7) || (t == 4 && (sGrp c == 2 && decide (c < 11)))))
theorem aOb_ok (ι : aIn) {t : Nat} {h : aHp} {q : Nat} (g : aOb t h q = true) : sIsObj t (eH ι h)[q]? = true := by
  unfold aOb at g
  split at g
  rename_i c n l hc
  obtain ⟨b1, g⟩ := aBa g
  obtain ⟨b2, g⟩ := aBa g
  rw [eH_at ι (aBl b1), hc, eC_o ι (c := (c, n, l)) (aBl b2)]
  exact g
def aStO (w c : Nat) (G : aG) (v : tM) (h : aHp) : Bool := match w with
  | 2 => aBo G v
  | 3 => (match v with
    | .index q => aOb (c - 20) h q
    | .null => Nat.ble c 24
    | _ => false)
  | _ => Nat.beq (kT v) (aTk w)
theorem aStO_3 {c : Nat} {G : aG} {v : tM} {h : aHp} (b : aStO 3 c G v h = true) : (∃ q, v = .index q ∧ aOb (c - 20) h q = true) ∨ (v = .null ∧ c ≤ 24) := by
  cases v with
  | index q => exact Or.inl ⟨q, rfl, b⟩
  | null => exact Or.inr ⟨rfl, Nat.le_of_ble_eq_true b⟩
  | _ => cases b
def aStW (w : Nat) (G : aG) (st : List tM) (h : aHp) : Option (List tM × aHp) := match st with
  | v :: i :: t :: r => (match t with
    | .index a => (match aCe h a with
      | (c, n, l) => (match aNt G i with
        | some j => bif Nat.blt a h.1 && (aTg w c && (Nat.blt j n && aStO w c G v h)) then some (r, aSe h a (c, n, aPt j v l)) else none
        | none => none))
    | _ => none)
  | _ => none
theorem eC_upI (ι : aIn) (c n : Nat) (hc : c = 20 ∨ c = 22) (l : List (Nat × tM)) (j : Nat) (v : tM) : eC ι (c, n, aPt j v l) = .inl (c - 20, n, .inl (upd (fun i => vI (eT ι (aGt (aAd c) i l))) j (vI (eT ι v)))) := by
  rw [eC_i ι (c := (c, n, aPt j v l)) hc]
  dsimp only
  congr 4
  funext i
  rw [aPt_ok]
  unfold upd
  by_cases e : i = j
  · rw [if_pos e, if_pos e]
  · rw [if_neg e, if_neg e]
theorem eC_upL (ι : aIn) (n : Nat) (l : List (Nat × tM)) (j : Nat) (v : tM) : eC ι (21, n, aPt j v l) = .inl (1, n, .inr (.inl (vp_updL (fun i => vL (eT ι (aGt (aAd 21) i l))) j (vL (eT ι v))))) := by
  rw [eC_l ι (c := (21, n, aPt j v l)) rfl]
  dsimp only
  congr 5
  funext i
  rw [aPt_ok]
  unfold vp_updL
  by_cases e : i = j
  · rw [if_pos e, if_pos e]
  · rw [if_neg e, if_neg e]
theorem eC_upR (ι : aIn) (c n : Nat) (hc : 23 ≤ c ∧ c ≤ 25) (l : List (Nat × tM)) (j : Nat) (v : tM) : eC ι (c, n, aPt j v l) = .inl (c - 20, n, .inr (.inr (.inr (.inr (va_up (fun i => vR (eT ι (aGt (aAd c) i l))) j (vR (eT ι v))))))) := by
  rw [eC_r ι (c := (c, n, aPt j v l)) hc]
  dsimp only
  congr 7
  funext i
  rw [aPt_ok]
  unfold va_up
  by_cases e : i = j
  · rw [if_pos e, if_pos e]
  · rw [if_neg e, if_neg e]
theorem aStW_ok {ι : aIn} {w : Nat} {G : aG} {st st1 : List tM} {h h1 : aHp} (g : aStW w G st h = some (st1, h1)) (hG : aOk ι G) :
    (w = 0 → sStAI (eS ι st) (eH ι h) = some (eS ι st1, eH ι h1)) ∧ (w = 1 → sStAL (eS ι st) (eH ι h) = some (eS ι st1, eH ι h1)) ∧ (w = 2 → sStAZ (eS ι st) (eH ι h) = some (eS ι st1, eH ι h1)) ∧ (w = 3 → sStAA (eS ι st) (eH ι h) = some (eS ι st1, eH ι h1)) := by
  unfold aStW at g
  split at g
  · rename_i v i t r
    split at g
    · rename_i a
      split at g
      rename_i c n l hc
      split at g
      · rename_i j hj
        obtain ⟨b, g⟩ := aBf g
        cases g
        obtain ⟨b1, b⟩ := aBa b
        obtain ⟨b2, b⟩ := aBa b
        obtain ⟨b3, b4⟩ := aBa b
        obtain ⟨x, x1, -, x2, x3⟩ := aNt_ok hj hG
        have hjn := aBl b3
        have hx : ¬ (x < 0 ∨ n ≤ x.toNatClampNeg) := by rw [x3]; exact fun e => e.elim x2 (fun e => by omega)
        have hat := eH_at ι (aBl b1)
        rw [hc] at hat
        refine ⟨fun e => ?_, fun e => ?_, fun e => ?_, fun e => ?_⟩
        · subst e
          have hc0 : c = 20 := aBt b2
          have hv : kT v = 0 := aBt b4
          rw [eC_i ι (c := (c, n, l)) (Or.inl hc0)] at hat
          show sStAI (eT ι v :: eT ι i :: .ref a :: eS ι st1) (eH ι h) = _
          unfold sStAI
          rw [x1, kT_0 hv]
          dsimp only
          rw [hat]
          dsimp only
          rw [if_pos ⟨by rw [hc0], hx⟩, x3, eH_set, eC_upI ι c n (Or.inl hc0)]
        · subst e
          have hc0 : c = 21 := aBt b2
          have hv : kT v = 1 := aBt b4
          subst hc0
          rw [eC_l ι (c := (21, n, l)) rfl] at hat
          show sStAL (eT ι v :: eT ι i :: .ref a :: eS ι st1) (eH ι h) = _
          unfold sStAL
          rw [x1, kT_1 hv]
          dsimp only
          rw [hat]
          dsimp only
          rw [if_pos ⟨rfl, hx⟩, x3, eH_set, eC_upL]
        · subst e
          have hc0 : c = 22 := aBt b2
          obtain ⟨y, y1, y2⟩ := aBo_ok b4 hG
          rw [eC_i ι (c := (c, n, l)) (Or.inr hc0)] at hat
          show sStAZ (eT ι v :: eT ι i :: .ref a :: eS ι st1) (eH ι h) = _
          unfold sStAZ
          rw [x1, y1]
          dsimp only
          rw [hat]
          dsimp only
          rw [if_pos ⟨by rw [hc0], y2, hx⟩, x3, eH_set, eC_upI ι c n (Or.inr hc0), y1]
          rfl
        · subst e
          have hc0 : 23 ≤ c ∧ c ≤ 25 := ⟨Nat.le_of_ble_eq_true (aBa b2).1, Nat.le_of_ble_eq_true (aBa b2).2⟩
          rw [eC_r ι (c := (c, n, l)) hc0] at hat
          show sStAA (eT ι v :: eT ι i :: .ref a :: eS ι st1) (eH ι h) = _
          rcases aStO_3 b4 with ⟨q, rfl, b5⟩ | ⟨rfl, hc1⟩
          · unfold sStAA
            rw [x1]
            show (match (eH ι h)[a]? with | some (.inl (t, n, .inr (.inr (.inr (.inr f))))) => _ | _ => none) = _
            rw [hat]
            dsimp only
            rw [if_pos ⟨aOb_ok ι b5, hx⟩, x3, eH_set, eC_upR ι c n hc0]
            rfl
          · unfold sStAA
            rw [x1]
            show (match (eH ι h)[a]? with | some (.inl (t, n, .inr (.inr (.inr (.inr f))))) => _ | _ => none) = _
            rw [hat]
            dsimp only
            rw [if_pos ⟨(show c - 20 = 3 ∨ c - 20 = 4 by omega), hx⟩, x3, eH_set, eC_upR ι c n hc0]
            rfl
      · cases g
    · cases g
  · cases g
def aLen (st : List tM) (h : aHp) : Option (List tM × aHp) := match st with
  | t :: r => (match t with
    | .index a => (match aCe h a with
      | (c, n, _) => bif Nat.blt a h.1 && (Nat.ble 20 c && Nat.ble c 25) then some (aCi (Int.ofNat n) :: r, h) else none)
    | _ => none)
  | _ => none
theorem aLen_ok (ι : aIn) {st st1 : List tM} {h h1 : aHp} (g : aLen st h = some (st1, h1)) : sALen (eS ι st) (eH ι h) = some (eS ι st1, eH ι h1) := by
  unfold aLen at g
  split at g
  · rename_i t r
    split at g
    · rename_i a
      split at g
      rename_i c n l hc
      obtain ⟨b, g⟩ := aBf g
      cases g
      obtain ⟨b1, b⟩ := aBa b
      obtain ⟨b2, b3⟩ := aBa b
      have h2 := Nat.le_of_ble_eq_true b2
      have h3 := Nat.le_of_ble_eq_true b3
      have hat := eH_at ι (aBl b1)
      rw [hc] at hat
      show sALen (.ref a :: eS ι r) (eH ι h) = some (eT ι (aCi (Int.ofNat n)) :: eS ι r, eH ι h)
      have en : eT ι (aCi (Int.ofNat n)) = .int (Int32.ofNat n) := by rw [aCi_ok]; congr 1
      unfold sALen
      dsimp only
      rw [en, hat]
      by_cases q1 : c = 20 ∨ c = 22
      · rw [eC_i ι (c := (c, n, l)) q1]
        exact if_pos (show c - 20 < 6 by omega)
      · by_cases q2 : c = 21
        · rw [eC_l ι (c := (c, n, l)) q2]
          exact if_pos (show 1 < 6 by omega)
        · rw [eC_r ι (c := (c, n, l)) (by dsimp only; omega)]
          exact if_pos (show c - 20 < 6 by omega)
    · cases g
  · cases g
/-! new cells -/
def aNk (k : Nat) : Bool := Nat.blt k 13 && (List.range (sNF k)).all (fun i => aTo (sTy k i))
def aNew (k : Nat) (st : List tM) (h : aHp) : Option (List tM × aHp) := bif aNk k then aF h.1 (fun m => aF (sNF k) (fun n => some (.index m :: st, aApp h (k, n, [])))) else none
theorem aNew_ok (ι : aIn) {k : Nat} {st st1 : List tM} {h h1 : aHp} (g : aNew k st h = some (st1, h1)) : sNew k (eS ι st) (eH ι h) = some (eS ι st1, eH ι h1) := by
  unfold aNew at g
  rw [aF_eq, aF_eq] at g
  obtain ⟨b, g⟩ := aBf g
  cases g
  obtain ⟨b1, b2⟩ := aBa b
  have hk := aBl b1
  unfold sNew
  rw [if_pos hk, eH_app, eH_len, eC_o ι (c := (k, sNF k, [])) (by dsimp only; omega)]
  have e : (List.range (sNF k)).map (fun i => eT ι (aGt (aTd (sTy k i)) i [])) = sDef k := by
    unfold sDef
    refine List.map_congr_left (fun i hi => ?_)
    exact aTd_ok ι (List.all_eq_true.mp b2 i hi)
  dsimp only
  rw [e]
  rfl
def aLn (G : aG) (t : tM) : Option Nat := match aNt G t with
  | some j => bif Nat.ble j 100000 then some j else none
  | none => none
theorem aLn_ok {ι : aIn} {G : aG} {t : tM} {j : Nat} (h : aLn G t = some j) (hG : aOk ι G) : ∃ x : Int32, eT ι t = .int x ∧ ¬ (x < 0 ∨ 100000 < x.toNatClampNeg) ∧ x.toNatClampNeg = j := by
  unfold aLn at h
  split at h
  · rename_i j' hj
    obtain ⟨b, h⟩ := aBf h
    cases h
    obtain ⟨x, x1, -, x2, x3⟩ := aNt_ok hj hG
    have hb := Nat.le_of_ble_eq_true b
    exact ⟨x, x1, by rw [x3]; exact fun e => e.elim x2 (fun e => by omega), x3⟩
  · cases h
def aTy (ty : ArrayType) : Nat := match ty with
  | .int => 20
  | .long => 21
  | .boolean => 22
  | _ => 30
def aNewA (ty : ArrayType) (G : aG) (st : List tM) (h : aHp) : Option (List tM × aHp) := match st with
  | t :: r => (match aLn G t with
    | some n => bif Nat.blt (aTy ty) 30 then aF h.1 (fun m => aF (aTy ty) (fun c => some (.index m :: r, aApp h (c, n, [])))) else none
    | none => none)
  | _ => none
theorem aNewA_ok {ι : aIn} {ty : ArrayType} {G : aG} {st st1 : List tM} {h h1 : aHp} (g : aNewA ty G st h = some (st1, h1)) (hG : aOk ι G) : sNewA ty (eS ι st) (eH ι h) = some (eS ι st1, eH ι h1) := by
  unfold aNewA at g
  split at g
  · rename_i t r
    split at g
    · rename_i n hn
      rw [aF_eq, aF_eq] at g
      obtain ⟨b, g⟩ := aBf g
      cases g
      have hb := aBl b
      obtain ⟨x, x1, x2, x3⟩ := aLn_ok hn hG
      show sNewA ty (eT ι t :: eS ι r) (eH ι h) = _
      unfold sNewA
      rw [x1]
      dsimp only
      rw [if_neg x2, eH_app, eH_len, x3]
      cases ty <;> first | rfl | exact absurd hb (by decide)
    · cases g
  · cases g
def aNewQ (k : Nat) (G : aG) (st : List tM) (h : aHp) : Option (List tM × aHp) := match st with
  | t :: r => (match aLn G t with
    | some n => bif Nat.beq k 3 || Nat.beq k 4 then aF h.1 (fun m => aF (20 + k) (fun c => some (.index m :: r, aApp h (c, n, [])))) else none
    | none => none)
  | _ => none
theorem aNewQ_ok {ι : aIn} {k : Nat} {G : aG} {st st1 : List tM} {h h1 : aHp} (g : aNewQ k G st h = some (st1, h1)) (hG : aOk ι G) : sNewQ k (eS ι st) (eH ι h) = some (eS ι st1, eH ι h1) := by
  unfold aNewQ at g
  split at g
  · rename_i t r
    split at g
    · rename_i n hn
      rw [aF_eq, aF_eq] at g
      obtain ⟨b, g⟩ := aBf g
      cases g
      have hk : k = 3 ∨ k = 4 := by
        rw [Bool.or_eq_true] at b
        exact b.imp aBt aBt
      obtain ⟨x, x1, x2, x3⟩ := aLn_ok hn hG
      show sNewQ k (eT ι t :: eS ι r) (eH ι h) = _
      unfold sNewQ
      rw [x1]
      dsimp only
      rw [if_neg (show ¬ (x < 0 ∨ 100000 < x.toNatClampNeg ∨ ¬ (k = 3 ∨ k = 4)) from fun e => e.elim (fun e => x2 (Or.inl e)) (fun e => e.elim (fun e => x2 (Or.inr e)) (fun e => e hk))), eH_app, eH_len, x3]
      rcases hk with rfl | rfl <;> rfl
    · cases g
  · cases g
def aNewM (G : aG) (st : List tM) (h : aHp) : Option (List tM × aHp) := match st with
  | t :: u :: r => (match aNt G u with
    | some n => (match aNt G t with
      | some k => bif Nat.beq n 5 && Nat.beq k 6 then aF h.1 (fun m => some (.index m :: r, aApp (aApp (aApp (aApp (aApp (aApp h (25, 5, [(0, .index (m + 1)), (1, .index (m + 2)), (2, .index (m + 3)), (3, .index (m + 4)), (4, .index (m + 5))])) (20, 6, [])) (20, 6, [])) (20, 6, [])) (20, 6, [])) (20, 6, []))) else none
      | none => none)
    | none => none)
  | _ => none
theorem aNewM_ok {ι : aIn} {G : aG} {st st1 : List tM} {h h1 : aHp} (g : aNewM G st h = some (st1, h1)) (hG : aOk ι G) : sNewM (eS ι st) (eH ι h) = some (eS ι st1, eH ι h1) := by
  unfold aNewM at g
  split at g
  · rename_i t u r
    split at g
    · rename_i n hn
      split at g
      · rename_i k hk
        rw [aF_eq] at g
        obtain ⟨b, g⟩ := aBf g
        cases g
        obtain ⟨b1, b2⟩ := aBa b
        cases aBt b1
        cases aBt b2
        obtain ⟨x, x1, x2, -, -⟩ := aNt_ok hn hG
        obtain ⟨y, y1, y2, -, -⟩ := aNt_ok hk hG
        have ex : x = 5 := Int32.toInt_inj.mp x2
        have ey : y = 6 := Int32.toInt_inj.mp y2
        show sNewM (eT ι t :: eT ι u :: eS ι r) (eH ι h) = _
        unfold sNewM
        rw [x1, y1]
        dsimp only
        rw [if_pos ⟨ex, ey⟩]
        rw [eH_app, eH_app, eH_app, eH_app, eH_app, eH_app, eH_len]
        simp only [List.append_assoc, List.cons_append, List.nil_append]
        have e1 : eC ι (25, 5, [(0, .index (h.1 + 1)), (1, .index (h.1 + 2)), (2, .index (h.1 + 3)), (3, .index (h.1 + 4)), (4, .index (h.1 + 5))]) = .inl (5, 5, .inr (.inr (.inr (.inr (fun j => if j < 5 then some (h.1 + 1 + j) else none))))) := by
          rw [eC_r ι (by dsimp only; omega)]
          dsimp only
          congr 7
          funext i
          match i with
          | 0 => rfl
          | 1 => rfl
          | 2 => rfl
          | 3 => rfl
          | 4 => rfl
          | i + 5 =>
            rw [if_neg (by omega)]
            rfl
        rw [e1]
        rfl
      · cases g
    · cases g
  · cases g
def aHeap (ins : Instr) (G : aG) (st : List tM) (h : aHp) : Option (List tM × aHp) := match ins with
  | .getfield k => aGetF k st h
  | .putfield k => aPutF k G st h
  | .iaload => aLdW 0 G st h
  | .baload => aLdW 2 G st h
  | .laload => aLdW 1 G st h
  | .aaload => aLdW 3 G st h
  | .iastore => aStW 0 G st h
  | .bastore => aStW 2 G st h
  | .lastore => aStW 1 G st h
  | .aastore => aStW 3 G st h
  | .arraylength => aLen st h
  | .new k => aNew k st h
  | .newarray ty => aNewA ty G st h
  | .anewarray k => aNewQ k G st h
  | .multianewarray _ _ => aNewM G st h
  | .ldc2_w k => some (.long (Int64.ofNat k) :: st, h)
  | .ldc k => bif Nat.blt k 4294967296 then some (.int (Int32.ofNat k) :: st, h) else none
  | .ldc_w k => some (.int (Int32.ofNat k) :: st, h)
  | _ => none
theorem aHeap_ok {ι : aIn} {ins : Instr} {G : aG} {st st1 : List tM} {h h1 : aHp} (g : aHeap ins G st h = some (st1, h1)) (hG : aOk ι G) : sHeap ins (eS ι st) (eH ι h) = some (eS ι st1, eH ι h1) := by
  unfold aHeap at g
  split at g
  · exact aGetF_ok ι g
  · exact aPutF_ok g hG
  · exact (aLdW_ok g hG).1 rfl
  · exact (aLdW_ok g hG).2.2.1 rfl
  · exact (aLdW_ok g hG).2.1 rfl
  · exact (aLdW_ok g hG).2.2.2 rfl
  · exact (aStW_ok g hG).1 rfl
  · exact (aStW_ok g hG).2.2.1 rfl
  · exact (aStW_ok g hG).2.1 rfl
  · exact (aStW_ok g hG).2.2.2 rfl
  · exact aLen_ok ι g
  · exact aNew_ok ι g
  · exact aNewA_ok g hG
  · exact aNewQ_ok g hG
  · exact aNewM_ok g hG
  · cases g; rfl
  · obtain ⟨b, g⟩ := aBf g
    cases g
    exact if_pos (aBl b)
  · cases g; rfl
  · cases g
end
section
/-! ===== forks: more bounds, of which one holds ===== -/
def aNw (G : aG) (a : tM) (c : Int) : Bool := decide (-2147483648 ≤ (aIv 6 G a).1 + c) && decide ((aIv 6 G a).2 + c ≤ 2147483647)
def aDlo (x c : Int) : Int := if 0 < x then x * c else x * c - (c - 1)
def aDhi (y c : Int) : Int := if 0 ≤ y then y * c + (c - 1) else y * c
theorem a_tdv {v x y c : Int} (h : 0 < c) (h1 : x ≤ v.tdiv c) (h2 : v.tdiv c ≤ y) : aDlo x c ≤ v ∧ v ≤ aDhi y c := by
  have e := Int.tdiv_mul_add_tmod v c
  have m1 := Int.tmod_lt_of_pos v h
  have m2 := Int.tmod_lt_of_pos (-v) h
  rw [Int.neg_tmod] at m2
  have p1 : 0 ≤ v → 0 ≤ v.tmod c ∧ 0 ≤ v.tdiv c := fun q => ⟨Int.tmod_nonneg _ q, Int.tdiv_nonneg q (by omega)⟩
  have p2 : v ≤ 0 → v.tmod c ≤ 0 ∧ v.tdiv c ≤ 0 := fun q => by
    have q1 := Int.tmod_nonneg c (a := -v) (by omega)
    have q2 : 0 ≤ (-v).tdiv c := Int.tdiv_nonneg (by omega) (by omega)
    rw [Int.neg_tmod] at q1
    rw [Int.neg_tdiv] at q2
    omega
  have k1 : x * c ≤ v.tdiv c * c := Int.mul_le_mul_of_nonneg_right h1 (by omega)
  have k2 : v.tdiv c * c ≤ y * c := Int.mul_le_mul_of_nonneg_right h2 (by omega)
  unfold aDlo aDhi
  generalize v.tdiv c = q at *
  generalize v.tmod c = r at *
  generalize q * c = z at *
  generalize x * c = z1 at *
  generalize y * c = z2 at *
  refine ⟨?_, ?_⟩
  · split
    · by_cases hv : 0 ≤ v
      · have := p1 hv; omega
      · have := p2 (by omega); omega
    · by_cases hv : 0 ≤ v
      · have := p1 hv; omega
      · have := p2 (by omega); omega
  · split
    · by_cases hv : 0 ≤ v
      · have := p1 hv; omega
      · have := p2 (by omega); omega
    · by_cases hv : 0 ≤ v
      · have := p1 hv; omega
      · have := p2 (by omega); omega
def aEn : Nat → aG → tM → Int → Int → aG
  | 0, G, _, _, _ => G
  | n + 1, G, t, lo, hi => aFc (max (aIv 6 G t).1 lo) (fun x => aFc (min (aIv 6 G t).2 hi) (fun y => match t with
    | .add a (.int c) => bif aNw G a c.toInt then aEn n ((t, x, y) :: G) a (x - c.toInt) (y - c.toInt) else (t, x, y) :: G
    | .sub a (.int c) => bif aNw G a (-c.toInt) then aEn n ((t, x, y) :: G) a (x + c.toInt) (y + c.toInt) else (t, x, y) :: G
    | .div a (.int c) => bif decide (0 < c.toInt) then aEn n ((t, x, y) :: G) a (aDlo x c.toInt) (aDhi y c.toInt) else (t, x, y) :: G
    | _ => (t, x, y) :: G))
theorem aOk_cons {ι : aIn} {G : aG} {t : tM} {x y : Int} (hG : aOk ι G) (h1 : x ≤ aZ ι t) (h2 : aZ ι t ≤ y) : aOk ι ((t, x, y) :: G) := by
  intro e he
  rcases List.mem_cons.mp he with rfl | he
  · exact ⟨h1, h2⟩
  · exact hG e he
theorem aEn_ok {ι : aIn} : ∀ (n : Nat) {G : aG} {t : tM} {lo hi : Int}, aOk ι G → lo ≤ aZ ι t → aZ ι t ≤ hi → aOk ι (aEn n G t lo hi) := by
  intro n
  induction n with
  | zero => intro G t lo hi hG _ _; exact hG
  | succ n ih =>
    intro G t lo hi hG h1 h2
    have h0 := aIv_ok hG 6 t
    unfold aW at h0
    unfold aEn
    rw [aFc_eq, aFc_eq]
    have h3 : max (aIv 6 G t).1 lo ≤ aZ ι t := by omega
    have h4 : aZ ι t ≤ min (aIv 6 G t).2 hi := by omega
    generalize max (aIv 6 G t).1 lo = x at *
    generalize min (aIv 6 G t).2 hi = y at *
    have hG1 := aOk_cons hG h3 h4
    split
    · rename_i a c
      cases hw : aNw G a c.toInt with
      | false => exact hG1
      | true =>
        obtain ⟨w1, w2⟩ := aBa hw
        have w1 := of_decide_eq_true w1
        have w2 := of_decide_eq_true w2
        have ha := aIv_ok hG 6 a
        have e : aZ ι (.add a (.int c)) = aZ ι a + c.toInt := by
          unfold aW at ha
          show (vI (eT ι a) + c).toInt = _
          unfold aZ at ha ⊢
          rw [Int32.toInt_add]
          exact Int.bmod_eq_of_le (by omega) (by omega)
        rw [e] at h3 h4
        exact ih hG1 (by omega) (by omega)
    · rename_i a c
      cases hw : aNw G a (-c.toInt) with
      | false => exact hG1
      | true =>
        obtain ⟨w1, w2⟩ := aBa hw
        have w1 := of_decide_eq_true w1
        have w2 := of_decide_eq_true w2
        have ha := aIv_ok hG 6 a
        have e : aZ ι (.sub a (.int c)) = aZ ι a - c.toInt := by
          unfold aW at ha
          show (vI (eT ι a) - c).toInt = _
          unfold aZ at ha ⊢
          rw [Int32.toInt_sub]
          exact Int.bmod_eq_of_le (by omega) (by omega)
        rw [e] at h3 h4
        exact ih hG1 (by omega) (by omega)
    · rename_i a c
      cases hw : decide (0 < c.toInt) with
      | false => exact hG1
      | true =>
        have hc := of_decide_eq_true hw
        have e : aZ ι (.div a (.int c)) = (aZ ι a).tdiv c.toInt := Int32.toInt_div_of_ne_right _ _ (fun z => by
          have z1 : c = -1 := z
          rw [z1] at hc
          exact absurd hc (by decide))
        rw [e] at h3 h4
        have hd := a_tdv hc h3 h4
        exact ih hG1 hd.1 hd.2
    · exact hG1
def aSp (G : aG) (t : tM) (zs : List (Int × Int)) : List aG := match aIv 6 G t with
  | (p, q) => (zs.filter (fun z => decide (max z.1 p ≤ min z.2 q))).map (fun z => aEn 3 G t z.1 z.2)
def aCv (G : aG) (t : tM) (zs : List (Int × Int)) : Prop := ∀ v : Int, (aIv 6 G t).1 ≤ v → v ≤ (aIv 6 G t).2 → ∃ z ∈ zs, z.1 ≤ v ∧ v ≤ z.2
theorem aSp_ok {ι : aIn} {G : aG} {t : tM} {zs : List (Int × Int)} (hc : aCv G t zs) (hG : aOk ι G) : ∃ G' ∈ aSp G t zs, aOk ι G' := by
  have h0 := aIv_ok hG 6 t
  unfold aW at h0
  obtain ⟨z, hz, h1, h2⟩ := hc (aZ ι t) h0.1 h0.2
  unfold aSp
  split
  rename_i p q he
  rw [he] at h0
  dsimp only at h0
  refine ⟨aEn 3 G t z.1 z.2, List.mem_map.mpr ⟨z, List.mem_filter.mpr ⟨hz, decide_eq_true (by omega)⟩, rfl⟩, aEn_ok 3 hG h1 h2⟩
def aVz (lo : Int) : Nat → List (Int × Int)
  | 0 => []
  | n + 1 => (lo, lo) :: aVz (lo + 1) n
theorem aVz_ok : ∀ (n : Nat) (lo v : Int), lo ≤ v → v < lo + n → ∃ z ∈ aVz lo n, z.1 ≤ v ∧ v ≤ z.2 := by
  intro n
  induction n with
  | zero => intro lo v h1 h2; omega
  | succ n ih =>
    intro lo v h1 h2
    by_cases h : v = lo
    · exact ⟨(lo, lo), List.mem_cons_self, by dsimp only; omega, by dsimp only; omega⟩
    · obtain ⟨z, hz, h3⟩ := ih (lo + 1) v (by omega) (by omega)
      exact ⟨z, List.mem_cons_of_mem _ hz, h3⟩
def aVals (G : aG) (t : tM) : List aG := match aIv 6 G t with
  | (p, q) => bif decide (q - p ≤ 200) then aSp G t (aVz p (q - p + 1).toNat) else []
/-- some of these holds, or there is none -/
def aFo2 (ι : aIn) (l : List aG) : Prop := l ≠ [] → ∃ G' ∈ l, aOk ι G'
theorem aVals_ok {ι : aIn} {G : aG} (t : tM) (hG : aOk ι G) : aFo2 ι (aVals G t) := by
  unfold aVals
  split
  rename_i p q he
  cases hd : decide (q - p ≤ 200) with
  | false => intro h; exact absurd rfl h
  | true =>
    intro _
    refine aSp_ok (fun v h1 h2 => ?_) hG
    rw [he] at h1 h2
    dsimp only at h1 h2
    exact aVz_ok _ _ _ h1 (by omega)
def aCt2 (G : aG) (t : tM) (c : Int) : List aG := aSp G t [((aIv 6 G t).1, c - 1), (c, (aIv 6 G t).2)]
def aCt3 (G : aG) (t : tM) (c : Int) : List aG := aSp G t [((aIv 6 G t).1, c - 1), (c, c), (c + 1, (aIv 6 G t).2)]
theorem aCt2_ok {ι : aIn} {G : aG} (t : tM) (c : Int) (hG : aOk ι G) : aFo2 ι (aCt2 G t c) := by
  intro _
  refine aSp_ok (fun v h1 h2 => ?_) hG
  by_cases h : v < c
  · exact ⟨_, List.mem_cons_self, h1, by dsimp only; omega⟩
  · exact ⟨_, List.mem_cons_of_mem _ List.mem_cons_self, by dsimp only; omega, h2⟩
theorem aCt3_ok {ι : aIn} {G : aG} (t : tM) (c : Int) (hG : aOk ι G) : aFo2 ι (aCt3 G t c) := by
  intro _
  refine aSp_ok (fun v h1 h2 => ?_) hG
  by_cases h : v < c
  · exact ⟨_, List.mem_cons_self, h1, by dsimp only; omega⟩
  · by_cases h3 : v = c
    · exact ⟨_, List.mem_cons_of_mem _ List.mem_cons_self, by dsimp only; omega, by dsimp only; omega⟩
    · exact ⟨_, List.mem_cons_of_mem _ (List.mem_cons_of_mem _ List.mem_cons_self), by dsimp only; omega, h2⟩
def aBr (c : Jvm.ClassFile.Cond) (G : aG) (t : tM) (v : Int) : List aG := match c with
  | .eq => aCt3 G t v
  | .ne => aCt3 G t v
  | .lt => aCt2 G t v
  | .ge => aCt2 G t v
  | .gt => aCt2 G t (v + 1)
  | .le => aCt2 G t (v + 1)
theorem aBr_ok {ι : aIn} {G : aG} (c : Jvm.ClassFile.Cond) (t : tM) (v : Int) (hG : aOk ι G) : aFo2 ι (aBr c G t v) := by
  unfold aBr
  cases c <;> first | exact aCt2_ok t _ hG | exact aCt3_ok t _ hG
def aFl (c : Jvm.ClassFile.Cond) : Jvm.ClassFile.Cond := match c with
  | .lt => .gt
  | .gt => .lt
  | .le => .ge
  | .ge => .le
  | c => c
def aFk2 (c : Jvm.ClassFile.Cond) (G : aG) (x y : tM) : List aG := match aNm G y with
  | .int v => aBr c G x v.toInt
  | _ => (match aNm G x with
    | .int v => aBr (aFl c) G y v.toInt
    | _ => (match aVals G y with
      | [] => aVals G x
      | l => l))
theorem aFk2_ok {ι : aIn} {G : aG} (c : Jvm.ClassFile.Cond) (x y : tM) (hG : aOk ι G) : aFo2 ι (aFk2 c G x y) := by
  unfold aFk2
  split
  · exact aBr_ok c x _ hG
  · split
    · exact aBr_ok _ y _ hG
    · split
      · exact aVals_ok x hG
      · exact aVals_ok y hG
def aSw (G : aG) (t : tM) (lo hi : Int) : List aG := bif decide (hi - lo ≤ 300) then aSp G t (((aIv 6 G t).1, lo - 1) :: (hi + 1, (aIv 6 G t).2) :: aVz lo (hi - lo + 1).toNat) else []
theorem aSw_ok {ι : aIn} {G : aG} (t : tM) (lo hi : Int) (hG : aOk ι G) : aFo2 ι (aSw G t lo hi) := by
  unfold aSw
  cases hd : decide (hi - lo ≤ 300) with
  | false => intro h; exact absurd rfl h
  | true =>
    intro _
    refine aSp_ok (fun v h1 h2 => ?_) hG
    by_cases h : v < lo
    · exact ⟨_, List.mem_cons_self, h1, by dsimp only; omega⟩
    · by_cases h3 : hi < v
      · exact ⟨_, List.mem_cons_of_mem _ List.mem_cons_self, by dsimp only; omega, h2⟩
      · obtain ⟨z, hz, h4⟩ := aVz_ok (hi - lo + 1).toNat lo v (by omega) (by omega)
        exact ⟨z, List.mem_cons_of_mem _ (List.mem_cons_of_mem _ hz), h4⟩
def aTp (st : List tM) (f : tM → List aG) : List aG := match st with
  | x :: _ => f x
  | _ => []
def aTp2 (st : List tM) (f : tM → tM → List aG) : List aG := match st with
  | y :: x :: _ => f x y
  | _ => []
theorem aTp_ok {ι : aIn} {st : List tM} {f : tM → List aG} (hf : ∀ x, aFo2 ι (f x)) : aFo2 ι (aTp st f) := by
  unfold aTp
  split
  · exact hf _
  · exact fun h => absurd rfl h
theorem aTp2_ok {ι : aIn} {st : List tM} {f : tM → tM → List aG} (hf : ∀ x y, aFo2 ι (f x y)) : aFo2 ι (aTp2 st f) := by
  unfold aTp2
  split
  · exact hf _ _
  · exact fun h => absurd rfl h
def aFrk (ins : Instr) (G : aG) (st : List tM) : List aG := match ins with
  | .if_icmp c _ => aTp2 st (fun x y => aFk2 c G x y)
  | .ifCond c _ => aTp st (fun x => aFk2 c G x (.int 0))
  | .tableswitch _ lo hi _ => aTp st (fun x => aSw G x lo hi)
  | .lookupswitch _ _ => aTp st (fun x => aVals G x)
  | .invokestatic k => bif Nat.beq k 1002 then aTp st (fun x => aFk2 .lt G x (.int 0)) else aTp2 st (fun x y => aFk2 .lt G x y)
  | .newarray _ => aTp st (fun x => aVals G x)
  | .anewarray _ => aTp st (fun x => aVals G x)
  | .iaload => aTp st (fun x => aVals G x)
  | .baload => aTp st (fun x => aVals G x)
  | .laload => aTp st (fun x => aVals G x)
  | .aaload => aTp st (fun x => aVals G x)
  | .iastore => aTp2 st (fun x _ => aVals G x)
  | .bastore => aTp2 st (fun x _ => aVals G x)
  | .lastore => aTp2 st (fun x _ => aVals G x)
  | .aastore => aTp2 st (fun x _ => aVals G x)
  | _ => []
theorem aFrk_ok {ι : aIn} {G : aG} (ins : Instr) (st : List tM) (hG : aOk ι G) : aFo2 ι (aFrk ins G st) := by
  unfold aFrk
  split
  · exact aTp2_ok fun x y => aFk2_ok _ x y hG
  · exact aTp_ok fun x => aFk2_ok _ x _ hG
  · exact aTp_ok fun x => aSw_ok x _ _ hG
  · exact aTp_ok fun x => aVals_ok x hG
  · rename_i k
    cases Nat.beq k 1002 with
    | true => exact aTp_ok fun x => aFk2_ok _ x _ hG
    | false => exact aTp2_ok fun x y => aFk2_ok _ x y hG
  · exact aTp_ok fun x => aVals_ok x hG
  · exact aTp_ok fun x => aVals_ok x hG
  · exact aTp_ok fun x => aVals_ok x hG
  · exact aTp_ok fun x => aVals_ok x hG
  · exact aTp_ok fun x => aVals_ok x hG
  · exact aTp_ok fun x => aVals_ok x hG
  · exact aTp2_ok fun x _ => aVals_ok x hG
  · exact aTp2_ok fun x _ => aVals_ok x hG
  · exact aTp2_ok fun x _ => aVals_ok x hG
  · exact aTp2_ok fun x _ => aVals_ok x hG
  · exact fun h => absurd rfl h
/-! comparisons, jumps -/
def aCr (c : Jvm.ClassFile.Cond) (o : Nat) : Bool := match c with
  | .eq => Nat.beq o 1
  | .ne => !(Nat.beq o 1)
  | .lt => Nat.beq o 0
  | .ge => !(Nat.beq o 0)
  | .gt => Nat.beq o 2
  | .le => !(Nat.beq o 2)
theorem aCr_lt (c : Jvm.ClassFile.Cond) {x y : Int32} (h : x.toInt < y.toInt) : sC2 c x y = aCr c 0 := by
  have e1 : ¬ x = y := fun e => by rw [e] at h; omega
  have e2 : x < y := Int32.lt_iff_toInt_lt.mpr h
  have e3 : ¬ y ≤ x := fun e => by have := Int32.le_iff_toInt_le.mp e; omega
  have e4 : ¬ y < x := fun e => by have := Int32.lt_iff_toInt_lt.mp e; omega
  have e5 : x ≤ y := Int32.le_iff_toInt_le.mpr (by omega)
  cases c <;> simp [sC2, aCr, aBq, e1, e2, e3, e4, e5]
theorem aCr_gt (c : Jvm.ClassFile.Cond) {x y : Int32} (h : y.toInt < x.toInt) : sC2 c x y = aCr c 2 := by
  have e1 : ¬ x = y := fun e => by rw [e] at h; omega
  have e2 : y < x := Int32.lt_iff_toInt_lt.mpr h
  have e3 : ¬ x ≤ y := fun e => by have := Int32.le_iff_toInt_le.mp e; omega
  have e4 : ¬ x < y := fun e => by have := Int32.lt_iff_toInt_lt.mp e; omega
  have e5 : y ≤ x := Int32.le_iff_toInt_le.mpr (by omega)
  cases c <;> simp [sC2, aCr, aBq, e1, e2, e3, e4, e5]
theorem aCr_eq (c : Jvm.ClassFile.Cond) {x y : Int32} (h : x.toInt = y.toInt) : sC2 c x y = aCr c 1 := by
  have e1 : x = y := Int32.toInt_inj.mp h
  have e2 : ¬ x < y := fun e => by have := Int32.lt_iff_toInt_lt.mp e; omega
  have e3 : y ≤ x := Int32.le_iff_toInt_le.mpr (by omega)
  subst e1
  cases c <;> simp [sC2, aCr, aBq, e2, e3]
def aC2 (c : Jvm.ClassFile.Cond) (G : aG) (x y : tM) : Option Bool := match aIv 6 G x with
  | (xl, xh) => (match aIv 6 G y with
    | (yl, yh) => bif decide (xh < yl) then some (aCr c 0) else (bif decide (yh < xl) then some (aCr c 2) else (bif (decide (xh ≤ yl) && decide (yh ≤ xl)) || tBq 24 x y then some (aCr c 1) else (bif decide (yh ≤ xl) then (match c with
      | .lt => some false
      | .ge => some true
      | _ => none) else (bif decide (xh ≤ yl) then (match c with
      | .gt => some false
      | .le => some true
      | _ => none) else none)))))
theorem aC2_ok {ι : aIn} {c : Jvm.ClassFile.Cond} {G : aG} {x y : tM} {b : Bool} (h : aC2 c G x y = some b) (hG : aOk ι G) : sC2 c (vI (eT ι x)) (vI (eT ι y)) = b := by
  have hx := aIv_ok hG 6 x
  have hy := aIv_ok hG 6 y
  unfold aC2 at h
  split at h
  rename_i xl xh ex
  split at h
  rename_i yl yh ey
  rw [ex] at hx
  rw [ey] at hy
  unfold aW aZ at hx hy
  dsimp only at hx hy
  cases h1 : decide (xh < yl) with
  | true =>
    rw [h1] at h
    cases h
    have h1 := of_decide_eq_true h1
    exact aCr_lt c (by omega)
  | false =>
    rw [h1] at h
    dsimp only [cond] at h
    cases h2 : decide (yh < xl) with
    | true =>
      rw [h2] at h
      cases h
      have h2 := of_decide_eq_true h2
      exact aCr_gt c (by omega)
    | false =>
      rw [h2] at h
      dsimp only [cond] at h
      cases h3 : ((decide (xh ≤ yl) && decide (yh ≤ xl)) || tBq 24 x y) with
      | true =>
        rw [h3] at h
        cases h
        refine aCr_eq c ?_
        rw [Bool.or_eq_true] at h3
        rcases h3 with h3 | h3
        · have h4 := of_decide_eq_true (aBa h3).1
          have h5 := of_decide_eq_true (aBa h3).2
          omega
        · rw [tBq_eq _ _ _ h3]
      | false =>
        rw [h3] at h
        dsimp only [cond] at h
        cases h4 : decide (yh ≤ xl) with
        | true =>
          rw [h4] at h
          dsimp only [cond] at h
          have h4 := of_decide_eq_true h4
          split at h
          · cases h
            exact decide_eq_false (fun e => by have := Int32.lt_iff_toInt_lt.mp e; omega)
          · cases h
            exact decide_eq_true (Int32.le_iff_toInt_le.mpr (by omega))
          · cases h
        | false =>
          rw [h4] at h
          dsimp only [cond] at h
          cases h5 : decide (xh ≤ yl) with
          | true =>
            rw [h5] at h
            dsimp only [cond] at h
            have h5 := of_decide_eq_true h5
            split at h
            · cases h
              exact decide_eq_false (fun e => by have := Int32.lt_iff_toInt_lt.mp e; omega)
            · cases h
              exact decide_eq_true (Int32.le_iff_toInt_le.mpr (by omega))
            · cases h
          | false =>
            rw [h5] at h
            cases h
def aC3 (c : Jvm.ClassFile.Cond) (G : aG) (x y : tM) : Option Bool := match aC2 c G x y with
  | some b => some b
  | none => aC2 c G (aDp 12 G x) (aDp 12 G y)
theorem aC3_ok {ι : aIn} {c : Jvm.ClassFile.Cond} {G : aG} {x y : tM} {b : Bool} (h : aC3 c G x y = some b) (hG : aOk ι G) : sC2 c (vI (eT ι x)) (vI (eT ι y)) = b := by
  unfold aC3 at h
  split at h
  · rename_i hb
    cases h
    exact aC2_ok hb hG
  · have h1 := aC2_ok h hG
    rw [aDp_ok hG, aDp_ok hG] at h1
    exact h1
def aIf (pc : Nat) (off : Int) (b : Bool) (r : List tM) : Option (Nat × List tM) := match sTgt pc off with
  | some t => some (bif b then t else pc + 3, r)
  | none => none
theorem aIf_ok (ι : aIn) {pc p1 : Nat} {off : Int} {b : Bool} {r st1 : List tM} (h : aIf pc off b r = some (p1, st1)) : sIf pc off b (eS ι r) = some (p1, eS ι st1) := by
  unfold aIf at h
  unfold sIf
  split at h
  · rename_i t ht
    cases h
    rw [ht]
  · cases h
def aJmp (ins : Instr) (pc : Nat) (G : aG) (st : List tM) : Option (Nat × List tM) := match ins with
  | .goto off => (match sTgt pc off with
    | some t => some (t, st)
    | none => none)
  | .if_icmp c off => (match st with
    | y :: x :: r => bif Nat.beq (kT y) 0 && Nat.beq (kT x) 0 then (match aC3 c G x y with
      | some b => aIf pc off b r
      | none => none) else none
    | _ => none)
  | .ifCond c off => (match st with
    | x :: r => bif Nat.beq (kT x) 0 then (match aC3 c G x (.int 0) with
      | some b => aIf pc off b r
      | none => none) else none
    | _ => none)
  | .ifnull off => (match st with
    | t :: r => (match t with
      | .null => aIf pc off true r
      | .index _ => aIf pc off false r
      | _ => none)
    | _ => none)
  | .ifnonnull off => (match st with
    | t :: r => (match t with
      | .null => aIf pc off false r
      | .index _ => aIf pc off true r
      | _ => none)
    | _ => none)
  | .tableswitch dflt lo hi offs => (match st with
    | t :: r => (match aNm G t with
      | .int x => if x.toInt < lo ∨ hi < x.toInt then (match sTgt pc dflt with
        | some t => some (t, r)
        | none => none) else (match offs[(x.toInt - lo).toNat]? with
        | some off => (match sTgt pc off with
          | some t => some (t, r)
          | none => none)
        | none => none)
      | _ => bif Nat.beq (kT t) 0 && (decide ((aIv 6 G t).2 < lo) || decide (hi < (aIv 6 G t).1)) then (match sTgt pc dflt with
        | some t => some (t, r)
        | none => none) else none)
    | _ => none)
  | .lookupswitch dflt ps => (match st with
    | t :: r => (match aNm G t with
      | .int x => (match sTgt pc (Op.lookupswitch.offset ps.toList dflt x.toInt) with
        | some t => some (t, r)
        | none => none)
      | _ => none)
    | _ => none)
  | _ => none
theorem aJmp_ok {ι : aIn} {ins : Instr} {pc p1 : Nat} {G : aG} {st st1 : List tM} (h : aJmp ins pc G st = some (p1, st1)) (hG : aOk ι G) : sJmp ins pc (eS ι st) = some (p1, eS ι st1) := by
  unfold aJmp at h
  split at h
  · split at h
    · rename_i t ht
      cases h
      show (sTgt pc _).map _ = _
      rw [ht]; rfl
    · cases h
  · split at h
    · rename_i c off _ y x r
      obtain ⟨b, h⟩ := aBf h
      obtain ⟨b1, b2⟩ := aBa b
      split at h
      · rename_i b3 h3
        have h4 := aC3_ok h3 hG
        show sJmp (.if_icmp c off) pc (eT ι y :: eT ι x :: eS ι r) = _
        rw [kT_0 (aBt b1), kT_0 (aBt b2)]
        show sIf pc off (sC2 c (vI (eT ι x)) (vI (eT ι y))) (eS ι r) = _
        rw [h4]
        exact aIf_ok ι h
      · cases h
    · cases h
  · split at h
    · rename_i c off _ x r
      obtain ⟨b1, h⟩ := aBf h
      split at h
      · rename_i b3 h3
        have h4 := aC3_ok h3 hG
        show sJmp (.ifCond c off) pc (eT ι x :: eS ι r) = _
        rw [kT_0 (aBt b1)]
        show sIf pc off (sC2 c (vI (eT ι x)) 0) (eS ι r) = _
        rw [show (0 : Int32) = vI (eT ι (.int 0)) from rfl, h4]
        exact aIf_ok ι h
      · cases h
    · cases h
  · split at h
    · split at h
      · exact aIf_ok ι h
      · exact aIf_ok ι h
      · cases h
    · cases h
  · split at h
    · split at h
      · exact aIf_ok ι h
      · exact aIf_ok ι h
      · cases h
    · cases h
  · split at h
    · rename_i dflt lo hi offs _ t r
      split at h
      · rename_i x hx
        have e : eT ι t = .int x := by rw [← aNm_ok hG, hx]; rfl
        show sJmp (.tableswitch dflt lo hi offs) pc (eT ι t :: eS ι r) = _
        rw [e]
        show (if x.toInt < lo ∨ hi < x.toInt then (sTgt pc dflt).map (fun t => (t, eS ι r)) else (match offs[(x.toInt - lo).toNat]? with
          | some off => (sTgt pc off).map (fun t => (t, eS ι r))
          | none => none)) = _
        split at h
        · rename_i hc
          rw [if_pos hc]
          split at h
          · rename_i t ht
            cases h
            rw [ht]; rfl
          · cases h
        · rename_i hc
          rw [if_neg hc]
          split at h
          · rename_i off ho
            (try rw [ho])
            (try dsimp only)
            split at h
            · rename_i t ht
              cases h
              rw [ht]; rfl
            · cases h
          · cases h
      · obtain ⟨b, h⟩ := aBf h
        obtain ⟨b1, b2⟩ := aBa b
        have h0 := aIv_ok hG 6 t
        unfold aW aZ at h0
        have hc : (vI (eT ι t)).toInt < lo ∨ hi < (vI (eT ι t)).toInt := by
          rw [Bool.or_eq_true] at b2
          rcases b2 with b2 | b2
          · have b3 := of_decide_eq_true b2
            omega
          · have b3 := of_decide_eq_true b2
            omega
        show sJmp (.tableswitch dflt lo hi offs) pc (eT ι t :: eS ι r) = _
        rw [kT_0 (aBt b1)]
        show (if (vI (eT ι t)).toInt < lo ∨ hi < (vI (eT ι t)).toInt then (sTgt pc dflt).map (fun t => (t, eS ι r)) else _) = _
        rw [if_pos hc]
        split at h
        · rename_i t ht
          cases h
          rw [ht]; rfl
        · cases h
    · cases h
  · split at h
    · rename_i dflt ps _ t r
      split at h
      · rename_i x hx
        have e : eT ι t = .int x := by rw [← aNm_ok hG, hx]; rfl
        show sJmp (.lookupswitch dflt ps) pc (eT ι t :: eS ι r) = _
        rw [e]
        show (sTgt pc (Op.lookupswitch.offset ps.toList dflt x.toInt)).map (fun t => (t, eS ι r)) = _
        split at h
        · rename_i t ht
          cases h
          rw [ht]; rfl
        · cases h
      · cases h
    · cases h
  · cases h
/-! ends, calls -/
def aRet (rt : Option FieldType) (ins : Instr) (G : aG) (st : List tM) : Option (Option tM) := match ins with
  | .ireturn => (match st with
    | [t] => (match rt with
      | some .int => bif Nat.beq (kT t) 0 then some (some t) else none
      | some .boolean => bif aBo G t then some (some t) else none
      | _ => none)
    | _ => none)
  | .lreturn => (match st with
    | [t] => (match rt with
      | some .long => bif Nat.beq (kT t) 1 then some (some t) else none
      | _ => none)
    | _ => none)
  | .areturn => (match st with
    | [t] => (match rt with
      | some (.object _) => bif Nat.beq (kT t) 2 then some (some t) else none
      | _ => none)
    | _ => none)
  | .return_ => (match st with
    | [] => (match rt with
      | none => some none
      | _ => none)
    | _ => none)
  | _ => none
theorem aRet_ok {ι : aIn} {rt : Option FieldType} {ins : Instr} {G : aG} {st : List tM} {v : Option tM} (h : aRet rt ins G st = some v) (hG : aOk ι G) : sRet rt ins (eS ι st) = some (v.map (eT ι)) := by
  unfold aRet at h
  split at h
  · split at h
    · rename_i t
      split at h
      · obtain ⟨b, h⟩ := aBf h
        cases h
        show sRet (some .int) .ireturn [eT ι t] = some (some (eT ι t))
        rw [kT_0 (aBt b)]
        exact if_pos rfl
      · obtain ⟨b, h⟩ := aBf h
        cases h
        obtain ⟨x, hx, h0⟩ := aBo_ok b hG
        show sRet (some .boolean) .ireturn [eT ι t] = some (some (eT ι t))
        rw [hx]
        rcases h0 with rfl | rfl
        · exact if_pos (c := narrow .boolean (.int 0) = .int 0) (e := none) rfl
        · exact if_pos (c := narrow .boolean (.int 1) = .int 1) (e := none) rfl
      · cases h
    · cases h
  · split at h
    · rename_i t
      split at h
      · obtain ⟨b, h⟩ := aBf h
        cases h
        show sRet (some .long) .lreturn [eT ι t] = some (some (eT ι t))
        rw [kT_1 (aBt b)]
        rfl
      · cases h
    · cases h
  · split at h
    · rename_i t
      split at h
      · obtain ⟨b, h⟩ := aBf h
        cases h
        rcases kT_2 (ι := ι) (aBt b) with ⟨k, rfl⟩ | rfl <;> rfl
      · cases h
    · cases h
  · split at h
    · split at h
      · cases h; rfl
      · cases h
    · cases h
  · cases h
def aCt : List tM → Nat
  | [] => 0
  | t :: r => (bif Nat.beq (kT t) 1 then 2 else 1) + aCt r
theorem aCt_ok (ι : aIn) : ∀ st : List tM, ((eS ι st).map (fun v => v.category)).sum = aCt st := by
  intro st
  induction st with
  | nil => rfl
  | cons t r ih =>
    show (eT ι t).category + ((eS ι r).map (fun v => v.category)).sum = (bif Nat.beq (kT t) 1 then 2 else 1) + aCt r
    rw [ih, eT_cat, aBq]
    by_cases h : kT t = 1
    · rw [if_pos h, decide_eq_true h]; rfl
    · rw [if_neg h, decide_eq_false h]; rfl
theorem a_mx1 {a b : Int32} (h : a.toInt ≤ b.toInt) : (if a < b then b else a) = b := by
  by_cases q : a < b
  · rw [if_pos q]
  · rw [if_neg q]
    have q2 : ¬ a.toInt < b.toInt := fun e => q (Int32.lt_iff_toInt_lt.mpr e)
    exact Int32.toInt_inj.mp (by omega)
theorem a_mx2 {a b : Int32} (h : b.toInt ≤ a.toInt) : (if a < b then b else a) = a :=
  if_neg (fun e => by have := Int32.lt_iff_toInt_lt.mp e; omega)
theorem a_mn1 {a b : Int32} (h : a.toInt ≤ b.toInt) : (if b < a then b else a) = a :=
  if_neg (fun e => by have := Int32.lt_iff_toInt_lt.mp e; omega)
theorem a_mn2 {a b : Int32} (h : b.toInt ≤ a.toInt) : (if b < a then b else a) = b := by
  by_cases q : b < a
  · rw [if_pos q]
  · rw [if_neg q]
    have q2 : ¬ b.toInt < a.toInt := fun e => q (Int32.lt_iff_toInt_lt.mpr e)
    exact Int32.toInt_inj.mp (by omega)
def aMm (k : Nat) (p q : Int × Int) (x y : tM) : Option tM :=
  bif Nat.beq k 1000 then (bif decide (p.2 ≤ q.1) then some y else (bif decide (q.2 ≤ p.1) then some x else none))
  else (bif Nat.beq k 1001 then (bif decide (p.2 ≤ q.1) then some x else (bif decide (q.2 ≤ p.1) then some y else none)) else none)
theorem aBi {α : Type} {c : Bool} {a b : Option α} {x : α} (h : (bif c then a else b) = some x) : (c = true ∧ a = some x) ∨ (c = false ∧ b = some x) := by
  cases c with
  | true => exact Or.inl ⟨rfl, h⟩
  | false => exact Or.inr ⟨rfl, h⟩
theorem aMm_ok {ι : aIn} {k : Nat} {p q : Int × Int} {x y t : tM} (h : aMm k p q x y = some t) (kx : kT x = 0) (ky : kT y = 0) (hx : aW (aZ ι x) p) (hy : aW (aZ ι y) q) (r : List Value) : sSpec (.invokestatic k) (eT ι y :: eT ι x :: r) = some (eT ι t :: r) := by
  have ex := kT_0 (ι := ι) kx
  have ey := kT_0 (ι := ι) ky
  unfold aW aZ at hx hy
  generalize vI (eT ι x) = a at *
  generalize vI (eT ι y) = b at *
  unfold aMm at h
  rcases aBi h with ⟨k0, g⟩ | ⟨-, g⟩
  · clear h
    cases aBt k0
    show s2i (fun x y => some (.int (if x < y then y else x))) (eT ι y :: eT ι x :: r) = _
    rw [ex, ey]
    show some (Value.int (if a < b then b else a) :: r) = _
    rcases aBi g with ⟨h1, g1⟩ | ⟨-, g1⟩
    · cases g1
      have h1 := of_decide_eq_true h1
      rw [a_mx1 (by omega), ey]
    · obtain ⟨h1, g2⟩ := aBf g1
      cases g2
      have h1 := of_decide_eq_true h1
      rw [a_mx2 (by omega), ex]
  · obtain ⟨k1, g3⟩ := aBf g
    clear h g
    have g := g3
    clear g3
    cases aBt k1
    show s2i (fun x y => some (.int (if y < x then y else x))) (eT ι y :: eT ι x :: r) = _
    rw [ex, ey]
    show some (Value.int (if b < a then b else a) :: r) = _
    rcases aBi g with ⟨h1, g1⟩ | ⟨-, g1⟩
    · cases g1
      have h1 := of_decide_eq_true h1
      rw [a_mn1 (by omega), ex]
    · obtain ⟨h1, g2⟩ := aBf g1
      cases g2
      have h1 := of_decide_eq_true h1
      rw [a_mn2 (by omega), ey]
def aAb (p : Int × Int) (G : aG) (x : tM) : Option tM := bif decide (0 ≤ p.1) then some x else (bif decide (p.2 < 0) then some (aFo (.sub (.int 0) (aNm G x))) else none)
theorem aAb_ok {ι : aIn} {p : Int × Int} {G : aG} {x t : tM} (h : aAb p G x = some t) (hG : aOk ι G) (kx : kT x = 0) (hx : aW (aZ ι x) p) (r : List Value) : sSpec (.invokestatic 1002) (eT ι x :: r) = some (eT ι t :: r) := by
  have ex := kT_0 (ι := ι) kx
  have e0 : (0 : Int32).toInt = 0 := by decide
  unfold aW aZ at hx
  show (s1i (fun x => .int (if 0 ≤ x then x else 0 - x)) (eT ι x :: r)) = _
  rw [ex]
  show some (Value.int (if 0 ≤ vI (eT ι x) then vI (eT ι x) else 0 - vI (eT ι x)) :: r) = _
  unfold aAb at h
  rcases aBi h with ⟨h1, g⟩ | ⟨-, g⟩
  · cases g
    have h1 := of_decide_eq_true h1
    rw [if_pos (Int32.le_iff_toInt_le.mpr (by rw [e0]; omega)), ← ex]
  · obtain ⟨h1, g1⟩ := aBf g
    cases g1
    have h1 := of_decide_eq_true h1
    rw [if_neg (fun e => by have := Int32.le_iff_toInt_le.mp e; rw [e0] at this; omega), aFo_ok]
    show _ = some (Value.int (0 - vI (eT ι (aNm G x))) :: r)
    rw [aNm_ok hG]
def aSpec (ins : Instr) (G : aG) (st : List tM) : Option (List tM) := match ins with
  | .invokestatic k => bif Nat.beq k 1002 then (match st with
      | x :: r => bif Nat.beq (kT x) 0 then (match aAb (aIv 6 G x) G x with
        | some t => some (t :: r)
        | none => none) else none
      | _ => none)
    else (match st with
      | y :: x :: r => bif Nat.beq (kT y) 0 && Nat.beq (kT x) 0 then (match aMm k (aIv 6 G x) (aIv 6 G y) x y with
        | some t => some (t :: r)
        | none => none) else none
      | _ => none)
  | .invokespecial k => bif Nat.beq k 2000 then (match st with
    | t :: r => (match t with
      | .index _ => some r
      | _ => none)
    | _ => none) else none
  | _ => none
theorem aSpec_ok {ι : aIn} {ins : Instr} {G : aG} {st st1 : List tM} (h : aSpec ins G st = some st1) (hG : aOk ι G) : sSpec ins (eS ι st) = some (eS ι st1) := by
  unfold aSpec at h
  split at h
  · rename_i k
    rcases aBi h with ⟨hk, g⟩ | ⟨-, g⟩
    · clear h
      cases aBt hk
      split at g
      · rename_i x r
        obtain ⟨b, g1⟩ := aBf g
        split at g1
        · rename_i t ht
          cases g1
          exact aAb_ok ht hG (aBt b) (aIv_ok hG 6 x) (eS ι r)
        · cases g1
      · cases g
    · clear h
      split at g
      · rename_i y x r
        obtain ⟨b, g1⟩ := aBf g
        obtain ⟨b1, b2⟩ := aBa b
        split at g1
        · rename_i t ht
          cases g1
          exact aMm_ok ht (aBt b2) (aBt b1) (aIv_ok hG 6 x) (aIv_ok hG 6 y) (eS ι r)
        · cases g1
      · cases g
  · obtain ⟨b, g⟩ := aBf h
    clear h
    cases aBt b
    split at g
    · split at g
      · cases g
        rfl
      · cases g
    · cases g
  · cases h
def aPop (n : Nat) (st : List tM) : Option (List tM × List tM) := bif Nat.ble n st.length then some ((st.take n).reverse, st.drop n) else none
theorem aPop_ok (ι : aIn) {n : Nat} {st as r : List tM} (h : aPop n st = some (as, r)) : sPop n (eS ι st) = some (eS ι as, eS ι r) := by
  unfold aPop at h
  obtain ⟨b, h⟩ := aBf h
  cases h
  unfold sPop
  rw [if_pos (by rw [List.length_map]; exact Nat.le_of_ble_eq_true b)]
  unfold eS
  rw [List.map_reverse, List.map_take, List.map_drop]
def aObj (h : aHp) (a : Nat) : Option Nat := match aCe h a with
  | (c, _, _) => bif Nat.blt a h.1 && Nat.blt c 20 then some c else none
theorem aObj_ok (ι : aIn) {h : aHp} {a c : Nat} (g : aObj h a = some c) : ∃ fs, (eH ι h)[a]? = some (.inr (c, fs)) := by
  unfold aObj at g
  split at g
  rename_i c' n l hc
  obtain ⟨b, g⟩ := aBf g
  cases g
  obtain ⟨b1, b2⟩ := aBa b
  exact ⟨_, by rw [eH_at ι (aBl b1), hc, eC_o ι (c := (c, n, l)) (aBl b2)]⟩
def aCal (ins : Instr) (st : List tM) (h : aHp) : Option (Nat × List tM × List tM) := match ins with
  | .invokestatic k => (match aPop (sNA k) st with
    | some (as, r) => some (k, as, r)
    | none => none)
  | .invokespecial k => (match aPop (sNA k) st with
    | some (as, r) => (match r with
      | t :: r => (match t with
        | .index b => (match aObj h b with
          | some _ => some (k, .index b :: as, r)
          | none => none)
        | _ => none)
      | _ => none)
    | none => none)
  | .invokevirtual k => bif Nat.blt k 1000 then (match aPop (sNA k) st with
    | some (as, r) => (match r with
      | t :: r => (match t with
        | .index b => (match aObj h b with
          | some c => bif Nat.beq c (sOwn k) then some (k, .index b :: as, r) else none
          | none => none)
        | _ => none)
      | _ => none)
    | none => none) else (match aPop (sVt k 100) st with
    | some (as, r) => (match r with
      | t :: r => (match t with
        | .index b => (match aObj h b with
          | some c => bif Nat.beq (sGrp c) 2 && Nat.blt c 11 then some (sVt k c, .index b :: as, r) else none
          | none => none)
        | _ => none)
      | _ => none)
    | none => none)
  | _ => none
theorem aCal_ok (ι : aIn) {ins : Instr} {st as rest : List tM} {h : aHp} {k : Nat} (g : aCal ins st h = some (k, as, rest)) : sCal sNA sOwn sVt ins (eS ι st) (eH ι h) = some (k, eS ι as, eS ι rest) := by
  unfold aCal at g
  split at g
  · split at g
    · rename_i as1 r hp
      cases g
      show (sPop _ _).map _ = _
      rw [aPop_ok ι hp]; rfl
    · cases g
  · split at g
    · rename_i as1 r hp
      split at g
      · rename_i t r
        split at g
        · rename_i b
          split at g
          · rename_i c hc
            cases g
            obtain ⟨fs, hf⟩ := aObj_ok ι hc
            show (sPop _ _).bind _ = _
            rw [aPop_ok ι hp, Option.bind_some]
            show (match (eH ι h)[b]? with
              | some (.inr _) => some (_, Value.ref b :: eS ι as1, eS ι rest)
              | _ => none) = _
            rw [hf]
            rfl
          · cases g
        · cases g
      · cases g
    · cases g
  · rename_i k1
    cases hk : Nat.blt k1 1000 with
    | true =>
      rw [hk] at g
      dsimp only [cond] at g
      split at g
      · rename_i as1 r hp
        split at g
        · rename_i t r
          split at g
          · rename_i b
            split at g
            · rename_i c hc
              obtain ⟨b1, g⟩ := aBf g
              cases g
              obtain ⟨fs, hf⟩ := aObj_ok ι hc
              show (if k < 1000 then (sPop (sNA k) _).bind _ else _) = _
              rw [if_pos (aBl hk), aPop_ok ι hp, Option.bind_some]
              show (match (eH ι h)[b]? with
                | some (.inr (ci, _)) => if ci = sOwn k then some (k, Value.ref b :: eS ι as1, eS ι rest) else none
                | _ => none) = _
              rw [hf]
              exact if_pos (aBt b1)
            · cases g
          · cases g
        · cases g
      · cases g
    | false =>
      rw [hk] at g
      dsimp only [cond] at g
      split at g
      · rename_i as1 r hp
        split at g
        · rename_i t r
          split at g
          · rename_i b
            split at g
            · rename_i c hc
              obtain ⟨b1, g⟩ := aBf g
              cases g
              obtain ⟨b2, b3⟩ := aBa b1
              obtain ⟨fs, hf⟩ := aObj_ok ι hc
              show (if k1 < 1000 then _ else (sPop (sVt k1 100) _).bind _) = _
              rw [if_neg (fun e => by rw [show Nat.blt k1 1000 = true from Nat.ble_eq_true_of_le e] at hk; cases hk), aPop_ok ι hp, Option.bind_some]
              show (match (eH ι h)[b]? with
                | some (.inr (ci, _)) => if sGrp ci = 2 ∧ ci < 11 then some (sVt k1 ci, Value.ref b :: eS ι as1, eS ι rest) else none
                | _ => none) = _
              rw [hf]
              exact if_pos ⟨aBt b2, aBl b3⟩
            · cases g
          · cases g
        · cases g
      · cases g
  · cases g
def aIniA : List tM → aLo
  | [] => []
  | t :: r => bif Nat.beq (kT t) 1 then some t :: none :: aIniA r else some t :: aIniA r
def aIni (nL : Nat) (as : List tM) : Option aLo := bif Nat.ble (aIniA as).length nL then some (aIniA as ++ List.replicate (nL - (aIniA as).length) none) else none
theorem aIniA_ok (ι : aIn) : ∀ as : List tM, sIniA (eS ι as) = eL ι (aIniA as) := by
  intro as
  induction as with
  | nil => rfl
  | cons t r ih =>
    show (if (eT ι t).category = 2 then some (eT ι t) :: none :: sIniA (eS ι r) else some (eT ι t) :: sIniA (eS ι r)) = eL ι (bif Nat.beq (kT t) 1 then some t :: none :: aIniA r else some t :: aIniA r)
    rw [ih, eT_cat, aBq]
    by_cases h : kT t = 1
    · rw [if_pos h, if_pos rfl, decide_eq_true h]; rfl
    · rw [if_neg h, if_neg (by decide), decide_eq_false h]; rfl
theorem aIni_ok (ι : aIn) {nL : Nat} {as : List tM} {L : aLo} (h : aIni nL as = some L) : sIni nL (eS ι as) = some (eL ι L) := by
  unfold aIni at h
  obtain ⟨b, h⟩ := aBf h
  cases h
  unfold sIni
  have e1 : (eS ι as).all sNd = true := by
    rw [List.all_map, List.all_eq_true]
    intro t _
    exact eT_nd ι t
  rw [aIniA_ok, List.length_map, if_pos ⟨e1, Nat.le_of_ble_eq_true b⟩]
  unfold eL
  rw [List.map_append, List.map_replicate]; rfl
/-! ===== the run ===== -/
def aFt : List sEt → Nat → Option Instr
  | [], _ => none
  | e :: r, p => bif Nat.beq e.1 p then some e.2.2.1 else aFt r p
theorem aFt_eq (p : Nat) : ∀ l : List sEt, aFt l p = (match l.find? (fun e => e.1 == p) with
  | some e => some e.2.2.1
  | none => none) := by
  intro l
  induction l with
  | nil => rfl
  | cons e r ih =>
    unfold aFt
    rw [aBq, ih, List.find?_cons]
    by_cases h : e.1 = p
    · rw [decide_eq_true h, show (e.1 == p) = true from beq_iff_eq.mpr h]; rfl
    · rw [decide_eq_false h, show (e.1 == p) = false from beq_eq_false_iff_ne.mpr h]; rfl
def aFk (k pc : Nat) : Option Instr := match aNth sMs k with
  | some q => aFt (mT q) pc
  | none => none
theorem aFk_eq (k pc : Nat) : aFk k pc = sFk k pc := by
  unfold aFk sFk sM
  rw [aNth_eq]
  cases sMs[k]? with
  | none => rfl
  | some q => exact aFt_eq pc (mT q)
def aAll : List aG → (aG → Bool) → Bool
  | [], _ => false
  | g :: r, f => f g && r.all f
theorem aAll_ok {ι : aIn} {l : List aG} {f : aG → Bool} (hl : aFo2 ι l) (h : aAll l f = true) : ∃ G', aOk ι G' ∧ f G' = true := by
  cases l with
  | nil => cases h
  | cons g r =>
    obtain ⟨h1, h2⟩ := aBa h
    obtain ⟨G', hm, ho⟩ := hl (fun e => by cases e)
    rcases List.mem_cons.mp hm with rfl | hm
    · exact ⟨_, ho, h1⟩
    · exact ⟨G', ho, List.all_eq_true.mp h2 G' hm⟩
abbrev aKt : Type := Option tM → aHp → aG → Bool
abbrev aRt : Type := Bool → Nat → Nat → Nat → aLo → List tM → aHp → aG → aKt → Bool
def aQ (ι : aIn) (K : aKt) (r : Option Value) (h : sHp) : Prop := ∃ (t : Option tM) (hf : aHp) (Gf : aG), K t hf Gf = true ∧ aOk ι Gf ∧ r = t.map (eT ι) ∧ h = eH ι hf
def aScr (ins : Instr) (G : aG) (st : List tM) (h : aHp) : Option (List tM × aHp) := match ins with
  | .arraylength => (match st with
    | t :: r => (match t with
      | .index a => bif Nat.beq a 1000000 then some (.arg 10 :: r, h) else none
      | _ => none)
    | _ => none)
  | .iaload => (match st with
    | i :: t :: r => (match t with
      | .index a => (match aNt G i with
        | some j => bif Nat.beq a 1000000 && (Nat.blt j 6 && decide ((j : Int) < (aIv 6 G (.arg 10)).1)) then aF j (fun j => some (.arg j :: r, h)) else none
        | none => none)
      | _ => none)
    | _ => none)
  | ins => aHeap ins G st h
def aHp2 (b : Bool) (ins : Instr) (G : aG) (st : List tM) (h : aHp) : Option (List tM × aHp) := match b with
  | false => aHeap ins G st h
  | true => aScr ins G st h
def aStep (c : Bool) (K2 : Nat → aLo → List tM → aHp → aG → Bool) (R : aRt) : aRt := fun b d k pc L st h G K =>
  bif b && K2 pc L st h G then true else (match aFk k pc with
    | none => false
    | some ins => (match sKnd ins with
      | 0 => (match aPure ins G st with
        | some st1 => aF (pc + sLen ins) (fun p => R b d k p L st1 h G K)
        | none => false)
      | 1 => (match aLoc ins G L st with
        | some (L1, st1) => aF (pc + sLen ins) (fun p => R b d k p L1 st1 h G K)
        | none => false)
      | 2 => (match aHp2 (b && c) ins G st h with
        | some (st1, h1) => aF (pc + sLen ins) (fun p => R b d k p L st1 h1 G K)
        | none => aAll (aFrk ins G st) (fun G1 => R b d k pc L st h G1 K))
      | 3 => (match aJmp ins pc G st with
        | some (p1, st1) => aF p1 (fun p => R b d k p L st1 h G K)
        | none => aAll (aFrk ins G st) (fun G1 => R b d k pc L st h G1 K))
      | 4 => (match sRk k with
        | some rt => (match aRet rt ins G st with
          | some v => K v h G
          | none => false)
        | none => false)
      | 5 => (match aCal ins st h with
        | some (k1, as, rest) => bif Nat.ble (aCt rest) 8 then (match d with
          | d1 + 1 => (match sNk k1 with
            | some nL => (match aIni nL as with
              | some L1 => R false d1 k1 0 L1 [] h G (fun t hf Gf => aF (pc + 3) (fun p => R b d k p L (t.toList ++ rest) hf Gf K))
              | none => false)
            | none => false)
          | 0 => false) else false
        | none => false)
      | 6 => bif Nat.ble (aCt st) 10 then (match aSpec ins G st with
        | some st1 => aF (pc + 3) (fun p => R b d k p L st1 h G K)
        | none => aAll (aFrk ins G st) (fun G1 => R b d k pc L st h G1 K)) else false
      | _ => false))
def aXb (X : sX) (b : Bool) : sX := match b with
  | true => X
  | false => none
def aQb (b : Bool) (Q0 Q1 : Option Value → sHp → Prop) : Option Value → sHp → Prop := match b with
  | true => Q0
  | false => Q1
def aSnd (ι : aIn) (X : sX) (k0 d0 : Nat) (K0 : aKt) (Q0 : Option Value → sHp → Prop) (R : aRt) : Prop := ∀ (b : Bool) (d k pc : Nat) (L : aLo) (st : List tM) (h : aHp) (G : aG) (K : aKt), R b d k pc L st h G K = true → aOk ι G → (b = true → K = K0 ∧ d = d0 ∧ k = k0) → sGo (aXb X b) k d pc (eL ι L) (eS ι st) (eH ι h) (aQb b Q0 (aQ ι K))
def aHX (ι : aIn) (X : sX) : Prop := ∃ (N : Nat) (xs : Nat → Int32), X = some (N, xs) ∧ N ≤ 3072 ∧ ι.1 10 = Int32.ofNat N ∧ ∀ i, i < 6 → ι.1 i = xs i
def aHXc (ι : aIn) (c : Bool) (X : sX) : Prop := (c = true → aHX ι X) ∧ (c = false → X = none)
theorem aHp2_ok {ι : aIn} {X : sX} {k d pc : Nat} {L : sLo} {Q : Option Value → sHp → Prop} {b c : Bool} {ins : Instr} {G : aG} {st st1 : List tM} {h h1 : aHp} (HXc : aHXc ι c X) (hF : sFk k pc = some ins) (hk : sKnd ins = 2) (e : aHp2 (b && c) ins G st h = some (st1, h1)) (hG : aOk ι G) (g : sGo (aXb X b) k d (pc + sLen ins) L (eS ι st1) (eH ι h1) Q) : sGo (aXb X b) k d pc L (eS ι st) (eH ι h) Q := by
  cases hbc : (b && c) with
  | false =>
    rw [hbc] at e
    refine go_heap hF hk ?_ (aHeap_ok e hG) g
    have e1 : aXb X b = none := by
      cases b with
      | false => rfl
      | true => exact HXc.2 hbc
    rw [e1]
    rfl
  | true =>
    rw [hbc] at e
    obtain ⟨rfl, rfl⟩ := aBa hbc
    obtain ⟨N, xs, rfl, hN, hι, hxs⟩ := HXc.1 rfl
    change aScr ins G st h = some (st1, h1) at e
    unfold aScr at e
    split at e
    · split at e
      · rename_i t r
        split at e
        · rename_i a
          obtain ⟨b1, e⟩ := aBf e
          cases e
          refine go_scr (st1 := .int (Int32.ofNat N) :: eS ι r) hF hk ?_ ?_
          · show (if a = 1000000 then some (Value.int (Int32.ofNat N) :: eS ι r) else none) = _
            exact if_pos (aBt b1)
          · have e1 : eS ι (.arg 10 :: r) = .int (Int32.ofNat N) :: eS ι r := by
              show Value.int (ι.1 10) :: eS ι r = _
              rw [hι]
            rw [← e1]
            exact g
        · cases e
      · cases e
    · split at e
      · rename_i i t r
        split at e
        · rename_i a
          split at e
          · rename_i j hj
            rw [aF_eq] at e
            obtain ⟨b1, e⟩ := aBf e
            cases e
            obtain ⟨b1, b2⟩ := aBa b1
            obtain ⟨b2, b3⟩ := aBa b2
            have b3 := of_decide_eq_true b3
            obtain ⟨x, x1, -, x2, x3⟩ := aNt_ok hj hG
            have h0 := aIv_ok hG 6 (.arg 10)
            unfold aW at h0
            have h9 : aZ ι (.arg 10) = (N : Int) := by
              show (ι.1 10).toInt = _
              rw [hι]
              exact Int32.toInt_ofNat_of_lt (by omega)
            have hj6 := aBl b2
            refine go_scr (st1 := .int (xs j) :: eS ι r) hF hk ?_ ?_
            · show sScr (some (N, xs)) .iaload (eT ι i :: .ref a :: eS ι r) = _
              rw [x1]
              show (if a = 1000000 ∧ ¬ (x < 0 ∨ N ≤ x.toNatClampNeg) then some (Value.int (xs x.toNatClampNeg) :: eS ι r) else none) = _
              rw [if_pos ⟨aBt b1, by rw [x3]; exact fun e => e.elim x2 (fun e => by omega)⟩, x3]
            · have e1 : eS ι (.arg j :: r) = .int (xs j) :: eS ι r := by
                show (if j < 1000 then Value.int (ι.1 j) else _) :: eS ι r = _
                rw [if_pos (by omega), hxs j hj6]
              rw [← e1]
              exact g
          · cases e
        · cases e
      · cases e
    · rename_i n1 n2
      refine go_heap hF hk ?_ (aHeap_ok e hG) g
      show sScr (some (N, xs)) ins (eS ι st) = none
      unfold sScr
      dsimp only
      split
      · exact absurd rfl n1
      · exact absurd rfl n2
      · rfl
theorem aStep_ok {ι : aIn} {X : sX} {c : Bool} {k0 d0 : Nat} {K0 : aKt} {Q0 : Option Value → sHp → Prop} {K2 : Nat → aLo → List tM → aHp → aG → Bool} {R : aRt} (HX : aHXc ι c X) (HK2 : ∀ (pc : Nat) (L : aLo) (st : List tM) (h : aHp) (G : aG), K2 pc L st h G = true → aOk ι G → sGo X k0 d0 pc (eL ι L) (eS ι st) (eH ι h) Q0) (HK0 : ∀ r h, aQ ι K0 r h → Q0 r h) (HR : aSnd ι X k0 d0 K0 Q0 R) : aSnd ι X k0 d0 K0 Q0 (aStep c K2 R) := by
  intro b d k pc L st h G K g hG hb
  unfold aStep at g
  cases hk2 : (b && K2 pc L st h G) with
  | true =>
    obtain ⟨rfl, b2⟩ := aBa hk2
    obtain ⟨rfl, rfl, rfl⟩ := hb rfl
    exact HK2 pc L st h G b2 hG
  | false =>
    rw [hk2] at g
    dsimp only [cond] at g
    split at g
    · cases g
    · rename_i ins hF
      rw [aFk_eq] at hF
      split at g
      · rename_i hk
        split at g
        · rename_i st1 e
          rw [aF_eq] at g
          exact go_pure hF hk (aPure_ok e hG) (HR _ _ _ _ _ _ _ _ _ g hG hb)
        · cases g
      · rename_i hk
        split at g
        · rename_i L1 st1 e
          rw [aF_eq] at g
          exact go_loc hF hk (aLoc_ok e hG) (HR _ _ _ _ _ _ _ _ _ g hG hb)
        · cases g
      · rename_i hk
        split at g
        · rename_i st1 h1 e
          rw [aF_eq] at g
          exact aHp2_ok HX hF hk e hG (HR _ _ _ _ _ _ _ _ _ g hG hb)
        · obtain ⟨G1, ho, g1⟩ := aAll_ok (aFrk_ok ins st hG) g
          exact HR _ _ _ _ _ _ _ _ _ g1 ho hb
      · rename_i hk
        split at g
        · rename_i p1 st1 e
          rw [aF_eq] at g
          exact go_jmp hF hk (aJmp_ok e hG) (HR _ _ _ _ _ _ _ _ _ g hG hb)
        · obtain ⟨G1, ho, g1⟩ := aAll_ok (aFrk_ok ins st hG) g
          exact HR _ _ _ _ _ _ _ _ _ g1 ho hb
      · rename_i hk
        split at g
        · rename_i rt hrt
          split at g
          · rename_i v e
            have hq : aQ ι K (v.map (eT ι)) (eH ι h) := ⟨v, h, G, g, hG, rfl, rfl⟩
            refine go_ret hF hk hrt (aRet_ok e hG) ?_
            cases b with
            | false => exact hq
            | true =>
              obtain ⟨rfl, -, -⟩ := hb rfl
              exact HK0 _ _ hq
          · cases g
        · cases g
      · rename_i hk
        split at g
        · rename_i k1 as rest e
          cases hc : Nat.ble (aCt rest) 8 with
          | false => rw [hc] at g; cases g
          | true =>
            rw [hc] at g
            dsimp only [cond] at g
            split at g
            · rename_i d1
              split at g
              · rename_i nL hn
                split at g
                · rename_i L1 hi
                  refine go_call hF hk (aCal_ok ι e) (by rw [aCt_ok]; exact Nat.le_of_ble_eq_true hc) (sDo_of hn (aIni_ok ι hi) (HR false _ _ _ _ _ _ _ _ g hG (fun e => by cases e))) ?_
                  rintro r h1 ⟨t, hf, Gf, g1, ho, rfl, rfl⟩
                  dsimp only at g1
                  rw [aF_eq] at g1
                  have g2 := HR _ _ _ _ _ _ _ _ _ g1 ho hb
                  have e2 : eS ι (t.toList ++ rest) = (t.map (eT ι)).toList ++ eS ι rest := by
                    cases t <;> rfl
                  rw [e2] at g2
                  exact g2
                · cases g
              · cases g
            · cases g
        · cases g
      · rename_i hk
        cases hc : Nat.ble (aCt st) 10 with
        | false => rw [hc] at g; cases g
        | true =>
          rw [hc] at g
          dsimp only [cond] at g
          split at g
          · rename_i st1 e
            rw [aF_eq] at g
            exact go_spec hF hk (by rw [aCt_ok]; exact Nat.le_of_ble_eq_true hc) (aSpec_ok e hG) (HR _ _ _ _ _ _ _ _ _ g hG hb)
          · obtain ⟨G1, ho, g1⟩ := aAll_ok (aFrk_ok ins st hG) g
            exact HR _ _ _ _ _ _ _ _ _ g1 ho hb
      · cases g
def aRun (c : Bool) (K2 : Nat → aLo → List tM → aHp → aG → Bool) : Nat → aRt
  | 0 => fun _ _ _ _ _ _ _ _ _ => false
  | n + 1 => aStep c K2 (aRun c K2 n)
theorem aRun_ok {ι : aIn} {X : sX} {c : Bool} {k0 d0 : Nat} {K0 : aKt} {Q0 : Option Value → sHp → Prop} {K2 : Nat → aLo → List tM → aHp → aG → Bool} (HX : aHXc ι c X) (HK2 : ∀ (pc : Nat) (L : aLo) (st : List tM) (h : aHp) (G : aG), K2 pc L st h G = true → aOk ι G → sGo X k0 d0 pc (eL ι L) (eS ι st) (eH ι h) Q0) (HK0 : ∀ r h, aQ ι K0 r h → Q0 r h) : ∀ n, aSnd ι X k0 d0 K0 Q0 (aRun c K2 n) := by
  intro n
  induction n with
  | zero => intro b d k pc L st h G K g; cases g
  | succ n ih => exact aStep_ok HX HK2 HK0 ih
end
section
/-! ===== the second executor: kinds of places, their types, what stays ===== -/
abbrev bN : Type := Nat ⊕ Int
abbrev bV : Type := bN ⊕ (Nat × Nat)
abbrev bTy : Type := (Int × Int) ⊕ (Nat × Nat)
abbrev bCt : Type := (Nat × Nat × bTy × List Int) ⊕ (Nat × List bTy)
def bKl : List Nat := [0, 1, 2, 3, 4, 5, 6, 7, 8, 82, 82, 82, 82, 82, 14, 15, 16, 17, 18, 19, 83, 83, 83, 83, 83, 25, 26, 27, 28, 29, 30, 84, 84, 84, 84, 84, 36, 37, 38, 39, 40, 41, 42, 43, 80, 81, 80, 81, 80, 81, 80, 81, 80, 81, 80, 81, 80, 81, 80, 81, 60, 61, 62, 63, 64, 65, 66, 67, 68, 69, 70, 71, 72, 73, 74, 75, 76, 77, 78]
def bG0 : List (Option bCt) := [some (.inr (11, [.inr (2, 1), .inr (2, 2), .inr (2, 3), .inr (2, 5), .inr (2, 16), .inr (2, 27), .inr (2, 38), .inr (2, 42), .inr (2, 43), .inl (.ofNat 0, .ofNat 1), .inl (.negSucc 2147483647, .ofNat 2147483647)])), some (.inl (3, 8, .inr (2, 80), [])), some (.inl (4, 8, .inr (3, 113), [])), some (.inr (7, [.inl (.negSucc 0, .ofNat 3), .inl (.ofNat 0, .ofNat 100), .inr (2, 4)])), some (.inl (1, 100, .inr (0, 0), [])), some (.inr (3, [.inl (.ofNat 2, .ofNat 8), .inl (.ofNat 2, .ofNat 8), .inr (0, 0), .inr (0, 0), .inr (0, 0), .inr (0, 0), .inr (0, 0), .inl (.negSucc 2147483647, .ofNat 2147483647), .inl (.negSucc 0, .ofNat 63), .inl (.negSucc 0, .ofNat 63), .inl (.negSucc 2147483647, .ofNat 2147483647), .inl (.ofNat 0, .ofNat 5), .inr (2, 6), .inr (2, 7), .inr (2, 8), .inr (2, 14), .inr (2, 15)])), some (.inl (1, 6, .inr (0, 0), [])), some (.inl (0, 5, .inl (.negSucc 2147483647, .ofNat 2147483647), [])), some (.inl (5, 5, .inr (2, 82), [])), none, none, none, none, none, some (.inl (2, 5, .inl (.ofNat 0, .ofNat 1), [])), some (.inl (1, 7, .inr (0, 0), []))]
def bG1 : List (Option bCt) := [some (.inr (3, [.inl (.ofNat 2, .ofNat 8), .inl (.ofNat 2, .ofNat 8), .inr (0, 0), .inr (0, 0), .inr (0, 0), .inr (0, 0), .inr (0, 0), .inl (.negSucc 2147483647, .ofNat 2147483647), .inl (.negSucc 0, .ofNat 63), .inl (.negSucc 0, .ofNat 63), .inl (.negSucc 2147483647, .ofNat 2147483647), .inl (.ofNat 0, .ofNat 5), .inr (2, 17), .inr (2, 18), .inr (2, 19), .inr (2, 25), .inr (2, 26)])), some (.inl (1, 6, .inr (0, 0), [])), some (.inl (0, 5, .inl (.negSucc 2147483647, .ofNat 2147483647), [])), some (.inl (5, 5, .inr (2, 83), [])), none, none, none, none, none, some (.inl (2, 5, .inl (.ofNat 0, .ofNat 1), [])), some (.inl (1, 7, .inr (0, 0), [])), some (.inr (3, [.inl (.ofNat 2, .ofNat 8), .inl (.ofNat 2, .ofNat 8), .inr (0, 0), .inr (0, 0), .inr (0, 0), .inr (0, 0), .inr (0, 0), .inl (.negSucc 2147483647, .ofNat 2147483647), .inl (.negSucc 0, .ofNat 63), .inl (.negSucc 0, .ofNat 63), .inl (.negSucc 2147483647, .ofNat 2147483647), .inl (.ofNat 0, .ofNat 5), .inr (2, 28), .inr (2, 29), .inr (2, 30), .inr (2, 36), .inr (2, 37)])), some (.inl (1, 6, .inr (0, 0), [])), some (.inl (0, 5, .inl (.negSucc 2147483647, .ofNat 2147483647), [])), some (.inl (5, 5, .inr (2, 84), [])), none]
def bG2 : List (Option bCt) := [none, none, none, none, some (.inl (2, 5, .inl (.ofNat 0, .ofNat 1), [])), some (.inl (1, 7, .inr (0, 0), [])), some (.inr (8, [.inl (.negSucc 2147483647, .ofNat 2147483647), .inl (.negSucc 2147483647, .ofNat 2147483647), .inr (0, 0), .inr (0, 0), .inl (.negSucc 2147483647, .ofNat 2147483647), .inl (.negSucc 2147483647, .ofNat 2147483647), .inl (.ofNat 0, .ofNat 644), .inr (2, 39), .inr (2, 40), .inr (2, 41)])), some (.inl (0, 644, .inl (.negSucc 2147483647, .ofNat 2147483647), [])), some (.inl (1, 644, .inr (0, 0), [])), some (.inl (1, 7, .inr (0, 0), [])), some (.inl (1, 7, .inr (0, 0), [])), some (.inl (0, 8, .inl (.negSucc 2147483647, .ofNat 2147483647), [])), none, none, none, none]
def bG3 : List (Option bCt) := [none, none, none, none, none, none, none, none, none, none, none, none, some (.inr (12, [.inl (.ofNat 2, .ofNat 8), .inl (.ofNat 2, .ofNat 8), .inl (.negSucc 2147483647, .ofNat 2147483647), .inl (.negSucc 0, .ofNat 63), .inl (.negSucc 0, .ofNat 63), .inl (.negSucc 2147483647, .ofNat 2147483647), .inl (.ofNat 0, .ofNat 5), .inl (.negSucc 2147483647, .ofNat 2147483647), .inr (2, 61), .inr (2, 62), .inr (2, 63), .inr (2, 64), .inr (2, 65), .inr (2, 66), .inr (2, 67), .inr (2, 68), .inr (2, 69), .inr (2, 70), .inr (2, 71), .inr (2, 72), .inr (2, 73), .inl (.ofNat 0, .ofNat 700), .inl (.ofNat 0, .ofNat 100), .inl (.ofNat 0, .ofNat 100), .inl (.negSucc 2147483647, .ofNat 2147483647), .inl (.negSucc 2147483647, .ofNat 2147483647), .inr (2, 74), .inr (2, 75), .inl (.negSucc 2147483647, .ofNat 2147483647), .inr (2, 76), .inr (2, 77), .inl (.ofNat 0, .ofNat 999), .inl (.negSucc 2147483647, .ofNat 2147483647), .inl (.negSucc 2147483647, .ofNat 2147483647), .inl (.negSucc 2147483647, .ofNat 2147483647), .inr (2, 78), .inl (.ofNat 0, .ofNat 20), .inl (.ofNat 0, .ofNat 1)])), some (.inl (0, 8, .inl (.negSucc 2147483647, .ofNat 2147483647), [])), some (.inl (0, 64, .inl (.ofNat 0, .ofNat 5), [])), some (.inl (0, 64, .inl (.negSucc 2147483647, .ofNat 2147483647), []))]
def bG4 : List (Option bCt) := [some (.inl (0, 5, .inl (.ofNat 0, .ofNat 9), [])), some (.inl (0, 5, .inl (.negSucc 2147483647, .ofNat 2147483647), [])), some (.inl (0, 30, .inl (.negSucc 2147483647, .ofNat 2147483647), [])), some (.inl (0, 8, .inl (.ofNat 0, .ofNat 2), [])), some (.inl (0, 8, .inl (.negSucc 2147483647, .ofNat 2147483647), [])), some (.inl (0, 8, .inl (.ofNat 0, .ofNat 100), [])), some (.inl (0, 8, .inl (.negSucc 2147483647, .ofNat 2147483647), [])), some (.inl (1, 800, .inr (0, 0), [])), some (.inl (1, 100, .inr (0, 0), [])), some (.inl (0, 42, .inl (.ofNat 0, .ofNat 255), [.ofNat 115, .ofNat 105, .ofNat 122, .ofNat 101, .ofNat 32, .ofNat 0, .ofNat 115, .ofNat 111, .ofNat 105, .ofNat 108, .ofNat 32, .ofNat 0, .ofNat 114, .ofNat 111, .ofNat 97, .ofNat 100, .ofNat 32, .ofNat 0, .ofNat 119, .ofNat 101, .ofNat 108, .ofNat 108, .ofNat 32, .ofNat 0, .ofNat 111, .ofNat 97, .ofNat 107, .ofNat 32, .ofNat 0, .ofNat 115, .ofNat 109, .ofNat 97, .ofNat 108, .ofNat 108, .ofNat 32, .ofNat 0, .ofNat 104, .ofNat 101, .ofNat 105, .ofNat 114, .ofNat 32, .ofNat 0])), some (.inl (0, 180, .inl (.negSucc 2147483647, .ofNat 2147483647), [])), some (.inl (0, 180, .inl (.negSucc 2147483647, .ofNat 2147483647), [])), some (.inl (0, 1000, .inl (.negSucc 2147483647, .ofNat 2147483647), [])), some (.inl (0, 64, .inl (.negSucc 2147483647, .ofNat 2147483647), [])), some (.inl (0, 20, .inl (.negSucc 2147483647, .ofNat 2147483647), [])), none]
def bG5 : List (Option bCt) := [some (.inr (7, [.inl (.negSucc 0, .ofNat 3), .inl (.ofNat 0, .ofNat 100), .inr (2, 81)])), some (.inl (1, 100, .inr (0, 0), [])), some (.inl (0, 6, .inl (.negSucc 2147483647, .ofNat 2147483647), [])), some (.inl (0, 6, .inl (.negSucc 2147483647, .ofNat 2147483647), [])), some (.inl (0, 6, .inl (.negSucc 2147483647, .ofNat 2147483647), [])), none, none, none, none, none, none, none, none, none, none, none]
def bG6 : List (Option bCt) := [none, none, none, none, some (.inr (0, [.inl (.negSucc 2147483647, .ofNat 2147483647), .inl (.ofNat 0, .ofNat 7), .inl (.negSucc 2147483647, .ofNat 2147483647), .inl (.negSucc 2147483647, .ofNat 2147483647), .inl (.negSucc 2147483647, .ofNat 2147483647), .inr (2, 3)])), some (.inr (1, [.inl (.negSucc 2147483647, .ofNat 2147483647), .inl (.ofNat 0, .ofNat 7), .inl (.negSucc 2147483647, .ofNat 2147483647), .inl (.negSucc 2147483647, .ofNat 2147483647), .inl (.negSucc 2147483647, .ofNat 2147483647), .inr (2, 3)])), some (.inr (2, [.inl (.negSucc 2147483647, .ofNat 2147483647), .inl (.ofNat 0, .ofNat 7), .inl (.negSucc 2147483647, .ofNat 2147483647), .inl (.negSucc 2147483647, .ofNat 2147483647), .inl (.negSucc 2147483647, .ofNat 2147483647), .inr (2, 3)])), none, some (.inr (4, [.inl (.negSucc 2147483647, .ofNat 2147483647), .inl (.ofNat 0, .ofNat 7), .inl (.negSucc 2147483647, .ofNat 2147483647), .inl (.negSucc 2147483647, .ofNat 2147483647), .inl (.negSucc 2147483647, .ofNat 2147483647), .inr (2, 3)])), some (.inr (5, [.inl (.negSucc 2147483647, .ofNat 2147483647), .inl (.ofNat 0, .ofNat 7), .inl (.negSucc 2147483647, .ofNat 2147483647), .inl (.negSucc 2147483647, .ofNat 2147483647), .inl (.negSucc 2147483647, .ofNat 2147483647), .inr (2, 3)])), some (.inr (6, [.inl (.negSucc 2147483647, .ofNat 2147483647), .inr (2, 80), .inr (2, 27), .inl (.negSucc 2147483647, .ofNat 2147483647)])), none, none, some (.inr (9, [.inl (.negSucc 2147483647, .ofNat 2147483647), .inl (.ofNat 0, .ofNat 7), .inl (.negSucc 2147483647, .ofNat 2147483647), .inl (.negSucc 2147483647, .ofNat 2147483647), .inl (.negSucc 2147483647, .ofNat 2147483647), .inr (2, 3)])), some (.inr (10, [.inl (.negSucc 2147483647, .ofNat 2147483647), .inl (.ofNat 0, .ofNat 7), .inl (.negSucc 2147483647, .ofNat 2147483647), .inl (.negSucc 2147483647, .ofNat 2147483647), .inl (.negSucc 2147483647, .ofNat 2147483647), .inr (2, 3)])), none]
def bG7 : List (Option bCt) := [none, none, none, none, none, none, none, none, none, none, none, none, none, none, none, none]
def bGl : List (List (Option bCt)) := [bG0, bG1, bG2, bG3, bG4, bG5, bG6, bG7]
def bKp (p : Nat) (c : va_E) : Nat := match bKl[p]? with
  | some K => K
  | none => (match c with
    | .inr (ci, _) => 100 + ci
    | .inl _ => 99)
def bIsC (κ : Nat) : Bool := Nat.beq κ 100 || (Nat.beq κ 101 || (Nat.beq κ 102 || (Nat.beq κ 104 || (Nat.beq κ 105 || (Nat.beq κ 109 || Nat.beq κ 110)))))
def bKK (κ K : Nat) : Bool := Nat.beq κ K || (Nat.beq K 113 && bIsC κ)
def bGam (K : Nat) : Option bCt := match aNth bGl (K / 16) with
  | some r => (match aNth r (K % 16) with
    | some o => o
    | none => none)
  | none => none
def bKd (K : Nat) : Nat := bif Nat.beq K 113 then 102 else K
def bIn (h : sHp) (K p : Nat) : Prop := (∃ c, h[p]? = some c ∧ bKK (bKp p c) K = true) ∨ (K = 300 ∧ p = 1000000) ∨ (400 ≤ K ∧ p = 2000000 + (K - 400))
def bT (h : sHp) (t : bTy) (w : Value) : Prop := match t with
  | .inl (lo, hi) => ∃ x, w = .int x ∧ lo ≤ x.toInt ∧ x.toInt ≤ hi
  | .inr (0, _) => ∃ x, w = .long x
  | .inr (1, _) => w = .null
  | .inr (2, K) => ∃ p, w = .ref p ∧ bIn h K p
  | .inr (_, K) => w = .null ∨ ∃ p, w = .ref p ∧ bIn h K p
def bCm (h : sHp) (ct : bCt) (c : va_E) : Prop := match ct with
  | .inl (t, n, .inl (lo, hi), cs) => ∃ f, c = .inl (t, n, .inl f) ∧ (∀ i, i < n → lo ≤ (f i).toInt ∧ (f i).toInt ≤ hi) ∧ (∀ i z, cs[i]? = some z → (f i).toInt = z)
  | .inl (t, n, .inr (0, _), _) => ∃ f, c = .inl (t, n, .inr (.inl f))
  | .inl (t, n, .inr (k + 1, K), _) => ∃ f, c = .inl (t, n, .inr (.inr (.inr (.inr f)))) ∧ ∀ i, i < n → bT h (.inr (k + 1, K)) (va_rf (f i))
  | .inr (ci, tys) => ∃ fs : List Value, c = .inr (ci, fs) ∧ fs.length = tys.length ∧ ∀ (j : Nat) (ty : bTy), tys[j]? = some ty → ∃ v : Value, fs[j]? = some v ∧ bT h ty v
def bH (h : sHp) : Prop := 79 ≤ h.length ∧ ∀ p c, h[p]? = some c → ∃ ct, bGam (bKp p c) = some ct ∧ bCm h ct c
def bVi (o : Option Value) : Int := match o with
  | some (.int x) => x.toInt
  | _ => 0
/-- what stays of a cell, but for the marked ones; a number falls only where that is marked too -/
def bCf (W K : Nat) (c c' : va_E) : Prop := match c, c' with
  | .inl (t, n, d), .inl (t', n', d') => t' = t ∧ n' = n ∧ (W.testBit (K * 64) = false → d' = d)
  | .inr (ci, fs), .inr (ci', fs') => ci' = ci ∧ fs'.length = fs.length ∧ (∀ (j : Nat), W.testBit (K * 64 + j) = false → fs'[j]? = fs[j]?) ∧ ∀ (j : Nat), W.testBit (K * 64 + j + 8192) = false → bVi fs[j]? ≤ bVi fs'[j]?
  | _, _ => False
def bFr (W g : Nat) (h h' : sHp) : Prop := h.length ≤ h'.length ∧ h'.length ≤ h.length + g ∧ ∀ p c, h[p]? = some c → ∃ c', h'[p]? = some c' ∧ bCf W (bKp p c) c c'
def bEx (h h' : sHp) : Prop := ∀ p c, h[p]? = some c → ∃ c', h'[p]? = some c' ∧ bKp p c' = bKp p c
theorem bCf_k {W K p : Nat} {c c' : va_E} (h : bCf W K c c') : bKp p c' = bKp p c := by
  unfold bCf at h
  split at h
  · unfold bKp; rfl
  · obtain ⟨rfl, -⟩ := h
    unfold bKp; rfl
  · exact h.elim
theorem bCf_refl (W K : Nat) (c : va_E) : bCf W K c c := by
  rcases c with ⟨t, n, d⟩ | ⟨ci, fs⟩
  · exact ⟨rfl, rfl, fun _ => rfl⟩
  · exact ⟨rfl, rfl, fun _ _ => rfl, fun _ _ => Int.le_refl _⟩
theorem bCf_trans {W K : Nat} {c c' c'' : va_E} (h : bCf W K c c') (h' : bCf W K c' c'') : bCf W K c c'' := by
  rcases c with ⟨t, n, d⟩ | ⟨ci, fs⟩ <;> rcases c' with ⟨t', n', d'⟩ | ⟨ci', fs'⟩ <;> rcases c'' with ⟨t'', n'', d''⟩ | ⟨ci'', fs''⟩ <;> first | exact h.elim | exact h'.elim | skip
  · exact ⟨h'.1.trans h.1, h'.2.1.trans h.2.1, fun q => (h'.2.2 q).trans (h.2.2 q)⟩
  · exact ⟨h'.1.trans h.1, h'.2.1.trans h.2.1, fun j q => (h'.2.2.1 j q).trans (h.2.2.1 j q), fun j q => Int.le_trans (h.2.2.2 j q) (h'.2.2.2 j q)⟩
def bSb (W W' : Nat) : Prop := ∀ i, W'.testBit i = false → W.testBit i = false
theorem bSb_of {W W' : Nat} (h : Nat.beq (W ||| W') W' = true) : bSb W W' := by
  intro i hi
  have e := Nat.eq_of_beq_eq_true h
  have h2 : (W ||| W').testBit i = W'.testBit i := by rw [e]
  rw [Nat.testBit_or, hi] at h2
  cases hw : W.testBit i with
  | false => rfl
  | true => rw [hw] at h2; cases h2
theorem bCf_mono {W W' K : Nat} {c c' : va_E} (hs : bSb W W') (h : bCf W K c c') : bCf W' K c c' := by
  rcases c with ⟨t, n, d⟩ | ⟨ci, fs⟩ <;> rcases c' with ⟨t', n', d'⟩ | ⟨ci', fs'⟩ <;> first | exact h.elim | skip
  · exact ⟨h.1, h.2.1, fun q => h.2.2 (hs _ q)⟩
  · exact ⟨h.1, h.2.1, fun j q => h.2.2.1 j (hs _ q), fun j q => h.2.2.2 j (hs _ q)⟩
theorem bFr_refl (W : Nat) (h : sHp) : bFr W 0 h h := ⟨Nat.le_refl _, Nat.le_refl _, fun _ c hc => ⟨c, hc, bCf_refl _ _ _⟩⟩
theorem bFr_trans {W g g' : Nat} {h h' h'' : sHp} (a : bFr W g h h') (b : bFr W g' h' h'') : bFr W (g + g') h h'' := by
  refine ⟨Nat.le_trans a.1 b.1, by have := a.2.1; have := b.2.1; omega, fun p c hc => ?_⟩
  obtain ⟨c', h1, h2⟩ := a.2.2 p c hc
  obtain ⟨c'', h3, h4⟩ := b.2.2 p c' h1
  rw [bCf_k h2] at h4
  exact ⟨c'', h3, bCf_trans h2 h4⟩
theorem bFr_mono {W W' g g' : Nat} {h h' : sHp} (hs : bSb W W') (hg : g ≤ g') (a : bFr W g h h') : bFr W' g' h h' := by
  refine ⟨a.1, by have := a.2.1; omega, fun p c hc => ?_⟩
  obtain ⟨c', h1, h2⟩ := a.2.2 p c hc
  exact ⟨c', h1, bCf_mono hs h2⟩
theorem bSb_refl (W : Nat) : bSb W W := fun _ h => h
theorem bEx_of {W g : Nat} {h h' : sHp} (a : bFr W g h h') : bEx h h' := fun p c hc => by
  obtain ⟨c', h1, h2⟩ := a.2.2 p c hc
  exact ⟨c', h1, bCf_k h2⟩
theorem bEx_refl (h : sHp) : bEx h h := fun _ c hc => ⟨c, hc, rfl⟩
theorem bEx_trans {h h' h'' : sHp} (a : bEx h h') (b : bEx h' h'') : bEx h h'' := fun p c hc => by
  obtain ⟨c', h1, h2⟩ := a p c hc
  obtain ⟨c'', h3, h4⟩ := b p c' h1
  exact ⟨c'', h3, h4.trans h2⟩
theorem bIn_mono {h h' : sHp} (a : bEx h h') {K p : Nat} (q : bIn h K p) : bIn h' K p := by
  rcases q with ⟨c, h1, h2⟩ | q
  · obtain ⟨c', h3, h4⟩ := a p c h1
    exact Or.inl ⟨c', h3, by rw [h4]; exact h2⟩
  · exact Or.inr q
theorem bT_mono {h h' : sHp} (a : bEx h h') {t : bTy} {w : Value} (q : bT h t w) : bT h' t w := by
  unfold bT at q ⊢
  split at q
  · exact q
  · exact q
  · exact q
  · obtain ⟨p, e, hp⟩ := q
    exact ⟨p, e, bIn_mono a hp⟩
  · rename_i k K n0 n1 n2
    have q' : w = .null ∨ ∃ p, w = .ref p ∧ bIn h' K p := q.imp id (fun ⟨p, e, hp⟩ => ⟨p, e, bIn_mono a hp⟩)
    match k, n0, n1, n2, q' with
    | 0, n0, _, _, _ => exact (n0 rfl).elim
    | 1, _, n1, _, _ => exact (n1 rfl).elim
    | 2, _, _, n2, _ => exact (n2 rfl).elim
    | k + 3, _, _, _, q' => exact q'
theorem bCm_mono {h h' : sHp} (a : bEx h h') {ct : bCt} {c : va_E} (q : bCm h ct c) : bCm h' ct c := by
  unfold bCm at q ⊢
  split at q
  · exact q
  · exact q
  · obtain ⟨f, e, hf⟩ := q
    exact ⟨f, e, fun i hi => bT_mono a (hf i hi)⟩
  · obtain ⟨fs, e, el, hf⟩ := q
    exact ⟨fs, e, el, fun j ty hj => by
      obtain ⟨v, h1, h2⟩ := hf j ty hj
      exact ⟨v, h1, bT_mono a h2⟩⟩
/-! cells by kind -/
theorem bGam_lt {K : Nat} {ct : bCt} (h : bGam K = some ct) : K < 128 := by
  unfold bGam at h
  cases hr : aNth bGl (K / 16) with
  | none => rw [hr] at h; cases h
  | some r =>
    rw [aNth_eq] at hr
    have := (List.getElem?_eq_some_iff.mp hr).1
    have e : bGl.length = 8 := rfl
    omega
theorem bIn_at {h : sHp} {K p : Nat} {ct : bCt} (q : bIn h K p) (hg : bGam (bKd K) = some ct) : ∃ c, h[p]? = some c ∧ bKK (bKp p c) K = true := by
  rcases q with q | ⟨rfl, -⟩ | ⟨h1, -⟩
  · exact q
  · exact absurd (bGam_lt hg) (by decide)
  · have h2 := bGam_lt hg
    unfold bKd at h2
    rw [aBq, decide_eq_false (show ¬ K = 113 by omega)] at h2
    dsimp only [cond] at h2
    omega
theorem bIsC_cases {κ : Nat} (h : bIsC κ = true) : κ = 100 ∨ κ = 101 ∨ κ = 102 ∨ κ = 104 ∨ κ = 105 ∨ κ = 109 ∨ κ = 110 := by
  unfold bIsC at h
  simp only [aBq, Bool.or_eq_true, decide_eq_true_eq] at h
  exact h
theorem bKK_cases {κ K : Nat} (h : bKK κ K = true) : κ = K ∨ (K = 113 ∧ bIsC κ = true) := by
  unfold bKK at h
  simp only [aBq, Bool.or_eq_true, Bool.and_eq_true, decide_eq_true_eq] at h
  exact h
theorem bKd_ne {K : Nat} (h : K ≠ 113) : bKd K = K := by
  unfold bKd
  rw [aBq, decide_eq_false h]; rfl
/-- an object's cell -/
theorem bIn_obj {h : sHp} {K p ci0 : Nat} {tys : List bTy} (hH : bH h) (q : bIn h K p) (hg : bGam (bKd K) = some (.inr (ci0, tys))) : ∃ (ci : Nat) (fs : List Value), h[p]? = some (.inr (ci, fs)) ∧ sGrp ci = sGrp ci0 ∧ (K ≠ 113 → ci = ci0) ∧ fs.length = tys.length ∧ (∀ (j : Nat) (ty : bTy), tys[j]? = some ty → ∃ v : Value, fs[j]? = some v ∧ bT h ty v) ∧ bGam (bKp p (.inr (ci, fs))) = some (.inr (ci, tys)) ∧ bKK (bKp p (.inr (ci, fs))) K = true := by
  obtain ⟨c, hc, hk⟩ := bIn_at q hg
  obtain ⟨ct, h1, h2⟩ := hH.2 p c hc
  rcases bKK_cases hk with e | ⟨rfl, e⟩
  · have hK : K ≠ 113 := by
      intro z
      subst z
      rw [e] at h1
      exact absurd h1 (by intro z; cases z)
    rw [bKd_ne hK] at hg
    rw [e, hg] at h1
    cases h1
    obtain ⟨fs, rfl, e1, e2⟩ := h2
    exact ⟨ci0, fs, hc, rfl, fun _ => rfl, e1, e2, by rw [e]; exact hg, hk⟩
  · have key : ∃ ci, bGam (bKp p c) = some (.inr (ci, tys)) ∧ sGrp ci = sGrp ci0 := by
      have hg2 : bGam 102 = some (.inr (ci0, tys)) := hg
      rcases bIsC_cases e with e | e | e | e | e | e | e <;> rw [e]
      · cases hg2; exact ⟨0, rfl, rfl⟩
      · cases hg2; exact ⟨1, rfl, rfl⟩
      · cases hg2; exact ⟨2, rfl, rfl⟩
      · cases hg2; exact ⟨4, rfl, rfl⟩
      · cases hg2; exact ⟨5, rfl, rfl⟩
      · cases hg2; exact ⟨9, rfl, rfl⟩
      · cases hg2; exact ⟨10, rfl, rfl⟩
    obtain ⟨ci, k1, k2⟩ := key
    have h1' := h1
    rw [k1] at h1
    cases h1
    obtain ⟨fs, rfl, e1, e2⟩ := h2
    exact ⟨ci, fs, hc, k2, fun z => absurd rfl z, e1, e2, h1', hk⟩
/-- an array's cell -/
theorem bIn_arr {h : sHp} {K p t n : Nat} {ty : bTy} {cs : List Int} (hH : bH h) (q : bIn h K p) (hg : bGam (bKd K) = some (.inl (t, n, ty, cs))) : ∃ c, h[p]? = some c ∧ bCm h (.inl (t, n, ty, cs)) c ∧ bKp p c = K ∧ bGam K = some (.inl (t, n, ty, cs)) := by
  obtain ⟨c, hc, hk⟩ := bIn_at q hg
  obtain ⟨ct, h1, h2⟩ := hH.2 p c hc
  have hK : K ≠ 113 := by
    intro z
    subst z
    exact absurd hg (by intro z; cases z)
  rcases bKK_cases hk with e | ⟨e, -⟩
  · rw [bKd_ne hK] at hg
    rw [e, hg] at h1
    cases h1
    exact ⟨c, hc, h2, e, hg⟩
  · exact absurd e hK
/-- the one place of its kind -/
theorem bKp_one {K p : Nat} {c : va_E} (hK : K < 79) (hl : aNth bKl K = some K) (h : bKp p c = K) : p = K := by
  have key : ∀ a, a < 79 → ∀ b, b < 79 → bKl[a]? = some b → bKl[b]? = some b → a = b := by decide +kernel
  rw [aNth_eq] at hl
  unfold bKp at h
  split at h
  · rename_i K' hp
    subst h
    have hp79 := (List.getElem?_eq_some_iff.mp hp).1
    have e : bKl.length = 79 := rfl
    exact key p (by omega) K' hK hp hl
  · split at h <;> omega
theorem bIn_one {h : sHp} {K p : Nat} (hK : K < 79) (hl : aNth bKl K = some K) (q : bIn h K p) : p = K ∧ ∃ c, h[p]? = some c ∧ bKp p c = K := by
  rcases q with ⟨c, h1, h2⟩ | ⟨rfl, -⟩ | ⟨h1, -⟩
  · rcases bKK_cases h2 with e | ⟨e, -⟩
    · exact ⟨bKp_one hK hl e, c, h1, e⟩
    · omega
  · omega
  · omega
/-! writes -/
theorem s_set_ne {h : sHp} {p k : Nat} {c : va_E} (e : p ≠ k) : (h.set p c)[k]? = h[k]? := List.getElem?_set_ne e
theorem s_set_eq {h : sHp} {p : Nat} {c c0 : va_E} (hc : h[p]? = some c0) : (h.set p c)[p]? = some c := List.getElem?_set_self (List.getElem?_eq_some_iff.mp hc).1
theorem bFr_set {W : Nat} {h : sHp} {p : Nat} {c c' : va_E} (hc : h[p]? = some c) (hf : bCf W (bKp p c) c c') : bFr W 0 h (h.set p c') := by
  refine ⟨by rw [List.length_set]; exact Nat.le_refl _, by rw [List.length_set]; exact Nat.le_refl _, fun k d hd => ?_⟩
  by_cases e : p = k
  · subst e
    rw [hc] at hd
    cases hd
    exact ⟨c', s_set_eq hc, hf⟩
  · exact ⟨d, by rw [s_set_ne e]; exact hd, bCf_refl _ _ _⟩
theorem bH_set {W : Nat} {h : sHp} {p : Nat} {c c' : va_E} {ct : bCt} (hH : bH h) (hc : h[p]? = some c) (hf : bCf W (bKp p c) c c') (hg : bGam (bKp p c) = some ct) (hm : bCm h ct c') : bH (h.set p c') := by
  have hx : bEx h (h.set p c') := bEx_of (bFr_set hc hf)
  refine ⟨by rw [List.length_set]; exact hH.1, fun k d hd => ?_⟩
  by_cases e : p = k
  · subst e
    rw [s_set_eq hc] at hd
    cases hd
    exact ⟨ct, by rw [bCf_k hf]; exact hg, bCm_mono hx hm⟩
  · rw [s_set_ne e] at hd
    obtain ⟨ct', h1, h2⟩ := hH.2 k d hd
    exact ⟨ct', h1, bCm_mono hx h2⟩
end
section
/-! ===== the second executor: states, numbers with bounds ===== -/
abbrev bS : Type := Nat × Nat × List (Nat × Int × Int) × List (Nat × Nat × Int) × List (Nat × Bool) × List (Nat × bV) × List (Nat × bN × bV)
def bmI (ι : List Value) (a : bN) (x : Int32) : Prop := match a with
  | .inl i => ι[i]? = some (.int x)
  | .inr c => x.toInt = c
def bmV (ι : List Value) (h : sHp) (v : bV) (w : Value) : Prop := match v with
  | .inl a => ∃ x, w = .int x ∧ bmI ι a x
  | .inr (0, _) => ∃ x, w = .long x
  | .inr (1, _) => w = .null
  | .inr (2, K) => ∃ p, w = .ref p ∧ bIn h K p
  | .inr (k + 3, K) => ι[k]? = some w ∧ (w = .null ∨ ∃ p, w = .ref p ∧ bIn h K p)
def bLe (ι ι' : List Value) : Prop := ∃ r, ι' = ι ++ r
theorem bLe_refl (ι : List Value) : bLe ι ι := ⟨[], (List.append_nil ι).symm⟩
theorem bLe_trans {ι ι' ι'' : List Value} (a : bLe ι ι') (b : bLe ι' ι'') : bLe ι ι'' := by
  obtain ⟨r, rfl⟩ := a
  obtain ⟨r', rfl⟩ := b
  exact ⟨r ++ r', List.append_assoc _ _ _⟩
theorem bLe_at {ι ι' : List Value} (a : bLe ι ι') {i : Nat} {w : Value} (h : ι[i]? = some w) : ι'[i]? = some w := by
  obtain ⟨r, rfl⟩ := a
  rw [List.getElem?_append_left (List.getElem?_eq_some_iff.mp h).1]
  exact h
theorem bmI_mono {ι ι' : List Value} (a : bLe ι ι') {v : bN} {x : Int32} (h : bmI ι v x) : bmI ι' v x := by
  cases v with
  | inl i => exact bLe_at a h
  | inr c => exact h
theorem bmV_mono {ι ι' : List Value} {h h' : sHp} (a : bLe ι ι') (b : bEx h h') {v : bV} {w : Value} (q : bmV ι h v w) : bmV ι' h' v w := by
  rcases v with v | ⟨t, K⟩
  · obtain ⟨x, e, hx⟩ := q
    exact ⟨x, e, bmI_mono a hx⟩
  · match t, q with
    | 0, q => exact q
    | 1, q => exact q
    | 2, q =>
      obtain ⟨p, e, hp⟩ := q
      exact ⟨p, e, bIn_mono b hp⟩
    | k + 3, q =>
      obtain ⟨q1, q2⟩ := q
      exact ⟨bLe_at a q1, q2.imp id (fun ⟨p, e, hp⟩ => ⟨p, e, bIn_mono b hp⟩)⟩
/-- what the marks say of a state -/
def bmG (ι : List Value) (G : List (Nat × Int × Int)) : Prop := ∀ e ∈ G, ∃ x, ι[e.1]? = some (.int x) ∧ e.2.1 ≤ x.toInt ∧ x.toInt ≤ e.2.2
def bmD (ι : List Value) (D : List (Nat × Nat × Int)) : Prop := ∀ e ∈ D, ∃ x y, ι[e.1]? = some (.int x) ∧ ι[e.2.1]? = some (.int y) ∧ x.toInt = y.toInt + e.2.2
def bmN0 (ι : List Value) (N : List (Nat × Bool)) : Prop := ∀ e ∈ N, ∃ w, ι[e.1]? = some w ∧ (e.2 = true → w ≠ .null) ∧ (e.2 = false → w = .null)
/-- the kinds with one place -/
def bOne (K : Nat) : Bool := Nat.blt K 79 && (match aNth bKl K with
  | some j => Nat.beq j K
  | none => false)
theorem bOne_k {K : Nat} (g : bOne K = true) (c : va_E) : K < 79 ∧ bKp K c = K := by
  unfold bOne at g
  obtain ⟨g1, g2⟩ := aBa g
  split at g2
  · rename_i j hj
    rw [aNth_eq] at hj
    have e := aBt g2
    subst e
    refine ⟨aBl g1, ?_⟩
    unfold bKp
    rw [hj]
  · cases g2
theorem bOne_p {K p : Nat} {c : va_E} (g : bOne K = true) (h : bKp p c = K) : p = K := by
  unfold bOne at g
  obtain ⟨g1, g2⟩ := aBa g
  split at g2
  · rename_i j hj
    have e := aBt g2
    subst e
    exact bKp_one (aBl g1) hj h
  · cases g2
def bmO1 (ι : List Value) (h : sHp) (e : Nat × bV) : Prop := bOne (e.1 / 64) = true ∧ ∃ ci fs w, h[e.1 / 64]? = some (.inr (ci, fs)) ∧ fs[e.1 % 64]? = some w ∧ bmV ι h e.2 w
def bmO (ι : List Value) (h : sHp) (O : List (Nat × bV)) : Prop := ∀ e ∈ O, bmO1 ι h e
def bmA1 (ι : List Value) (h : sHp) (e : Nat × bN × bV) : Prop := bOne e.1 = true ∧ ∃ t n f j, h[e.1]? = some (.inl (t, n, .inr (.inr (.inr (.inr f))))) ∧ bmI ι e.2.1 j ∧ bmV ι h e.2.2 (va_rf (f j.toNatClampNeg))
def bmA (ι : List Value) (h : sHp) (A : List (Nat × bN × bV)) : Prop := ∀ e ∈ A, bmA1 ι h e
def bmS (ι : List Value) (h : sHp) (S : bS) : Prop := ι.length = S.1 ∧ bmG ι S.2.2.1 ∧ bmD ι S.2.2.2.1 ∧ bmN0 ι S.2.2.2.2.1 ∧ bmO ι h S.2.2.2.2.2.1 ∧ bmA ι h S.2.2.2.2.2.2
theorem bmG_mono {ι ι' : List Value} (a : bLe ι ι') {G : List (Nat × Int × Int)} (q : bmG ι G) : bmG ι' G := fun e he => by
  obtain ⟨x, h1, h2⟩ := q e he
  exact ⟨x, bLe_at a h1, h2⟩
theorem bmD_mono {ι ι' : List Value} (a : bLe ι ι') {D : List (Nat × Nat × Int)} (q : bmD ι D) : bmD ι' D := fun e he => by
  obtain ⟨x, y, h1, h2, h3⟩ := q e he
  exact ⟨x, y, bLe_at a h1, bLe_at a h2, h3⟩
theorem bmN0_mono {ι ι' : List Value} (a : bLe ι ι') {N : List (Nat × Bool)} (q : bmN0 ι N) : bmN0 ι' N := fun e he => by
  obtain ⟨x, h1, h2⟩ := q e he
  exact ⟨x, bLe_at a h1, h2⟩
theorem bmO_mono {ι ι' : List Value} (a : bLe ι ι') {h : sHp} {O : List (Nat × bV)} (q : bmO ι h O) : bmO ι' h O := fun e he => by
  obtain ⟨h0, ci, fs, w, h1, h2, h3⟩ := q e he
  exact ⟨h0, ci, fs, w, h1, h2, bmV_mono a (bEx_refl h) h3⟩
theorem bmA_mono {ι ι' : List Value} (a : bLe ι ι') {h : sHp} {A : List (Nat × bN × bV)} (q : bmA ι h A) : bmA ι' h A := fun e he => by
  obtain ⟨h0, t, n, f, j, h1, h2, h3⟩ := q e he
  exact ⟨h0, t, n, f, j, h1, bmI_mono a h2, bmV_mono a (bEx_refl h) h3⟩
/-- one more value -/
theorem bmS_new {ι : List Value} {h : sHp} {S : bS} (q : bmS ι h S) (w : Value) : (ι ++ [w])[S.1]? = some w ∧ bLe ι (ι ++ [w]) ∧ bmS (ι ++ [w]) h (S.1 + 1, S.2) := by
  obtain ⟨h1, h2, h3, h4, h5, h6⟩ := q
  have a : bLe ι (ι ++ [w]) := ⟨[w], rfl⟩
  refine ⟨by rw [← h1]; simp, a, by rw [List.length_append, h1]; rfl, bmG_mono a h2, bmD_mono a h3, bmN0_mono a h4, bmO_mono a h5, bmA_mono a h6⟩
/-! bounds -/
def bG : List (Nat × Int × Int) → Nat → Int × Int
  | [], _ => aFull
  | e :: r, i => bif Nat.beq e.1 i then e.2 else bG r i
theorem bG_ok {ι : List Value} {i : Nat} {x : Int32} (hx : ι[i]? = some (.int x)) : ∀ {G : List (Nat × Int × Int)}, bmG ι G → aW x.toInt (bG G i) := by
  intro G
  induction G with
  | nil => intro _; exact aFull_ok x
  | cons e r ih =>
    intro hG
    unfold bG
    rw [aBq]
    by_cases he : e.1 = i
    · rw [decide_eq_true he]
      obtain ⟨y, h1, h2⟩ := hG e List.mem_cons_self
      rw [he, hx] at h1
      cases h1
      exact h2
    · rw [decide_eq_false he]
      exact ih (fun e he => hG e (List.mem_cons_of_mem _ he))
def bI (S : bS) (a : bN) : Int × Int := match a with
  | .inl i => bG S.2.2.1 i
  | .inr c => (c, c)
theorem bI_ok {ι : List Value} {h : sHp} {S : bS} (q : bmS ι h S) {a : bN} {x : Int32} (hx : bmI ι a x) : aW x.toInt (bI S a) := by
  cases a with
  | inl i => exact bG_ok hx q.2.1
  | inr c =>
    have e : x.toInt = c := hx
    show c ≤ x.toInt ∧ x.toInt ≤ c
    omega
/-- a new number with bounds -/
def bNew (lo hi : Int) (S : bS) (f : bS → bN → Bool) : Bool := aFc lo fun lo => aFc hi fun hi => bif decide (lo = hi) then f S (.inr lo) else (match S with
  | (n, g, G, r) => aF n fun n => aF (n + 1) fun n1 => f (n1, g, (n, lo, hi) :: G, r) (.inl n))
theorem bNew_ok {ι : List Value} {h : sHp} {S : bS} {lo hi : Int} {f : bS → bN → Bool} (g : bNew lo hi S f = true) (q : bmS ι h S) {x : Int32} (hx : aW x.toInt (lo, hi)) : ∃ ι' S' a, f S' a = true ∧ bLe ι ι' ∧ bmS ι' h S' ∧ bmI ι' a x ∧ S'.2.1 = S.2.1 := by
  unfold bNew at g
  rw [aFc_eq, aFc_eq] at g
  unfold aW at hx
  dsimp only at hx
  cases hd : decide (lo = hi) with
  | true =>
    rw [hd] at g
    have := of_decide_eq_true hd
    exact ⟨ι, S, .inr lo, g, bLe_refl ι, q, by show x.toInt = lo; omega, rfl⟩
  | false =>
    rw [hd] at g
    obtain ⟨n, g0, G, r⟩ := S
    dsimp only [cond] at g
    rw [aF_eq, aF_eq] at g
    obtain ⟨h1, h2, h3⟩ := bmS_new q (.int x)
    refine ⟨ι ++ [Value.int x], _, .inl n, g, h2, ⟨h3.1, ?_, h3.2.2⟩, (show (ι ++ [Value.int x])[n]? = some (Value.int x) from h1), rfl⟩
    intro e he
    rcases List.mem_cons.mp he with rfl | he
    · exact ⟨x, h1, hx⟩
    · exact h3.2.1 e he
/-- a number has narrower bounds -/
def bRf (S : bS) (a : bN) (lo hi : Int) (f : bS → Bool) : Bool := match bI S a with
  | (x, y) => aFc (max x lo) fun u => aFc (min y hi) fun v => bif decide (v < u) then true else (match a with
    | .inr _ => f S
    | .inl i => bif decide (u = x) && decide (v = y) then f S else (match S with
    | (n, g, G, r) => f (n, g, (i, u, v) :: G, r)))
theorem bRf_ok {ι : List Value} {h : sHp} {S : bS} {a : bN} {lo hi : Int} {f : bS → Bool} (g : bRf S a lo hi f = true) (q : bmS ι h S) {x : Int32} (hx : bmI ι a x) (h1 : lo ≤ x.toInt) (h2 : x.toInt ≤ hi) : ∃ S', f S' = true ∧ bmS ι h S' ∧ S'.2.1 = S.2.1 := by
  have h0 := bI_ok q hx
  unfold bRf at g
  unfold aW at h0
  generalize bI S a = p at g h0
  obtain ⟨lo0, hi0⟩ := p
  dsimp only at g h0
  rw [aFc_eq, aFc_eq] at g
  have e : decide (min hi0 hi < max lo0 lo) = false := decide_eq_false (by omega)
  rw [e] at g
  dsimp only [cond] at g
  cases a with
  | inr c => exact ⟨S, g, q, rfl⟩
  | inl i =>
    dsimp only at g
    cases hd : (decide (max lo0 lo = lo0) && decide (min hi0 hi = hi0)) with
    | true => rw [hd] at g; exact ⟨S, g, q, rfl⟩
    | false =>
      rw [hd] at g
      obtain ⟨n, g0, G, r⟩ := S
      refine ⟨_, g, ⟨q.1, ?_, q.2.2⟩, rfl⟩
      intro e he
      rcases List.mem_cons.mp he with rfl | he
      · exact ⟨x, hx, by dsimp only; omega, by dsimp only; omega⟩
      · exact q.2.1 e he
/-! comparisons -/
def bSm (a b : bN) : Bool := match a with
  | .inl i => (match b with
    | .inl j => Nat.beq i j
    | _ => false)
  | _ => false
theorem bSm_ok {ι : List Value} {a b : bN} {x y : Int32} (h : bSm a b = true) (ha : bmI ι a x) (hb : bmI ι b y) : x = y := by
  cases a with
  | inr c => cases h
  | inl i =>
    cases b with
    | inr c => cases h
    | inl j =>
      have e : i = j := aBt h
      subst e
      have h1 : ι[i]? = some (Value.int x) := ha
      have h2 : ι[i]? = some (Value.int y) := hb
      rw [h1] at h2
      cases h2
      rfl
def bNe (sp : Bool) (S : bS) (a : bN) (p q : Int × Int) (f : bS → Bool) : Bool := bif decide (q.1 = q.2) then (bif decide (p.1 = q.1) then bRf S a (p.1 + 1) p.2 f else (bif decide (p.2 = q.1) then bRf S a p.1 (p.2 - 1) f else (bif sp then bRf S a p.1 (q.1 - 1) f && bRf S a (q.1 + 1) p.2 f else f S))) else f S
theorem bNe_ok {ι : List Value} {h : sHp} {sp : Bool} {S : bS} {a : bN} {p q : Int × Int} {f : bS → Bool} (g : bNe sp S a p q f = true) (hS : bmS ι h S) {x y : Int32} (hx : bmI ι a x) (hp : aW x.toInt p) (hq : aW y.toInt q) (hne : x.toInt ≠ y.toInt) : ∃ S', f S' = true ∧ bmS ι h S' ∧ S'.2.1 = S.2.1 := by
  unfold bNe at g
  unfold aW at hp hq
  cases h1 : decide (q.1 = q.2) with
  | false => rw [h1] at g; exact ⟨S, g, hS, rfl⟩
  | true =>
    rw [h1] at g
    have h1 := of_decide_eq_true h1
    dsimp only [cond] at g
    cases h2 : decide (p.1 = q.1) with
    | true =>
      rw [h2] at g
      have h2 := of_decide_eq_true h2
      exact bRf_ok g hS hx (by omega) (by omega)
    | false =>
      rw [h2] at g
      dsimp only [cond] at g
      cases h3 : decide (p.2 = q.1) with
      | true =>
        rw [h3] at g
        have h3 := of_decide_eq_true h3
        exact bRf_ok g hS hx (by omega) (by omega)
      | false =>
        rw [h3] at g
        dsimp only [cond] at g
        cases sp with
        | false => exact ⟨S, g, hS, rfl⟩
        | true =>
          obtain ⟨g1, g2⟩ := aBa g
          by_cases h4 : x.toInt < y.toInt
          · exact bRf_ok g1 hS hx (by omega) (by omega)
          · exact bRf_ok g2 hS hx (by omega) (by omega)
def bCnd (sp : Bool) (c : Jvm.ClassFile.Cond) (S : bS) (a b : bN) (f : bS → Bool) : Bool := match c with
  | .lt => bRf S a (bI S a).1 ((bI S b).2 - 1) fun S1 => bRf S1 b ((bI S a).1 + 1) (bI S b).2 f
  | .gt => bRf S b (bI S b).1 ((bI S a).2 - 1) fun S1 => bRf S1 a ((bI S b).1 + 1) (bI S a).2 f
  | .le => bRf S a (bI S a).1 (bI S b).2 fun S1 => bRf S1 b (bI S a).1 (bI S b).2 f
  | .ge => bRf S b (bI S b).1 (bI S a).2 fun S1 => bRf S1 a (bI S b).1 (bI S a).2 f
  | .eq => bRf S a (bI S b).1 (bI S b).2 fun S1 => bRf S1 b (bI S a).1 (bI S a).2 f
  | .ne => bif bSm a b then true else (bif decide ((bI S b).1 = (bI S b).2) then bNe sp S a (bI S a) (bI S b) f else bNe sp S b (bI S b) (bI S a) f)
theorem bCnd_ok {ι : List Value} {h : sHp} {sp : Bool} {c : Jvm.ClassFile.Cond} {S : bS} {a b : bN} {f : bS → Bool} (g : bCnd sp c S a b f = true) (q : bmS ι h S) {x y : Int32} (hx : bmI ι a x) (hy : bmI ι b y) (hc : sC2 c x y = true) : ∃ S', f S' = true ∧ bmS ι h S' ∧ S'.2.1 = S.2.1 := by
  have h1 := bI_ok q hx
  have h2 := bI_ok q hy
  unfold aW at h1 h2
  unfold bCnd at g
  have two : ∀ {u v : bN} {z w : Int32} {l1 u1 l2 u2 : Int}, bmI ι u z → bmI ι v w → l1 ≤ z.toInt → z.toInt ≤ u1 → l2 ≤ w.toInt → w.toInt ≤ u2 → (bRf S u l1 u1 fun S1 => bRf S1 v l2 u2 f) = true → ∃ S', f S' = true ∧ bmS ι h S' ∧ S'.2.1 = S.2.1 := by
    intro u v z w l1 u1 l2 u2 hz hw a1 a2 a3 a4 gg
    obtain ⟨S1, g1, q1, e1⟩ := bRf_ok gg q hz a1 a2
    obtain ⟨S2, g2, q2, e2⟩ := bRf_ok g1 q1 hw a3 a4
    exact ⟨S2, g2, q2, e2.trans e1⟩
  cases c with
  | lt =>
    have hc := Int32.lt_iff_toInt_lt.mp (of_decide_eq_true hc)
    exact two hx hy (by omega) (by omega) (by omega) (by omega) g
  | gt =>
    have hc := Int32.lt_iff_toInt_lt.mp (of_decide_eq_true hc)
    exact two hy hx (by omega) (by omega) (by omega) (by omega) g
  | le =>
    have hc := Int32.le_iff_toInt_le.mp (of_decide_eq_true hc)
    exact two hx hy (by omega) (by omega) (by omega) (by omega) g
  | ge =>
    have hc := Int32.le_iff_toInt_le.mp (of_decide_eq_true hc)
    exact two hy hx (by omega) (by omega) (by omega) (by omega) g
  | eq =>
    have hc : x = y := of_decide_eq_true hc
    subst hc
    exact two hx hy (by omega) (by omega) (by omega) (by omega) g
  | ne =>
    have hc : ¬ x = y := by
      intro z
      unfold sC2 at hc
      simp [z] at hc
    have hne : x.toInt ≠ y.toInt := fun z => hc (Int32.toInt_inj.mp z)
    dsimp only at g
    cases hs : bSm a b with
    | true => exact absurd (bSm_ok hs hx hy) hc
    | false =>
      rw [hs] at g
      dsimp only [cond] at g
      split at g
      · exact bNe_ok g q hx h1 h2 hne
      · exact bNe_ok g q hy h2 h1 (fun z => hne z.symm)
def bNg (c : Jvm.ClassFile.Cond) : Jvm.ClassFile.Cond := match c with
  | .eq => .ne
  | .ne => .eq
  | .lt => .ge
  | .ge => .lt
  | .gt => .le
  | .le => .gt
theorem bNg_cr (c : Jvm.ClassFile.Cond) (o : Nat) : aCr (bNg c) o = !(aCr c o) := by
  cases c <;> simp [bNg, aCr]
theorem bNg_ok {c : Jvm.ClassFile.Cond} {x y : Int32} (h : sC2 c x y = false) : sC2 (bNg c) x y = true := by
  by_cases h1 : x.toInt < y.toInt
  · rw [aCr_lt c h1] at h
    rw [aCr_lt _ h1, bNg_cr, h]; rfl
  · by_cases h2 : y.toInt < x.toInt
    · rw [aCr_gt c h2] at h
      rw [aCr_gt _ h2, bNg_cr, h]; rfl
    · have h3 : x.toInt = y.toInt := by omega
      rw [aCr_eq c h3] at h
      rw [aCr_eq _ h3, bNg_cr, h]; rfl
/-! kinds of values -/
def bNn : List (Nat × Bool) → Nat → Option Bool
  | [], _ => none
  | e :: r, i => bif Nat.beq e.1 i then some e.2 else bNn r i
theorem bNn_ok {ι : List Value} {i : Nat} {w : Value} (hw : ι[i]? = some w) : ∀ {N : List (Nat × Bool)} {b : Bool}, bmN0 ι N → bNn N i = some b → (b = true → w ≠ .null) ∧ (b = false → w = .null) := by
  intro N
  induction N with
  | nil => intro b _ h; cases h
  | cons e r ih =>
    intro b hN h
    unfold bNn at h
    rw [aBq] at h
    by_cases he : e.1 = i
    · rw [decide_eq_true he] at h
      cases h
      obtain ⟨y, h1, h2⟩ := hN e List.mem_cons_self
      rw [he, hw] at h1
      cases h1
      exact h2
    · rw [decide_eq_false he] at h
      exact ih (fun e he => hN e (List.mem_cons_of_mem _ he)) h
/-- surely a place of this kind -/
def bRef (S : bS) (v : bV) : Option Nat := match v with
  | .inr (t, K) => (match t with
    | 0 => none
    | 1 => none
    | 2 => some K
    | k + 3 => (match bNn S.2.2.2.2.1 k with
      | some true => some K
      | _ => none))
  | _ => none
theorem bRef_ok {ι : List Value} {h : sHp} {S : bS} {v : bV} {w : Value} {K : Nat} (g : bRef S v = some K) (q : bmS ι h S) (hv : bmV ι h v w) : ∃ p, w = .ref p ∧ bIn h K p := by
  rcases v with v | ⟨t, K'⟩
  · cases g
  · match t, g, hv with
    | 0, g, _ => cases g
    | 1, g, _ => cases g
    | 2, g, hv => cases g; exact hv
    | k + 3, g, hv =>
      obtain ⟨h1, h2⟩ := hv
      have g' : (match bNn S.2.2.2.2.1 k with
        | some true => some K'
        | _ => none) = some K := g
      split at g'
      · rename_i hn
        cases g'
        have h3 := (bNn_ok h1 q.2.2.2.1 hn).1 rfl
        exact h2.resolve_left h3
      · cases g'
/-- surely null -/
def bNul (S : bS) (v : bV) : Bool := match v with
  | .inr (t, _) => (match t with
    | 0 => false
    | 1 => true
    | 2 => false
    | k + 3 => (match bNn S.2.2.2.2.1 k with
      | some false => true
      | _ => false))
  | _ => false
theorem bNul_ok {ι : List Value} {h : sHp} {S : bS} {v : bV} {w : Value} (g : bNul S v = true) (q : bmS ι h S) (hv : bmV ι h v w) : w = .null := by
  rcases v with v | ⟨t, K'⟩
  · cases g
  · match t, g, hv with
    | 0, g, _ => cases g
    | 1, g, hv => exact hv
    | 2, g, _ => cases g
    | k + 3, g, hv =>
      obtain ⟨h1, h2⟩ := hv
      have g' : (match bNn S.2.2.2.2.1 k with
        | some false => true
        | _ => false) = true := g
      split at g'
      · rename_i hn
        exact (bNn_ok h1 q.2.2.2.1 hn).2 rfl
      · cases g'
def bKs (K' K : Nat) : Bool := Nat.beq K' K || (Nat.beq K 113 && bIsC K')
theorem bKs_ok {h : sHp} {K' K p : Nat} (g : bKs K' K = true) (q : bIn h K' p) : bIn h K p := by
  rcases bKK_cases (κ := K') (K := K) g with rfl | ⟨rfl, e⟩
  · exact q
  · have e' := bIsC_cases e
    rcases q with ⟨c, h1, h2⟩ | ⟨rfl, -⟩ | ⟨h1, -⟩
    · rcases bKK_cases h2 with e2 | ⟨e2, -⟩
      · refine Or.inl ⟨c, h1, ?_⟩
        unfold bKK
        rw [e2, e]
        simp [aBq]
      · omega
    · omega
    · omega
def bRfT (S : bS) (v : bV) (K : Nat) : Bool := match bRef S v with
  | some K' => bKs K' K
  | none => false
theorem bRfT_ok {ι : List Value} {h : sHp} {S : bS} {v : bV} {w : Value} {K : Nat} (g : bRfT S v K = true) (q : bmS ι h S) (hv : bmV ι h v w) : ∃ p, w = .ref p ∧ bIn h K p := by
  unfold bRfT at g
  split at g
  · rename_i K' hr
    obtain ⟨p, e, hp⟩ := bRef_ok hr q hv
    exact ⟨p, e, bKs_ok g hp⟩
  · cases g
def bQk (v : bV) (K : Nat) : Bool := match v with
  | .inr (u, K') => Nat.blt 2 u && bKs K' K
  | _ => false
/-- a value fits a type -/
def bFit (S : bS) (v : bV) (t : bTy) : Bool := match t with
  | .inl (lo, hi) => (match v with
    | .inl a => decide (lo ≤ (bI S a).1) && decide ((bI S a).2 ≤ hi)
    | _ => false)
  | .inr (t, K) => (match t with
    | 0 => (match v with
      | .inr (u, _) => Nat.beq u 0
      | _ => false)
    | 1 => bNul S v
    | 2 => bRfT S v K
    | _ + 3 => bNul S v || (bRfT S v K || bQk v K))
theorem bFit_ok {ι : List Value} {h : sHp} {S : bS} {v : bV} {t : bTy} {w : Value} (g : bFit S v t = true) (q : bmS ι h S) (hv : bmV ι h v w) : bT h t w := by
  rcases t with ⟨lo, hi⟩ | ⟨t, K⟩
  · rcases v with a | v
    · obtain ⟨x, rfl, hx⟩ := hv
      obtain ⟨g1, g2⟩ := aBa g
      have g1 := of_decide_eq_true g1
      have g2 := of_decide_eq_true g2
      have h0 := bI_ok q hx
      unfold aW at h0
      exact ⟨x, rfl, by omega, by omega⟩
    · cases g
  · match t, g with
    | 0, g =>
      rcases v with a | ⟨u, K'⟩
      · cases g
      · have e : u = 0 := aBt g
        subst e
        exact hv
    | 1, g => exact bNul_ok g q hv
    | 2, g => exact bRfT_ok g q hv
    | k + 3, g =>
      show w = .null ∨ _
      have g' : (bNul S v || (bRfT S v K || bQk v K)) = true := g
      rw [Bool.or_eq_true, Bool.or_eq_true] at g'
      rcases g' with g' | g' | g'
      · exact Or.inl (bNul_ok g' q hv)
      · exact Or.inr (bRfT_ok g' q hv)
      · rcases v with a | ⟨u, K'⟩
        · cases g'
        · obtain ⟨g1, g2⟩ := aBa g'
          have g1 := aBl g1
          obtain ⟨j, rfl⟩ : ∃ j, u = j + 3 := ⟨u - 3, by omega⟩
          obtain ⟨-, h2⟩ := hv
          exact h2.imp id (fun ⟨p, e, hp⟩ => ⟨p, e, bKs_ok g2 hp⟩)
/-- some value of a type -/
def bMk (t : bTy) (S : bS) (f : bS → bV → Bool) : Bool := match t with
  | .inl (lo, hi) => bNew lo hi S (fun S a => f S (.inl a))
  | .inr (t, K) => (match t with
    | 0 => f S (.inr (0, 0))
    | 1 => f S (.inr (1, 0))
    | 2 => f S (.inr (2, K))
    | _ + 3 => (match S with
      | (n, r) => aF n fun n => aF (n + 1) fun n1 => aF (n + 3) fun n3 => f (n1, r) (.inr (n3, K))))
theorem bMk_ok {ι : List Value} {h : sHp} {S : bS} {t : bTy} {f : bS → bV → Bool} (g : bMk t S f = true) (q : bmS ι h S) {w : Value} (hw : bT h t w) : ∃ ι' S' v, f S' v = true ∧ bLe ι ι' ∧ bmS ι' h S' ∧ bmV ι' h v w ∧ S'.2.1 = S.2.1 := by
  rcases t with ⟨lo, hi⟩ | ⟨t, K⟩
  · obtain ⟨x, rfl, hx⟩ := hw
    have g' : bNew lo hi S (fun S a => f S (.inl a)) = true := g
    obtain ⟨ι', S', a, g1, g2, g3, g4, g5⟩ := bNew_ok g' q (x := x) hx
    exact ⟨ι', S', .inl a, g1, g2, g3, ⟨x, rfl, g4⟩, g5⟩
  · match t, g, hw with
    | 0, g, hw => exact ⟨ι, S, _, g, bLe_refl ι, q, hw, rfl⟩
    | 1, g, hw => exact ⟨ι, S, _, g, bLe_refl ι, q, hw, rfl⟩
    | 2, g, hw => exact ⟨ι, S, _, g, bLe_refl ι, q, hw, rfl⟩
    | k + 3, g, hw =>
      obtain ⟨n, r⟩ := S
      have g' : (aF n fun n => aF (n + 1) fun n1 => aF (n + 3) fun n3 => f (n1, r) (.inr (n3, K))) = true := g
      rw [aF_eq, aF_eq, aF_eq] at g'
      obtain ⟨h1, h2, h3⟩ := bmS_new q w
      exact ⟨_, _, _, g', h2, h3, ⟨h1, hw⟩, rfl⟩
end
section
/-! ===== the second executor: numbers, locals ===== -/
abbrev bLo : Type := List (Option bV)
def bJk (v : bV) : Bool := match v with
  | .inr (t, _) => Nat.beq t 0
  | _ => false
theorem bJk_ok {ι : List Value} {h : sHp} {v : bV} {w : Value} (g : bJk v = true) (q : bmV ι h v w) : ∃ x, w = .long x := by
  rcases v with a | ⟨t, K⟩
  · cases g
  · have e : t = 0 := aBt g
    subst e
    exact q
theorem bmV_cat {ι : List Value} {h : sHp} {v : bV} {w : Value} (q : bmV ι h v w) : w.category = bif bJk v then 2 else 1 := by
  rcases v with a | ⟨t, K⟩
  · obtain ⟨x, rfl, -⟩ := q
    rfl
  · match t, q with
    | 0, q =>
      obtain ⟨x, rfl⟩ := q
      rfl
    | 1, q =>
      have e : w = .null := q
      subst e
      rfl
    | 2, q =>
      obtain ⟨p, rfl, -⟩ := q
      rfl
    | k + 3, q =>
      obtain ⟨-, rfl | ⟨p, rfl, -⟩⟩ := q <;> rfl
theorem bmV_nd {ι : List Value} {h : sHp} {v : bV} {w : Value} (q : bmV ι h v w) : sNd w = true := by
  rcases v with a | ⟨t, K⟩
  · obtain ⟨x, rfl, -⟩ := q
    rfl
  · match t, q with
    | 0, q =>
      obtain ⟨x, rfl⟩ := q
      rfl
    | 1, q =>
      have e : w = .null := q
      subst e
      rfl
    | 2, q =>
      obtain ⟨p, rfl, -⟩ := q
      rfl
    | k + 3, q =>
      obtain ⟨-, rfl | ⟨p, rfl, -⟩⟩ := q <;> rfl
def bmT1 (ι : List Value) (h : sHp) : List bV → List Value → Prop
  | [], [] => True
  | v :: r, w :: s => bmV ι h v w ∧ bmT1 ι h r s
  | _, _ => False
theorem bmT1_mono {ι ι' : List Value} {h h' : sHp} (a : bLe ι ι') (b : bEx h h') : ∀ {st : List bV} {ws : List Value}, bmT1 ι h st ws → bmT1 ι' h' st ws := by
  intro st
  induction st with
  | nil =>
    intro ws q
    cases ws with
    | nil => trivial
    | cons w s => exact q.elim
  | cons v r ih =>
    intro ws q
    cases ws with
    | nil => exact q.elim
    | cons w s => exact ⟨bmV_mono a b q.1, ih q.2⟩
theorem bmT1_cons {ι : List Value} {h : sHp} {v : bV} {r : List bV} {ws : List Value} (q : bmT1 ι h (v :: r) ws) : ∃ w s, ws = w :: s ∧ bmV ι h v w ∧ bmT1 ι h r s := by
  cases ws with
  | nil => exact q.elim
  | cons w s => exact ⟨w, s, rfl, q.1, q.2⟩
theorem bmT1_nil {ι : List Value} {h : sHp} {ws : List Value} (q : bmT1 ι h [] ws) : ws = [] := by
  cases ws with
  | nil => rfl
  | cons w s => exact q.elim
def bmL (ι : List Value) (h : sHp) (L : bLo) (vL : sLo) : Prop := L.length = vL.length ∧ ∀ (i : Nat) (v : bV), L[i]? = some (some v) → ∃ w : Value, vL[i]? = some (some w) ∧ bmV ι h v w
theorem bmL_mono {ι ι' : List Value} {h h' : sHp} (a : bLe ι ι') (b : bEx h h') {L : bLo} {vL : sLo} (q : bmL ι h L vL) : bmL ι' h' L vL := ⟨q.1, fun i v hv => by
  obtain ⟨w, h1, h2⟩ := q.2 i v hv
  exact ⟨w, h1, bmV_mono a b h2⟩⟩
/-! binary operations on ints -/
def bNz (q : Int × Int) : Bool := decide (0 < q.1) || decide (q.2 < 0)
def bIo (ins : Instr) (p q : Int × Int) : Option (Int × Int) := match ins with
  | .iadd => some (aRg (p.1 + q.1, p.2 + q.2))
  | .isub => some (aRg (p.1 - q.2, p.2 - q.1))
  | .imul => some (aMl p q)
  | .iand => some (if 0 ≤ q.1 then (0, q.2) else if 0 ≤ p.1 then (0, p.2) else aFull)
  | .ior => some aFull
  | .ixor => some aFull
  | .ishl => some aFull
  | .ishr => some aFull
  | .idiv => bif bNz q then some (if q.1 = q.2 then aDv p q.1 else aFull) else none
  | .irem => bif bNz q then some (if 0 < q.1 then (if 0 ≤ p.1 then (0, q.2 - 1) else (1 - q.2, q.2 - 1)) else aFull) else none
  | _ => none
theorem bIo_ok {ins : Instr} {p q r : Int × Int} (g : bIo ins p q = some r) {x y : Int32} (hx : aW x.toInt p) (hy : aW y.toInt q) : ∃ z, (∀ st, sPure ins (.int y :: .int x :: st) = some (.int z :: st)) ∧ aW z.toInt r := by
  unfold bIo at g
  split at g
  · cases g
    refine ⟨x + y, fun _ => rfl, aRg_ok (Int32.toInt_add _ _) ?_⟩
    unfold aW at hx hy ⊢
    dsimp only
    omega
  · cases g
    refine ⟨x - y, fun _ => rfl, aRg_ok (Int32.toInt_sub _ _) ?_⟩
    unfold aW at hx hy ⊢
    dsimp only
    omega
  · cases g
    exact ⟨x * y, fun _ => rfl, aMl_ok (Int32.toInt_mul _ _) hx hy⟩
  · cases g
    refine ⟨x &&& y, fun _ => rfl, ?_⟩
    have a1 := aAn_ok x y
    have a2 := aAn_ok y x
    rw [Int32.and_comm y x] at a2
    unfold aW at hx hy
    split
    · unfold aAn at a1
      rw [if_pos (by omega)] at a1
      unfold aW at a1 ⊢
      dsimp only at a1 ⊢
      omega
    · split
      · unfold aAn at a2
        rw [if_pos (by omega)] at a2
        unfold aW at a2 ⊢
        dsimp only at a2 ⊢
        omega
      · exact aFull_ok _
  · cases g; exact ⟨x ||| y, fun _ => rfl, aFull_ok _⟩
  · cases g; exact ⟨x ^^^ y, fun _ => rfl, aFull_ok _⟩
  · cases g; exact ⟨x <<< (y &&& 31), fun _ => rfl, aFull_ok _⟩
  · cases g; exact ⟨x >>> (y &&& 31), fun _ => rfl, aFull_ok _⟩
  · obtain ⟨b, g⟩ := aBf g
    cases g
    have hy0 : ¬ y = 0 := by
      intro z
      unfold bNz at b
      rw [Bool.or_eq_true, decide_eq_true_eq, decide_eq_true_eq] at b
      unfold aW at hy
      rw [z] at hy
      have e0 : (0 : Int32).toInt = 0 := rfl
      omega
    refine ⟨x / y, fun st => ?_, ?_⟩
    · show s2i (fun x y => if y = 0 then none else some (.int (x / y))) (.int y :: .int x :: st) = _
      unfold s2i
      dsimp only
      rw [if_neg hy0]
      rfl
    · split
      · rename_i e
        unfold aW at hy
        have e2 : y.toInt = q.1 := by omega
        rw [← e2]
        exact aDv_ok hx
      · exact aFull_ok _
  · obtain ⟨b, g⟩ := aBf g
    cases g
    have hy0 : ¬ y = 0 := by
      intro z
      unfold bNz at b
      rw [Bool.or_eq_true, decide_eq_true_eq, decide_eq_true_eq] at b
      unfold aW at hy
      rw [z] at hy
      have e0 : (0 : Int32).toInt = 0 := rfl
      omega
    refine ⟨x - x / y * y, fun st => ?_, ?_⟩
    · show s2i (fun x y => if y = 0 then none else some (.int (x - x / y * y))) (.int y :: .int x :: st) = _
      unfold s2i
      dsimp only
      rw [if_neg hy0]
      rfl
    · split
      · rename_i e
        unfold aW at hx hy
        have hp : 0 < y.toInt := by omega
        rw [a_rem hp]
        have h1 := Int.tmod_lt_of_pos x.toInt hp
        have h7 := Int.tmod_lt_of_pos (-x.toInt) hp
        rw [Int.neg_tmod] at h7
        split
        · have h2 := Int.tmod_nonneg y.toInt (a := x.toInt) (by omega)
          unfold aW
          dsimp only
          omega
        · unfold aW
          dsimp only
          omega
      · exact aFull_ok _
  · cases g
/-- a number and a known one -/
def bAdd (S : bS) (a : bN) (c : Int) (f : bS → bN → Bool) : Bool := match bI S a with
  | (x, y) => bif decide (-2147483648 ≤ x + c) && decide (y + c ≤ 2147483647) then bNew (x + c) (y + c) S (fun S1 b => match a with
    | .inr _ => f S1 b
    | .inl j => (match b with
      | .inr _ => f S1 b
      | .inl i => (match S1 with
        | (n, g, G, D, r) => f (n, g, G, (i, j, c) :: D, r) b))) else bNew (-2147483648) 2147483647 S f
theorem bAdd_ok {ι : List Value} {h : sHp} {S : bS} {a : bN} {c : Int} {f : bS → bN → Bool} (g : bAdd S a c f = true) (q : bmS ι h S) {x z : Int32} (hx : bmI ι a x) (hz : z.toInt = (x.toInt + c).bmod (2 ^ 32)) : ∃ ι' S' b, f S' b = true ∧ bLe ι ι' ∧ bmS ι' h S' ∧ bmI ι' b z ∧ S'.2.1 = S.2.1 := by
  have h0 := bI_ok q hx
  unfold bAdd at g
  generalize bI S a = p at g h0
  obtain ⟨lo, hi⟩ := p
  unfold aW at h0
  dsimp only at g h0
  cases hb : (decide (-2147483648 ≤ lo + c) && decide (hi + c ≤ 2147483647)) with
  | false =>
    rw [hb] at g
    exact bNew_ok g q (aFull_ok z)
  | true =>
    rw [hb] at g
    dsimp only [cond] at g
    obtain ⟨b1, b2⟩ := aBa hb
    have b1 := of_decide_eq_true b1
    have b2 := of_decide_eq_true b2
    have e : z.toInt = x.toInt + c := by
      rw [hz]
      exact Int.bmod_eq_of_le (by omega) (by omega)
    obtain ⟨ι', S', b, g1, g2, g3, g4, g5⟩ := bNew_ok g q (x := z) (by unfold aW; dsimp only; omega)
    cases a with
    | inr _ => exact ⟨ι', S', b, g1, g2, g3, g4, g5⟩
    | inl j =>
      cases b with
      | inr _ => exact ⟨ι', S', _, g1, g2, g3, g4, g5⟩
      | inl i =>
        obtain ⟨n, g0, G, D, r⟩ := S'
        refine ⟨ι', _, .inl i, g1, g2, ⟨g3.1, g3.2.1, ?_, g3.2.2.2⟩, g4, g5⟩
        intro e' he
        have he : e' ∈ (i, j, c) :: D := he
        rcases List.mem_cons.mp he with rfl | he
        · exact ⟨z, x, g4, bLe_at g2 hx, e⟩
        · exact g3.2.2.1 e' he
def bCi (n : Int) (S : bS) (st : List bV) (f : bS → List bV → Bool) : Bool := aFc n fun n => f S (.inl (.inr n) :: st)
def bPure (ins : Instr) (S : bS) (st : List bV) (f : bS → List bV → Bool) : Bool := match ins with
  | .iconst n => bif decide (-1 ≤ n) && decide (n ≤ 5) then bCi n S st f else false
  | .bipush n => bif decide (-128 ≤ n) && decide (n ≤ 127) then bCi n S st f else false
  | .sipush n => bif decide (-32768 ≤ n) && decide (n ≤ 32767) then bCi n S st f else false
  | .lconst _ => f S (.inr (0, 0) :: st)
  | .aconst_null => f S (.inr (1, 0) :: st)
  | .lcmp => (match st with
    | a :: b :: r => bif bJk a && bJk b then bNew (-1) 1 S (fun S x => f S (.inl x :: r)) else false
    | _ => false)
  | .i2l => (match st with
    | .inl _ :: r => f S (.inr (0, 0) :: r)
    | _ => false)
  | .l2i => (match st with
    | a :: r => bif bJk a then bNew (-2147483648) 2147483647 S (fun S x => f S (.inl x :: r)) else false
    | _ => false)
  | .i2b => (match st with
    | .inl _ :: r => bNew (-2147483648) 2147483647 S (fun S x => f S (.inl x :: r))
    | _ => false)
  | .i2s => (match st with
    | .inl _ :: r => bNew (-2147483648) 2147483647 S (fun S x => f S (.inl x :: r))
    | _ => false)
  | .ineg => (match st with
    | .inl a :: r => (match bI S a with
      | (x, y) => (match aRg (-y, -x) with
        | (u, v) => bNew u v S (fun S x => f S (.inl x :: r))))
    | _ => false)
  | .lneg => (match st with
    | a :: r => bif bJk a then f S (.inr (0, 0) :: r) else false
    | _ => false)
  | .ladd => (match st with
    | a :: b :: r => bif bJk a && bJk b then f S (.inr (0, 0) :: r) else false
    | _ => false)
  | .lsub => (match st with
    | a :: b :: r => bif bJk a && bJk b then f S (.inr (0, 0) :: r) else false
    | _ => false)
  | .land => (match st with
    | a :: b :: r => bif bJk a && bJk b then f S (.inr (0, 0) :: r) else false
    | _ => false)
  | .lor => (match st with
    | a :: b :: r => bif bJk a && bJk b then f S (.inr (0, 0) :: r) else false
    | _ => false)
  | .lxor => (match st with
    | a :: b :: r => bif bJk a && bJk b then f S (.inr (0, 0) :: r) else false
    | _ => false)
  | .lshl => (match st with
    | .inl _ :: b :: r => bif bJk b then f S (.inr (0, 0) :: r) else false
    | _ => false)
  | .lshr => (match st with
    | .inl _ :: b :: r => bif bJk b then f S (.inr (0, 0) :: r) else false
    | _ => false)
  | .lushr => (match st with
    | .inl _ :: b :: r => bif bJk b then f S (.inr (0, 0) :: r) else false
    | _ => false)
  | .dup => (match st with
    | a :: r => bif bJk a then false else f S (a :: a :: r)
    | _ => false)
  | .dup_x1 => (match st with
    | a :: b :: r => bif bJk a || bJk b then false else f S (a :: b :: a :: r)
    | _ => false)
  | .dup2 => (match st with
    | a :: b :: r => bif bJk a || bJk b then false else f S (a :: b :: a :: b :: r)
    | _ => false)
  | .pop => (match st with
    | a :: r => bif bJk a then false else f S r
    | _ => false)
  | .iadd => (match st with
    | .inl (.inr c) :: .inl a :: r => bAdd S a c (fun S x => f S (.inl x :: r))
    | .inl b :: .inl a :: r => (match bIo .iadd (bI S a) (bI S b) with
      | some (u, v) => bNew u v S (fun S x => f S (.inl x :: r))
      | none => false)
    | _ => false)
  | ins => (match st with
    | .inl b :: .inl a :: r => (match bIo ins (bI S a) (bI S b) with
      | some (u, v) => bNew u v S (fun S x => f S (.inl x :: r))
      | none => false)
    | _ => false)
/-- what a step of the values alone gives -/
def bPo (ι : List Value) (h : sHp) (S : bS) (f : bS → List bV → Bool) (o : Option (List Value)) : Prop := ∃ ι' S' st' ws', o = some ws' ∧ f S' st' = true ∧ bLe ι ι' ∧ bmS ι' h S' ∧ bmT1 ι' h st' ws' ∧ S'.2.1 = S.2.1
theorem bPo_new {ι : List Value} {h : sHp} {S : bS} {u v : Int} {r : List bV} {rs : List Value} {f : bS → List bV → Bool} {o : Option (List Value)} (g : bNew u v S (fun S x => f S (.inl x :: r)) = true) (q : bmS ι h S) (hr : bmT1 ι h r rs) {z : Int32} (hz : aW z.toInt (u, v)) (ho : o = some (.int z :: rs)) : bPo ι h S f o := by
  obtain ⟨ι', S', a, g1, g2, g3, g4, g5⟩ := bNew_ok g q hz
  exact ⟨ι', S', _, _, ho, g1, g2, g3, ⟨⟨z, rfl, g4⟩, bmT1_mono g2 (bEx_refl h) hr⟩, g5⟩
theorem bPo_same {ι : List Value} {h : sHp} {S : bS} {st' : List bV} {ws' : List Value} {f : bS → List bV → Bool} {o : Option (List Value)} (g : f S st' = true) (q : bmS ι h S) (ho : o = some ws') (hr : bmT1 ι h st' ws') : bPo ι h S f o := ⟨ι, S, st', ws', ho, g, bLe_refl ι, q, hr, rfl⟩
theorem b_iconst {n : Int} (h1 : -2147483648 ≤ n) (h2 : n ≤ 2147483647) : (Int32.ofInt n).toInt = n := by
  exact Int32.toInt_ofInt_of_le (by omega) (by omega)
theorem b_two {st : List bV} {P : Prop} {c : bV → bV → Bool} {f : List bV → Bool} {ws : List Value} {ι : List Value} {h : sHp} (g : (match st with
    | a :: b :: r => bif c a b then f (.inr (0, 0) :: r) else false
    | _ => false) = true) (hs : bmT1 ι h st ws) (k : ∀ a b r x y s, st = a :: b :: r → ws = x :: y :: s → c a b = true → f (.inr (0, 0) :: r) = true → bmV ι h a x → bmV ι h b y → bmT1 ι h r s → P) : P := by
  split at g
  · rename_i a b r
    replace hs := bmT1_cons hs
    obtain ⟨x, s1, rfl, hx, hs⟩ := hs
    replace hs := bmT1_cons hs
    obtain ⟨y, s, rfl, hy, hs⟩ := hs
    cases hc : c a b with
    | true => rw [hc] at g; exact k a b r x y s rfl rfl hc g hx hy hs
    | false => rw [hc] at g; cases g
  · cases g
theorem bPo_int {ι : List Value} {h : sHp} {S : bS} {st : List bV} {ws : List Value} {n : Int} {f : bS → List bV → Bool} {o : Option (List Value)} (g : bCi n S st f = true) (q : bmS ι h S) (hs : bmT1 ι h st ws) {z : Int32} (hz : z.toInt = n) (ho : o = some (.int z :: ws)) : bPo ι h S f o := by
  unfold bCi at g
  rw [aFc_eq] at g
  exact bPo_same g q ho ⟨⟨z, rfl, hz⟩, hs⟩
theorem b_bif {c : Bool} {a : Bool} (h : (bif c then a else false) = true) : c = true ∧ a = true := by
  cases c with
  | true => exact ⟨rfl, h⟩
  | false => cases h
theorem b_bifn {c : Bool} {a : Bool} (h : (bif c then false else a) = true) : c = false ∧ a = true := by
  cases c with
  | false => exact ⟨rfl, h⟩
  | true => cases h
theorem b_cat1 {ι : List Value} {h : sHp} {v : bV} {w : Value} (q : bmV ι h v w) (g : bJk v = false) : w.category = 1 := by rw [bmV_cat q, g]; rfl
theorem b_orf {a b : Bool} (h : (a || b) = false) : a = false ∧ b = false := by cases a <;> cases b <;> first | exact ⟨rfl, rfl⟩ | cases h
theorem bPure_jj {ι : List Value} {h : sHp} {S : bS} {st : List bV} {ws : List Value} {f : bS → List bV → Bool} {ins : Instr} {F : Int64 → Int64 → Int64} (g : (match st with
    | a :: b :: r => bif bJk a && bJk b then f S (.inr (0, 0) :: r) else false
    | _ => false) = true) (q : bmS ι h S) (hs : bmT1 ι h st ws) (hF : ∀ x y s, sPure ins (.long y :: .long x :: s) = some (.long (F x y) :: s)) : bPo ι h S f (sPure ins ws) := by
  split at g
  · rename_i a b r
    obtain ⟨g1, g⟩ := b_bif g
    obtain ⟨g1, g2⟩ := aBa g1
    replace hs := bmT1_cons hs
    obtain ⟨w, s1, rfl, hx, hs⟩ := hs
    replace hs := bmT1_cons hs
    obtain ⟨v, s, rfl, hy, hs⟩ := hs
    obtain ⟨y, rfl⟩ := bJk_ok g1 hx
    obtain ⟨x, rfl⟩ := bJk_ok g2 hy
    exact bPo_same g q (hF x y s) ⟨⟨_, rfl⟩, hs⟩
  · cases g
theorem bPure_ij {ι : List Value} {h : sHp} {S : bS} {st : List bV} {ws : List Value} {f : bS → List bV → Bool} {ins : Instr} {F : Int64 → Int32 → Int64} (g : (match st with
    | .inl _ :: b :: r => bif bJk b then f S (.inr (0, 0) :: r) else false
    | _ => false) = true) (q : bmS ι h S) (hs : bmT1 ι h st ws) (hF : ∀ x y s, sPure ins (.int y :: .long x :: s) = some (.long (F x y) :: s)) : bPo ι h S f (sPure ins ws) := by
  split at g
  · rename_i a b r
    obtain ⟨g1, g⟩ := b_bif g
    replace hs := bmT1_cons hs
    obtain ⟨w, s1, rfl, hx, hs⟩ := hs
    replace hs := bmT1_cons hs
    obtain ⟨v, s, rfl, hy, hs⟩ := hs
    obtain ⟨y, rfl, -⟩ := hx
    obtain ⟨x, rfl⟩ := bJk_ok g1 hy
    exact bPo_same g q (hF x y s) ⟨⟨_, rfl⟩, hs⟩
  · cases g
theorem bPure_i {ι : List Value} {h : sHp} {S : bS} {st : List bV} {ws : List Value} {f : bS → List bV → Bool} {ins : Instr} {F : Int32 → Int32} (g : (match st with
    | .inl _ :: r => bNew (-2147483648) 2147483647 S (fun S x => f S (.inl x :: r))
    | _ => false) = true) (q : bmS ι h S) (hs : bmT1 ι h st ws) (hF : ∀ x s, sPure ins (.int x :: s) = some (.int (F x) :: s)) : bPo ι h S f (sPure ins ws) := by
  split at g
  · rename_i a r
    replace hs := bmT1_cons hs
    obtain ⟨w, s1, rfl, hx, hs⟩ := hs
    obtain ⟨x, rfl, -⟩ := hx
    exact bPo_new g q hs (aFull_ok (F x)) (hF x s1)
  · cases g
theorem bPure_2 {ι : List Value} {h : sHp} {S : bS} {a b : bN} {r : List bV} {ws : List Value} {f : bS → List bV → Bool} {ins : Instr} (g : (match bIo ins (bI S a) (bI S b) with
      | some (u, v) => bNew u v S (fun S x => f S (.inl x :: r))
      | none => false) = true) (q : bmS ι h S) (hs : bmT1 ι h (.inl b :: .inl a :: r) ws) : bPo ι h S f (sPure ins ws) := by
  replace hs := bmT1_cons hs
  obtain ⟨w, s1, rfl, hx, hs⟩ := hs
  replace hs := bmT1_cons hs
  obtain ⟨v, s, rfl, hy, hs⟩ := hs
  obtain ⟨y, rfl, hb⟩ := hx
  obtain ⟨x, rfl, ha⟩ := hy
  split at g
  · rename_i u v hi
    obtain ⟨z, hz, hw⟩ := bIo_ok hi (bI_ok q ha) (bI_ok q hb)
    exact bPo_new g q hs hw (hz s)
  · cases g
theorem bPure_ok {ι : List Value} {h : sHp} {ins : Instr} {S : bS} {st : List bV} {ws : List Value} {f : bS → List bV → Bool} (g : bPure ins S st f = true) (q : bmS ι h S) (hs : bmT1 ι h st ws) : bPo ι h S f (sPure ins ws) := by
  unfold bPure at g
  split at g
  · rename_i n
    obtain ⟨g1, g⟩ := b_bif g
    obtain ⟨g1, g2⟩ := aBa g1
    have g1 := of_decide_eq_true g1
    have g2 := of_decide_eq_true g2
    exact bPo_int g q hs (z := Int32.ofInt n) (Int32.toInt_ofInt_of_le (by omega) (by omega)) rfl
  · rename_i n
    obtain ⟨g1, g⟩ := b_bif g
    obtain ⟨g1, g2⟩ := aBa g1
    have g1 := of_decide_eq_true g1
    have g2 := of_decide_eq_true g2
    exact bPo_int g q hs (z := (Int8.ofInt n).toInt32) (by rw [Int8.toInt_toInt32]; exact Int8.toInt_ofInt_of_le (by omega) (by omega)) rfl
  · rename_i n
    obtain ⟨g1, g⟩ := b_bif g
    obtain ⟨g1, g2⟩ := aBa g1
    have g1 := of_decide_eq_true g1
    have g2 := of_decide_eq_true g2
    exact bPo_int g q hs (z := (Int16.ofInt n).toInt32) (by rw [Int16.toInt_toInt32]; exact Int16.toInt_ofInt_of_le (by omega) (by omega)) rfl
  · exact bPo_same g q rfl ⟨⟨_, rfl⟩, hs⟩
  · exact bPo_same g q rfl ⟨rfl, hs⟩
  · split at g
    · rename_i a b r
      obtain ⟨g1, g⟩ := b_bif g
      obtain ⟨g1, g2⟩ := aBa g1
      replace hs := bmT1_cons hs
      obtain ⟨w, s1, rfl, hx, hs⟩ := hs
      replace hs := bmT1_cons hs
      obtain ⟨v, s, rfl, hy, hs⟩ := hs
      obtain ⟨y, rfl⟩ := bJk_ok g1 hx
      obtain ⟨x, rfl⟩ := bJk_ok g2 hy
      exact bPo_new g q hs (aCm_ok x y) rfl
    · cases g
  · split at g
    · rename_i a r
      replace hs := bmT1_cons hs
      obtain ⟨w, s1, rfl, hx, hs⟩ := hs
      obtain ⟨x, rfl, -⟩ := hx
      exact bPo_same g q rfl ⟨⟨_, rfl⟩, hs⟩
    · cases g
  · split at g
    · rename_i a r
      obtain ⟨g1, g⟩ := b_bif g
      replace hs := bmT1_cons hs
      obtain ⟨w, s1, rfl, hx, hs⟩ := hs
      obtain ⟨x, rfl⟩ := bJk_ok g1 hx
      exact bPo_new g q hs (aFull_ok _) rfl
    · cases g
  · exact bPure_i (F := fun x => x.toInt8.toInt32) g q hs (fun _ _ => rfl)
  · exact bPure_i (F := fun x => x.toInt16.toInt32) g q hs (fun _ _ => rfl)
  · split at g
    · rename_i a r
      replace hs := bmT1_cons hs
      obtain ⟨w, s1, rfl, hx, hs⟩ := hs
      obtain ⟨x, rfl, hx⟩ := hx
      have h0 := bI_ok q hx
      generalize bI S a = p at g h0
      obtain ⟨lo, hi⟩ := p
      dsimp only at g
      have h1 : aW (-x).toInt (aRg (-hi, -lo)) := aRg_ok (Int32.toInt_neg x) (by unfold aW at h0 ⊢; dsimp only at h0 ⊢; omega)
      generalize aRg (-hi, -lo) = p at g h1
      obtain ⟨u, v⟩ := p
      exact bPo_new g q hs h1 rfl
    · cases g
  · split at g
    · rename_i a r
      obtain ⟨g1, g⟩ := b_bif g
      replace hs := bmT1_cons hs
      obtain ⟨w, s1, rfl, hx, hs⟩ := hs
      obtain ⟨x, rfl⟩ := bJk_ok g1 hx
      exact bPo_same g q rfl ⟨⟨_, rfl⟩, hs⟩
    · cases g
  · exact bPure_jj (F := fun x y => x + y) g q hs (fun _ _ _ => rfl)
  · exact bPure_jj (F := fun x y => x - y) g q hs (fun _ _ _ => rfl)
  · exact bPure_jj (F := fun x y => x &&& y) g q hs (fun _ _ _ => rfl)
  · exact bPure_jj (F := fun x y => x ||| y) g q hs (fun _ _ _ => rfl)
  · exact bPure_jj (F := fun x y => x ^^^ y) g q hs (fun _ _ _ => rfl)
  · exact bPure_ij (F := fun x y => x <<< (y.toInt64 &&& 63)) g q hs (fun _ _ _ => rfl)
  · exact bPure_ij (F := fun x y => x >>> (y.toInt64 &&& 63)) g q hs (fun _ _ _ => rfl)
  · exact bPure_ij (F := fun x y => (x.toUInt64 >>> (y.toInt64.toUInt64 &&& Int64.toUInt64 63)).toInt64) g q hs (fun _ _ _ => rfl)
  · split at g
    · rename_i a r
      obtain ⟨g1, g⟩ := b_bifn g
      replace hs := bmT1_cons hs
      obtain ⟨w, s1, rfl, hx, hs⟩ := hs
      exact bPo_same g q (if_pos (b_cat1 hx g1)) ⟨hx, hx, hs⟩
    · cases g
  · split at g
    · rename_i a b r
      obtain ⟨g1, g⟩ := b_bifn g
      obtain ⟨g1, g2⟩ := b_orf g1
      replace hs := bmT1_cons hs
      obtain ⟨w, s1, rfl, hx, hs⟩ := hs
      replace hs := bmT1_cons hs
      obtain ⟨v, s, rfl, hy, hs⟩ := hs
      exact bPo_same g q (if_pos ⟨b_cat1 hx g1, b_cat1 hy g2⟩) ⟨hx, hy, hx, hs⟩
    · cases g
  · split at g
    · rename_i a b r
      obtain ⟨g1, g⟩ := b_bifn g
      obtain ⟨g1, g2⟩ := b_orf g1
      replace hs := bmT1_cons hs
      obtain ⟨w, s1, rfl, hx, hs⟩ := hs
      replace hs := bmT1_cons hs
      obtain ⟨v, s, rfl, hy, hs⟩ := hs
      exact bPo_same g q (if_pos ⟨b_cat1 hx g1, b_cat1 hy g2⟩) ⟨hx, hy, hx, hy, hs⟩
    · cases g
  · split at g
    · rename_i a r
      obtain ⟨g1, g⟩ := b_bifn g
      replace hs := bmT1_cons hs
      obtain ⟨w, s1, rfl, hx, hs⟩ := hs
      exact bPo_same g q (if_pos (b_cat1 hx g1)) hs
    · cases g
  · split at g
    · rename_i c a r
      replace hs := bmT1_cons hs
      obtain ⟨w, s1, rfl, hx, hs⟩ := hs
      replace hs := bmT1_cons hs
      obtain ⟨v, s, rfl, hy, hs⟩ := hs
      obtain ⟨y, rfl, hb⟩ := hx
      obtain ⟨x, rfl, ha⟩ := hy
      have hc : y.toInt = c := hb
      obtain ⟨ι', S', b, g1, g2, g3, g4, g5⟩ := bAdd_ok (z := x + y) g q ha (by rw [Int32.toInt_add, hc])
      exact ⟨ι', S', _, _, rfl, g1, g2, g3, ⟨⟨_, rfl, g4⟩, bmT1_mono g2 (bEx_refl h) hs⟩, g5⟩
    · exact bPure_2 g q hs
    · cases g
  · split at g
    · exact bPure_2 g q hs
    · cases g
/-! locals -/
def bSet {α : Type} : List α → Nat → α → (List α → Bool) → Bool
  | [], _, _, f => f []
  | a :: r, n, v, f => (match n with
    | 0 => f (v :: r)
    | m + 1 => bSet r m v (fun r' => f (a :: r')))
theorem bSet_eq {α : Type} : ∀ (l : List α) (n : Nat) (v : α) (f : List α → Bool), bSet l n v f = f (l.set n v) := by
  intro l
  induction l with
  | nil => intro n v f; rfl
  | cons a r ih =>
    intro n v f
    cases n with
    | zero => rfl
    | succ m => exact ih m v (fun r' => f (a :: r'))
def bIsL (o : Option (Option bV)) : Bool := match o with
  | some (some v) => bJk v
  | _ => false
def bKil (L : bLo) (i : Nat) (f : bLo → Bool) : Bool := match i with
  | 0 => f L
  | j + 1 => bif bIsL (aNth L j) then bSet L j none f else f L
def bPut (L : bLo) (i : Nat) (v : bV) (f : bLo → Bool) : Bool := bKil L i fun L1 => bSet L1 i (some v) f
def bPutL (L : bLo) (i : Nat) (v : bV) (f : bLo → Bool) : Bool := bPut L i v fun L1 => bSet L1 (i + 1) none f
theorem bmL_none {ι : List Value} {h : sHp} {L : bLo} {vL : sLo} (q : bmL ι h L vL) (i : Nat) (o : Option Value) : bmL ι h (L.set i none) (vL.set i o) := by
  refine ⟨by rw [List.length_set, List.length_set]; exact q.1, fun j v hv => ?_⟩
  rw [List.getElem?_set] at hv
  split at hv
  · split at hv <;> cases hv
  · rename_i e
    rw [List.getElem?_set_ne e]
    exact q.2 j v hv
theorem bmL_none' {ι : List Value} {h : sHp} {L : bLo} {vL : sLo} (q : bmL ι h L vL) (i : Nat) : bmL ι h (L.set i none) vL := by
  refine ⟨by rw [List.length_set]; exact q.1, fun j v hv => ?_⟩
  rw [List.getElem?_set] at hv
  split at hv
  · split at hv <;> cases hv
  · exact q.2 j v hv
theorem bmL_some {ι : List Value} {h : sHp} {L : bLo} {vL : sLo} (q : bmL ι h L vL) (i : Nat) {v : bV} {w : Value} (hv : bmV ι h v w) : bmL ι h (L.set i (some v)) (vL.set i (some w)) := by
  refine ⟨by rw [List.length_set, List.length_set]; exact q.1, fun j u hu => ?_⟩
  rw [List.getElem?_set] at hu
  split at hu
  · rename_i e
    subst e
    split at hu
    · rename_i hl
      cases hu
      exact ⟨w, by rw [List.getElem?_set_self (by rw [← q.1]; exact hl)], hv⟩
    · cases hu
  · rename_i e
    rw [List.getElem?_set_ne e]
    exact q.2 j u hu
theorem bKil_ok {ι : List Value} {h : sHp} {L : bLo} {vL : sLo} {i : Nat} {f : bLo → Bool} (g : bKil L i f = true) (q : bmL ι h L vL) : ∃ L1, f L1 = true ∧ bmL ι h L1 (sKill vL i) := by
  unfold bKil at g
  unfold sKill
  cases i with
  | zero => exact ⟨L, g, q⟩
  | succ j =>
    dsimp only at g ⊢
    rw [bSet_eq, aNth_eq] at g
    cases hb : bIsL L[j]? with
    | true =>
      rw [hb] at g
      refine ⟨_, g, ?_⟩
      split
      · exact bmL_none q j none
      · exact bmL_none' q j
    | false =>
      rw [hb] at g
      refine ⟨L, g, ?_⟩
      split
      · rename_i hs
        refine ⟨by rw [List.length_set]; exact q.1, fun k v hv => ?_⟩
        by_cases e : j = k
        · subst e
          exfalso
          obtain ⟨w, h1, h2⟩ := q.2 j v hv
          rw [h1] at hs
          rw [hv] at hb
          have h3 := bmV_cat h2
          have h4 : bJk v = false := hb
          rw [h4] at h3
          cases w <;> first | (cases hs; done) | (cases h3)
        · rw [List.getElem?_set_ne e]
          exact q.2 k v hv
      · exact q
theorem bPut_ok {ι : List Value} {h : sHp} {L : bLo} {vL : sLo} {i : Nat} {v : bV} {w : Value} {f : bLo → Bool} (g : bPut L i v f = true) (q : bmL ι h L vL) (hv : bmV ι h v w) : ∃ L1, f L1 = true ∧ bmL ι h L1 (sPut vL i w) := by
  unfold bPut at g
  obtain ⟨L1, g1, q1⟩ := bKil_ok g q
  rw [bSet_eq] at g1
  exact ⟨_, g1, bmL_some q1 i hv⟩
theorem bPutL_ok {ι : List Value} {h : sHp} {L : bLo} {vL : sLo} {i : Nat} {v : bV} {w : Value} {f : bLo → Bool} (g : bPutL L i v f = true) (q : bmL ι h L vL) (hv : bmV ι h v w) : ∃ L1, f L1 = true ∧ bmL ι h L1 (sPutL vL i w) := by
  unfold bPutL at g
  obtain ⟨L1, g1, q1⟩ := bPut_ok g q hv
  rw [bSet_eq] at g1
  exact ⟨_, g1, bmL_none q1 (i + 1) none⟩
def bLdK (k : Nat) (v : bV) : Bool := match v with
  | .inl _ => Nat.beq k 0
  | .inr (t, _) => (match t with
    | 0 => Nat.beq k 1
    | _ + 1 => Nat.beq k 2)
def bLd (k i : Nat) (S : bS) (L : bLo) (st : List bV) (f : bS → bLo → List bV → Bool) : Bool := match aNth L i with
  | some (some v) => bif bLdK k v then f S L (v :: st) else false
  | _ => false
def bSt1 (k i : Nat) (S : bS) (L : bLo) (st : List bV) (f : bS → bLo → List bV → Bool) : Bool := match st with
  | v :: r => bif bLdK k v && Nat.blt i L.length then bPut L i v (fun L1 => f S L1 r) else false
  | _ => false
def bStL (i : Nat) (S : bS) (L : bLo) (st : List bV) (f : bS → bLo → List bV → Bool) : Bool := match st with
  | v :: r => bif bLdK 1 v && Nat.blt (i + 1) L.length then bPutL L i v (fun L1 => f S L1 r) else false
  | _ => false
def bLoc (ins : Instr) (S : bS) (L : bLo) (st : List bV) (f : bS → bLo → List bV → Bool) : Bool := match ins with
  | .iload i => bLd 0 i S L st f
  | .iload_n i => bLd 0 i S L st f
  | .lload i => bLd 1 i S L st f
  | .lload_n i => bLd 1 i S L st f
  | .aload i => bLd 2 i S L st f
  | .aload_n i => bLd 2 i S L st f
  | .istore i => bSt1 0 i S L st f
  | .istore_n i => bSt1 0 i S L st f
  | .lstore i => bStL i S L st f
  | .lstore_n i => bStL i S L st f
  | .astore i => bSt1 2 i S L st f
  | .astore_n i => bSt1 2 i S L st f
  | .iinc i n => (match aNth L i with
    | some (some (.inl a)) => bif decide (-2147483648 ≤ n) && decide (n ≤ 2147483647) then bAdd S a n (fun S1 b => bPut L i (.inl b) (fun L1 => f S1 L1 st)) else false
    | _ => false)
  | _ => false
def bLr (ι : List Value) (h : sHp) (S : bS) (f : bS → bLo → List bV → Bool) (o : Option (sLo × List Value)) : Prop := ∃ ι' S' L' st' vL' ws', o = some (vL', ws') ∧ f S' L' st' = true ∧ bLe ι ι' ∧ bmS ι' h S' ∧ bmL ι' h L' vL' ∧ bmT1 ι' h st' ws' ∧ S'.2.1 = S.2.1
theorem bLdK_ok {ι : List Value} {h : sHp} {k : Nat} {v : bV} {w : Value} (g : bLdK k v = true) (q : bmV ι h v w) : (k = 0 ∧ ∃ x, w = .int x) ∨ (k = 1 ∧ ∃ x, w = .long x) ∨ (k = 2 ∧ (w = .null ∨ ∃ p, w = .ref p)) := by
  rcases v with a | ⟨t, K⟩
  · obtain ⟨x, e, -⟩ := q
    exact Or.inl ⟨aBt g, x, e⟩
  · match t, g, q with
    | 0, g, q => exact Or.inr (Or.inl ⟨aBt g, q⟩)
    | 1, g, q => exact Or.inr (Or.inr ⟨aBt g, Or.inl q⟩)
    | 2, g, q =>
      obtain ⟨p, e, -⟩ := q
      exact Or.inr (Or.inr ⟨aBt g, Or.inr ⟨p, e⟩⟩)
    | k + 3, g, q => exact Or.inr (Or.inr ⟨aBt g, q.2.imp id (fun ⟨p, e, _⟩ => ⟨p, e⟩)⟩)
section LOC
variable {ι : List Value} {h : sHp} {S : bS} {L : bLo} {st : List bV} {f : bS → bLo → List bV → Bool} {vL : sLo} {ws : List Value} {i : Nat}
theorem bLd_ok {k : Nat} {o : Option (sLo × List Value)} (g : bLd k i S L st f = true) (q : bmS ι h S) (hL : bmL ι h L vL) (hs : bmT1 ι h st ws) (ho : ∀ w, vL[i]? = some (some w) → ((k = 0 ∧ ∃ x, w = .int x) ∨ (k = 1 ∧ ∃ x, w = .long x) ∨ (k = 2 ∧ (w = .null ∨ ∃ p, w = .ref p))) → o = some (vL, w :: ws)) : bLr ι h S f o := by
  unfold bLd at g
  rw [aNth_eq] at g
  split at g
  · rename_i v hv
    obtain ⟨g1, g⟩ := b_bif g
    obtain ⟨w, h1, h2⟩ := hL.2 i v hv
    exact ⟨ι, S, L, _, vL, _, ho w h1 (bLdK_ok g1 h2), g, bLe_refl ι, q, hL, ⟨h2, hs⟩, rfl⟩
  · cases g
theorem bSt1_ok {k : Nat} {o : Option (sLo × List Value)} (g : bSt1 k i S L st f = true) (q : bmS ι h S) (hL : bmL ι h L vL) (hs : bmT1 ι h st ws) (ho : ∀ w s, ws = w :: s → i < vL.length → ((k = 0 ∧ ∃ x, w = .int x) ∨ (k = 1 ∧ ∃ x, w = .long x) ∨ (k = 2 ∧ (w = .null ∨ ∃ p, w = .ref p))) → o = some (sPut vL i w, s)) : bLr ι h S f o := by
  unfold bSt1 at g
  split at g
  · rename_i v r
    obtain ⟨g1, g⟩ := b_bif g
    obtain ⟨g1, g2⟩ := aBa g1
    replace hs := bmT1_cons hs
    obtain ⟨w, s, rfl, hv, hs⟩ := hs
    obtain ⟨L1, g3, q3⟩ := bPut_ok g hL hv
    exact ⟨ι, S, L1, r, _, s, ho w s rfl (by rw [← hL.1]; exact aBl g2) (bLdK_ok g1 hv), g3, bLe_refl ι, q, q3, hs, rfl⟩
  · cases g
theorem bStL_ok {o : Option (sLo × List Value)} (g : bStL i S L st f = true) (q : bmS ι h S) (hL : bmL ι h L vL) (hs : bmT1 ι h st ws) (ho : ∀ x s, ws = .long x :: s → i + 1 < vL.length → o = some (sPutL vL i (.long x), s)) : bLr ι h S f o := by
  unfold bStL at g
  split at g
  · rename_i v r
    obtain ⟨g1, g⟩ := b_bif g
    obtain ⟨g1, g2⟩ := aBa g1
    replace hs := bmT1_cons hs
    obtain ⟨w, s, rfl, hv, hs⟩ := hs
    obtain ⟨L1, g3, q3⟩ := bPutL_ok g hL hv
    rcases bLdK_ok g1 hv with ⟨e, -⟩ | ⟨-, x, rfl⟩ | ⟨e, -⟩
    · cases e
    · exact ⟨ι, S, L1, r, _, s, ho x s rfl (by rw [← hL.1]; exact aBl g2), g3, bLe_refl ι, q, q3, hs, rfl⟩
    · cases e
  · cases g
theorem b_ldI {w : Value} (hw : vL[i]? = some (some w)) (hk : ((0 : Nat) = 0 ∧ ∃ x, w = .int x) ∨ ((0 : Nat) = 1 ∧ ∃ x, w = .long x) ∨ ((0 : Nat) = 2 ∧ (w = .null ∨ ∃ p, w = .ref p))) : sLdI vL i ws = some (vL, w :: ws) := by
  rcases hk with ⟨-, x, rfl⟩ | ⟨e, -⟩ | ⟨e, -⟩
  · unfold sLdI; rw [hw]
  · cases e
  · cases e
theorem b_ldL {w : Value} (hw : vL[i]? = some (some w)) (hk : ((1 : Nat) = 0 ∧ ∃ x, w = .int x) ∨ ((1 : Nat) = 1 ∧ ∃ x, w = .long x) ∨ ((1 : Nat) = 2 ∧ (w = .null ∨ ∃ p, w = .ref p))) : sLdL vL i ws = some (vL, w :: ws) := by
  rcases hk with ⟨e, -⟩ | ⟨-, x, rfl⟩ | ⟨e, -⟩
  · cases e
  · unfold sLdL; rw [hw]
  · cases e
theorem b_ldA {w : Value} (hw : vL[i]? = some (some w)) (hk : ((2 : Nat) = 0 ∧ ∃ x, w = .int x) ∨ ((2 : Nat) = 1 ∧ ∃ x, w = .long x) ∨ ((2 : Nat) = 2 ∧ (w = .null ∨ ∃ p, w = .ref p))) : sLdA vL i ws = some (vL, w :: ws) := by
  rcases hk with ⟨e, -⟩ | ⟨e, -⟩ | ⟨-, rfl | ⟨x, rfl⟩⟩
  · cases e
  · cases e
  · unfold sLdA; rw [hw]
  · unfold sLdA; rw [hw]
theorem b_stI {w : Value} {s : List Value} (hl : i < vL.length) (hk : ((0 : Nat) = 0 ∧ ∃ x, w = .int x) ∨ ((0 : Nat) = 1 ∧ ∃ x, w = .long x) ∨ ((0 : Nat) = 2 ∧ (w = .null ∨ ∃ p, w = .ref p))) : sStI vL i (w :: s) = some (sPut vL i w, s) := by
  rcases hk with ⟨-, x, rfl⟩ | ⟨e, -⟩ | ⟨e, -⟩
  · unfold sStI; dsimp only; rw [if_pos hl]
  · cases e
  · cases e
theorem b_stA {w : Value} {s : List Value} (hl : i < vL.length) (hk : ((2 : Nat) = 0 ∧ ∃ x, w = .int x) ∨ ((2 : Nat) = 1 ∧ ∃ x, w = .long x) ∨ ((2 : Nat) = 2 ∧ (w = .null ∨ ∃ p, w = .ref p))) : sStA vL i (w :: s) = some (sPut vL i w, s) := by
  rcases hk with ⟨e, -⟩ | ⟨e, -⟩ | ⟨-, rfl | ⟨x, rfl⟩⟩
  · cases e
  · cases e
  · unfold sStA; dsimp only; rw [if_pos hl]
  · unfold sStA; dsimp only; rw [if_pos hl]
theorem b_stL {x : Int64} {s : List Value} (hl : i + 1 < vL.length) : sStL vL i (.long x :: s) = some (sPutL vL i (.long x), s) := by
  unfold sStL; dsimp only; rw [if_pos hl]
theorem bLoc_ok {ins : Instr} (g : bLoc ins S L st f = true) (q : bmS ι h S) (hL : bmL ι h L vL) (hs : bmT1 ι h st ws) : bLr ι h S f (sLoc ins vL ws) := by
  unfold bLoc at g
  split at g
  · exact bLd_ok g q hL hs (fun w => b_ldI)
  · exact bLd_ok g q hL hs (fun w => b_ldI)
  · exact bLd_ok g q hL hs (fun w => b_ldL)
  · exact bLd_ok g q hL hs (fun w => b_ldL)
  · exact bLd_ok g q hL hs (fun w => b_ldA)
  · exact bLd_ok g q hL hs (fun w => b_ldA)
  · exact bSt1_ok g q hL hs (fun w s e hl hk => by subst e; exact b_stI hl hk)
  · exact bSt1_ok g q hL hs (fun w s e hl hk => by subst e; exact b_stI hl hk)
  · exact bStL_ok g q hL hs (fun x s e hl => by subst e; exact b_stL hl)
  · exact bStL_ok g q hL hs (fun x s e hl => by subst e; exact b_stL hl)
  · exact bSt1_ok g q hL hs (fun w s e hl hk => by subst e; exact b_stA hl hk)
  · exact bSt1_ok g q hL hs (fun w s e hl hk => by subst e; exact b_stA hl hk)
  · rename_i i n
    rw [aNth_eq] at g
    split at g
    · rename_i a hv
      obtain ⟨g1, g⟩ := b_bif g
      obtain ⟨g1, g2⟩ := aBa g1
      have g1 := of_decide_eq_true g1
      have g2 := of_decide_eq_true g2
      obtain ⟨w, h1, x, rfl, hx⟩ := hL.2 i _ hv
      obtain ⟨ι', S', b, k1, k2, k3, k4, k5⟩ := bAdd_ok (z := x + Int32.ofInt n) g q hx (by rw [Int32.toInt_add, Int32.toInt_ofInt_of_le (by omega) (by omega)])
      obtain ⟨L1, g3, q3⟩ := bPut_ok (w := .int (x + Int32.ofInt n)) k1 (bmL_mono k2 (bEx_refl h) hL) ⟨_, rfl, k4⟩
      refine ⟨ι', S', L1, st, _, ws, ?_, g3, k2, k3, q3, bmT1_mono k2 (bEx_refl h) hs, k5⟩
      show sInc vL i n ws = _
      unfold sInc
      rw [h1]
    · cases g
  · cases g
end LOC
end
section
/-! ===== the second executor: cells ===== -/
def bOf (k : Nat) : List (Nat × bV) → Option bV
  | [] => none
  | e :: r => bif Nat.beq e.1 k then some e.2 else bOf k r
theorem bOf_mem {k : Nat} {v : bV} : ∀ {O : List (Nat × bV)}, bOf k O = some v → (k, v) ∈ O := by
  intro O
  induction O with
  | nil => intro h; cases h
  | cons e r ih =>
    intro h
    unfold bOf at h
    rw [aBq] at h
    by_cases he : e.1 = k
    · rw [decide_eq_true he] at h
      cases h
      rw [← he]
      exact List.mem_cons_self
    · rw [decide_eq_false he] at h
      exact List.mem_cons_of_mem _ (ih h)
/-- a list without some of its members, laid out anew -/
def bFil {α : Type} (p : α → Bool) : List α → (List α → Bool) → Bool
  | [], f => f []
  | a :: r, f => bif p a then bFil p r (fun l => f (a :: l)) else bFil p r f
theorem bFil_eq {α : Type} (p : α → Bool) : ∀ (l : List α) (f : List α → Bool), bFil p l f = f (l.filter p) := by
  intro l
  induction l with
  | nil => intro f; rfl
  | cons a r ih =>
    intro f
    unfold bFil
    rw [List.filter_cons, ih, ih]
    cases p a <;> rfl
def bSmN (a b : bN) : Bool := match a with
  | .inl i => (match b with
    | .inl j => Nat.beq i j
    | _ => false)
  | .inr c => (match b with
    | .inr d => decide (c = d)
    | _ => false)
theorem bSmN_ok {a b : bN} (h : bSmN a b = true) : a = b := by
  unfold bSmN at h
  split at h
  · split at h
    · rw [aBt h]
    · cases h
  · split at h
    · rw [of_decide_eq_true h]
    · cases h
def bAf (K : Nat) (a : bN) : List (Nat × bN × bV) → Option bV
  | [] => none
  | e :: r => bif Nat.beq e.1 K && bSmN e.2.1 a then some e.2.2 else bAf K a r
theorem bAf_mem {K : Nat} {a : bN} {v : bV} : ∀ {A : List (Nat × bN × bV)}, bAf K a A = some v → (K, a, v) ∈ A := by
  intro A
  induction A with
  | nil => intro h; cases h
  | cons e r ih =>
    intro h
    unfold bAf at h
    cases hb : (Nat.beq e.1 K && bSmN e.2.1 a) with
    | true =>
      rw [hb] at h
      cases h
      replace hb := aBa hb
      obtain ⟨h1, h2⟩ := hb
      obtain ⟨p, b, v⟩ := e
      have e1 := aBt h1
      have e2 := bSmN_ok h2
      dsimp only at e1 e2
      subst e1 e2
      exact List.mem_cons_self
    | false =>
      rw [hb] at h
      exact List.mem_cons_of_mem _ (ih h)
/-- the field's own type takes values of the type -/
def bFty (s : FieldType) (t : bTy) : Bool := match s with
  | .int => (match t with
    | .inl _ => true
    | _ => false)
  | .boolean => (match t with
    | .inl (lo, hi) => decide (0 ≤ lo) && decide (hi ≤ 1)
    | _ => false)
  | .long => (match t with
    | .inr (k, _) => Nat.beq k 0
    | _ => false)
  | .object _ => (match t with
    | .inr (k, _) => Nat.blt 0 k
    | _ => false)
  | .array _ => (match t with
    | .inr (k, _) => Nat.blt 0 k
    | _ => false)
  | _ => false
theorem b_bit {x : Int32} {lo hi : Int} (h1 : 0 ≤ lo) (h2 : hi ≤ 1) (h3 : lo ≤ x.toInt) (h4 : x.toInt ≤ hi) : x = 0 ∨ x = 1 := by
  have e0 : (0 : Int32).toInt = 0 := rfl
  have e1 : (1 : Int32).toInt = 1 := rfl
  by_cases h : x.toInt = 0
  · exact Or.inl (Int32.toInt_inj.mp (by rw [h, e0]))
  · exact Or.inr (Int32.toInt_inj.mp (by rw [e1]; omega))
theorem bT_ref {h : sHp} {k K : Nat} {w : Value} (q : bT h (.inr (k, K)) w) (hk : 0 < k) : w = .null ∨ ∃ p, w = .ref p := by
  match k, hk, q with
  | 1, _, q => exact Or.inl q
  | 2, _, q =>
    obtain ⟨p, e, -⟩ := q
    exact Or.inr ⟨p, e⟩
  | k + 3, _, q => exact q.imp id (fun ⟨p, e, _⟩ => ⟨p, e⟩)
theorem bFty_ok {h : sHp} {s : FieldType} {t : bTy} {w : Value} (g : bFty s t = true) (q : bT h t w) : sFit s w = true := by
  unfold bFty at g
  split at g
  · rcases t with ⟨lo, hi⟩ | ⟨k, K⟩
    · obtain ⟨x, rfl, -⟩ := q
      rfl
    · cases g
  · rcases t with ⟨lo, hi⟩ | ⟨k, K⟩
    · obtain ⟨x, rfl, h3, h4⟩ := q
      replace g := aBa g
      obtain ⟨h1, h2⟩ := g
      exact decide_eq_true (b_bit (of_decide_eq_true h1) (of_decide_eq_true h2) h3 h4)
    · cases g
  · rcases t with ⟨lo, hi⟩ | ⟨k, K⟩
    · cases g
    · have e : k = 0 := aBt g
      subst e
      obtain ⟨x, rfl⟩ := q
      rfl
  · rcases t with ⟨lo, hi⟩ | ⟨k, K⟩
    · cases g
    · rcases bT_ref q (aBl g) with rfl | ⟨p, rfl⟩ <;> rfl
  · rcases t with ⟨lo, hi⟩ | ⟨k, K⟩
    · cases g
    · rcases bT_ref q (aBl g) with rfl | ⟨p, rfl⟩ <;> rfl
  · cases g
/-- an object behind a value -/
def bObj (S : bS) (v : bV) : Option (Nat × Nat × List bTy) := match bRef S v with
  | some K => (match bGam (bKd K) with
    | some (.inr (ci, tys)) => some (K, ci, tys)
    | _ => none)
  | none => none
def bArr (S : bS) (v : bV) : Option (Nat × Nat × Nat × bTy × List Int) := match bRef S v with
  | some K => (match bGam (bKd K) with
    | some (.inl z) => some (K, z)
    | _ => none)
  | none => none
def bGet (k : Nat) (S : bS) (st : List bV) (f : bS → List bV → Bool) : Bool := match st with
  | v :: r => (match bObj S v with
    | some (K, ci, tys) => (match aNth tys (k % 64) with
      | some ty => bif Nat.beq (sGrp ci) (k / 64) then (match ty with
        | .inl (lo, hi) => bif bOne K then (aF (K * 64 + k % 64) fun key => (match bOf key S.2.2.2.2.2.1 with
          | some x => f S (x :: r)
          | none => bNew lo hi S (fun S1 x => (match S1 with
            | (n, g, G, D, N, O, A) => f (n, g, G, D, N, (key, .inl x) :: O, A) (.inl x :: r))))) else bNew lo hi S (fun S1 x => f S1 (.inl x :: r))
        | ty => bMk ty S (fun S1 x => f S1 (x :: r))) else false
      | none => false)
    | none => false)
  | _ => false
def bDf (D : List (Nat × Nat × Int)) (i : Nat) : Nat × Int := match D with
  | [] => (i, 0)
  | e :: r => bif Nat.beq e.1 i then e.2 else bDf r i
/-- surely no smaller than what was there -/
def bGe : Nat → bS → bN → bN → Int → Bool
  | 0, _, _, _, _ => false
  | n + 1, S, a, b, c => bSmN a b && decide (0 ≤ c) || (match a with
    | .inr _ => false
    | .inl i => (match bDf S.2.2.2.1 i with
      | (j, e) => bif Nat.beq i j then false else bGe n S (.inl j) b (c + e)))
def bUp (S : bS) (key : Nat) (v : bV) : Bool := match v with
  | .inl a => (match bOf key S.2.2.2.2.2.1 with
    | some (.inl b) => bGe 9 S a b 0
    | _ => false)
  | _ => false
def bPtf (W k : Nat) (S : bS) (st : List bV) (f : bS → List bV → Bool) : Bool := match st with
  | v :: u :: r => (match bObj S u with
    | some (K, ci, tys) => (match aNth tys (k % 64) with
      | some ty => bif Nat.beq (sGrp ci) (k / 64) && (bFit S v ty && (bFty (sTy ci (k % 64)) ty && (Nat.blt K 113 && (W.testBit (K * 64 + k % 64) && (W.testBit (K * 64 + k % 64 + 8192) || (bOne K && bUp S (K * 64 + k % 64) v)))))) then (aF (K * 64 + k % 64) fun key => (match S with
        | (n, g, G, D, N, O, A) => bFil (fun e => !(Nat.beq e.1 key)) O fun O1 => bif bOne K then f (n, g, G, D, N, (key, v) :: O1, A) r else f (n, g, G, D, N, O1, A) r)) else false
      | none => false)
    | none => false)
  | _ => false
def bIx (S : bS) (a : bN) (n : Nat) : Bool := match bI S a with
  | (x, y) => decide (0 ≤ x) && decide (y < (n : Int))
def bLdv (t : Nat) (S : bS) (st : List bV) (f : bS → List bV → Bool) : Bool := match st with
  | .inl a :: v :: r => (match bArr S v with
    | some (_, t', n, ty, cs) => bif Nat.beq t' t && bIx S a n then (match ty with
      | .inl (lo, hi) => (match bI S a with
        | (x, y) => bif decide (x = y) then (match aNth cs x.toNat with
          | some z => f S (.inl (.inr z) :: r)
          | none => bNew lo hi S (fun S1 x => f S1 (.inl x :: r))) else bNew lo hi S (fun S1 x => f S1 (.inl x :: r)))
      | .inr (k, _) => bif Nat.beq k 0 then f S (.inr (0, 0) :: r) else false) else false
    | none => false)
  | _ => false
def bLda (S : bS) (st : List bV) (f : bS → List bV → Bool) : Bool := match st with
  | .inl a :: v :: r => (match bArr S v with
    | some (K, t, n, ty, _) => bif (Nat.blt 2 t && Nat.blt t 6) && bIx S a n then (bif bOne K then (match bAf K a S.2.2.2.2.2.2 with
        | some x => f S (x :: r)
        | none => bMk ty S (fun S1 x => (match S1 with
          | (n, g, G, D, N, O, A) => f (n, g, G, D, N, O, (K, a, x) :: A) (x :: r)))) else bMk ty S (fun S1 x => f S1 (x :: r))) else false
    | none => false)
  | _ => false
def bStv (t W : Nat) (S : bS) (st : List bV) (f : bS → List bV → Bool) : Bool := match st with
  | v :: .inl a :: u :: r => (match bArr S u with
    | some (K, t', n, ty, cs) => bif Nat.beq t' t && (bIx S a n && (bFit S v ty && (cs.isEmpty && W.testBit (K * 64)))) then f S r else false
    | none => false)
  | _ => false
def bSta (W : Nat) (S : bS) (st : List bV) (f : bS → List bV → Bool) : Bool := match st with
  | v :: .inl a :: u :: r => (match bArr S u with
    | some (K, t, n, ty, _) => bif Nat.beq t 4 && (bIx S a n && (bFit S v ty && (W.testBit (K * 64) && (match ty with
      | .inr (k, K') => Nat.beq k 3 && Nat.beq K' 113
      | _ => false)))) then (match S with
        | (n, g, G, D, N, O, A) => bFil (fun e => !(Nat.beq e.1 K)) A fun A1 => f (n, g, G, D, N, O, A1) r) else false
    | none => false)
  | _ => false
def bHeap (W : Nat) (ins : Instr) (S : bS) (st : List bV) (f : bS → List bV → Bool) : Bool := match ins with
  | .getfield k => bGet k S st f
  | .putfield k => bPtf W k S st f
  | .iaload => bLdv 0 S st f
  | .baload => bLdv 2 S st f
  | .laload => bLdv 1 S st f
  | .aaload => bLda S st f
  | .iastore => bStv 0 W S st f
  | .bastore => bStv 2 W S st f
  | .lastore => bStv 1 W S st f
  | .aastore => bSta W S st f
  | .arraylength => (match st with
    | v :: r => (match bArr S v with
      | some (_, t, n, _, _) => bif Nat.blt t 6 && Nat.blt n 100000 then aF n fun n => f S (.inl (.inr (Int.ofNat n)) :: r) else false
      | none => false)
    | _ => false)
  | .ldc2_w _ => f S (.inr (0, 0) :: st)
  | .ldc k => bif Nat.blt k 2147483648 then f S (.inl (.inr (Int.ofNat k)) :: st) else (bif Nat.blt k 4294967296 then aF (4294967295 - k) (fun j => f S (.inl (.inr (Int.negSucc j)) :: st)) else (bif Nat.blt k 4294967303 then aF (400 + (k - 4294967296)) (fun K => f S (.inr (2, K) :: st)) else false))
  | .ldc_w k => bif Nat.blt k 2147483648 then f S (.inl (.inr (Int.ofNat k)) :: st) else false
  | _ => false
/-- what a step over the cells gives -/
def bHo (ι : List Value) (h : sHp) (W : Nat) (S : bS) (f : bS → List bV → Bool) (o : Option (List Value × sHp)) : Prop := ∃ ι' S' st' ws' h', o = some (ws', h') ∧ f S' st' = true ∧ bLe ι ι' ∧ bmS ι' h' S' ∧ bmT1 ι' h' st' ws' ∧ S'.2.1 = S.2.1 ∧ bH h' ∧ bFr W 0 h h'
section HEAP
variable {ι : List Value} {h : sHp} {S : bS} {st : List bV} {f : bS → List bV → Bool} {ws : List Value} {W : Nat}
theorem bObj_ok {v : bV} {w : Value} {K ci0 : Nat} {tys : List bTy} (g : bObj S v = some (K, ci0, tys)) (hH : bH h) (q : bmS ι h S) (hv : bmV ι h v w) : ∃ (p ci : Nat) (fs : List Value), w = .ref p ∧ h[p]? = some (.inr (ci, fs)) ∧ sGrp ci = sGrp ci0 ∧ (K ≠ 113 → ci = ci0) ∧ fs.length = tys.length ∧ (∀ (j : Nat) (ty : bTy), tys[j]? = some ty → ∃ v : Value, fs[j]? = some v ∧ bT h ty v) ∧ bGam (bKp p (.inr (ci, fs))) = some (.inr (ci, tys)) ∧ bKK (bKp p (.inr (ci, fs))) K = true := by
  unfold bObj at g
  split at g
  · rename_i K' hr
    obtain ⟨p, rfl, hp⟩ := bRef_ok hr q hv
    split at g
    · rename_i ci1 tys1 hg
      cases g
      obtain ⟨ci, fs, h1, h2⟩ := bIn_obj hH hp hg
      exact ⟨p, ci, fs, rfl, h1, h2⟩
    · cases g
  · cases g
theorem bArr_ok {v : bV} {w : Value} {K t n : Nat} {ty : bTy} {cs : List Int} (g : bArr S v = some (K, t, n, ty, cs)) (hH : bH h) (q : bmS ι h S) (hv : bmV ι h v w) : ∃ p c, w = .ref p ∧ h[p]? = some c ∧ bCm h (.inl (t, n, ty, cs)) c ∧ bKp p c = K ∧ bGam K = some (.inl (t, n, ty, cs)) := by
  unfold bArr at g
  split at g
  · rename_i K' hr
    obtain ⟨p, rfl, hp⟩ := bRef_ok hr q hv
    split at g
    · rename_i z hg
      cases g
      obtain ⟨c, h1, h2⟩ := bIn_arr hH hp hg
      exact ⟨p, c, rfl, h1, h2⟩
    · cases g
  · cases g
theorem bIx_ok {a : bN} {x : Int32} {n : Nat} (g : bIx S a n = true) (q : bmS ι h S) (hx : bmI ι a x) : ¬ (x < 0 ∨ n ≤ x.toNatClampNeg) ∧ x.toNatClampNeg < n ∧ (x.toNatClampNeg : Int) = x.toInt := by
  have h0 := bI_ok q hx
  unfold bIx at g
  generalize bI S a = p at g h0
  obtain ⟨lo, hi⟩ := p
  unfold aW at h0
  dsimp only at g h0
  replace g := aBa g
  obtain ⟨g1, g2⟩ := g
  replace g1 := of_decide_eq_true g1
  replace g2 := of_decide_eq_true g2
  have e : (x.toNatClampNeg : Int) = x.toInt := by
    show ((x.toInt.toNat : Nat) : Int) = x.toInt
    omega
  refine ⟨fun z => ?_, by omega, e⟩
  rcases z with z | z
  · have := Int32.lt_iff_toInt_lt.mp z
    have e0 : (0 : Int32).toInt = 0 := rfl
    omega
  · omega
theorem bHo_read {w : Value} {r : List bV} {rs : List Value} {ty : bTy} {o : Option (List Value × sHp)} (g : bMk ty S (fun S1 x => f S1 (x :: r)) = true) (hH : bH h) (q : bmS ι h S) (hr : bmT1 ι h r rs) (hw : bT h ty w) (ho : o = some (w :: rs, h)) : bHo ι h W S f o := by
  obtain ⟨ι', S', v, g1, g2, g3, g4, g5⟩ := bMk_ok g q hw
  exact ⟨ι', S', _, _, h, ho, g1, g2, g3, ⟨g4, bmT1_mono g2 (bEx_refl h) hr⟩, g5, hH, bFr_refl W h⟩
theorem bHo_same {st' : List bV} {ws' : List Value} {o : Option (List Value × sHp)} (g : f S st' = true) (hH : bH h) (q : bmS ι h S) (ho : o = some (ws', h)) (hr : bmT1 ι h st' ws') : bHo ι h W S f o := ⟨ι, S, _, _, h, ho, g, bLe_refl ι, q, hr, rfl, hH, bFr_refl W h⟩
theorem bGet_ok {k : Nat} (g : bGet k S st f = true) (hH : bH h) (q : bmS ι h S) (hs : bmT1 ι h st ws) : bHo ι h W S f (sGetF k ws h) := by
  unfold bGet at g
  split at g
  · rename_i v r
    replace hs := bmT1_cons hs
    obtain ⟨w, s, rfl, hv, hs⟩ := hs
    split at g
    · rename_i K ci0 tys ho
      obtain ⟨p, ci, fs, rfl, h1, h2, -, h4, h5, -, h6⟩ := bObj_ok ho hH q hv
      split at g
      · rename_i ty hty
        rw [aNth_eq] at hty
        obtain ⟨x, hx, hT⟩ := h5 _ _ hty
        replace g := b_bif g
        obtain ⟨b1, g⟩ := g
        have e : sGetF k (.ref p :: s) h = some (x :: s, h) := by
          unfold sGetF
          dsimp only
          rw [h1]
          dsimp only
          rw [if_pos (h2.trans (aBt b1)), hx]
        split at g
        · rename_i lo hi
          cases hb : bOne K with
          | false =>
            rw [hb] at g
            exact bHo_read (ty := .inl (lo, hi)) g hH q hs hT e
          | true =>
            rw [hb] at g
            dsimp only [cond] at g
            rw [aF_eq] at g
            have hk : bKp p (.inr (ci, fs)) = K := by
              rcases bKK_cases h6 with e1 | ⟨e1, -⟩
              · exact e1
              · exact absurd (bOne_k hb (.inr (0, []))).1 (by omega)
            have hp := bOne_p hb hk
            subst hp
            have hdiv : (p * 64 + k % 64) / 64 = p := by omega
            have hmod : (p * 64 + k % 64) % 64 = k % 64 := by omega
            split at g
            · rename_i y hy
              obtain ⟨-, ci', fs', w', k1, k2, k3⟩ := q.2.2.2.2.1 _ (bOf_mem hy)
              dsimp only at k1 k2 k3
              rw [hdiv, h1] at k1
              cases k1
              rw [hmod, hx] at k2
              cases k2
              exact bHo_same g hH q e ⟨k3, hs⟩
            · obtain ⟨z, rfl, hz⟩ := hT
              obtain ⟨ι', S', a, g1, g2, g3, g4, g5⟩ := bNew_ok g q (x := z) hz
              obtain ⟨n0, g0, G, D, N, O, A⟩ := S'
              refine ⟨ι', _, _, _, h, e, g1, g2, ⟨g3.1, g3.2.1, g3.2.2.1, g3.2.2.2.1, ?_, g3.2.2.2.2.2⟩, ⟨⟨z, rfl, g4⟩, bmT1_mono g2 (bEx_refl h) hs⟩, g5, hH, bFr_refl W h⟩
              intro e' he
              rcases List.mem_cons.mp he with rfl | he
              · refine ⟨by dsimp only; rw [hdiv]; exact hb, ci, fs, .int z, by dsimp only; rw [hdiv]; exact h1, by dsimp only; rw [hmod]; exact hx, z, rfl, g4⟩
              · exact g3.2.2.2.2.1 e' he
        · exact bHo_read g hH q hs hT e
      · cases g
    · cases g
  · cases g
/-- the state after a write that leaves what it knows -/
theorem bmS_heap {h' : sHp} {n g : Nat} {G : List (Nat × Int × Int)} {D : List (Nat × Nat × Int)} {N : List (Nat × Bool)} {O O' : List (Nat × bV)} {A A' : List (Nat × bN × bV)} (q : bmS ι h (n, g, G, D, N, O, A)) (hO : bmO ι h' O') (hA : bmA ι h' A') : bmS ι h' (n, g, G, D, N, O', A') := ⟨q.1, q.2.1, q.2.2.1, q.2.2.2.1, hO, hA⟩
theorem bmA_obj {p ci ci' : Nat} {fs fs' : List Value} {A : List (Nat × bN × bV)} (q : bmA ι h A) (hc : h[p]? = some (.inr (ci, fs))) (hx : bEx h (h.set p (.inr (ci', fs')))) : bmA ι (h.set p (.inr (ci', fs'))) A := fun e he => by
  obtain ⟨h0, t, n, f, j, h1, h2, h3⟩ := q e he
  refine ⟨h0, t, n, f, j, ?_, h2, bmV_mono (bLe_refl ι) hx h3⟩
  by_cases e1 : p = e.1
  · subst e1
    rw [hc] at h1
    cases h1
  · rw [s_set_ne e1]
    exact h1
theorem bmO_arr {p t n : Nat} {d : (Nat → Int32) ⊕ (Nat → Int64) ⊕ (Nat → UInt32) ⊕ (Nat → UInt64) ⊕ (Nat → Option Nat)} {c' : va_E} {O : List (Nat × bV)} (q : bmO ι h O) (hc : h[p]? = some (.inl (t, n, d))) (hx : bEx h (h.set p c')) : bmO ι (h.set p c') O := fun e he => by
  obtain ⟨h0, ci, fs, w, h1, h2, h3⟩ := q e he
  refine ⟨h0, ci, fs, w, ?_, h2, bmV_mono (bLe_refl ι) hx h3⟩
  by_cases e1 : p = e.1 / 64
  · subst e1
    rw [hc] at h1
    cases h1
  · rw [s_set_ne e1]
    exact h1
theorem bDf_sp {i : Nat} : ∀ {D : List (Nat × Nat × Int)}, bmD ι D → ∀ {x : Int32}, ι[i]? = some (.int x) → ∃ y, ι[(bDf D i).1]? = some (.int y) ∧ x.toInt = y.toInt + (bDf D i).2 := by
  intro D
  induction D with
  | nil => intro _ x hx; exact ⟨x, hx, by show x.toInt = x.toInt + 0; omega⟩
  | cons e r ih =>
    intro hD x hx
    unfold bDf
    cases hb : Nat.beq e.1 i with
    | true =>
      obtain ⟨u, y, h1, h2, h3⟩ := hD e List.mem_cons_self
      rw [aBt hb, hx] at h1
      cases h1
      exact ⟨y, h2, h3⟩
    | false => exact ih (fun e he => hD e (List.mem_cons_of_mem _ he)) hx
theorem bGe_ok (q : bmS ι h S) : ∀ (n : Nat) (a b : bN) (c : Int) {x y : Int32}, bGe n S a b c = true → bmI ι a x → bmI ι b y → y.toInt ≤ x.toInt + c := by
  intro n
  induction n with
  | zero => intro a b c x y g; cases g
  | succ n ih =>
    intro a b c x y g ha hb
    unfold bGe at g
    rw [Bool.or_eq_true] at g
    rcases g with g | g
    · obtain ⟨g1, g2⟩ := aBa g
      have g2 := of_decide_eq_true g2
      have e := bSmN_ok g1
      subst e
      have e2 : x = y := by
        cases a with
        | inl i =>
          have h1 : ι[i]? = some (Value.int x) := ha
          have h2 : ι[i]? = some (Value.int y) := hb
          rw [h1] at h2
          cases h2
          rfl
        | inr z =>
          have h1 : x.toInt = z := ha
          have h2 : y.toInt = z := hb
          exact Int32.toInt_inj.mp (h1.trans h2.symm)
      subst e2
      omega
    · cases a with
      | inr z => cases g
      | inl i =>
        dsimp only at g
        have h0 := bDf_sp (i := i) q.2.2.1 ha
        generalize bDf S.2.2.2.1 i = p at g h0
        obtain ⟨j, e⟩ := p
        obtain ⟨w, h1, h2⟩ := h0
        dsimp only at g h1 h2
        cases hij : Nat.beq i j with
        | true => rw [hij] at g; cases g
        | false =>
          rw [hij] at g
          have h3 := ih (.inl j) b (c + e) (x := w) g h1 hb
          omega
theorem bUp_ok {K j p ci : Nat} {fs : List Value} {v : bV} {x : Value} (h1 : bOne K = true) (hk : bKp p (.inr (ci, fs)) = K) (hc : h[p]? = some (.inr (ci, fs))) (g : bUp S (K * 64 + j % 64) v = true) (q : bmS ι h S) (hv : bmV ι h v x) : bVi fs[j % 64]? ≤ bVi (some x) := by
  have hp := bOne_p h1 hk
  subst hp
  unfold bUp at g
  split at g
  · rename_i a
    obtain ⟨z, rfl, hz⟩ := hv
    split at g
    · rename_i b hb
      obtain ⟨-, ci', fs', w', k1, k2, k3⟩ := q.2.2.2.2.1 _ (bOf_mem hb)
      dsimp only at k1 k2 k3
      rw [show (p * 64 + j % 64) / 64 = p by omega, hc] at k1
      cases k1
      rw [show (p * 64 + j % 64) % 64 = j % 64 by omega] at k2
      obtain ⟨y, rfl, hy⟩ := k3
      rw [k2]
      show y.toInt ≤ z.toInt
      have := bGe_ok q 9 a b 0 g hz hy
      omega
    · cases g
  · cases g
theorem bPtf_ok {k : Nat} (g : bPtf W k S st f = true) (hH : bH h) (q : bmS ι h S) (hs : bmT1 ι h st ws) : bHo ι h W S f (sPutF k ws h) := by
  unfold bPtf at g
  split at g
  · rename_i v u r
    replace hs := bmT1_cons hs
    obtain ⟨x, s1, rfl, hv, hs⟩ := hs
    replace hs := bmT1_cons hs
    obtain ⟨w, s, rfl, hu, hs⟩ := hs
    split at g
    · rename_i K ci0 tys ho
      obtain ⟨p, ci, fs, rfl, h1, h2, h3, h4, h5, h7, h6⟩ := bObj_ok ho hH q hu
      split at g
      · rename_i ty hty
        rw [aNth_eq] at hty
        replace g := b_bif g
        obtain ⟨b1, g⟩ := g
        replace b1 := aBa b1
        obtain ⟨b1, b2⟩ := b1
        replace b2 := aBa b2
        obtain ⟨b2, b3⟩ := b2
        replace b3 := aBa b3
        obtain ⟨b3, b4⟩ := b3
        replace b4 := aBa b4
        obtain ⟨b4, b5⟩ := b4
        replace b5 := aBa b5
        obtain ⟨b5, b6⟩ := b5
        have hK := aBl b4
        have hci := h3 (by omega)
        subst hci
        have hk : bKp p (.inr (ci, fs)) = K := by
          rcases bKK_cases h6 with e1 | ⟨e1, -⟩
          · exact e1
          · omega
        have hT := bFit_ok b2 q hv
        have hlt : k % 64 < fs.length := by
          rw [h4]
          exact (List.getElem?_eq_some_iff.mp hty).1
        have e : sPutF k (x :: .ref p :: s) h = some (s, h.set p (.inr (ci, fs.set (k % 64) x))) := by
          unfold sPutF
          dsimp only
          rw [h1]
          dsimp only
          rw [if_pos ⟨aBt b1, hlt, bFty_ok b3 hT⟩]
        have hcf : bCf W (bKp p (.inr (ci, fs))) (.inr (ci, fs)) (.inr (ci, fs.set (k % 64) x)) := by
          refine ⟨rfl, by rw [List.length_set], fun j hj => ?_, fun j hj => ?_⟩
          · rw [hk] at hj
            by_cases ej : k % 64 = j
            · subst ej
              rw [b5] at hj
              cases hj
            · rw [List.getElem?_set_ne ej]
          · rw [hk] at hj
            by_cases ej : k % 64 = j
            · subst ej
              rw [hj] at b6
              obtain ⟨b7, b8⟩ := aBa b6
              rw [List.getElem?_set_self hlt]
              exact bUp_ok b7 hk h1 b8 q hv
            · rw [List.getElem?_set_ne ej]
              exact Int.le_refl _
        have hcm : bCm h (.inr (ci, tys)) (.inr (ci, fs.set (k % 64) x)) := by
          refine ⟨_, rfl, by rw [List.length_set]; exact h4, fun j ty' hj => ?_⟩
          by_cases ej : k % 64 = j
          · subst ej
            rw [hty] at hj
            cases hj
            exact ⟨x, by rw [List.getElem?_set_self hlt], hT⟩
          · obtain ⟨y, y1, y2⟩ := h5 j ty' hj
            exact ⟨y, by rw [List.getElem?_set_ne ej]; exact y1, y2⟩
        have hF := bFr_set h1 hcf
        have hx := bEx_of hF
        rw [aF_eq] at g
        obtain ⟨n0, g0, G, D, N, O, A⟩ := S
        dsimp only at g
        rw [bFil_eq] at g
        have hO : bmO ι (h.set p (.inr (ci, fs.set (k % 64) x))) (O.filter (fun e => !(Nat.beq e.1 (K * 64 + k % 64)))) := by
          intro e' he
          obtain ⟨m1, m2⟩ := List.mem_filter.mp he
          rw [aBq, Bool.not_eq_true', decide_eq_false_iff_not] at m2
          obtain ⟨k0, ci', fs', w', k1, k2, k3⟩ := q.2.2.2.2.1 e' m1
          by_cases e1 : p = e'.1 / 64
          · have e2 : K = e'.1 / 64 := by
              rw [← hk, e1]
              exact (bOne_k k0 _).2
            have e3 : k % 64 ≠ e'.1 % 64 := by omega
            rw [← e1, h1] at k1
            cases k1
            refine ⟨k0, ci, _, w', by rw [← e1]; exact s_set_eq h1, ?_, bmV_mono (bLe_refl ι) hx k3⟩
            rw [List.getElem?_set_ne e3]
            exact k2
          · exact ⟨k0, ci', fs', w', by rw [s_set_ne e1]; exact k1, k2, bmV_mono (bLe_refl ι) hx k3⟩
        have hA := bmA_obj q.2.2.2.2.2 h1 hx
        have hH' := bH_set hH h1 hcf h7 hcm
        cases hb : bOne K with
        | false =>
          rw [hb] at g
          exact ⟨ι, _, r, s, _, e, g, bLe_refl ι, bmS_heap q hO hA, bmT1_mono (bLe_refl ι) hx hs, rfl, hH', hF⟩
        | true =>
          rw [hb] at g
          have hp := bOne_p hb hk
          subst hp
          have hdiv : (p * 64 + k % 64) / 64 = p := by omega
          have hmod : (p * 64 + k % 64) % 64 = k % 64 := by omega
          refine ⟨ι, _, r, s, _, e, g, bLe_refl ι, bmS_heap q ?_ hA, bmT1_mono (bLe_refl ι) hx hs, rfl, hH', hF⟩
          intro e' he
          rcases List.mem_cons.mp he with rfl | he
          · refine ⟨by dsimp only; rw [hdiv]; exact hb, ci, fs.set (k % 64) x, x, by dsimp only; rw [hdiv]; exact s_set_eq h1, by dsimp only; rw [hmod, List.getElem?_set_self hlt], bmV_mono (bLe_refl ι) hx hv⟩
          · exact hO e' he
      · cases g
    · cases g
  · cases g
theorem b_cm_int {t n : Nat} {lo hi : Int} {cs : List Int} {c : va_E} (hm : bCm h (.inl (t, n, .inl (lo, hi), cs)) c) : ∃ fi, c = .inl (t, n, .inl fi) ∧ (∀ i, i < n → lo ≤ (fi i).toInt ∧ (fi i).toInt ≤ hi) ∧ (∀ i z, cs[i]? = some z → (fi i).toInt = z) := hm
theorem b_cm_long {t n K : Nat} {cs : List Int} {c : va_E} (hm : bCm h (.inl (t, n, .inr (0, K), cs)) c) : ∃ fl, c = .inl (t, n, .inr (.inl fl)) := hm
theorem b_cm_ref {t n k K : Nat} {cs : List Int} {c : va_E} (hm : bCm h (.inl (t, n, .inr (k, K), cs)) c) (hk : 0 < k) : ∃ fr, c = .inl (t, n, .inr (.inr (.inr (.inr fr)))) ∧ ∀ i, i < n → bT h (.inr (k, K)) (va_rf (fr i)) := by
  obtain ⟨j, rfl⟩ : ∃ j, k = j + 1 := ⟨k - 1, by omega⟩
  exact hm
/-- the types of an array's elements by its tag -/
def bTag (t : Nat) (ty : bTy) : Bool := match ty with
  | .inl (lo, hi) => Nat.beq t 0 || (Nat.beq t 2 && (decide (0 ≤ lo) && decide (hi ≤ 1)))
  | .inr (k, _) => bif Nat.beq k 0 then Nat.beq t 1 else Nat.blt 2 t
theorem bGl_tag : ∀ K, K < 128 → (match bGam K with
  | some (.inl (t, _, ty, _)) => bTag t ty
  | _ => true) = true := by decide +kernel
theorem b_tag {K t n : Nat} {ty : bTy} {cs : List Int} (hg : bGam K = some (.inl (t, n, ty, cs))) : bTag t ty = true := by
  have h1 := bGl_tag K (bGam_lt hg)
  rw [hg] at h1
  exact h1
theorem bLdv_ok {t : Nat} (g : bLdv t S st f = true) (hH : bH h) (q : bmS ι h S) (hs : bmT1 ι h st ws) : bHo ι h W S f (bif Nat.beq t 1 then sLdAL ws h else sLdAI t ws h) := by
  unfold bLdv at g
  split at g
  · rename_i a v r
    replace hs := bmT1_cons hs
    obtain ⟨w, s1, rfl, ⟨x, rfl, ha⟩, hs⟩ := hs
    replace hs := bmT1_cons hs
    obtain ⟨w2, s, rfl, hv, hs⟩ := hs
    split at g
    · rename_i K t' n ty cs ho
      obtain ⟨p, c, rfl, hc, hm, hk, hg⟩ := bArr_ok ho hH q hv
      replace g := b_bif g
      obtain ⟨b1, g⟩ := g
      replace b1 := aBa b1
      obtain ⟨b1, b2⟩ := b1
      have et := aBt b1
      subst et
      obtain ⟨i1, i2, i3⟩ := bIx_ok b2 q ha
      have htag := b_tag hg
      rcases ty with ⟨lo, hi⟩ | ⟨k, K'⟩
      · obtain ⟨fi, rfl, f1, f2⟩ := b_cm_int hm
        have t1 : t' ≠ 1 := by
          intro z
          subst z
          cases htag
        have e : (bif Nat.beq t' 1 then sLdAL (.int x :: .ref p :: s) h else sLdAI t' (.int x :: .ref p :: s) h) = some (.int (fi x.toNatClampNeg) :: s, h) := by
          rw [aBq, decide_eq_false t1]
          show sLdAI t' (.int x :: .ref p :: s) h = _
          unfold sLdAI
          dsimp only
          rw [hc]
          dsimp only
          rw [if_pos ⟨rfl, i1⟩]
        have hT : bT h (.inl (lo, hi)) (.int (fi x.toNatClampNeg)) := ⟨_, rfl, f1 _ i2⟩
        have h0 := bI_ok q ha
        dsimp only at g
        generalize bI S a = pp at g h0
        obtain ⟨u, y⟩ := pp
        unfold aW at h0
        dsimp only at g h0
        cases hd : decide (u = y) with
        | true =>
          rw [hd] at g
          replace hd := of_decide_eq_true hd
          dsimp only [cond] at g
          cases hz : aNth cs u.toNat with
          | some z =>
            rw [hz] at g
            rw [aNth_eq] at hz
            refine bHo_same g hH q e ⟨⟨_, rfl, ?_⟩, hs⟩
            have e5 : x.toNatClampNeg = u.toNat := by omega
            rw [← e5] at hz
            exact f2 _ _ hz
          | none =>
            rw [hz] at g
            exact bHo_read (ty := .inl (lo, hi)) g hH q hs hT e
        | false =>
          rw [hd] at g
          exact bHo_read (ty := .inl (lo, hi)) g hH q hs hT e
      · replace g := b_bif g
        obtain ⟨g1, g⟩ := g
        have hk0 := aBt g1
        subst hk0
        have et : t' = 1 := aBt htag
        subst et
        obtain ⟨fl, rfl⟩ := b_cm_long hm
        refine bHo_same (ws' := .long (fl x.toNatClampNeg) :: s) g hH q ?_ ⟨⟨_, rfl⟩, hs⟩
        show sLdAL (.int x :: .ref p :: s) h = _
        unfold sLdAL
        dsimp only
        rw [hc]
        dsimp only
        rw [if_pos ⟨rfl, i1⟩]
    · cases g
  · cases g
theorem bLda_ok (g : bLda S st f = true) (hH : bH h) (q : bmS ι h S) (hs : bmT1 ι h st ws) : bHo ι h W S f (sLdAA ws h) := by
  unfold bLda at g
  split at g
  · rename_i a v r
    replace hs := bmT1_cons hs
    obtain ⟨w, s1, rfl, ⟨x, rfl, ha⟩, hs⟩ := hs
    replace hs := bmT1_cons hs
    obtain ⟨w2, s, rfl, hv, hs⟩ := hs
    split at g
    · rename_i K t n ty cs ho
      obtain ⟨p, c, rfl, hc, hm, hk, hg⟩ := bArr_ok ho hH q hv
      replace g := b_bif g
      obtain ⟨b1, g⟩ := g
      replace b1 := aBa b1
      obtain ⟨b1, b2⟩ := b1
      replace b1 := aBa b1
      obtain ⟨b1, b3⟩ := b1
      replace b1 := aBl b1
      replace b3 := aBl b3
      obtain ⟨i1, i2, i3⟩ := bIx_ok b2 q ha
      have htag := b_tag hg
      rcases ty with ⟨lo, hi⟩ | ⟨k, K'⟩
      · exfalso
        unfold bTag at htag
        rw [aBq, aBq, decide_eq_false (show ¬ t = 0 by omega), decide_eq_false (show ¬ t = 2 by omega)] at htag
        cases htag
      · have hk0 : 0 < k := by
          by_cases z : k = 0
          · subst z
            have : t = 1 := aBt htag
            omega
          · omega
        obtain ⟨fr, rfl, f1⟩ := b_cm_ref hm hk0
        have ht5 : t = 3 ∨ t = 4 ∨ t = 5 := by omega
        have e : sLdAA (.int x :: .ref p :: s) h = some (va_rf (fr x.toNatClampNeg) :: s, h) := by
          unfold sLdAA
          dsimp only
          rw [hc]
          dsimp only
          rw [if_pos ⟨ht5, i1⟩]
        have hT := f1 _ i2
        cases hb : bOne K with
        | false =>
          rw [hb] at g
          dsimp only [cond] at g
          exact bHo_read g hH q hs hT e
        | true =>
          rw [hb] at g
          dsimp only [cond] at g
          have hp := bOne_p hb hk
          subst hp
          split at g
          · rename_i y hy
            obtain ⟨-, t2, n2, f2, j, k1, k2, k3⟩ := q.2.2.2.2.2 _ (bAf_mem hy)
            dsimp only at k1 k2 k3
            rw [hc] at k1
            cases k1
            have e9 : j = x := by
              cases a with
              | inl i =>
                have z1 : ι[i]? = some (.int j) := k2
                have z2 : ι[i]? = some (.int x) := ha
                rw [z1] at z2
                cases z2
                rfl
              | inr c0 =>
                have z1 : j.toInt = c0 := k2
                have z2 : x.toInt = c0 := ha
                exact Int32.toInt_inj.mp (z1.trans z2.symm)
            subst e9
            exact bHo_same g hH q e ⟨k3, hs⟩
          · obtain ⟨ι', S', v', g1, g2, g3, g4, g5⟩ := bMk_ok g q hT
            obtain ⟨n0, g0, G, D, N, O, A⟩ := S'
            refine ⟨ι', _, _, _, h, e, g1, g2, ⟨g3.1, g3.2.1, g3.2.2.1, g3.2.2.2.1, g3.2.2.2.2.1, ?_⟩, ⟨g4, bmT1_mono g2 (bEx_refl h) hs⟩, g5, hH, bFr_refl W h⟩
            intro e' he
            rcases List.mem_cons.mp he with rfl | he
            · exact ⟨hb, t, n, fr, x, hc, bmI_mono g2 ha, g4⟩
            · exact g3.2.2.2.2.2 e' he
    · cases g
  · cases g
theorem bmA_arr {p : Nat} {c c' : va_E} {A : List (Nat × bN × bV)} (q : bmA ι h A) (hx : bEx h (h.set p c')) (hp : ∀ e ∈ A, bOne e.1 = true → p ≠ e.1) : bmA ι (h.set p c') A := fun e he => by
  obtain ⟨h0, t, n, f, j, h1, h2, h3⟩ := q e he
  exact ⟨h0, t, n, f, j, by rw [s_set_ne (hp e he h0)]; exact h1, h2, bmV_mono (bLe_refl ι) hx h3⟩
theorem bmA_num {p t n : Nat} {d : (Nat → Int32) ⊕ (Nat → Int64) ⊕ (Nat → UInt32) ⊕ (Nat → UInt64) ⊕ (Nat → Option Nat)} {c' : va_E} {A : List (Nat × bN × bV)} (q : bmA ι h A) (hc : h[p]? = some (.inl (t, n, d))) (hd : ∀ fr, d ≠ .inr (.inr (.inr (.inr fr)))) (hx : bEx h (h.set p c')) : bmA ι (h.set p c') A := fun e he => by
  obtain ⟨h0, t, n, f, j, h1, h2, h3⟩ := q e he
  refine ⟨h0, t, n, f, j, ?_, h2, bmV_mono (bLe_refl ι) hx h3⟩
  by_cases e1 : p = e.1
  · subst e1
    rw [hc] at h1
    cases h1
    exact absurd rfl (hd f)
  · rw [s_set_ne e1]
    exact h1
theorem bStv_ok {t : Nat} (g : bStv t W S st f = true) (hH : bH h) (q : bmS ι h S) (hs : bmT1 ι h st ws) (ht : t = 0 ∨ t = 1 ∨ t = 2) : bHo ι h W S f (bif Nat.beq t 1 then sStAL ws h else bif Nat.beq t 0 then sStAI ws h else sStAZ ws h) := by
  unfold bStv at g
  split at g
  · rename_i v a u r
    replace hs := bmT1_cons hs
    obtain ⟨w, s1, rfl, hv, hs⟩ := hs
    replace hs := bmT1_cons hs
    obtain ⟨w1, s2, rfl, ⟨x, rfl, ha⟩, hs⟩ := hs
    replace hs := bmT1_cons hs
    obtain ⟨w2, s, rfl, hu, hs⟩ := hs
    split at g
    · rename_i K t' n ty cs ho
      obtain ⟨p, c, rfl, hc, hm, hk, hg⟩ := bArr_ok ho hH q hu
      replace g := b_bif g
      obtain ⟨b1, g⟩ := g
      replace b1 := aBa b1
      obtain ⟨b1, b2⟩ := b1
      replace b2 := aBa b2
      obtain ⟨b2, b3⟩ := b2
      replace b3 := aBa b3
      obtain ⟨b3, b4⟩ := b3
      replace b4 := aBa b4
      obtain ⟨b4, b5⟩ := b4
      have et := aBt b1
      subst et
      obtain ⟨i1, i2, i3⟩ := bIx_ok b2 q ha
      have htag := b_tag hg
      have hT := bFit_ok b3 q hv
      have hcs : cs = [] := List.isEmpty_iff.mp b4
      subst hcs
      obtain ⟨n0, g0, G, D, N, O, A⟩ := S
      rcases ty with ⟨lo, hi⟩ | ⟨k, K'⟩
      · obtain ⟨fi, rfl, f1, -⟩ := b_cm_int hm
        obtain ⟨y, rfl, hy⟩ := hT
        have t1 : t' ≠ 1 := by
          intro z
          subst z
          cases htag
        have hcf : bCf W (bKp p (.inl (t', n, .inl fi))) (.inl (t', n, .inl fi)) (.inl (t', n, .inl (upd fi x.toNatClampNeg y))) := by
          refine ⟨rfl, rfl, fun hj => ?_⟩
          rw [hk, b5] at hj
          cases hj
        have hcm : bCm h (.inl (t', n, .inl (lo, hi), [])) (.inl (t', n, .inl (upd fi x.toNatClampNeg y))) := by
          refine ⟨_, rfl, fun i hi => ?_, fun i z hz => by cases hz⟩
          unfold upd
          split
          · exact hy
          · exact f1 i hi
        have hF := bFr_set hc hcf
        have hx := bEx_of hF
        refine ⟨ι, _, r, s, _, ?_, g, bLe_refl ι, bmS_heap q (bmO_arr q.2.2.2.2.1 hc hx) (bmA_num q.2.2.2.2.2 hc (fun fr z => by cases z) hx), bmT1_mono (bLe_refl ι) hx hs, rfl, bH_set hH hc hcf (by rw [hk]; exact hg) hcm, hF⟩
        rw [aBq, decide_eq_false t1]
        rcases ht with rfl | e | rfl
        · show sStAI (.int y :: .int x :: .ref p :: s) h = _
          unfold sStAI
          dsimp only
          rw [hc]
          dsimp only
          rw [if_pos ⟨rfl, i1⟩]
        · exact absurd e t1
        · show sStAZ (.int y :: .int x :: .ref p :: s) h = _
          have hb : y = 0 ∨ y = 1 := by
            obtain ⟨z1, z2⟩ := aBa (show (decide (0 ≤ lo) && decide (hi ≤ 1)) = true from htag)
            exact b_bit (of_decide_eq_true z1) (of_decide_eq_true z2) hy.1 hy.2
          unfold sStAZ
          dsimp only
          rw [hc]
          dsimp only
          rw [if_pos ⟨rfl, hb, i1⟩]
      · have hk0 : k = 0 := by
          by_cases z : k = 0
          · exact z
          · exfalso
            unfold bTag at htag
            dsimp only at htag
            rw [aBq, decide_eq_false z] at htag
            have := aBl htag
            omega
        subst hk0
        have et : t' = 1 := aBt htag
        subst et
        obtain ⟨fl, rfl⟩ := b_cm_long hm
        obtain ⟨y, rfl⟩ := hT
        have hcf : bCf W (bKp p (.inl (1, n, .inr (.inl fl)))) (.inl (1, n, .inr (.inl fl))) (.inl (1, n, .inr (.inl (vp_updL fl x.toNatClampNeg y)))) := by
          refine ⟨rfl, rfl, fun hj => ?_⟩
          rw [hk, b5] at hj
          cases hj
        have hcm : bCm h (.inl (1, n, .inr (0, K'), [])) (.inl (1, n, .inr (.inl (vp_updL fl x.toNatClampNeg y)))) := ⟨_, rfl⟩
        have hF := bFr_set hc hcf
        have hx := bEx_of hF
        refine ⟨ι, _, r, s, _, ?_, g, bLe_refl ι, bmS_heap q (bmO_arr q.2.2.2.2.1 hc hx) (bmA_num q.2.2.2.2.2 hc (fun fr z => by cases z) hx), bmT1_mono (bLe_refl ι) hx hs, rfl, bH_set hH hc hcf (by rw [hk]; exact hg) hcm, hF⟩
        show sStAL (.long y :: .int x :: .ref p :: s) h = _
        unfold sStAL
        dsimp only
        rw [hc]
        dsimp only
        rw [if_pos ⟨rfl, i1⟩]
    · cases g
  · cases g
theorem b_isobj {q0 : Nat} (hH : bH h) (hq : bIn h 113 q0) : sIsObj 4 h[q0]? = true := by
  obtain ⟨ci, fs, h1, h2, -, -, -, h3, h4⟩ := bIn_obj hH hq (ci0 := 2) rfl
  rw [h1]
  rcases bKK_cases h4 with e | ⟨-, e⟩
  · rw [e] at h3
    exact absurd (bGam_lt h3) (by intro; have : bGam 113 = none := rfl; rw [this] at h3; cases h3)
  · have key : ci = 0 ∨ ci = 1 ∨ ci = 2 ∨ ci = 4 ∨ ci = 5 ∨ ci = 9 ∨ ci = 10 := by
      rcases bIsC_cases e with e | e | e | e | e | e | e <;> rw [e] at h3 <;> cases h3 <;> simp
    rcases key with rfl | rfl | rfl | rfl | rfl | rfl | rfl <;> rfl
theorem bSta_ok (g : bSta W S st f = true) (hH : bH h) (q : bmS ι h S) (hs : bmT1 ι h st ws) : bHo ι h W S f (sStAA ws h) := by
  unfold bSta at g
  split at g
  · rename_i v a u r
    replace hs := bmT1_cons hs
    obtain ⟨w, s1, rfl, hv, hs⟩ := hs
    replace hs := bmT1_cons hs
    obtain ⟨w1, s2, rfl, ⟨x, rfl, ha⟩, hs⟩ := hs
    replace hs := bmT1_cons hs
    obtain ⟨w2, s, rfl, hu, hs⟩ := hs
    split at g
    · rename_i K t n ty cs ho
      obtain ⟨p, c, rfl, hc, hm, hk, hg⟩ := bArr_ok ho hH q hu
      replace g := b_bif g
      obtain ⟨b1, g⟩ := g
      replace b1 := aBa b1
      obtain ⟨b1, b2⟩ := b1
      replace b2 := aBa b2
      obtain ⟨b2, b3⟩ := b2
      replace b3 := aBa b3
      obtain ⟨b3, b4⟩ := b3
      replace b4 := aBa b4
      obtain ⟨b4, b5⟩ := b4
      have et := aBt b1
      subst et
      obtain ⟨i1, i2, i3⟩ := bIx_ok b2 q ha
      have hT := bFit_ok b3 q hv
      rcases ty with ⟨lo, hi⟩ | ⟨k, K'⟩
      · cases b5
      · replace b5 := aBa b5
        obtain ⟨c1, c2⟩ := b5
        replace c1 := aBt c1
        replace c2 := aBt c2
        subst c1 c2
        obtain ⟨fr, rfl, f1⟩ := b_cm_ref hm (by decide)
        obtain ⟨n0, g0, G, D, N, O, A⟩ := S
        dsimp only at g
        rw [bFil_eq] at g
        have fin : ∀ (o : Option Nat), va_rf o = w → bHo ι h W (n0, g0, G, D, N, O, A) f (some (s, h.set p (.inl (4, n, .inr (.inr (.inr (.inr (va_up fr x.toNatClampNeg o)))))))) := by
          intro o ho
          have hcf : bCf W (bKp p (.inl (4, n, .inr (.inr (.inr (.inr fr)))))) (.inl (4, n, .inr (.inr (.inr (.inr fr))))) (.inl (4, n, .inr (.inr (.inr (.inr (va_up fr x.toNatClampNeg o)))))) := by
            refine ⟨rfl, rfl, fun hj => ?_⟩
            rw [hk, b4] at hj
            cases hj
          have hcm : bCm h (.inl (4, n, .inr (3, 113), cs)) (.inl (4, n, .inr (.inr (.inr (.inr (va_up fr x.toNatClampNeg o)))))) := by
            refine ⟨_, rfl, fun i hi => ?_⟩
            unfold va_up
            split
            · rw [ho]; exact hT
            · exact f1 i hi
          have hF := bFr_set hc hcf
          have hx := bEx_of hF
          refine ⟨ι, _, r, s, _, rfl, g, bLe_refl ι, bmS_heap q (bmO_arr q.2.2.2.2.1 hc hx) (bmA_arr (c := .inr (0, [])) (fun e he => q.2.2.2.2.2 e (List.mem_filter.mp he).1) hx (fun e he h0 z => ?_)), bmT1_mono (bLe_refl ι) hx hs, rfl, bH_set hH hc hcf (by rw [hk]; exact hg) hcm, hF⟩
          have m2 := (List.mem_filter.mp he).2
          rw [aBq, Bool.not_eq_true', decide_eq_false_iff_not] at m2
          apply m2
          rw [← hk, z]
          exact ((bOne_k h0 _).2).symm
        have hw : w = .null ∨ ∃ p, w = .ref p ∧ bIn h 113 p := hT
        rcases hw with rfl | ⟨q0, rfl, hq⟩
        · have e : sStAA (.null :: .int x :: .ref p :: s) h = some (s, h.set p (.inl (4, n, .inr (.inr (.inr (.inr (va_up fr x.toNatClampNeg none))))))) := by
            unfold sStAA
            dsimp only
            rw [hc]
            dsimp only
            rw [if_pos ⟨Or.inr rfl, i1⟩]
          rw [e]
          exact fin none rfl
        · have e : sStAA (.ref q0 :: .int x :: .ref p :: s) h = some (s, h.set p (.inl (4, n, .inr (.inr (.inr (.inr (va_up fr x.toNatClampNeg (some q0)))))))) := by
            unfold sStAA
            dsimp only
            rw [hc]
            dsimp only
            rw [if_pos ⟨b_isobj hH hq, i1⟩]
          rw [e]
          exact fin (some q0) rfl
    · cases g
  · cases g
theorem b_ofNat (k : Nat) : (Int32.ofNat k).toInt = (k : Int).bmod 4294967296 := Int32.toInt_ofNat' 
theorem bHeap_ok {ins : Instr} (g : bHeap W ins S st f = true) (hH : bH h) (q : bmS ι h S) (hs : bmT1 ι h st ws) : bHo ι h W S f (sHeap ins ws h) := by
  unfold bHeap at g
  split at g
  · exact bGet_ok g hH q hs
  · exact bPtf_ok g hH q hs
  · exact bLdv_ok (t := 0) g hH q hs
  · exact bLdv_ok (t := 2) g hH q hs
  · exact bLdv_ok (t := 1) g hH q hs
  · exact bLda_ok g hH q hs
  · exact bStv_ok (t := 0) g hH q hs (Or.inl rfl)
  · exact bStv_ok (t := 2) g hH q hs (Or.inr (Or.inr rfl))
  · exact bStv_ok (t := 1) g hH q hs (Or.inr (Or.inl rfl))
  · exact bSta_ok g hH q hs
  · split at g
    · rename_i v r
      replace hs := bmT1_cons hs
      obtain ⟨w2, s, rfl, hv, hs⟩ := hs
      split at g
      · rename_i K t n ty cs ho
        obtain ⟨p, c, rfl, hc, hm, hk, hg⟩ := bArr_ok ho hH q hv
        replace g := b_bif g
        obtain ⟨b1, g⟩ := g
        replace b1 := aBa b1
        obtain ⟨b1, b2⟩ := b1
        replace b1 := aBl b1
        replace b2 := aBl b2
        rw [aF_eq] at g
        have hd : ∃ d, c = .inl (t, n, d) := by
          rcases ty with ⟨lo, hi⟩ | ⟨k, K'⟩
          · obtain ⟨fi, rfl, -⟩ := b_cm_int hm
            exact ⟨_, rfl⟩
          · by_cases z : k = 0
            · subst z
              obtain ⟨fi, rfl⟩ := b_cm_long hm
              exact ⟨_, rfl⟩
            · obtain ⟨fi, rfl, -⟩ := b_cm_ref hm (by omega)
              exact ⟨_, rfl⟩
        obtain ⟨d, rfl⟩ := hd
        refine bHo_same (ws' := .int (Int32.ofNat n) :: s) g hH q ?_ ⟨⟨_, rfl, Int32.toInt_ofNat_of_lt (by omega)⟩, hs⟩
        show sALen (.ref p :: s) h = _
        unfold sALen
        dsimp only
        rw [hc]
        dsimp only
        rw [if_pos b1]
      · cases g
    · cases g
  · exact bHo_same g hH q rfl ⟨⟨_, rfl⟩, hs⟩
  · rename_i k
    cases h1 : Nat.blt k 2147483648 with
    | true =>
      rw [h1] at g
      replace h1 := aBl h1
      exact bHo_same g hH q (if_pos (by omega)) ⟨⟨_, rfl, Int32.toInt_ofNat_of_lt (by omega)⟩, hs⟩
    | false =>
      rw [h1] at g
      dsimp only [cond] at g
      have h1' : ¬ k < 2147483648 := fun z => by
        rw [show Nat.blt k 2147483648 = true from Nat.ble_eq_true_of_le z] at h1
        cases h1
      cases h2 : Nat.blt k 4294967296 with
      | true =>
        rw [h2] at g
        replace h2 := aBl h2
        dsimp only [cond] at g
        rw [aF_eq] at g
        refine bHo_same g hH q (if_pos h2) ⟨⟨_, rfl, ?_⟩, hs⟩
        show (Int32.ofNat k).toInt = Int.negSucc (4294967295 - k)
        rw [b_ofNat k]
        rw [Int.negSucc_eq]
        have e : (k : Int).bmod 4294967296 = (k : Int) - 4294967296 := by
          rw [Int.bmod_def]
          omega
        rw [e]
        omega
      | false =>
        rw [h2] at g
        dsimp only [cond] at g
        have h2' : ¬ k < 4294967296 := fun z => by
          rw [show Nat.blt k 4294967296 = true from Nat.ble_eq_true_of_le z] at h2
          cases h2
        obtain ⟨h3, g⟩ := b_bif g
        replace h3 := aBl h3
        rw [aF_eq] at g
        refine bHo_same g hH q ((if_neg h2').trans (if_pos h3)) ⟨⟨_, rfl, Or.inr (Or.inr ⟨by omega, ?_⟩)⟩, hs⟩
        omega
  · rename_i k
    cases h1 : Nat.blt k 2147483648 with
    | true =>
      rw [h1] at g
      replace h1 := aBl h1
      exact bHo_same g hH q (if_pos (by omega)) ⟨⟨_, rfl, Int32.toInt_ofNat_of_lt (by omega)⟩, hs⟩
    | false =>
      rw [h1] at g
      dsimp only [cond] at g
      have h1' : ¬ k < 2147483648 := fun z => by
        rw [show Nat.blt k 2147483648 = true from Nat.ble_eq_true_of_le z] at h1
        cases h1
      cases h2 : Nat.blt k 4294967296 with
      | true =>
        rw [h2] at g
        replace h2 := aBl h2
        dsimp only [cond] at g
        rw [aF_eq] at g
        refine bHo_same g hH q (if_pos h2) ⟨⟨_, rfl, ?_⟩, hs⟩
        show (Int32.ofNat k).toInt = Int.negSucc (4294967295 - k)
        rw [b_ofNat k]
        rw [Int.negSucc_eq]
        have e : (k : Int).bmod 4294967296 = (k : Int) - 4294967296 := by
          rw [Int.bmod_def]
          omega
        rw [e]
        omega
      | false =>
        rw [h2] at g
        dsimp only [cond] at g
        have h2' : ¬ k < 4294967296 := fun z => by
          rw [show Nat.blt k 4294967296 = true from Nat.ble_eq_true_of_le z] at h2
          cases h2
        obtain ⟨h3, g⟩ := b_bif g
        replace h3 := aBl h3
        rw [aF_eq] at g
        refine bHo_same g hH q ((if_neg h2').trans (if_pos h3)) ⟨⟨_, rfl, Or.inr (Or.inr ⟨by omega, ?_⟩)⟩, hs⟩
        omega
  · cases g
end HEAP
end
section
/-! ===== the second executor: jumps, answers, arguments ===== -/
def bGo (pc : Nat) (off : Int) (f : Nat → Bool) : Bool := match sTgt pc off with
  | some t => aF t f
  | none => false
theorem bGo_ok {pc : Nat} {off : Int} {f : Nat → Bool} (g : bGo pc off f = true) : ∃ t, sTgt pc off = some t ∧ f t = true := by
  unfold bGo at g
  cases h : sTgt pc off with
  | none => rw [h] at g; cases g
  | some t =>
    rw [h] at g
    dsimp only at g
    rw [aF_eq] at g
    exact ⟨t, rfl, g⟩
def bNl (S : bS) (v : bV) (fN fR : bS → Bool) : Bool := match v with
  | .inr (t, _) => (match t with
    | 0 => false
    | 1 => fN S
    | 2 => fR S
    | k + 3 => (match bNn S.2.2.2.2.1 k with
      | some true => fR S
      | some false => fN S
      | none => (match S with
        | (n, g, G, D, N, r) => fN (n, g, G, D, (k, false) :: N, r) && fR (n, g, G, D, (k, true) :: N, r))))
  | _ => false
theorem bNl_ok {ι : List Value} {h : sHp} {S : bS} {v : bV} {w : Value} {fN fR : bS → Bool} (g : bNl S v fN fR = true) (q : bmS ι h S) (hv : bmV ι h v w) : (w = .null ∧ ∃ S', fN S' = true ∧ bmS ι h S' ∧ S'.2.1 = S.2.1) ∨ ((∃ p, w = .ref p) ∧ ∃ S', fR S' = true ∧ bmS ι h S' ∧ S'.2.1 = S.2.1) := by
  rcases v with a | ⟨t, K⟩
  · cases g
  · match t, g, hv with
    | 0, g, _ => cases g
    | 1, g, hv => exact Or.inl ⟨hv, S, g, q, rfl⟩
    | 2, g, hv =>
      obtain ⟨p, e, -⟩ := hv
      exact Or.inr ⟨⟨p, e⟩, S, g, q, rfl⟩
    | k + 3, g, hv =>
      obtain ⟨h1, h2⟩ := hv
      obtain ⟨n, g0, G, D, N, r⟩ := S
      have g' : (match bNn N k with
        | some true => fR (n, g0, G, D, N, r)
        | some false => fN (n, g0, G, D, N, r)
        | none => fN (n, g0, G, D, (k, false) :: N, r) && fR (n, g0, G, D, (k, true) :: N, r)) = true := g
      have hn := fun b => bNn_ok (b := b) h1 q.2.2.2.1
      cases hb : bNn N k with
      | some b =>
        rw [hb] at g'
        obtain ⟨n1, n2⟩ := hn b hb
        cases b with
        | true =>
          rcases h2 with e | ⟨p, e, -⟩
          · exact absurd e (n1 rfl)
          · exact Or.inr ⟨⟨p, e⟩, _, g', q, rfl⟩
        | false => exact Or.inl ⟨n2 rfl, _, g', q, rfl⟩
      | none =>
        rw [hb] at g'
        obtain ⟨ga, gb⟩ := aBa g'
        rcases h2 with e | ⟨p, e, -⟩
        · refine Or.inl ⟨e, _, ga, ⟨q.1, q.2.1, q.2.2.1, ?_, q.2.2.2.2⟩, rfl⟩
          intro e' he
          have he : e' ∈ (k, false) :: N := he
          rcases List.mem_cons.mp he with rfl | he
          · exact ⟨w, h1, (fun z => by cases z), fun _ => e⟩
          · exact q.2.2.2.1 e' he
        · refine Or.inr ⟨⟨p, e⟩, _, gb, ⟨q.1, q.2.1, q.2.2.1, ?_, q.2.2.2.2⟩, rfl⟩
          intro e' he
          have he : e' ∈ (k, true) :: N := he
          rcases List.mem_cons.mp he with rfl | he
          · exact ⟨w, h1, (fun _ z => by rw [e] at z; cases z), (fun z => by cases z)⟩
          · exact q.2.2.2.1 e' he
def bTs (pc : Nat) (S : bS) (a : bN) (f : Nat → bS → Bool) : Int → List Int → Bool
  | _, [] => true
  | lo, off :: r => aFc lo fun lo => (bGo pc off fun t => bRf S a lo lo (f t)) && bTs pc S a f (lo + 1) r
theorem bTs_ok {ι : List Value} {h : sHp} {pc : Nat} {S : bS} {a : bN} {f : Nat → bS → Bool} (q : bmS ι h S) {x : Int32} (hx : bmI ι a x) : ∀ (l : List Int) (lo : Int), bTs pc S a f lo l = true → lo ≤ x.toInt → x.toInt < lo + l.length → ∃ off t S', l[(x.toInt - lo).toNat]? = some off ∧ sTgt pc off = some t ∧ f t S' = true ∧ bmS ι h S' ∧ S'.2.1 = S.2.1 := by
  intro l
  induction l with
  | nil => intro lo _ h1 h2; rw [List.length_nil] at h2; omega
  | cons off r ih =>
    intro lo g h1 h2
    unfold bTs at g
    rw [aFc_eq] at g
    replace g := aBa g
    obtain ⟨g1, g2⟩ := g
    by_cases e : x.toInt = lo
    · obtain ⟨t, ht, g3⟩ := bGo_ok g1
      obtain ⟨S', k1, k2, k3⟩ := bRf_ok g3 q hx (by omega) (by omega)
      refine ⟨off, t, S', ?_, ht, k1, k2, k3⟩
      rw [show (x.toInt - lo).toNat = 0 by omega]
      rfl
    · rw [List.length_cons] at h2
      obtain ⟨off', t, S', k0, k1⟩ := ih (lo + 1) g2 (by omega) (by omega)
      refine ⟨off', t, S', ?_, k1⟩
      rw [show (x.toInt - lo).toNat = (x.toInt - (lo + 1)).toNat + 1 by omega, List.getElem?_cons_succ]
      exact k0
def bLk (pc : Nat) (S : bS) (a : bN) (f : Nat → bS → Bool) : List (Int × Int) → Bool
  | [] => true
  | e :: r => (bGo pc e.2 fun t => bRf S a e.1 e.1 (f t)) && bLk pc S a f r
theorem bLk_ok {ι : List Value} {h : sHp} {pc : Nat} {S : bS} {a : bN} {f : Nat → bS → Bool} {dflt : Int} (q : bmS ι h S) {x : Int32} (hx : bmI ι a x) (gd : (bGo pc dflt fun t => f t S) = true) : ∀ l : List (Int × Int), bLk pc S a f l = true → ∃ t S', sTgt pc (Op.lookupswitch.offset l dflt x.toInt) = some t ∧ f t S' = true ∧ bmS ι h S' ∧ S'.2.1 = S.2.1 := by
  intro l
  induction l with
  | nil =>
    intro _
    obtain ⟨t, ht, g3⟩ := bGo_ok gd
    exact ⟨t, S, ht, g3, q, rfl⟩
  | cons e r ih =>
    intro g
    obtain ⟨k, o⟩ := e
    unfold bLk at g
    replace g := aBa g
    obtain ⟨g1, g2⟩ := g
    have e1 : Op.lookupswitch.offset ((k, o) :: r) dflt x.toInt = if k = x.toInt then o else Op.lookupswitch.offset r dflt x.toInt := rfl
    by_cases e : k = x.toInt
    · obtain ⟨t, ht, g3⟩ := bGo_ok g1
      obtain ⟨S', k1, k2, k3⟩ := bRf_ok g3 q hx (by dsimp only; omega) (by dsimp only; omega)
      exact ⟨t, S', by rw [e1, if_pos e]; exact ht, k1, k2, k3⟩
    · rw [e1, if_neg e]
      exact ih g2
def bIf (sp : Bool) (c : Jvm.ClassFile.Cond) (pc : Nat) (off : Int) (S : bS) (a b : bN) (f : Nat → bS → Bool) : Bool := bGo pc off fun t => bCnd sp c S a b (f t) && aF (pc + 3) fun t1 => bCnd sp (bNg c) S a b (f t1)
def bJmp (sp : Bool) (ins : Instr) (pc : Nat) (S : bS) (st : List bV) (f : Nat → bS → List bV → Bool) : Bool := match ins with
  | .goto off => bGo pc off fun t => f t S st
  | .if_icmp c off => (match st with
    | .inl b :: .inl a :: r => bIf sp c pc off S a b (fun t S1 => f t S1 r)
    | _ => false)
  | .ifCond c off => (match st with
    | .inl a :: r => bIf sp c pc off S a (.inr 0) (fun t S1 => f t S1 r)
    | _ => false)
  | .ifnull off => (match st with
    | v :: r => bGo pc off fun t => aF (pc + 3) fun t1 => bNl S v (fun S1 => f t S1 r) (fun S1 => f t1 S1 r)
    | _ => false)
  | .ifnonnull off => (match st with
    | v :: r => bGo pc off fun t => aF (pc + 3) fun t1 => bNl S v (fun S1 => f t1 S1 r) (fun S1 => f t S1 r)
    | _ => false)
  | .tableswitch dflt lo hi offs => (match st with
    | .inl a :: r => (match bI S a with
      | (x, y) => (bGo pc dflt fun t => bRf S a x (lo - 1) (fun S1 => f t S1 r) && bRf S a (hi + 1) y (fun S1 => f t S1 r)) && (decide (hi < lo + offs.toList.length) && bTs pc S a (fun t S1 => f t S1 r) lo offs.toList))
    | _ => false)
  | .lookupswitch dflt ps => (match st with
    | .inl a :: r => (bGo pc dflt fun t => f t S r) && bLk pc S a (fun t S1 => f t S1 r) ps.toList
    | _ => false)
  | _ => false
def bJo (ι : List Value) (h : sHp) (S : bS) (f : Nat → bS → List bV → Bool) (o : Option (Nat × List Value)) : Prop := ∃ t S' st' ws', o = some (t, ws') ∧ f t S' st' = true ∧ bmS ι h S' ∧ bmT1 ι h st' ws' ∧ S'.2.1 = S.2.1
section JMP
variable {ι : List Value} {h : sHp} {S : bS} {st : List bV} {ws : List Value} {pc : Nat}
theorem bIf_ok {sp : Bool} {c : Jvm.ClassFile.Cond} {off : Int} {a b : bN} {r : List bV} {f : Nat → bS → List bV → Bool} {x y : Int32} {s : List Value} (g : bIf sp c pc off S a b (fun t S1 => f t S1 r) = true) (q : bmS ι h S) (hx : bmI ι a x) (hy : bmI ι b y) (hr : bmT1 ι h r s) : bJo ι h S f (sIf pc off (sC2 c x y) s) := by
  unfold bIf at g
  obtain ⟨t, ht, g⟩ := bGo_ok g
  replace g := aBa g
  obtain ⟨g1, g2⟩ := g
  rw [aF_eq] at g2
  cases hc : sC2 c x y with
  | true =>
    obtain ⟨S', k1, k2, k3⟩ := bCnd_ok g1 q hx hy hc
    refine ⟨t, S', r, s, ?_, k1, k2, hr, k3⟩
    unfold sIf
    rw [ht]; rfl
  | false =>
    obtain ⟨S', k1, k2, k3⟩ := bCnd_ok g2 q hx hy (bNg_ok hc)
    refine ⟨pc + 3, S', r, s, ?_, k1, k2, hr, k3⟩
    unfold sIf
    rw [ht]; rfl
theorem bJmp_ok {sp : Bool} {ins : Instr} {f : Nat → bS → List bV → Bool} (g : bJmp sp ins pc S st f = true) (q : bmS ι h S) (hs : bmT1 ι h st ws) : bJo ι h S f (sJmp ins pc ws) := by
  unfold bJmp at g
  split at g
  · rename_i off
    obtain ⟨t, ht, g⟩ := bGo_ok g
    refine ⟨t, S, st, ws, ?_, g, q, hs, rfl⟩
    show (sTgt pc off).map _ = _
    rw [ht]; rfl
  · split at g
    · rename_i b a r
      replace hs := bmT1_cons hs
      obtain ⟨w, s1, rfl, hx, hs⟩ := hs
      replace hs := bmT1_cons hs
      obtain ⟨v, s, rfl, hy, hs⟩ := hs
      obtain ⟨y, rfl, hb⟩ := hx
      obtain ⟨x, rfl, ha⟩ := hy
      exact bIf_ok g q ha hb hs
    · cases g
  · split at g
    · rename_i a r
      replace hs := bmT1_cons hs
      obtain ⟨w, s1, rfl, hx, hs⟩ := hs
      obtain ⟨x, rfl, ha⟩ := hx
      exact bIf_ok g q ha (show bmI ι (.inr 0) 0 from rfl) hs
    · cases g
  · rename_i off
    split at g
    · rename_i v r
      replace hs := bmT1_cons hs
      obtain ⟨w, s1, rfl, hx, hs⟩ := hs
      obtain ⟨t, ht, g⟩ := bGo_ok g
      rw [aF_eq] at g
      rcases bNl_ok g q hx with ⟨rfl, S', k1, k2, k3⟩ | ⟨⟨p, rfl⟩, S', k1, k2, k3⟩
      · refine ⟨t, S', r, s1, ?_, k1, k2, hs, k3⟩
        show sIf pc off true s1 = _
        unfold sIf
        rw [ht]; rfl
      · refine ⟨pc + 3, S', r, s1, ?_, k1, k2, hs, k3⟩
        show sIf pc off false s1 = _
        unfold sIf
        rw [ht]; rfl
    · cases g
  · rename_i off
    split at g
    · rename_i v r
      replace hs := bmT1_cons hs
      obtain ⟨w, s1, rfl, hx, hs⟩ := hs
      obtain ⟨t, ht, g⟩ := bGo_ok g
      rw [aF_eq] at g
      rcases bNl_ok g q hx with ⟨rfl, S', k1, k2, k3⟩ | ⟨⟨p, rfl⟩, S', k1, k2, k3⟩
      · refine ⟨pc + 3, S', r, s1, ?_, k1, k2, hs, k3⟩
        show sIf pc off false s1 = _
        unfold sIf
        rw [ht]; rfl
      · refine ⟨t, S', r, s1, ?_, k1, k2, hs, k3⟩
        show sIf pc off true s1 = _
        unfold sIf
        rw [ht]; rfl
    · cases g
  · rename_i dflt lo hi offs
    split at g
    · rename_i a r
      replace hs := bmT1_cons hs
      obtain ⟨w, s1, rfl, hx, hs⟩ := hs
      obtain ⟨x, rfl, ha⟩ := hx
      have h0 := bI_ok q ha
      generalize bI S a = p at g h0
      obtain ⟨u, y⟩ := p
      unfold aW at h0
      dsimp only at g h0
      replace g := aBa g
      obtain ⟨g1, g2⟩ := g
      replace g2 := aBa g2
      obtain ⟨g2, g3⟩ := g2
      replace g2 := of_decide_eq_true g2
      obtain ⟨t, ht, g1⟩ := bGo_ok g1
      replace g1 := aBa g1
      obtain ⟨g4, g5⟩ := g1
      have e : sJmp (.tableswitch dflt lo hi offs) pc (.int x :: s1) = if x.toInt < lo ∨ hi < x.toInt then (sTgt pc dflt).map (fun t => (t, s1)) else (match offs[(x.toInt - lo).toNat]? with
        | some off => (sTgt pc off).map (fun t => (t, s1))
        | none => none) := rfl
      rw [e]
      by_cases h1 : x.toInt < lo
      · rw [if_pos (Or.inl h1), ht]
        obtain ⟨S', k1, k2, k3⟩ := bRf_ok g4 q ha (by omega) (by omega)
        exact ⟨t, S', r, s1, rfl, k1, k2, hs, k3⟩
      · by_cases h2 : hi < x.toInt
        · rw [if_pos (Or.inr h2), ht]
          obtain ⟨S', k1, k2, k3⟩ := bRf_ok g5 q ha (by omega) (by omega)
          exact ⟨t, S', r, s1, rfl, k1, k2, hs, k3⟩
        · rw [if_neg (by omega)]
          obtain ⟨off, t', S', k0, k1, k2, k3, k4⟩ := bTs_ok q ha _ _ g3 (by omega) (by omega)
          rw [Array.getElem?_toList] at k0
          rw [k0]
          dsimp only
          rw [k1]
          exact ⟨t', S', r, s1, rfl, k2, k3, hs, k4⟩
    · cases g
  · rename_i dflt ps
    split at g
    · rename_i a r
      replace hs := bmT1_cons hs
      obtain ⟨w, s1, rfl, hx, hs⟩ := hs
      obtain ⟨x, rfl, ha⟩ := hx
      replace g := aBa g
      obtain ⟨g1, g2⟩ := g
      obtain ⟨t, S', k1, k2, k3, k4⟩ := bLk_ok q ha g1 _ g2
      refine ⟨t, S', r, s1, ?_, k2, k3, hs, k4⟩
      show (sTgt pc (Op.lookupswitch.offset ps.toList dflt x.toInt)).map _ = _
      rw [k1]; rfl
    · cases g
  · cases g
end JMP
/-! answers -/
def bmR (ι : List Value) (h : sHp) (v : Option bV) (r : Option Value) : Prop := match v, r with
  | none, none => True
  | some v, some w => bmV ι h v w
  | _, _ => False
def bRet (ins : Instr) (rt : Option FieldType) (S : bS) (st : List bV) (f : Option bV → Bool) : Bool := match ins with
  | .ireturn => (match st with
    | [.inl a] => (match rt with
      | some .int => f (some (.inl a))
      | some .boolean => (match bI S a with
        | (x, y) => bif decide (0 ≤ x) && decide (y ≤ 1) then f (some (.inl a)) else false)
      | _ => false)
    | _ => false)
  | .lreturn => (match st with
    | [v] => (match rt with
      | some .long => bif bJk v then f (some v) else false
      | _ => false)
    | _ => false)
  | .areturn => (match st with
    | [v] => (match rt with
      | some (.object _) => bif bLdK 2 v then f (some v) else false
      | _ => false)
    | _ => false)
  | .return_ => (match st with
    | [] => (match rt with
      | none => f none
      | _ => false)
    | _ => false)
  | _ => false
theorem bRet_ok {ι : List Value} {h : sHp} {ins : Instr} {rt : Option FieldType} {S : bS} {st : List bV} {ws : List Value} {f : Option bV → Bool} (g : bRet ins rt S st f = true) (q : bmS ι h S) (hs : bmT1 ι h st ws) : ∃ v r, sRet rt ins ws = some r ∧ f v = true ∧ bmR ι h v r := by
  unfold bRet at g
  split at g
  · split at g
    · rename_i a
      replace hs := bmT1_cons hs
      obtain ⟨w, s1, rfl, hx, hs⟩ := hs
      have e := bmT1_nil hs
      subst e
      obtain ⟨x, rfl, ha⟩ := hx
      split at g
      · exact ⟨_, some (.int x), if_pos rfl, g, x, rfl, ha⟩
      · have h0 := bI_ok q ha
        generalize bI S a = p at g h0
        obtain ⟨u, y⟩ := p
        unfold aW at h0
        dsimp only at g h0
        replace g := b_bif g
        obtain ⟨g1, g⟩ := g
        replace g1 := aBa g1
        obtain ⟨g1, g2⟩ := g1
        replace g1 := of_decide_eq_true g1
        replace g2 := of_decide_eq_true g2
        refine ⟨_, some (.int x), ?_, g, x, rfl, ha⟩
        rcases b_bit (x := x) (Int.le_refl 0) (Int.le_refl 1) (by omega) (by omega) with rfl | rfl
        · exact if_pos (c := narrow .boolean (.int 0) = .int 0) (e := none) rfl
        · exact if_pos (c := narrow .boolean (.int 1) = .int 1) (e := none) rfl
      · cases g
    · cases g
  · split at g
    · rename_i v
      replace hs := bmT1_cons hs
      obtain ⟨w, s1, rfl, hx, hs⟩ := hs
      have e := bmT1_nil hs
      subst e
      split at g
      · replace g := b_bif g
        obtain ⟨g1, g⟩ := g
        obtain ⟨x, rfl⟩ := bJk_ok g1 hx
        exact ⟨_, some (.long x), rfl, g, hx⟩
      · cases g
    · cases g
  · split at g
    · rename_i v
      replace hs := bmT1_cons hs
      obtain ⟨w, s1, rfl, hx, hs⟩ := hs
      have e := bmT1_nil hs
      subst e
      split at g
      · replace g := b_bif g
        obtain ⟨g1, g⟩ := g
        rcases bLdK_ok g1 hx with ⟨e, -⟩ | ⟨e, -⟩ | ⟨-, rfl | ⟨p, rfl⟩⟩
        · cases e
        · cases e
        · exact ⟨_, some .null, rfl, g, hx⟩
        · exact ⟨_, some (.ref p), rfl, g, hx⟩
      · cases g
    · cases g
  · split at g
    · have e := bmT1_nil hs
      subst e
      split at g
      · exact ⟨none, none, rfl, g, trivial⟩
      · cases g
    · cases g
  · cases g
/-! calls of the library's -/
def bSpc (ins : Instr) (S : bS) (st : List bV) (f : bS → List bV → Bool) : Bool := match ins with
  | .invokestatic k => (match st with
    | .inl b :: r => bif Nat.beq k 1002 then bNew (-2147483648) 2147483647 S (fun S x => f S (.inl x :: r)) else (match r with
      | .inl a :: r1 => (match bI S a with
        | (x, y) => (match bI S b with
          | (u, v) => bif Nat.beq k 1000 then bNew (max x u) (max y v) S (fun S x => f S (.inl x :: r1)) else (bif Nat.beq k 1001 then bNew (min x u) (min y v) S (fun S x => f S (.inl x :: r1)) else false)))
      | _ => false)
    | _ => false)
  | .invokespecial k => (match st with
    | v :: r => bif Nat.beq k 2000 && (match bRef S v with
      | some _ => true
      | none => false) then f S r else false
    | _ => false)
  | _ => false
theorem bSpc_ok {ι : List Value} {h : sHp} {ins : Instr} {S : bS} {st : List bV} {ws : List Value} {f : bS → List bV → Bool} (g : bSpc ins S st f = true) (q : bmS ι h S) (hs : bmT1 ι h st ws) : bPo ι h S f (sSpec ins ws) := by
  unfold bSpc at g
  split at g
  · rename_i k
    split at g
    · rename_i b r
      replace hs := bmT1_cons hs
      obtain ⟨w, s1, rfl, hx, hs⟩ := hs
      obtain ⟨y, rfl, hb⟩ := hx
      cases hk : Nat.beq k 1002 with
      | true =>
        rw [hk] at g
        have e := aBt hk
        subst e
        exact bPo_new g q hs (aFull_ok _) rfl
      | false =>
        rw [hk] at g
        dsimp only [cond] at g
        split at g
        · rename_i a r1
          replace hs := bmT1_cons hs
          obtain ⟨w, s, rfl, hx, hs⟩ := hs
          obtain ⟨x, rfl, ha⟩ := hx
          have h1 := bI_ok q ha
          have h2 := bI_ok q hb
          generalize bI S a = p1 at g h1
          generalize bI S b = p2 at g h2
          obtain ⟨xl, xh⟩ := p1
          obtain ⟨yl, yh⟩ := p2
          unfold aW at h1 h2
          dsimp only at g h1 h2
          cases hk0 : Nat.beq k 1000 with
          | true =>
            rw [hk0] at g
            have e := aBt hk0
            subst e
            refine bPo_new (z := if x < y then y else x) g q hs ?_ rfl
            unfold aW
            dsimp only
            split
            · rename_i z
              have := Int32.lt_iff_toInt_lt.mp z
              omega
            · rename_i z
              have : ¬ x.toInt < y.toInt := fun e => z (Int32.lt_iff_toInt_lt.mpr e)
              omega
          | false =>
            rw [hk0] at g
            dsimp only [cond] at g
            cases hk1 : Nat.beq k 1001 with
            | true =>
              rw [hk1] at g
              have e := aBt hk1
              subst e
              refine bPo_new (z := if y < x then y else x) g q hs ?_ rfl
              unfold aW
              dsimp only
              split
              · rename_i z
                have := Int32.lt_iff_toInt_lt.mp z
                omega
              · rename_i z
                have : ¬ y.toInt < x.toInt := fun e => z (Int32.lt_iff_toInt_lt.mpr e)
                omega
            | false => rw [hk1] at g; cases g
        · cases g
    · cases g
  · rename_i k
    split at g
    · rename_i v r
      replace hs := bmT1_cons hs
      obtain ⟨w, s1, rfl, hx, hs⟩ := hs
      replace g := b_bif g
      obtain ⟨g1, g⟩ := g
      replace g1 := aBa g1
      obtain ⟨g1, g2⟩ := g1
      have e := aBt g1
      subst e
      split at g2
      · rename_i K hr
        obtain ⟨p, rfl, -⟩ := bRef_ok hr q hx
        exact bPo_same g q rfl hs
      · cases g2
    · cases g
  · cases g
/-! arguments -/
def bPop : Nat → List bV → List bV → (List bV → List bV → Bool) → Bool
  | 0, st, acc, f => f acc st
  | n + 1, st, acc, f => (match st with
    | v :: r => bPop n r (v :: acc) f
    | [] => false)
theorem bPop_ok {ι : List Value} {h : sHp} : ∀ (n : Nat) (st acc : List bV) (ws aw : List Value) (f : List bV → List bV → Bool), bPop n st acc f = true → bmT1 ι h st ws → bmT1 ι h acc aw → ∃ as rest, f as rest = true ∧ n ≤ ws.length ∧ bmT1 ι h as ((ws.take n).reverse ++ aw) ∧ bmT1 ι h rest (ws.drop n) := by
  intro n
  induction n with
  | zero => intro st acc ws aw f g hs ha; exact ⟨acc, st, g, Nat.zero_le _, ha, hs⟩
  | succ n ih =>
    intro st acc ws aw f g hs ha
    cases st with
    | nil => cases g
    | cons v r =>
      replace hs := bmT1_cons hs
      obtain ⟨w, s, rfl, hv, hs⟩ := hs
      obtain ⟨as, rest, k1, k2, k3, k4⟩ := ih r (v :: acc) s (w :: aw) f g hs ⟨hv, ha⟩
      refine ⟨as, rest, k1, by rw [List.length_cons]; omega, ?_, k4⟩
      rw [List.take_succ_cons, List.reverse_cons, List.append_assoc]
      exact k3
def bCa : List bV → Nat
  | [] => 0
  | v :: r => (bif bJk v then 2 else 1) + bCa r
theorem bCa_ok {ι : List Value} {h : sHp} : ∀ {st : List bV} {ws : List Value}, bmT1 ι h st ws → (ws.map (fun v => v.category)).sum = bCa st := by
  intro st
  induction st with
  | nil =>
    intro ws hs
    rw [bmT1_nil hs]
    rfl
  | cons v r ih =>
    intro ws hs
    obtain ⟨w, s, rfl, hv, hs⟩ := bmT1_cons hs
    rw [List.map_cons, List.sum_cons, ih hs, bmV_cat hv]
    rfl
def bPad : Nat → (bLo → Bool) → Bool
  | 0, f => f []
  | n + 1, f => bPad n (fun L => f (none :: L))
theorem bPad_eq : ∀ (n : Nat) (f : bLo → Bool), bPad n f = f (List.replicate n none) := by
  intro n
  induction n with
  | zero => intro f; rfl
  | succ n ih => intro f; exact ih _
def bIni : List bV → Nat → (bLo → Bool) → Bool
  | [], n, f => bPad n f
  | v :: r, n, f => bif bJk v then (match n with
    | m + 2 => bIni r m (fun L => f (some v :: none :: L))
    | _ => false) else (match n with
    | m + 1 => bIni r m (fun L => f (some v :: L))
    | 0 => false)
theorem bmL_cons {ι : List Value} {h : sHp} {L : bLo} {vL : sLo} (q : bmL ι h L vL) {o : Option bV} {p : Option Value} (ho : ∀ v, o = some v → ∃ w, p = some w ∧ bmV ι h v w) : bmL ι h (o :: L) (p :: vL) := by
  refine ⟨by rw [List.length_cons, List.length_cons, q.1], fun i v hv => ?_⟩
  cases i with
  | zero =>
    rw [List.getElem?_cons_zero] at hv
    obtain ⟨w, e, h2⟩ := ho v (Option.some.inj hv)
    exact ⟨w, by rw [List.getElem?_cons_zero, e], h2⟩
  | succ i =>
    rw [List.getElem?_cons_succ] at hv ⊢
    exact q.2 i v hv
theorem bIni_ok {ι : List Value} {h : sHp} : ∀ (as : List bV) (ws : List Value) (n : Nat) (f : bLo → Bool), bIni as n f = true → bmT1 ι h as ws → ∃ L, f L = true ∧ (sIniA ws).length ≤ n ∧ bmL ι h L (sIniA ws ++ List.replicate (n - (sIniA ws).length) none) := by
  intro as
  induction as with
  | nil =>
    intro ws n f g hs
    have e := bmT1_nil hs
    subst e
    unfold bIni at g
    rw [bPad_eq] at g
    refine ⟨_, g, Nat.zero_le _, ?_⟩
    refine ⟨by simp [sIniA], fun i v hv => ?_⟩
    rw [List.getElem?_replicate] at hv
    split at hv <;> cases hv
  | cons v r ih =>
    intro ws n f g hs
    replace hs := bmT1_cons hs
    obtain ⟨w, s, rfl, hv, hs⟩ := hs
    unfold bIni at g
    have hc := bmV_cat hv
    cases hj : bJk v with
    | true =>
      rw [hj] at g hc
      dsimp only [cond] at g
      have hc : w.category = 2 := hc
      split at g
      · rename_i m
        obtain ⟨L, k1, k2, k3⟩ := ih s m _ g hs
        have e : sIniA (w :: s) = some w :: none :: sIniA s := by
          show (if w.category = 2 then _ else _) = _
          rw [if_pos hc]
        refine ⟨_, k1, by rw [e, List.length_cons, List.length_cons]; omega, ?_⟩
        rw [e, List.length_cons, List.length_cons, show m + 2 - ((sIniA s).length + 1 + 1) = m - (sIniA s).length by omega]
        exact bmL_cons (bmL_cons k3 (fun v' e' => by cases e')) (fun v' e' => by cases e'; exact ⟨w, rfl, hv⟩)
      · cases g
    | false =>
      rw [hj] at g hc
      dsimp only [cond] at g
      have hc : w.category = 1 := hc
      split at g
      · rename_i m
        obtain ⟨L, k1, k2, k3⟩ := ih s m _ g hs
        have e : sIniA (w :: s) = some w :: sIniA s := by
          show (if w.category = 2 then _ else _) = _
          rw [if_neg (by rw [hc]; decide)]
        refine ⟨_, k1, by rw [e, List.length_cons]; omega, ?_⟩
        rw [e, List.length_cons, show m + 1 - ((sIniA s).length + 1) = m - (sIniA s).length by omega]
        exact bmL_cons k3 (fun v' e' => by cases e'; exact ⟨w, rfl, hv⟩)
      · cases g
theorem bmT1_nd {ι : List Value} {h : sHp} : ∀ {st : List bV} {ws : List Value}, bmT1 ι h st ws → ws.all sNd = true := by
  intro st
  induction st with
  | nil => intro ws hs; rw [bmT1_nil hs]; rfl
  | cons v r ih =>
    intro ws hs
    obtain ⟨w, s, rfl, hv, hs⟩ := bmT1_cons hs
    rw [List.all_cons, bmV_nd hv, ih hs]; rfl
/-! whom a call calls -/
def bCutL : List Nat := [0, 1, 2, 4, 5, 9, 10]
def bCal (ins : Instr) (S : bS) (st : List bV) (f : Nat → List bV → List bV → Bool) : Bool := match ins with
  | .invokestatic k => bPop (sNA k) st [] (fun as rest => f k as rest)
  | .invokespecial k => bPop (sNA k) st [] (fun as rest => (match rest with
    | v :: r => (match bObj S v with
      | some _ => f k (v :: as) r
      | none => false)
    | _ => false))
  | .invokevirtual k => bif Nat.blt k 1000 then bPop (sNA k) st [] (fun as rest => (match rest with
    | v :: r => (match bObj S v with
      | some (K, ci, _) => bif Nat.beq ci (sOwn k) && Nat.blt K 113 then f k (v :: as) r else false
      | none => false)
    | _ => false)) else bPop (sVt k 100) st [] (fun as rest => (match rest with
    | v :: r => (match bObj S v with
      | some (K, ci, _) => bif Nat.beq K 113 then bCutL.all (fun ci => f (sVt k ci) (.inr (2, 100 + ci) :: as) r) else (bif bIsC K then f (sVt k ci) (v :: as) r else false)
      | none => false)
    | _ => false))
  | .invokeinterface k _ => bPop (k - 3000) st [] (fun as rest => (match rest with
    | v :: r => (match bRef S v with
      | some K => bif Nat.blt 399 K && Nat.blt K 407 then aF (k - 2700) (fun k1 => f k1 (v :: as) r) else false
      | none => false)
    | _ => false))
  | _ => false
theorem bIsC_ci {K ci : Nat} {tys : List bTy} (h : bIsC K = true) (hg : bGam K = some (.inr (ci, tys))) : K = 100 + ci ∧ ci ∈ bCutL ∧ sGrp ci = 2 ∧ ci < 11 := by
  rcases bIsC_cases h with e | e | e | e | e | e | e <;> subst e <;> cases hg <;> exact ⟨rfl, by decide, rfl, by decide⟩
theorem bCal_ok {ι : List Value} {h : sHp} {ins : Instr} {S : bS} {st : List bV} {ws : List Value} {f : Nat → List bV → List bV → Bool} (g : bCal ins S st f = true) (hH : bH h) (q : bmS ι h S) (hs : bmT1 ι h st ws) : ∃ k1 as rest was wrest, sCal sNA sOwn sVt ins ws h = some (k1, was, wrest) ∧ f k1 as rest = true ∧ bmT1 ι h as was ∧ bmT1 ι h rest wrest := by
  unfold bCal at g
  split at g
  · rename_i k
    obtain ⟨as, rest, k1, k2, k3, k4⟩ := bPop_ok _ _ _ _ [] _ g hs trivial
    rw [List.append_nil] at k3
    refine ⟨k, as, rest, _, _, ?_, k1, k3, k4⟩
    show (sPop (sNA k) ws).map _ = _
    unfold sPop
    rw [if_pos k2]; rfl
  · rename_i k
    obtain ⟨as, rest, k1, k2, k3, k4⟩ := bPop_ok _ _ _ _ [] _ g hs trivial
    rw [List.append_nil] at k3
    have e0 : sPop (sNA k) ws = some ((ws.take (sNA k)).reverse, ws.drop (sNA k)) := by
      unfold sPop
      rw [if_pos k2]
    generalize (ws.take (sNA k)).reverse = was at e0 k3
    generalize ws.drop (sNA k) = wr at e0 k4
    split at k1
    · rename_i v r
      replace k4 := bmT1_cons k4
      obtain ⟨w, s, rfl, hv, k4⟩ := k4
      split at k1
      · rename_i z hz
        obtain ⟨K, ci0, tys⟩ := z
        obtain ⟨p, ci, fs, rfl, h1, -⟩ := bObj_ok hz hH q hv
        refine ⟨k, _, _, .ref p :: was, s, ?_, k1, ⟨hv, k3⟩, k4⟩
        show (sPop (sNA k) ws).bind _ = _
        rw [e0, Option.bind_some]
        dsimp only
        rw [h1]
      · cases k1
    · cases k1
  · rename_i k
    cases hk : Nat.blt k 1000 with
    | true =>
      rw [hk] at g
      replace hk := aBl hk
      obtain ⟨as, rest, k1, k2, k3, k4⟩ := bPop_ok _ _ _ _ [] _ g hs trivial
      rw [List.append_nil] at k3
      have e0 : sPop (sNA k) ws = some ((ws.take (sNA k)).reverse, ws.drop (sNA k)) := by
        unfold sPop
        rw [if_pos k2]
      generalize (ws.take (sNA k)).reverse = was at e0 k3
      generalize ws.drop (sNA k) = wr at e0 k4
      split at k1
      · rename_i v r
        replace k4 := bmT1_cons k4
        obtain ⟨w, s, rfl, hv, k4⟩ := k4
        split at k1
        · rename_i K ci0 tys hz
          obtain ⟨p, ci, fs, rfl, h1, h2, h3, -⟩ := bObj_ok hz hH q hv
          replace k1 := b_bif k1
          obtain ⟨k5, k1⟩ := k1
          replace k5 := aBa k5
          obtain ⟨k5, k6⟩ := k5
          replace k6 := aBl k6
          have e1 := h3 (by omega)
          subst e1
          refine ⟨k, _, _, .ref p :: was, s, ?_, k1, ⟨hv, k3⟩, k4⟩
          show (if k < 1000 then (sPop (sNA k) ws).bind _ else _) = _
          rw [if_pos hk, e0, Option.bind_some]
          dsimp only
          rw [h1]
          dsimp only
          rw [if_pos (aBt k5)]
        · cases k1
      · cases k1
    | false =>
      rw [hk] at g
      have hk : ¬ k < 1000 := fun z => by
        rw [show Nat.blt k 1000 = true from Nat.ble_eq_true_of_le z] at hk
        cases hk
      obtain ⟨as, rest, k1, k2, k3, k4⟩ := bPop_ok _ _ _ _ [] _ g hs trivial
      rw [List.append_nil] at k3
      have e0 : sPop (sVt k 100) ws = some ((ws.take (sVt k 100)).reverse, ws.drop (sVt k 100)) := by
        unfold sPop
        rw [if_pos k2]
      generalize (ws.take (sVt k 100)).reverse = was at e0 k3
      generalize ws.drop (sVt k 100) = wr at e0 k4
      split at k1
      · rename_i v r
        replace k4 := bmT1_cons k4
        obtain ⟨w, s, rfl, hv, k4⟩ := k4
        split at k1
        · rename_i K ci0 tys hz
          obtain ⟨p, ci, fs, rfl, h1, h2, h3, -, -, h7, h8⟩ := bObj_ok hz hH q hv
          have fin : ∀ (hc : sGrp ci = 2 ∧ ci < 11), sCal sNA sOwn sVt (.invokevirtual k) ws h = some (sVt k ci, .ref p :: was, s) := by
            intro hc
            show (if k < 1000 then _ else (sPop (sVt k 100) ws).bind _) = _
            rw [if_neg hk, e0, Option.bind_some]
            dsimp only
            rw [h1]
            dsimp only
            rw [if_pos hc]
          cases hK : Nat.beq K 113 with
          | true =>
            rw [hK] at k1
            have e := aBt hK
            subst e
            dsimp only [cond] at k1
            rcases bKK_cases h8 with e | ⟨-, e⟩
            · rw [e] at h7
              have : bGam 113 = none := rfl
              rw [this] at h7
              cases h7
            · obtain ⟨c1, c2, c3, c4⟩ := bIsC_ci e h7
              refine ⟨sVt k ci, _, _, _, _, fin ⟨c3, c4⟩, List.all_eq_true.mp k1 ci c2, ⟨⟨p, rfl, Or.inl ⟨_, h1, ?_⟩⟩, k3⟩, k4⟩
              unfold bKK
              rw [c1, aBq, decide_eq_true rfl]; rfl
          | false =>
            rw [hK] at k1
            dsimp only [cond] at k1
            have hK : K ≠ 113 := by
              rw [aBq] at hK
              exact of_decide_eq_false hK
            replace k1 := b_bif k1
            obtain ⟨k5, k1⟩ := k1
            have e1 := h3 hK
            subst e1
            have h9 : bKp p (.inr (ci, fs)) = K := by
              rcases bKK_cases h8 with e | ⟨e, -⟩
              · exact e
              · exact absurd e hK
            rw [h9] at h7
            obtain ⟨c1, c2, c3, c4⟩ := bIsC_ci k5 h7
            exact ⟨sVt k ci, _, _, _, _, fin ⟨c3, c4⟩, k1, ⟨hv, k3⟩, k4⟩
        · cases k1
      · cases k1
  · rename_i k cnt
    obtain ⟨as, rest, k1, k2, k3, k4⟩ := bPop_ok _ _ _ _ [] _ g hs trivial
    rw [List.append_nil] at k3
    have e0 : sPop (k - 3000) ws = some ((ws.take (k - 3000)).reverse, ws.drop (k - 3000)) := by
      unfold sPop
      rw [if_pos k2]
    generalize (ws.take (k - 3000)).reverse = was at e0 k3
    generalize ws.drop (k - 3000) = wr at e0 k4
    split at k1
    · rename_i v r
      replace k4 := bmT1_cons k4
      obtain ⟨w, s, rfl, hv, k4⟩ := k4
      split at k1
      · rename_i K hK
        obtain ⟨p, rfl, hp⟩ := bRef_ok hK q hv
        obtain ⟨k5, k1⟩ := b_bif k1
        obtain ⟨k5, k6⟩ := aBa k5
        have k5 := aBl k5
        have k6 := aBl k6
        rw [aF_eq] at k1
        have hpp : p = 2000000 + (K - 400) := by
          rcases hp with ⟨c, h1, h2⟩ | ⟨e, -⟩ | ⟨-, e⟩
          · obtain ⟨ct, h3, h4⟩ := hH.2 p c h1
            rcases bKK_cases h2 with e | ⟨e, -⟩
            · rw [e] at h3
              have := bGam_lt h3
              omega
            · omega
          · omega
          · exact e
        refine ⟨k - 2700, _, _, .ref p :: was, s, ?_, k1, ⟨hv, k3⟩, k4⟩
        show (sPop (k - 3000) ws).bind _ = _
        rw [e0, Option.bind_some]
        dsimp only
        rw [if_pos (by omega)]
      · cases k1
    · cases k1
  · cases g
end
section
/-! ===== the second executor: what a method keeps to, and the run ===== -/
/-- method, depth, its arguments, what it finds, what it may write, how many cells it makes, its answers with what it leaves -/
abbrev bCn : Type := Nat × Nat × List bTy × List (Nat × bTy) × Nat × Nat × List (Option bTy × List (Nat × bTy))
def bTl (h : sHp) : List bTy → List Value → Prop
  | [], [] => True
  | t :: r, v :: s => bT h t v ∧ bTl h r s
  | _, _ => False
def bOv1 (h : sHp) (e : Nat × bTy) : Prop := bOne (e.1 / 64) = true ∧ ∃ (ci : Nat) (fs : List Value) (w : Value), h[e.1 / 64]? = some (.inr (ci, fs)) ∧ fs[e.1 % 64]? = some w ∧ bT h e.2 w
def bOv (h : sHp) (l : List (Nat × bTy)) : Prop := ∀ e ∈ l, bOv1 h e
def bRs (h : sHp) (t : Option bTy) (r : Option Value) : Prop := match t with
  | none => r = none
  | some t => ∃ v, r = some v ∧ bT h t v
def bPs (h : sHp) (ps : List (Option bTy × List (Nat × bTy))) (r : Option Value) : Prop := ∃ e ∈ ps, bRs h e.1 r ∧ bOv h e.2
def bEn (c : bCn) (r : Option Value) (h h' : sHp) : Prop := bH h' ∧ bFr c.2.2.2.2.1 c.2.2.2.2.2.1 h h' ∧ bPs h' c.2.2.2.2.2.2 r
def bHolds (c : bCn) : Prop := ∀ (h : sHp) (vs : List Value), bH h → bTl h c.2.2.1 vs → bOv h c.2.2.2.1 → sDo c.2.1 c.1 vs h (fun r h' => bEn c r h h')
def bFiL (S : bS) : List bV → List bTy → Bool
  | [], ts => (match ts with
    | [] => true
    | _ => false)
  | v :: r, ts => (match ts with
    | t :: ts1 => bFit S v t && bFiL S r ts1
    | [] => false)
theorem bFiL_ok {ι : List Value} {h : sHp} {S : bS} (q : bmS ι h S) : ∀ {st : List bV} {ts : List bTy} {ws : List Value}, bFiL S st ts = true → bmT1 ι h st ws → bTl h ts ws := by
  intro st
  induction st with
  | nil =>
    intro ts ws g hs
    rw [bmT1_nil hs]
    cases ts with
    | nil => trivial
    | cons t r => cases g
  | cons v r ih =>
    intro ts ws g hs
    obtain ⟨w, s, rfl, hv, hs1⟩ := bmT1_cons hs
    cases ts with
    | nil => cases g
    | cons t ts1 =>
      replace g := aBa g
      obtain ⟨g1, g2⟩ := g
      exact ⟨bFit_ok g1 q hv, ih g2 hs1⟩
def bOvF (S : bS) (l : List (Nat × bTy)) : Bool := l.all (fun e => match bOf e.1 S.2.2.2.2.2.1 with
  | some v => bFit S v e.2
  | none => false)
theorem bOvF_ok {ι : List Value} {h : sHp} {S : bS} {l : List (Nat × bTy)} (g : bOvF S l = true) (q : bmS ι h S) : bOv h l := by
  intro e he
  have g1 := List.all_eq_true.mp g e he
  split at g1
  · rename_i v hv
    obtain ⟨h0, ci, fs, w, h1, h2, h3⟩ := q.2.2.2.2.1 _ (bOf_mem hv)
    exact ⟨h0, ci, fs, w, h1, h2, bFit_ok g1 q h3⟩
  · cases g1
def bFnd : List bCn → Nat → Nat → List bV → bS → Option bCn
  | [], _, _, _, _ => none
  | c :: r, k, d, as, S => bif Nat.beq c.1 k && (Nat.ble c.2.1 d && (bFiL S as c.2.2.1 && bOvF S c.2.2.2.1)) then some c else bFnd r k d as S
theorem bFnd_ok {ι : List Value} {h : sHp} {S : bS} {k d : Nat} {as : List bV} {ws : List Value} {c : bCn} (q : bmS ι h S) (hs : bmT1 ι h as ws) : ∀ {T : List bCn}, bFnd T k d as S = some c → c ∈ T ∧ c.1 = k ∧ c.2.1 ≤ d ∧ bTl h c.2.2.1 ws ∧ bOv h c.2.2.2.1 := by
  intro T
  induction T with
  | nil => intro g; cases g
  | cons c0 r ih =>
    intro g
    unfold bFnd at g
    cases hb : (Nat.beq c0.1 k && (Nat.ble c0.2.1 d && (bFiL S as c0.2.2.1 && bOvF S c0.2.2.2.1))) with
    | true =>
      rw [hb] at g
      cases g
      replace hb := aBa hb
      obtain ⟨g1, g2⟩ := hb
      replace g2 := aBa g2
      obtain ⟨g2, g3⟩ := g2
      replace g3 := aBa g3
      obtain ⟨g3, g4⟩ := g3
      exact ⟨List.mem_cons_self, aBt g1, Nat.le_of_ble_eq_true g2, bFiL_ok q g3 hs, bOvF_ok g4 q⟩
    | false =>
      rw [hb] at g
      obtain ⟨h1, h2⟩ := ih g
      exact ⟨List.mem_cons_of_mem _ h1, h2⟩
/-- what is known anew of some cells -/
def bMkO : List (Nat × bTy) → bS → (bS → Bool) → Bool
  | [], S, f => f S
  | e :: r, S, f => bMk e.2 S (fun S1 v => match S1 with
    | (n, g, G, D, N, O, A) => bMkO r (n, g, G, D, N, (e.1, v) :: O, A) f)
theorem bMkO_ok {h : sHp} : ∀ (l : List (Nat × bTy)) {ι : List Value} {S : bS} {f : bS → Bool}, bMkO l S f = true → bmS ι h S → bOv h l → ∃ ι' S', f S' = true ∧ bLe ι ι' ∧ bmS ι' h S' ∧ S'.2.1 = S.2.1 := by
  intro l
  induction l with
  | nil => intro ι S f g q _; exact ⟨ι, S, g, bLe_refl ι, q, rfl⟩
  | cons e r ih =>
    intro ι S f g q ho
    obtain ⟨h0, ci, fs, w, h1, h2, h3⟩ := ho e List.mem_cons_self
    obtain ⟨ι1, S1, v, g1, g2, g3, g4, g5⟩ := bMk_ok g q h3
    obtain ⟨n, g0, G, D, N, O, A⟩ := S1
    obtain ⟨ι2, S2, k1, k2, k3, k4⟩ := ih (S := (n, g0, G, D, N, (e.1, v) :: O, A)) g1 ⟨g3.1, g3.2.1, g3.2.2.1, g3.2.2.2.1, fun e' he => by
      have he : e' ∈ (e.1, v) :: O := he
      rcases List.mem_cons.mp he with rfl | he
      · exact ⟨h0, ci, fs, w, h1, h2, g4⟩
      · exact g3.2.2.2.2.1 e' he, g3.2.2.2.2.2⟩ (fun e' he => ho e' (List.mem_cons_of_mem _ he))
    exact ⟨ι2, S2, k1, bLe_trans g2 k2, k3, k4.trans g5⟩
def bUse (c : bCn) (S : bS) (f : Option bV → bS → Bool) : Bool := match S with
  | (n, g, G, D, N, O, A) => aF (g + c.2.2.2.2.2.1) fun g1 => bFil (fun e => !(c.2.2.2.2.1.testBit e.1)) O fun O1 => bFil (fun e => !(c.2.2.2.2.1.testBit (e.1 * 64))) A fun A1 => c.2.2.2.2.2.2.all (fun po => bMkO po.2 (n, g1, G, D, N, O1, A1) (fun S1 => match po.1 with
    | none => f none S1
    | some t => bMk t S1 (fun S2 v => f (some v) S2)))
theorem bUse_ok {c : bCn} {ι : List Value} {h h' : sHp} {S : bS} {f : Option bV → bS → Bool} {r : Option Value} (g : bUse c S f = true) (q : bmS ι h S) (hc : bEn c r h h') : ∃ ι' S' v, f v S' = true ∧ bLe ι ι' ∧ bmS ι' h' S' ∧ bmR ι' h' v r ∧ S'.2.1 = S.2.1 + c.2.2.2.2.2.1 := by
  obtain ⟨hH, hF, po, hpo, hr, ho⟩ := hc
  obtain ⟨n, g0, G, D, N, O, A⟩ := S
  unfold bUse at g
  dsimp only at g
  rw [aF_eq, bFil_eq, bFil_eq] at g
  have g1 := List.all_eq_true.mp g po hpo
  have hx := bEx_of hF
  have q1 : bmS ι h' (n, g0 + c.2.2.2.2.2.1, G, D, N, O.filter (fun e => !(c.2.2.2.2.1.testBit e.1)), A.filter (fun e => !(c.2.2.2.2.1.testBit (e.1 * 64)))) := by
    refine ⟨q.1, q.2.1, q.2.2.1, q.2.2.2.1, fun e he => ?_, fun e he => ?_⟩
    · obtain ⟨m1, m2⟩ := List.mem_filter.mp he
      rw [Bool.not_eq_true'] at m2
      obtain ⟨h0, ci, fs, w, h1, h2, h3⟩ := q.2.2.2.2.1 e m1
      obtain ⟨c', k1, k2⟩ := hF.2.2 _ _ h1
      rw [(bOne_k h0 _).2] at k2
      rcases c' with ⟨t, z⟩ | ⟨ci', fs'⟩
      · exact k2.elim
      · refine ⟨h0, ci', fs', w, k1, ?_, bmV_mono (bLe_refl ι) hx h3⟩
        rw [k2.2.2.1 (e.1 % 64) (by rw [show e.1 / 64 * 64 + e.1 % 64 = e.1 by omega]; exact m2)]
        exact h2
    · obtain ⟨m1, m2⟩ := List.mem_filter.mp he
      rw [Bool.not_eq_true'] at m2
      obtain ⟨h0, t, n1, f1, j, h1, h2, h3⟩ := q.2.2.2.2.2 e m1
      obtain ⟨c', k1, k2⟩ := hF.2.2 _ _ h1
      rw [(bOne_k h0 _).2] at k2
      rcases c' with ⟨t', n', d'⟩ | ⟨ci', fs'⟩
      · obtain ⟨e1, e2, e3⟩ := k2
        have e4 := e3 m2
        subst e1 e2 e4
        exact ⟨h0, _, _, f1, j, k1, h2, bmV_mono (bLe_refl ι) hx h3⟩
      · exact k2.elim
  obtain ⟨ι1, S1, k1, k2, k3, k4⟩ := bMkO_ok _ g1 q1 ho
  cases hp : po.1 with
  | none =>
    rw [hp] at k1 hr
    have e : r = none := hr
    subst e
    exact ⟨ι1, S1, none, k1, k2, k3, trivial, k4⟩
  | some t =>
    rw [hp] at k1 hr
    obtain ⟨v, rfl, hv⟩ := hr
    obtain ⟨ι2, S2, w, m1, m2, m3, m4, m5⟩ := bMk_ok k1 k3 hv
    exact ⟨ι2, S2, some w, m1, bLe_trans k2 m2, m3, m4, m5.trans k4⟩
/-! the run -/
abbrev bKt : Type := Option bV → bS → Bool
abbrev bRt : Type := Bool → Nat → Nat → sMt → Nat → bLo → List bV → bS → bKt → Bool
/-- a place of the script near the law's own counter -/
def bNr (D : List (Nat × Nat × Int)) (j : Nat) : Bool := match D with
  | [] => false
  | e :: r => bif Nat.beq e.1 j then Nat.beq e.2.1 0 && (decide (0 ≤ e.2.2) && decide (e.2.2 ≤ 5)) else bNr r j
def bScr (S : bS) (st : List bV) (f : bS → List bV → Bool) : Bool := match st with
  | .inl (.inl j) :: v :: r => (match v with
    | .inr (t, K) => bif (Nat.beq t 2 && (Nat.beq K 300 && Nat.blt S.2.1 100)) && (Nat.beq j 0 || bNr S.2.2.2.1 j) then bNew (-2147483648) 2147483647 S (fun S1 x => f S1 (.inl x :: r)) else false
    | _ => false)
  | _ => false
def bHp2 (b : Bool) (W : Nat) (ins : Instr) (S : bS) (st : List bV) (f : bS → List bV → Bool) : Bool := match b with
  | false => bHeap W ins S st f
  | true => (match ins with
    | .iaload => bScr S st f
    | .arraylength => false
    | ins => bHeap W ins S st f)
def bStep (c sp : Bool) (T : List bCn) (W : Nat) (K2 : Nat → bLo → List bV → bS → Bool) (R : bRt) : bRt := fun b d k q pc L st S K =>
  bif b && K2 pc L st S then true else (match aFt (mT q) pc with
    | none => false
    | some ins => (match sKnd ins with
      | 0 => bPure ins S st (fun S1 st1 => aF (pc + sLen ins) (fun p => R b d k q p L st1 S1 K))
      | 1 => bLoc ins S L st (fun S1 L1 st1 => aF (pc + sLen ins) (fun p => R b d k q p L1 st1 S1 K))
      | 2 => bHp2 (b && c) W ins S st (fun S1 st1 => aF (pc + sLen ins) (fun p => R b d k q p L st1 S1 K))
      | 3 => bJmp sp ins pc S st (fun p S1 st1 => R b d k q p L st1 S1 K)
      | 4 => bRet ins (mR q) S st (fun v => K v S)
      | 5 => bCal ins S st (fun k1 as rest => bif Nat.ble (bCa rest) 8 then (match bFnd T k1 d as S with
        | some cn => bif Nat.beq (cn.2.2.2.2.1 ||| W) W then bUse cn S (fun v S1 => aF (pc + 3) (fun p => R b d k q p L (v.toList ++ rest) S1 K)) else false
        | none => (match d with
          | d1 + 1 => (match aNth sMs k1 with
            | some q1 => bIni as (mN q1) (fun L1 => R false d1 k1 q1 0 L1 [] S (fun v S1 => aF (pc + 3) (fun p => R b d k q p L (v.toList ++ rest) S1 K)))
            | none => false)
          | 0 => false)) else false)
      | 6 => bif Nat.ble (bCa st) 10 then bSpc ins S st (fun S1 st1 => aF (pc + 3) (fun p => R b d k q p L st1 S1 K)) else false
      | _ => false))
def bRun (c sp : Bool) (T : List bCn) (W : Nat) (K2 : Nat → bLo → List bV → bS → Bool) : Nat → bRt
  | 0 => fun _ _ _ _ _ _ _ _ _ => false
  | n + 1 => bStep c sp T W K2 (bRun c sp T W K2 n)
def bQ (ι : List Value) (K : bKt) (h0 : sHp) (W : Nat) (h : sHp) (r : Option Value) (h' : sHp) : Prop := ∃ ι' S' v, K v S' = true ∧ bLe ι ι' ∧ bmS ι' h' S' ∧ bH h' ∧ bmR ι' h' v r ∧ bEx h h' ∧ bFr W S'.2.1 h0 h'
theorem bQ_mono {ι ι' : List Value} {K : bKt} {h0 : sHp} {W : Nat} {h h1 : sHp} (a : bLe ι ι') (b : bEx h h1) {r : Option Value} {h' : sHp} (q : bQ ι' K h0 W h1 r h') : bQ ι K h0 W h r h' := by
  obtain ⟨ι2, S', v, q1, q2, q3, q4, q5, q6, q7⟩ := q
  exact ⟨ι2, S', v, q1, bLe_trans a q2, q3, q4, q5, bEx_trans b q6, q7⟩
theorem bQb_mono {ι ι' : List Value} {K : bKt} {h0 : sHp} {W : Nat} {h h1 : sHp} {b : Bool} {Q0 : Option Value → sHp → Prop} (a : bLe ι ι') (e : bEx h h1) {r : Option Value} {h' : sHp} (q : aQb b Q0 (bQ ι' K h0 W h1) r h') : aQb b Q0 (bQ ι K h0 W h) r h' := by
  cases b with
  | true => exact q
  | false => exact bQ_mono a e q
/-- the script is long enough behind the law's own counter -/
def bHX (ι0 : List Value) (h0 : sHp) (X : sX) : Prop := ∃ (N : Nat) (xs : Nat → Int32) (x0 : Int32), X = some (N, xs) ∧ ι0[0]? = some (.int x0) ∧ 0 ≤ x0.toInt ∧ x0.toInt + 6 ≤ N ∧ h0.length ≤ 900000
def bHXc (ι0 : List Value) (h0 : sHp) (c : Bool) (X : sX) : Prop := (c = true → bHX ι0 h0 X) ∧ (c = false → X = none)
def bSnd (X : sX) (h0 : sHp) (W : Nat) (ι0 : List Value) (k0 d0 : Nat) (K0 : bKt) (Q0 : Option Value → sHp → Prop) (R : bRt) : Prop := ∀ (b : Bool) (d k : Nat) (q : sMt) (pc : Nat) (L : bLo) (st : List bV) (S : bS) (K : bKt), R b d k q pc L st S K = true → ∀ (ι : List Value) (h : sHp) (vL : sLo) (vst : List Value), sM k = some q → bLe ι0 ι → bmS ι h S → bmL ι h L vL → bmT1 ι h st vst → bH h → bFr W S.2.1 h0 h → (b = true → K = K0 ∧ d = d0 ∧ k = k0) → sGo (aXb X b) k d pc vL vst h (aQb b Q0 (bQ ι K h0 W h))
theorem bNr_ok {ι : List Value} {j : Nat} : ∀ {D : List (Nat × Nat × Int)}, bNr D j = true → bmD ι D → ∃ x y, ι[j]? = some (.int x) ∧ ι[0]? = some (.int y) ∧ y.toInt ≤ x.toInt ∧ x.toInt ≤ y.toInt + 5 := by
  intro D
  induction D with
  | nil => intro g; cases g
  | cons e r ih =>
    intro g hD
    unfold bNr at g
    cases hb : Nat.beq e.1 j with
    | true =>
      rw [hb] at g
      replace g := aBa g
      obtain ⟨g1, g2⟩ := g
      replace g2 := aBa g2
      obtain ⟨g2, g3⟩ := g2
      replace g2 := of_decide_eq_true g2
      replace g3 := of_decide_eq_true g3
      obtain ⟨x, y, h1, h2, h3⟩ := hD e List.mem_cons_self
      rw [aBt hb] at h1
      rw [aBt g1] at h2
      exact ⟨x, y, h1, h2, by omega, by omega⟩
    | false =>
      rw [hb] at g
      exact ih g (fun e he => hD e (List.mem_cons_of_mem _ he))
theorem bHp2_ok {ι0 ι : List Value} {X : sX} {k d pc : Nat} {L : sLo} {Q : Option Value → sHp → Prop} {b c : Bool} {W : Nat} {ins : Instr} {S : bS} {st : List bV} {ws : List Value} {h0 h : sHp} {f : bS → List bV → Bool} (HX : bHXc ι0 h0 c X) (hF : sFk k pc = some ins) (hk : sKnd ins = 2) (g : bHp2 (b && c) W ins S st f = true) (hle : bLe ι0 ι) (q : bmS ι h S) (hs : bmT1 ι h st ws) (hH : bH h) (hFr : bFr W S.2.1 h0 h)
    (kk : ∀ ι' S' st' ws' h', f S' st' = true → bLe ι ι' → bmS ι' h' S' → bmT1 ι' h' st' ws' → S'.2.1 = S.2.1 → bH h' → bFr W 0 h h' → sGo (aXb X b) k d (pc + sLen ins) L ws' h' Q) : sGo (aXb X b) k d pc L ws h Q := by
  have gen : ∀ (g1 : bHeap W ins S st f = true) (hn : sScr (aXb X b) ins ws = none), sGo (aXb X b) k d pc L ws h Q := by
    intro g1 hn
    obtain ⟨ι', S', st', ws', h', e, k1, k2, k3, k4, k5, k6, k7⟩ := bHeap_ok g1 hH q hs
    exact go_heap hF hk hn e (kk ι' S' st' ws' h' k1 k2 k3 k4 k5 k6 k7)
  cases hbc : (b && c) with
  | false =>
    rw [hbc] at g
    refine gen g ?_
    have e1 : aXb X b = none := by
      cases b with
      | false => rfl
      | true => exact HX.2 hbc
    rw [e1]; rfl
  | true =>
    rw [hbc] at g
    replace hbc := aBa hbc
    obtain ⟨rfl, rfl⟩ := hbc
    obtain ⟨N, xs, x0, rfl, hx0, hn0, hn6, hl0⟩ := HX.1 rfl
    unfold bHp2 at g
    dsimp only at g
    split at g
    · unfold bScr at g
      split at g
      · rename_i j v r
        replace hs := bmT1_cons hs
        obtain ⟨w, s1, rfl, hx, hs⟩ := hs
        replace hs := bmT1_cons hs
        obtain ⟨w2, s, rfl, hv, hs⟩ := hs
        obtain ⟨x, rfl, ha⟩ := hx
        split at g
        · rename_i t K
          replace g := b_bif g
          obtain ⟨g1, g⟩ := g
          replace g1 := aBa g1
          obtain ⟨g1, g2⟩ := g1
          replace g1 := aBa g1
          obtain ⟨g1, g3⟩ := g1
          replace g3 := aBa g3
          obtain ⟨g3, g4⟩ := g3
          have e1 := aBt g1
          have e2 := aBt g3
          have e4 := aBl g4
          subst e1 e2
          obtain ⟨p, rfl, hp⟩ := hv
          have hlen := hFr.2.1
          have hp1 : p = 1000000 := by
            rcases hp with ⟨c', k1, k2⟩ | ⟨-, e⟩ | ⟨e, -⟩
            · obtain ⟨ct, k3, k4⟩ := hH.2 p c' k1
              rcases bKK_cases k2 with e | ⟨e, -⟩
              · rw [e] at k3
                exact absurd (bGam_lt k3) (by decide)
              · cases e
            · exact e
            · omega
          subst hp1
          have hx' : ι[j]? = some (.int x) := ha
          have hb : x0.toInt ≤ x.toInt ∧ x.toInt ≤ x0.toInt + 5 := by
            rw [Bool.or_eq_true] at g2
            rcases g2 with g2 | g2
            · have e := aBt g2
              subst e
              have h2 := bLe_at hle hx0
              rw [hx'] at h2
              cases h2
              omega
            · obtain ⟨y, z, k1, k2, k3, k4⟩ := bNr_ok g2 q.2.2.1
              rw [hx'] at k1
              cases k1
              rw [bLe_at hle hx0] at k2
              cases k2
              exact ⟨k3, k4⟩
          have hin : ¬ (x < 0 ∨ N ≤ x.toNatClampNeg) := by
            have e : (x.toNatClampNeg : Int) = x.toInt := by
              show ((x.toInt.toNat : Nat) : Int) = x.toInt
              omega
            intro z
            rcases z with z | z
            · have := Int32.lt_iff_toInt_lt.mp z
              have e0 : (0 : Int32).toInt = 0 := rfl
              omega
            · omega
          obtain ⟨ι', S', a, k1, k2, k3, k4, k5⟩ := bNew_ok g q (aFull_ok (xs x.toNatClampNeg))
          refine go_scr (st1 := .int (xs x.toNatClampNeg) :: s) hF hk ?_ (kk ι' S' _ _ h k1 k2 k3 ⟨⟨_, rfl, k4⟩, bmT1_mono k2 (bEx_refl h) hs⟩ k5 hH (bFr_refl W h))
          show (if 1000000 = 1000000 ∧ ¬ (x < 0 ∨ N ≤ x.toNatClampNeg) then some (Value.int (xs x.toNatClampNeg) :: s) else none) = _
          exact if_pos ⟨rfl, hin⟩
        · cases g
      · cases g
    · cases g
    · rename_i n1 n2
      refine gen g ?_
      show sScr (some (N, xs)) ins ws = none
      unfold sScr
      dsimp only
      split
      · exact absurd rfl n2
      · exact absurd rfl n1
      · rfl
theorem bRest {ι : List Value} {h : sHp} {v : Option bV} {r : Option Value} {st : List bV} {ws : List Value} (hv : bmR ι h v r) (hs : bmT1 ι h st ws) : bmT1 ι h (v.toList ++ st) (r.toList ++ ws) := by
  cases v with
  | none =>
    cases r with
    | none => exact hs
    | some w => exact hv.elim
  | some v =>
    cases r with
    | none => exact hv.elim
    | some w => exact ⟨hv, hs⟩
theorem bStep_ok {X : sX} {h0 : sHp} {W : Nat} {ι0 : List Value} {k0 d0 : Nat} {K0 : bKt} {Q0 : Option Value → sHp → Prop} {c sp : Bool} {T : List bCn} {K2 : Nat → bLo → List bV → bS → Bool} {R : bRt} (HX : bHXc ι0 h0 c X) (HT : ∀ cn ∈ T, bHolds cn)
    (HK2 : ∀ (pc : Nat) (L : bLo) (st : List bV) (S : bS) (ι : List Value) (h : sHp) (vL : sLo) (vst : List Value), K2 pc L st S = true → bLe ι0 ι → bmS ι h S → bmL ι h L vL → bmT1 ι h st vst → bH h → bFr W S.2.1 h0 h → sGo X k0 d0 pc vL vst h Q0)
    (HK0 : ∀ (v : Option bV) (S : bS) (ι : List Value) (h : sHp) (r : Option Value), K0 v S = true → bLe ι0 ι → bmS ι h S → bH h → bmR ι h v r → bFr W S.2.1 h0 h → Q0 r h)
    (HR : bSnd X h0 W ι0 k0 d0 K0 Q0 R) : bSnd X h0 W ι0 k0 d0 K0 Q0 (bStep c sp T W K2 R) := by
  intro b d k q pc L st S K g ι h vL vst hq hle hS hL hs hH hFr hb
  unfold bStep at g
  cases hk2 : (b && K2 pc L st S) with
  | true =>
    replace hk2 := aBa hk2
    obtain ⟨rfl, b2⟩ := hk2
    obtain ⟨rfl, rfl, rfl⟩ := hb rfl
    exact HK2 pc L st S ι h vL vst b2 hle hS hL hs hH hFr
  | false =>
    rw [hk2] at g
    dsimp only [cond] at g
    split at g
    · cases g
    · rename_i ins hF
      have hF : sFk k pc = some ins := by
        unfold sFk
        rw [hq]
        show sFt q pc = _
        rw [← hF]
        exact (aFt_eq pc (mT q)).symm
      split at g
      · rename_i hk
        obtain ⟨ι', S', st', ws', ho, k1, k2, k3, k4, k5⟩ := bPure_ok g hS hs
        dsimp only at k1
        rw [aF_eq] at k1
        exact go_pure hF hk ho (sGo_mono (HR _ _ _ _ _ _ _ _ _ k1 ι' h vL ws' hq (bLe_trans hle k2) k3 (bmL_mono k2 (bEx_refl h) hL) k4 hH (by rw [k5]; exact hFr) hb) (fun r h' z => bQb_mono k2 (bEx_refl h) z))
      · rename_i hk
        obtain ⟨ι', S', L', st', vL', ws', ho, k1, k2, k3, k4, k5, k6⟩ := bLoc_ok g hS hL hs
        dsimp only at k1
        rw [aF_eq] at k1
        exact go_loc hF hk ho (sGo_mono (HR _ _ _ _ _ _ _ _ _ k1 ι' h vL' ws' hq (bLe_trans hle k2) k3 k4 k5 hH (by rw [k6]; exact hFr) hb) (fun r h' z => bQb_mono k2 (bEx_refl h) z))
      · rename_i hk
        refine bHp2_ok HX hF hk g hle hS hs hH hFr (fun ι' S' st' ws' h' k1 k2 k3 k4 k5 k6 k7 => ?_)
        rw [aF_eq] at k1
        have hx := bEx_of k7
        exact sGo_mono (HR _ _ _ _ _ _ _ _ _ k1 ι' h' vL ws' hq (bLe_trans hle k2) k3 (bmL_mono k2 hx hL) k4 k6 (by rw [k5]; exact bFr_trans hFr k7) hb) (fun r h'' z => bQb_mono k2 hx z)
      · rename_i hk
        obtain ⟨t, S', st', ws', ho, k1, k2, k3, k4⟩ := bJmp_ok g hS hs
        exact go_jmp hF hk ho (HR _ _ _ _ _ _ _ _ _ k1 ι h vL ws' hq hle k2 hL k3 hH (by rw [k4]; exact hFr) hb)
      · rename_i hk
        obtain ⟨v, r, ho, k1, k2⟩ := bRet_ok g hS hs
        have hrk : sRk k = some (mR q) := by
          unfold sRk
          rw [hq]; rfl
        refine go_ret hF hk hrk ho ?_
        cases b with
        | false => exact ⟨ι, S, v, k1, bLe_refl ι, hS, hH, k2, bEx_refl h, hFr⟩
        | true =>
          obtain ⟨rfl, -, -⟩ := hb rfl
          exact HK0 v S ι h r k1 hle hS hH k2 hFr
      · rename_i hk
        obtain ⟨k1, as, rest, was, wrest, hc, g1, ha, hr⟩ := bCal_ok g hH hS hs
        replace g1 := b_bif g1
        obtain ⟨g2, g1⟩ := g1
        have hcat : (wrest.map (fun v => v.category)).sum ≤ 8 := by
          rw [bCa_ok hr]
          exact Nat.le_of_ble_eq_true g2
        split at g1
        · rename_i cn hfn
          obtain ⟨hm, e1, e2, e3, e4⟩ := bFnd_ok hS ha hfn
          replace g1 := b_bif g1
          obtain ⟨g3, g1⟩ := g1
          have hD := HT cn hm h was hH e3 e4
          rw [e1] at hD
          refine go_call hF hk hc hcat (sDo_up e2 hD) ?_
          intro r h1 hen
          obtain ⟨ι', S', v, m1, m2, m3, m4, m5⟩ := bUse_ok g1 hS hen
          rw [aF_eq] at m1
          obtain ⟨hH1, hF1, -⟩ := hen
          have hx := bEx_of hF1
          refine sGo_mono (HR _ _ _ _ _ _ _ _ _ m1 ι' h1 vL _ hq (bLe_trans hle m2) m3 (bmL_mono m2 hx hL) (bRest m4 (bmT1_mono m2 hx hr)) hH1 ?_ hb) (fun r h'' z => bQb_mono m2 hx z)
          rw [m5]
          exact bFr_trans hFr (bFr_mono (bSb_of g3) (Nat.le_refl _) hF1)
        · clear HK2 HK0
          cases d with
          | zero => cases g1
          | succ d1 =>
            dsimp only at g1
            split at g1
            · rename_i q1 hq1
              rw [aNth_eq] at hq1
              obtain ⟨L1, n1, n2, n3⟩ := bIni_ok _ _ _ _ g1 ha
              have hi : sIni (mN q1) was = some (sIniA was ++ List.replicate (mN q1 - (sIniA was).length) none) := by
                unfold sIni
                rw [if_pos ⟨bmT1_nd ha, n2⟩]
              have hn : sNk k1 = some (mN q1) := by
                unfold sNk
                rw [show sM k1 = some q1 from hq1]; rfl
              refine go_call hF hk hc hcat (sDo_of hn hi (HR false d1 k1 q1 0 L1 [] S _ n1 ι h _ [] hq1 hle hS n3 trivial hH hFr (fun e => by cases e))) ?_
              rintro r h1 ⟨ι', S', v, m1, m2, m3, m4, m5, m6, m7⟩
              dsimp only at m1
              rw [aF_eq] at m1
              exact sGo_mono (HR _ _ _ _ _ _ _ _ _ m1 ι' h1 vL _ hq (bLe_trans hle m2) m3 (bmL_mono m2 m6 hL) (bRest m5 (bmT1_mono m2 m6 hr)) m4 m7 hb) (fun r h'' z => bQb_mono m2 m6 z)
            · cases g1
      · rename_i hk
        replace g := b_bif g
        obtain ⟨g2, g⟩ := g
        have hcat : (vst.map (fun v => v.category)).sum ≤ 10 := by
          rw [bCa_ok hs]
          exact Nat.le_of_ble_eq_true g2
        obtain ⟨ι', S', st', ws', ho, k1, k2, k3, k4, k5⟩ := bSpc_ok g hS hs
        dsimp only at k1
        rw [aF_eq] at k1
        exact go_spec hF hk hcat ho (sGo_mono (HR _ _ _ _ _ _ _ _ _ k1 ι' h vL ws' hq (bLe_trans hle k2) k3 (bmL_mono k2 (bEx_refl h) hL) k4 hH (by rw [k5]; exact hFr) hb) (fun r h' z => bQb_mono k2 (bEx_refl h) z))
      · cases g
theorem bRun_ok {X : sX} {h0 : sHp} {W : Nat} {ι0 : List Value} {k0 d0 : Nat} {K0 : bKt} {Q0 : Option Value → sHp → Prop} {c sp : Bool} {T : List bCn} {K2 : Nat → bLo → List bV → bS → Bool} (HX : bHXc ι0 h0 c X) (HT : ∀ cn ∈ T, bHolds cn)
    (HK2 : ∀ (pc : Nat) (L : bLo) (st : List bV) (S : bS) (ι : List Value) (h : sHp) (vL : sLo) (vst : List Value), K2 pc L st S = true → bLe ι0 ι → bmS ι h S → bmL ι h L vL → bmT1 ι h st vst → bH h → bFr W S.2.1 h0 h → sGo X k0 d0 pc vL vst h Q0)
    (HK0 : ∀ (v : Option bV) (S : bS) (ι : List Value) (h : sHp) (r : Option Value), K0 v S = true → bLe ι0 ι → bmS ι h S → bH h → bmR ι h v r → bFr W S.2.1 h0 h → Q0 r h) : ∀ n, bSnd X h0 W ι0 k0 d0 K0 Q0 (bRun c sp T W K2 n) := by
  intro n
  induction n with
  | zero => intro b d k q pc L st S K g; cases g
  | succ n ih => exact bStep_ok HX HT HK2 HK0 ih
end
section
/-! ===== the second executor: loops ===== -/
/-- a place with an empty stack: locals, cells, what falls from round to round -/
abbrev bTp : Type := Nat × List (Option bTy) × List (Nat × bTy) × Int × List (Nat × Int)
def bTL (h : sHp) (ts : List (Option bTy)) (vL : sLo) : Prop := ts.length = vL.length ∧ ∀ (i : Nat) (t : bTy), ts[i]? = some (some t) → ∃ w : Value, vL[i]? = some (some w) ∧ bT h t w
def bMkL : List (Option bTy) → bS → (bLo → bS → Bool) → Bool
  | [], S, f => f [] S
  | o :: r, S, f => (match o with
    | none => bMkL r S (fun L S1 => f (none :: L) S1)
    | some t => bMk t S (fun S1 v => bMkL r S1 (fun L S2 => f (some v :: L) S2)))
theorem bMkL_ok {h : sHp} : ∀ (ts : List (Option bTy)) {ι : List Value} {S : bS} {f : bLo → bS → Bool} {vL : sLo}, bMkL ts S f = true → bmS ι h S → bTL h ts vL → ∃ ι' S' L, f L S' = true ∧ bLe ι ι' ∧ bmS ι' h S' ∧ bmL ι' h L vL ∧ S'.2.1 = S.2.1 := by
  intro ts
  induction ts with
  | nil =>
    intro ι S f vL g q ht
    refine ⟨ι, S, [], g, bLe_refl ι, q, ⟨ht.1, fun i v hv => by cases hv⟩, rfl⟩
  | cons o r ih =>
    intro ι S f vL g q ht
    cases vL with
    | nil => cases ht.1
    | cons w vs =>
      have ht1 : bTL h r vs := ⟨Nat.succ.inj ht.1, fun i t hi => ht.2 (i + 1) t hi⟩
      cases o with
      | none =>
        obtain ⟨ι', S', L, k1, k2, k3, k4, k5⟩ := ih g q ht1
        exact ⟨ι', S', _, k1, k2, k3, bmL_cons k4 (fun v e => by cases e), k5⟩
      | some t =>
        obtain ⟨w1, e1, hw⟩ := ht.2 0 t rfl
        have e1 : w = some w1 := Option.some.inj e1
        subst e1
        have g' : bMk t S (fun S1 v => bMkL r S1 (fun L S2 => f (some v :: L) S2)) = true := g
        obtain ⟨ι1, S1, v, m1, m2, m3, m4, m5⟩ := bMk_ok g' q hw
        obtain ⟨ι', S', L, k1, k2, k3, k4, k5⟩ := ih m1 m3 ht1
        exact ⟨ι', S', _, k1, bLe_trans m2 k2, k3, bmL_cons k4 (fun v' e => by cases e; exact ⟨w1, rfl, bmV_mono k2 (bEx_refl h) m4⟩), k5.trans m5⟩
/-! what falls -/
def bV0 (o : Option (Option Value)) : Int := match o with
  | some (some (.int x)) => x.toInt
  | _ => 0
def bMs (vL : sLo) : List (Nat × Int) → Int
  | [] => 0
  | e :: r => e.2 * bV0 vL[e.1]? + bMs vL r
def bIv (ι : List Value) (i : Nat) : Int := bV0 (ι[i]?.map some)
def bSu (ι : List Value) : List (Nat × Int) → Int
  | [] => 0
  | e :: r => e.2 * bIv ι e.1 + bSu ι r
theorem bIv_at {ι : List Value} {i : Nat} {x : Int32} (h : ι[i]? = some (.int x)) : bIv ι i = x.toInt := by
  unfold bIv
  rw [h]; rfl
def bAc (i : Nat) (c : Int) : List (Nat × Int) → List (Nat × Int)
  | [] => [(i, c)]
  | e :: r => bif Nat.beq e.1 i then aFc (e.2 + c) (fun z => (i, z) :: r) else e :: bAc i c r
theorem bAc_ok (ι : List Value) (i : Nat) (c : Int) : ∀ l, bSu ι (bAc i c l) = bSu ι l + c * bIv ι i := by
  intro l
  induction l with
  | nil => show c * bIv ι i + 0 = 0 + c * bIv ι i; omega
  | cons e r ih =>
    unfold bAc
    cases hb : Nat.beq e.1 i with
    | true =>
      have e1 := aBt hb
      show bSu ι (aFc (e.2 + c) (fun z => (i, z) :: r)) = _
      rw [aFc_eq]
      show (e.2 + c) * bIv ι i + bSu ι r = e.2 * bIv ι e.1 + bSu ι r + c * bIv ι i
      rw [e1, Int.add_mul]
      omega
    | false =>
      show e.2 * bIv ι e.1 + bSu ι (bAc i c r) = e.2 * bIv ι e.1 + bSu ι r + c * bIv ι i
      rw [ih]
      omega
theorem bDf_ok {ι : List Value} {i : Nat} : ∀ {D : List (Nat × Nat × Int)}, bmD ι D → bIv ι i = bIv ι (bDf D i).1 + (bDf D i).2 := by
  intro D
  induction D with
  | nil => intro _; show bIv ι i = bIv ι i + 0; omega
  | cons e r ih =>
    intro hD
    unfold bDf
    cases hb : Nat.beq e.1 i with
    | true =>
      obtain ⟨x, y, h1, h2, h3⟩ := hD e List.mem_cons_self
      rw [aBt hb] at h1
      show bIv ι i = bIv ι e.2.1 + e.2.2
      rw [bIv_at h1, bIv_at h2]
      exact h3
    | false => exact ih (fun e he => hD e (List.mem_cons_of_mem _ he))
def bRv : Nat → List (Nat × Nat × Int) → Nat → Int → (Nat → Int → Bool) → Bool
  | 0, _, i, c, f => f i c
  | n + 1, D, i, c, f => (match bDf D i with
    | (j, e) => bif Nat.beq i j then f i c else aFc (c + e) (fun c1 => bRv n D j c1 f))
theorem bRv_ok {ι : List Value} {D : List (Nat × Nat × Int)} (hD : bmD ι D) : ∀ (n i : Nat) (c : Int) (f : Nat → Int → Bool), bRv n D i c f = true → ∃ j e, f j e = true ∧ bIv ι i + c = bIv ι j + e := by
  intro n
  induction n with
  | zero => intro i c f g; exact ⟨i, c, g, rfl⟩
  | succ n ih =>
    intro i c f g
    unfold bRv at g
    have h0 := bDf_ok (i := i) hD
    generalize bDf D i = p at g h0
    obtain ⟨j, e⟩ := p
    dsimp only at g h0
    cases hb : Nat.beq i j with
    | true => rw [hb] at g; exact ⟨i, c, g, rfl⟩
    | false =>
      rw [hb] at g
      dsimp only [cond] at g
      rw [aFc_eq] at g
      obtain ⟨j1, e1, k1, k2⟩ := ih j (c + e) f g
      exact ⟨j1, e1, k1, by omega⟩
def bLn (D : List (Nat × Nat × Int)) (L : bLo) (sg : Int) : List (Nat × Int) → Int → List (Nat × Int) → (Int → List (Nat × Int) → Bool) → Bool
  | [], k, acc, f => f k acc
  | e :: r, k, acc, f => (match aNth L e.1 with
    | some (some (.inl a)) => (match a with
      | .inr c => aFc (k + sg * e.2 * c) (fun k1 => bLn D L sg r k1 acc f)
      | .inl i => bRv 4 D i 0 (fun j c => aFc (k + sg * e.2 * c) (fun k1 => bLn D L sg r k1 (bAc j (sg * e.2) acc) f)))
    | _ => false)
theorem bLn_ok {ι : List Value} {h : sHp} {D : List (Nat × Nat × Int)} {L : bLo} {vL : sLo} {sg : Int} (hD : bmD ι D) (hL : bmL ι h L vL) : ∀ (l : List (Nat × Int)) (k : Int) (acc : List (Nat × Int)) (f : Int → List (Nat × Int) → Bool), bLn D L sg l k acc f = true → ∃ k' acc', f k' acc' = true ∧ k' + bSu ι acc' = k + bSu ι acc + sg * bMs vL l := by
  intro l
  induction l with
  | nil =>
    intro k acc f g
    refine ⟨k, acc, g, ?_⟩
    show k + bSu ι acc = k + bSu ι acc + sg * 0
    rw [Int.mul_zero]
    omega
  | cons e r ih =>
    intro k acc f g
    unfold bLn at g
    rw [aNth_eq] at g
    split at g
    · rename_i a ha
      obtain ⟨w, h1, x, rfl, hx⟩ := hL.2 e.1 _ ha
      have e1 : bMs vL (e :: r) = e.2 * x.toInt + bMs vL r := by
        show e.2 * bV0 vL[e.1]? + bMs vL r = _
        rw [h1]; rfl
      rw [e1]
      cases a with
      | inr c =>
        have hc : x.toInt = c := hx
        dsimp only at g
        rw [aFc_eq] at g
        obtain ⟨k', acc', m1, m2⟩ := ih _ _ _ g
        refine ⟨k', acc', m1, ?_⟩
        rw [m2, hc, Int.mul_add, ← Int.mul_assoc]
        omega
      | inl i =>
        dsimp only at g
        obtain ⟨j, c, g1, g2⟩ := bRv_ok hD _ _ _ _ g
        rw [aFc_eq] at g1
        obtain ⟨k', acc', m1, m2⟩ := ih _ _ _ g1
        refine ⟨k', acc', m1, ?_⟩
        have hi : bIv ι i = x.toInt := bIv_at hx
        rw [m2, bAc_ok, Int.mul_add, ← Int.mul_assoc, ← hi, show bIv ι i = bIv ι j + c by omega, Int.mul_add]
        omega
    · cases g
def bLb (G : List (Nat × Int × Int)) : List (Nat × Int) → Int
  | [] => 0
  | e :: r => (if 0 ≤ e.2 then e.2 * (bG G e.1).1 else e.2 * (bG G e.1).2) + bLb G r
theorem bIv_in {ι : List Value} {i : Nat} : ∀ {G : List (Nat × Int × Int)}, bmG ι G → aW (bIv ι i) (bG G i) := by
  intro G
  induction G with
  | nil =>
    intro _
    show aW (bIv ι i) aFull
    unfold bIv bV0
    split
    · exact aFull_ok _
    · exact ⟨by decide, by decide⟩
  | cons e r ih =>
    intro hG
    unfold bG
    cases hb : Nat.beq e.1 i with
    | true =>
      obtain ⟨x, h1, h2⟩ := hG e List.mem_cons_self
      rw [aBt hb] at h1
      rw [bIv_at h1]
      exact h2
    | false => exact ih (fun e he => hG e (List.mem_cons_of_mem _ he))
theorem bLb_ok {ι : List Value} {G : List (Nat × Int × Int)} (hG : bmG ι G) : ∀ l, bLb G l ≤ bSu ι l := by
  intro l
  induction l with
  | nil => exact Int.le_refl 0
  | cons e r ih =>
    have h0 := bIv_in (i := e.1) hG
    unfold aW at h0
    show (if 0 ≤ e.2 then e.2 * (bG G e.1).1 else e.2 * (bG G e.1).2) + bLb G r ≤ e.2 * bIv ι e.1 + bSu ι r
    have h1 : (if 0 ≤ e.2 then e.2 * (bG G e.1).1 else e.2 * (bG G e.1).2) ≤ e.2 * bIv ι e.1 := by
      split
      · rename_i hp
        exact Int.mul_le_mul_of_nonneg_left h0.1 hp
      · rename_i hp
        exact Int.mul_le_mul_of_nonpos_left (by omega) h0.2
    omega
theorem bSu_le {ι ι' : List Value} (a : bLe ι ι') : ∀ {l : List (Nat × Int)}, (∀ e ∈ l, e.1 < ι.length) → bSu ι' l = bSu ι l := by
  intro l
  induction l with
  | nil => intro _; rfl
  | cons e r ih =>
    intro hl
    obtain ⟨z, rfl⟩ := a
    show e.2 * bIv (ι ++ z) e.1 + bSu (ι ++ z) r = e.2 * bIv ι e.1 + bSu ι r
    rw [ih (fun e' he => hl e' (List.mem_cons_of_mem _ he))]
    unfold bIv
    rw [List.getElem?_append_left (hl e List.mem_cons_self)]
/-! heads -/
def bFtL (S : bS) : bLo → List (Option bTy) → Bool
  | [], ts => (match ts with
    | [] => true
    | _ => false)
  | o :: r, ts => (match ts with
    | [] => false
    | p :: s => (match p with
      | none => true
      | some t => (match o with
        | some v => bFit S v t
        | none => false)) && bFtL S r s)
theorem bFtL_ok {ι : List Value} {h : sHp} {S : bS} (q : bmS ι h S) : ∀ {L : bLo} {ts : List (Option bTy)} {vL : sLo}, bFtL S L ts = true → bmL ι h L vL → bTL h ts vL := by
  intro L
  induction L with
  | nil =>
    intro ts vL g hL
    cases ts with
    | nil => exact ⟨hL.1, fun i t hi => by cases hi⟩
    | cons p s => cases g
  | cons o r ih =>
    intro ts vL g hL
    cases ts with
    | nil => cases g
    | cons p s =>
      cases vL with
      | nil => cases hL.1
      | cons w vs =>
        replace g := aBa g
        obtain ⟨g1, g2⟩ := g
        have hL1 : bmL ι h r vs := ⟨Nat.succ.inj hL.1, fun i t hi => hL.2 (i + 1) t hi⟩
        have h2 := ih g2 hL1
        refine ⟨by rw [List.length_cons, List.length_cons, h2.1], fun i t hi => ?_⟩
        cases i with
        | zero =>
          have e : p = some t := Option.some.inj hi
          subst e
          dsimp only at g1
          split at g1
          · rename_i v
            obtain ⟨w1, e1, hv⟩ := hL.2 0 v rfl
            exact ⟨w1, e1, bFit_ok g1 q hv⟩
          · cases g1
        | succ i => exact h2.2 i t hi
def bAt (T2 : List bTp) (ko : Int) (ao : List (Nat × Int)) (pc : Nat) (L : bLo) (st : List bV) (S : bS) : Bool := T2.any (fun t => Nat.beq t.1 pc && (st.isEmpty && (Nat.beq S.2.1 0 && (bFtL S L t.2.1 && (bOvF S t.2.2.1 && bLn S.2.2.2.1 L (-1) t.2.2.2.2 (ko - t.2.2.2.1) ao (fun k acc => decide (1 ≤ k + bLb S.2.2.1 acc)))))))
/-- places from which the rest is known otherwise -/
def bAx (X : List bTp) (pc : Nat) (L : bLo) (st : List bV) (S : bS) : Bool := X.any (fun t => Nat.beq t.1 pc && (st.isEmpty && (Nat.beq S.2.1 0 && (bFtL S L t.2.1 && bOvF S t.2.2.1))))
def bPr (cn : bCn) (d : Nat) (t : bTp) : Prop := ∀ (h : sHp) (vL : sLo), bH h → bTL h t.2.1 vL → bOv h t.2.2.1 → sGo none cn.1 d t.1 vL [] h (fun r h' => bEn cn r h h')
theorem bEn_tr {cn : bCn} {h h1 h' : sHp} {r : Option Value} (a : bFr cn.2.2.2.2.1 0 h h1) (q : bEn cn r h1 h') : bEn cn r h h' := by
  refine ⟨q.1, ?_, q.2.2⟩
  have := bFr_trans a q.2.1
  rw [Nat.zero_add] at this
  exact this
def bKe (cn : bCn) : bKt := fun v S => Nat.ble S.2.1 cn.2.2.2.2.2.1 && cn.2.2.2.2.2.2.any (fun po => (match po.1 with
  | none => (match v with
    | none => true
    | some _ => false)
  | some t => (match v with
    | none => false
    | some v => bFit S v t)) && bOvF S po.2)
def bChk (sp : Bool) (T : List bCn) (cn : bCn) (q : sMt) (d : Nat) (X T2 : List bTp) (t : bTp) : Bool := bMkL t.2.1 (0, 0, [], [], [], [], []) (fun L S => bMkO t.2.2.1 S (fun S1 => bLn S1.2.2.2.1 L 1 t.2.2.2.2 t.2.2.2.1 [] (fun k acc => (decide (1 ≤ k + bLb S1.2.2.1 acc) && acc.all (fun e => Nat.blt e.1 S1.1)) && bRun false sp T cn.2.2.2.2.1 (fun pc L st S => bAt T2 k acc pc L st S || bAx X pc L st S) 3000 true d cn.1 q t.1 L [] S1 (bKe cn))))
theorem bmS_nil (h : sHp) : bmS [] h (0, 0, [], [], [], [], []) := ⟨rfl, (fun e he => by cases he), (fun e he => by cases he), (fun e he => by cases he), (fun e he => by cases he), (fun e he => by cases he)⟩
theorem bChk_ok {sp : Bool} {T : List bCn} {cn : bCn} {q : sMt} {d : Nat} {X T2 : List bTp} (hT : ∀ c ∈ T, bHolds c) (HX : ∀ x ∈ X, bPr cn d x) (hq : sM cn.1 = some q) (hc : ∀ t ∈ T2, bChk sp T cn q d X T2 t = true) : ∀ (n : Nat) (t : bTp), bChk sp T cn q d X T2 t = true → ∀ (h : sHp) (vL : sLo), bH h → bTL h t.2.1 vL → bOv h t.2.2.1 → (t.2.2.2.1 + bMs vL t.2.2.2.2).toNat < n → sGo none cn.1 d t.1 vL [] h (fun r h' => bEn cn r h h') := by
  intro n
  induction n with
  | zero => intro t _ h vL _ _ _ hn; omega
  | succ n ih =>
    intro t g h vL hH hL hO hn
    unfold bChk at g
    obtain ⟨ι1, S1, L, g1, -, q1, hL1, e1⟩ := bMkL_ok _ g (bmS_nil h) hL
    obtain ⟨ι2, S2, g2, l2, q2, e2⟩ := bMkO_ok _ g1 q1 hO
    have hL2 := bmL_mono l2 (bEx_refl h) hL1
    obtain ⟨k, acc, g3, e3⟩ := bLn_ok q2.2.2.1 hL2 _ _ _ _ g2
    replace g3 := aBa g3
    obtain ⟨g3, g4⟩ := g3
    replace g3 := aBa g3
    obtain ⟨g3, g5⟩ := g3
    replace g3 := of_decide_eq_true g3
    have hlb := bLb_ok q2.2.1 acc
    have e30 : bSu ι2 [] = 0 := rfl
    rw [e30] at e3
    have hg : S2.2.1 = 0 := e2.trans e1
    have hrun := bRun_ok (X := none) (h0 := h) (W := cn.2.2.2.2.1) (ι0 := ι2) (k0 := cn.1) (d0 := d) (K0 := bKe cn) (Q0 := fun r h' => bEn cn r h h') (c := false) (sp := sp) (T := T) (K2 := fun pc L st S => bAt T2 k acc pc L st S || bAx X pc L st S) ⟨(fun e => by cases e), fun _ => rfl⟩ hT ?_ ?_ 3000
    · exact hrun true d cn.1 q t.1 L [] S2 (bKe cn) g4 ι2 h vL [] hq (bLe_refl ι2) q2 hL2 trivial hH (by rw [hg]; exact bFr_refl _ _) (fun _ => ⟨rfl, rfl, rfl⟩)
    · intro pc L' st' S' ι' h' vL' vst' gk hle hS' hL' hs' hH' hF'
      rw [Bool.or_eq_true] at gk
      rcases gk with gk | gk
      rotate_left
      · unfold bAx at gk
        replace gk := List.any_eq_true.mp gk
        obtain ⟨x, hx, gk⟩ := gk
        obtain ⟨a1, gk⟩ := aBa gk
        obtain ⟨a2, gk⟩ := aBa gk
        obtain ⟨a3, gk⟩ := aBa gk
        obtain ⟨a4, a5⟩ := aBa gk
        have est : st' = [] := List.isEmpty_iff.mp a2
        subst est
        have evs := bmT1_nil hs'
        subst evs
        rw [← aBt a1]
        refine sGo_mono (HX x hx h' vL' hH' (bFtL_ok hS' a4 hL') (bOvF_ok a5 hS')) (fun r h'' hen => ?_)
        have e0 : S'.2.1 = 0 := aBt a3
        rw [e0] at hF'
        exact bEn_tr hF' hen
      unfold bAt at gk
      replace gk := List.any_eq_true.mp gk
      obtain ⟨t', ht', gk⟩ := gk
      replace gk := aBa gk
      obtain ⟨a1, gk⟩ := gk
      replace gk := aBa gk
      obtain ⟨a2, gk⟩ := gk
      replace gk := aBa gk
      obtain ⟨a3, gk⟩ := gk
      replace gk := aBa gk
      obtain ⟨a4, gk⟩ := gk
      replace gk := aBa gk
      obtain ⟨a5, gk⟩ := gk
      have est : st' = [] := List.isEmpty_iff.mp a2
      subst est
      have evs := bmT1_nil hs'
      subst evs
      obtain ⟨k', acc', b1, b2⟩ := bLn_ok hS'.2.2.1 hL' _ _ _ _ gk
      replace b1 := of_decide_eq_true b1
      have hlb' := bLb_ok hS'.2.1 acc'
      have hsu : bSu ι' acc = bSu ι2 acc := bSu_le hle (fun e he => by
        rw [q2.1]
        exact aBl (List.all_eq_true.mp g5 e he))
      have hlt : (t'.2.2.2.1 + bMs vL' t'.2.2.2.2).toNat < n := by omega
      rw [← aBt a1]
      refine sGo_mono (ih t' (hc t' ht') h' vL' hH' (bFtL_ok hS' a4 hL') (bOvF_ok a5 hS') hlt) ?_
      intro r h'' hen
      have e0 : S'.2.1 = 0 := aBt a3
      rw [e0] at hF'
      exact bEn_tr hF' hen
    · intro v S' ι' h' r gk hle hS' hH' hv hF'
      unfold bKe at gk
      replace gk := aBa gk
      obtain ⟨a1, gk⟩ := gk
      replace gk := List.any_eq_true.mp gk
      obtain ⟨po, hpo, gk⟩ := gk
      replace gk := aBa gk
      obtain ⟨a2, a3⟩ := gk
      refine ⟨hH', bFr_mono (bSb_refl _) (Nat.le_of_ble_eq_true a1) hF', po, hpo, ?_, bOvF_ok a3 hS'⟩
      unfold bRs
      split at a2
      · rename_i ep
        rw [ep]
        split at a2
        · cases r with
          | none => rfl
          | some w => exact hv.elim
        · cases a2
      · rename_i ty ep
        rw [ep]
        split at a2
        · cases a2
        · rename_i v1
          cases r with
          | none => exact hv.elim
          | some w => exact ⟨w, rfl, bFit_ok a2 hS' hv⟩
end
section
/-! ===== the second executor: a method keeps to its word ===== -/
def bIsJ (t : bTy) : Bool := match t with
  | .inr (k, _) => Nat.beq k 0
  | _ => false
def bSlt : List bTy → Nat
  | [] => 0
  | t :: r => (bif bIsJ t then 2 else 1) + bSlt r
def bIt : List bTy → Nat → List (Option bTy)
  | [], n => List.replicate n none
  | t :: r, n => bif bIsJ t then some t :: none :: bIt r (n - 2) else some t :: bIt r (n - 1)
theorem bT_cat {h : sHp} {t : bTy} {w : Value} (q : bT h t w) : w.category = (bif bIsJ t then 2 else 1) ∧ sNd w = true := by
  rcases t with ⟨lo, hi⟩ | ⟨k, K⟩
  · obtain ⟨x, rfl, -⟩ := q
    exact ⟨rfl, rfl⟩
  · match k, q with
    | 0, q =>
      obtain ⟨x, rfl⟩ := q
      exact ⟨rfl, rfl⟩
    | 1, q =>
      have e : w = .null := q
      subst e
      exact ⟨rfl, rfl⟩
    | 2, q =>
      obtain ⟨p, rfl, -⟩ := q
      exact ⟨rfl, rfl⟩
    | k + 3, q =>
      have q' : w = .null ∨ ∃ p, w = .ref p ∧ bIn h K p := q
      rcases q' with rfl | ⟨p, rfl, -⟩ <;> exact ⟨rfl, rfl⟩
theorem bTl_nd {h : sHp} : ∀ {ts : List bTy} {vs : List Value}, bTl h ts vs → vs.all sNd = true := by
  intro ts
  induction ts with
  | nil =>
    intro vs q
    cases vs with
    | nil => rfl
    | cons v s => exact q.elim
  | cons t r ih =>
    intro vs q
    cases vs with
    | nil => exact q.elim
    | cons v s => rw [List.all_cons, (bT_cat q.1).2, ih q.2]; rfl
theorem bTL_cons {h : sHp} {o : Option bTy} {p : Option Value} {ts : List (Option bTy)} {vL : sLo} (q : bTL h ts vL) (ho : ∀ t, o = some t → ∃ w, p = some w ∧ bT h t w) : bTL h (o :: ts) (p :: vL) := by
  refine ⟨by rw [List.length_cons, List.length_cons, q.1], fun i t hi => ?_⟩
  cases i with
  | zero =>
    rw [List.getElem?_cons_zero] at hi
    obtain ⟨w, e, h2⟩ := ho t (Option.some.inj hi)
    exact ⟨w, by rw [List.getElem?_cons_zero, e], h2⟩
  | succ i =>
    rw [List.getElem?_cons_succ] at hi ⊢
    exact q.2 i t hi
theorem bIt_ok {h : sHp} : ∀ (ts : List bTy) (vs : List Value) (n : Nat), bTl h ts vs → bSlt ts ≤ n → (sIniA vs).length = bSlt ts ∧ bTL h (bIt ts n) (sIniA vs ++ List.replicate (n - bSlt ts) none) := by
  intro ts
  induction ts with
  | nil =>
    intro vs n q _
    cases vs with
    | nil =>
      refine ⟨rfl, ⟨by simp [bIt, bSlt, sIniA], fun i t hi => ?_⟩⟩
      unfold bIt at hi
      rw [List.getElem?_replicate] at hi
      split at hi <;> cases hi
    | cons v s => exact q.elim
  | cons t r ih =>
    intro vs n q hn
    cases vs with
    | nil => exact q.elim
    | cons v s =>
      have hc := (bT_cat q.1).1
      have hn' : (bif bIsJ t then 2 else 1) + bSlt r ≤ n := hn
      cases hj : bIsJ t with
      | true =>
        rw [hj] at hc hn'
        have hc : v.category = 2 := hc
        have hn' : 2 + bSlt r ≤ n := hn'
        obtain ⟨k1, k2⟩ := ih s (n - 2) q.2 (by omega)
        have e : sIniA (v :: s) = some v :: none :: sIniA s := by
          show (if v.category = 2 then _ else _) = _
          rw [if_pos hc]
        have e2 : bSlt (t :: r) = 2 + bSlt r := by
          show (bif bIsJ t then 2 else 1) + bSlt r = _
          rw [hj]; rfl
        have e3 : bIt (t :: r) n = some t :: none :: bIt r (n - 2) := by
          show (bif bIsJ t then _ else _) = _
          rw [hj]; rfl
        rw [e, e2, e3]
        refine ⟨by rw [List.length_cons, List.length_cons, k1]; omega, ?_⟩
        rw [show n - (2 + bSlt r) = n - 2 - bSlt r by omega]
        exact bTL_cons (bTL_cons k2 (fun t' e' => by cases e')) (fun t' e' => by cases e'; exact ⟨v, rfl, q.1⟩)
      | false =>
        rw [hj] at hc hn'
        have hc : v.category = 1 := hc
        have hn' : 1 + bSlt r ≤ n := hn'
        obtain ⟨k1, k2⟩ := ih s (n - 1) q.2 (by omega)
        have e : sIniA (v :: s) = some v :: sIniA s := by
          show (if v.category = 2 then _ else _) = _
          rw [if_neg (by rw [hc]; decide)]
        have e2 : bSlt (t :: r) = 1 + bSlt r := by
          show (bif bIsJ t then 2 else 1) + bSlt r = _
          rw [hj]; rfl
        have e3 : bIt (t :: r) n = some t :: bIt r (n - 1) := by
          show (bif bIsJ t then _ else _) = _
          rw [hj]; rfl
        rw [e, e2, e3]
        refine ⟨by rw [List.length_cons, k1]; omega, ?_⟩
        rw [show n - (1 + bSlt r) = n - 1 - bSlt r by omega]
        exact bTL_cons k2 (fun t' e' => by cases e'; exact ⟨v, rfl, q.1⟩)
/-- all these places, if the ones of X are known -/
def bCka (sp : Bool) (T : List bCn) (cn : bCn) (X T2 : List bTp) : Bool := match aNth sMs cn.1 with
  | none => false
  | some q => (match cn.2.1 with
    | 0 => false
    | d + 1 => T2.all (bChk sp T cn q d X T2))
theorem bCka_ok {sp : Bool} {T : List bCn} {cn : bCn} {X T2 : List bTp} {d : Nat} (g : bCka sp T cn X T2 = true) (hd : cn.2.1 = d + 1) (hT : ∀ c ∈ T, bHolds c) (HX : ∀ x ∈ X, bPr cn d x) : ∀ t ∈ T2, bPr cn d t := by
  unfold bCka at g
  rw [hd] at g
  split at g
  · cases g
  · rename_i q hq
    rw [aNth_eq] at hq
    have hc := List.all_eq_true.mp g
    intro t ht h vL hH hL hO
    exact bChk_ok hT HX (show sM cn.1 = some q from hq) hc _ t (hc t ht) h vL hH hL hO (Nat.lt_succ_self _)
def bEt (cn : bCn) (c0 : Int) : bTp := (0, bIt cn.2.2.1 ((sNk cn.1).getD 0), cn.2.2.2.1, c0, [])
theorem bEt_ok {cn : bCn} {c0 : Int} {d : Nat} (hd : cn.2.1 = d + 1) (hs : Nat.ble (bSlt cn.2.2.1) ((sNk cn.1).getD 0) = true) (hn0 : (sNk cn.1).isSome = true) (p : bPr cn d (bEt cn c0)) : bHolds cn := by
  intro h vs hH ht hO
  obtain ⟨k, dep, ts, pre, W, gr, ps⟩ := cn
  dsimp only at hd ht hO hs hn0
  subst hd
  obtain ⟨nL, hn⟩ := Option.isSome_iff_exists.mp hn0
  rw [hn] at hs
  have hs : bSlt ts ≤ nL := Nat.le_of_ble_eq_true hs
  obtain ⟨i1, i2⟩ := bIt_ok ts vs nL ht hs
  have hi : sIni nL vs = some (sIniA vs ++ List.replicate (nL - (sIniA vs).length) none) := by
    unfold sIni
    rw [if_pos ⟨bTl_nd ht, by rw [i1]; exact hs⟩]
  rw [← i1] at i2
  refine sDo_of hn hi (p h _ hH ?_ hO)
  show bTL h (bIt ts ((sNk k).getD 0)) _
  rw [hn]
  exact i2
def bCk (sp : Bool) (T : List bCn) (cn : bCn) (X : List bTp) (c0 : Int) (T2 : List bTp) : Bool := (Nat.ble (bSlt cn.2.2.1) ((sNk cn.1).getD 0) && (sNk cn.1).isSome) && bCka sp T cn X (bEt cn c0 :: T2)
theorem bCk_ok {sp : Bool} {T : List bCn} {cn : bCn} {X : List bTp} {c0 : Int} {T2 : List bTp} {d : Nat} (g : bCk sp T cn X c0 T2 = true) (hd : cn.2.1 = d + 1) (hT : ∀ c ∈ T, bHolds c) (HX : ∀ x ∈ X, bPr cn d x) : bHolds cn := by
  unfold bCk at g
  obtain ⟨g1, g2⟩ := aBa g
  obtain ⟨g1, g3⟩ := aBa g1
  exact bEt_ok hd g1 g3 (bCka_ok g2 hd hT HX _ List.mem_cons_self)
def bAH (T : List bCn) : Prop := ∀ c ∈ T, bHolds c
theorem bAH_nil : bAH [] := fun _ h => by cases h
theorem bAH_cons {c : bCn} {T : List bCn} (h : bHolds c) (hT : bAH T) : bAH (c :: T) := fun c' h' => by
  rcases List.mem_cons.mp h' with rfl | h'
  · exact h
  · exact hT c' h'
theorem bX_nil {cn : bCn} {d : Nat} : ∀ x ∈ ([] : List bTp), bPr cn d x := fun _ h => by cases h
end
