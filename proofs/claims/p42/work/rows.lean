section
-- ===== PART A: goes FIRST, ahead of the names: the tables' words, and 'selects' of the private methods out of them =====
/-- a private method of a class that the tables say can be made, by its rows of tables_1 -/
def lw_okq (q : MethodName × Nat) : Prop := (q.1.cls ≠ "java/lang/invoke/MethodHandle" ∧ q.1.cls ≠ "java/lang/invoke/VarHandle") ∧ Cond.instantiable q.1.cls q.2 ∈ tables_1 ∧ Cond.privateMethod q.1 ∈ tables_1 ∧ Cond.instanceMethod q.1 ∈ tables_1
theorem lw_p0 : lw_okq (⟨"BrothersField", "refuse", "(I)I"⟩, 11) := ⟨⟨by decide +kernel, by decide +kernel⟩, List.mem_of_getElem? (i := 22) (by decide +kernel), List.mem_of_getElem? (i := 226) (by decide +kernel), List.mem_of_getElem? (i := 227) (by decide +kernel)⟩
theorem lw_p1 : lw_okq (⟨"BrothersField", "refuseAs", "(II)I"⟩, 11) := ⟨⟨by decide +kernel, by decide +kernel⟩, List.mem_of_getElem? (i := 22) (by decide +kernel), List.mem_of_getElem? (i := 230) (by decide +kernel), List.mem_of_getElem? (i := 231) (by decide +kernel)⟩
theorem lw_p2 : lw_okq (⟨"BrothersField", "noRow", "(I)I"⟩, 11) := ⟨⟨by decide +kernel, by decide +kernel⟩, List.mem_of_getElem? (i := 22) (by decide +kernel), List.mem_of_getElem? (i := 248) (by decide +kernel), List.mem_of_getElem? (i := 249) (by decide +kernel)⟩
theorem lw_p3 : lw_okq (⟨"BrothersField", "newCut", "(II)LBrothersField$Cut;"⟩, 11) := ⟨⟨by decide +kernel, by decide +kernel⟩, List.mem_of_getElem? (i := 22) (by decide +kernel), List.mem_of_getElem? (i := 303) (by decide +kernel), List.mem_of_getElem? (i := 304) (by decide +kernel)⟩
theorem lw_p4 : lw_okq (⟨"BrothersField", "noCut", "(I)I"⟩, 11) := ⟨⟨by decide +kernel, by decide +kernel⟩, List.mem_of_getElem? (i := 22) (by decide +kernel), List.mem_of_getElem? (i := 456) (by decide +kernel), List.mem_of_getElem? (i := 457) (by decide +kernel)⟩
theorem lw_p5 : lw_okq (⟨"BrothersField", "toldAs", "(LBrothersField$Cut;I)I"⟩, 11) := ⟨⟨by decide +kernel, by decide +kernel⟩, List.mem_of_getElem? (i := 22) (by decide +kernel), List.mem_of_getElem? (i := 489) (by decide +kernel), List.mem_of_getElem? (i := 490) (by decide +kernel)⟩
theorem lw_p6 : lw_okq (⟨"BrothersField", "sideOf", "(LBrothersField$Cut;I)J"⟩, 11) := ⟨⟨by decide +kernel, by decide +kernel⟩, List.mem_of_getElem? (i := 22) (by decide +kernel), List.mem_of_getElem? (i := 493) (by decide +kernel), List.mem_of_getElem? (i := 494) (by decide +kernel)⟩
theorem lw_p7 : lw_okq (⟨"BrothersField", "mayStand", "(II)Z"⟩, 11) := ⟨⟨by decide +kernel, by decide +kernel⟩, List.mem_of_getElem? (i := 22) (by decide +kernel), List.mem_of_getElem? (i := 768) (by decide +kernel), List.mem_of_getElem? (i := 769) (by decide +kernel)⟩
theorem lw_p8 : lw_okq (⟨"BrothersFieldModel", "isShelf", "(I)Z"⟩, 38) := ⟨⟨by decide +kernel, by decide +kernel⟩, List.mem_of_getElem? (i := 1137) (by decide +kernel), List.mem_of_getElem? (i := 1262) (by decide +kernel), List.mem_of_getElem? (i := 1263) (by decide +kernel)⟩
theorem lw_p9 : lw_okq (⟨"BrothersFieldModel", "no", "(I)I"⟩, 38) := ⟨⟨by decide +kernel, by decide +kernel⟩, List.mem_of_getElem? (i := 1137) (by decide +kernel), List.mem_of_getElem? (i := 1266) (by decide +kernel), List.mem_of_getElem? (i := 1267) (by decide +kernel)⟩
theorem lw_p10 : lw_okq (⟨"BrothersFieldModel", "sideOf", "(II)J"⟩, 38) := ⟨⟨by decide +kernel, by decide +kernel⟩, List.mem_of_getElem? (i := 1137) (by decide +kernel), List.mem_of_getElem? (i := 1294) (by decide +kernel), List.mem_of_getElem? (i := 1295) (by decide +kernel)⟩
theorem lw_p11 : lw_okq (⟨"BrothersFieldModel", "isFirst", "(II)Z"⟩, 38) := ⟨⟨by decide +kernel, by decide +kernel⟩, List.mem_of_getElem? (i := 1137) (by decide +kernel), List.mem_of_getElem? (i := 1298) (by decide +kernel), List.mem_of_getElem? (i := 1299) (by decide +kernel)⟩
theorem lw_p12 : lw_okq (⟨"BrothersFieldModel", "many", "(J)I"⟩, 38) := ⟨⟨by decide +kernel, by decide +kernel⟩, List.mem_of_getElem? (i := 1137) (by decide +kernel), List.mem_of_getElem? (i := 1306) (by decide +kernel), List.mem_of_getElem? (i := 1307) (by decide +kernel)⟩
theorem lw_p13 : lw_okq (⟨"BrothersFieldModel", "wants", "(II)I"⟩, 38) := ⟨⟨by decide +kernel, by decide +kernel⟩, List.mem_of_getElem? (i := 1137) (by decide +kernel), List.mem_of_getElem? (i := 1314) (by decide +kernel), List.mem_of_getElem? (i := 1315) (by decide +kernel)⟩
theorem lw_p14 : lw_okq (⟨"BrothersFieldModel", "all", "([IZ)V"⟩, 38) := ⟨⟨by decide +kernel, by decide +kernel⟩, List.mem_of_getElem? (i := 1137) (by decide +kernel), List.mem_of_getElem? (i := 1318) (by decide +kernel), List.mem_of_getElem? (i := 1319) (by decide +kernel)⟩
theorem lw_p15 : lw_okq (⟨"BrothersFieldModel", "keeps", "([II[IIZ)I"⟩, 38) := ⟨⟨by decide +kernel, by decide +kernel⟩, List.mem_of_getElem? (i := 1137) (by decide +kernel), List.mem_of_getElem? (i := 1322) (by decide +kernel), List.mem_of_getElem? (i := 1323) (by decide +kernel)⟩
def lw_privs_1 : List (MethodName × Nat) := [(⟨"BrothersField", "refuse", "(I)I"⟩, 11), (⟨"BrothersField", "refuseAs", "(II)I"⟩, 11), (⟨"BrothersField", "noRow", "(I)I"⟩, 11), (⟨"BrothersField", "newCut", "(II)LBrothersField$Cut;"⟩, 11), (⟨"BrothersField", "noCut", "(I)I"⟩, 11), (⟨"BrothersField", "toldAs", "(LBrothersField$Cut;I)I"⟩, 11), (⟨"BrothersField", "sideOf", "(LBrothersField$Cut;I)J"⟩, 11), (⟨"BrothersField", "mayStand", "(II)Z"⟩, 11), (⟨"BrothersFieldModel", "isShelf", "(I)Z"⟩, 38), (⟨"BrothersFieldModel", "no", "(I)I"⟩, 38), (⟨"BrothersFieldModel", "sideOf", "(II)J"⟩, 38), (⟨"BrothersFieldModel", "isFirst", "(II)Z"⟩, 38), (⟨"BrothersFieldModel", "many", "(J)I"⟩, 38), (⟨"BrothersFieldModel", "wants", "(II)I"⟩, 38), (⟨"BrothersFieldModel", "all", "([IZ)V"⟩, 38), (⟨"BrothersFieldModel", "keeps", "([II[IIZ)I"⟩, 38)]
theorem lw_r1 : ∀ q ∈ lw_privs_1, lw_okq q := List.forall_mem_cons.mpr ⟨lw_p0, List.forall_mem_cons.mpr ⟨lw_p1, List.forall_mem_cons.mpr ⟨lw_p2, List.forall_mem_cons.mpr ⟨lw_p3, List.forall_mem_cons.mpr ⟨lw_p4, List.forall_mem_cons.mpr ⟨lw_p5, List.forall_mem_cons.mpr ⟨lw_p6, List.forall_mem_cons.mpr ⟨lw_p7, List.forall_mem_cons.mpr ⟨lw_p8, List.forall_mem_cons.mpr ⟨lw_p9, List.forall_mem_cons.mpr ⟨lw_p10, List.forall_mem_cons.mpr ⟨lw_p11, List.forall_mem_cons.mpr ⟨lw_p12, List.forall_mem_cons.mpr ⟨lw_p13, List.forall_mem_cons.mpr ⟨lw_p14, List.forall_mem_cons.mpr ⟨lw_p15, fun _ h => absurd h List.not_mem_nil⟩⟩⟩⟩⟩⟩⟩⟩⟩⟩⟩⟩⟩⟩⟩⟩
theorem lw_p16 : lw_okq (⟨"BrothersFieldModel", "item", "()Z"⟩, 38) := ⟨⟨by decide +kernel, by decide +kernel⟩, List.mem_of_getElem? (i := 1137) (by decide +kernel), List.mem_of_getElem? (i := 1326) (by decide +kernel), List.mem_of_getElem? (i := 1327) (by decide +kernel)⟩
theorem lw_p17 : lw_okq (⟨"BrothersFieldModel", "isWordAt", "(I)Z"⟩, 38) := ⟨⟨by decide +kernel, by decide +kernel⟩, List.mem_of_getElem? (i := 1137) (by decide +kernel), List.mem_of_getElem? (i := 1330) (by decide +kernel), List.mem_of_getElem? (i := 1331) (by decide +kernel)⟩
theorem lw_p18 : lw_okq (⟨"BrothersFieldModel", "isWordFull", "(I)Z"⟩, 38) := ⟨⟨by decide +kernel, by decide +kernel⟩, List.mem_of_getElem? (i := 1137) (by decide +kernel), List.mem_of_getElem? (i := 1334) (by decide +kernel), List.mem_of_getElem? (i := 1335) (by decide +kernel)⟩
theorem lw_p19 : lw_okq (⟨"BrothersFieldModel", "wrong", "(I)Z"⟩, 38) := ⟨⟨by decide +kernel, by decide +kernel⟩, List.mem_of_getElem? (i := 1137) (by decide +kernel), List.mem_of_getElem? (i := 1338) (by decide +kernel), List.mem_of_getElem? (i := 1339) (by decide +kernel)⟩
theorem lw_p20 : lw_okq (⟨"BrothersFieldModel", "word", "()I"⟩, 38) := ⟨⟨by decide +kernel, by decide +kernel⟩, List.mem_of_getElem? (i := 1137) (by decide +kernel), List.mem_of_getElem? (i := 1342) (by decide +kernel), List.mem_of_getElem? (i := 1343) (by decide +kernel)⟩
theorem lw_p21 : lw_okq (⟨"BrothersFieldModel", "number", "(II)Z"⟩, 38) := ⟨⟨by decide +kernel, by decide +kernel⟩, List.mem_of_getElem? (i := 1137) (by decide +kernel), List.mem_of_getElem? (i := 1346) (by decide +kernel), List.mem_of_getElem? (i := 1347) (by decide +kernel)⟩
theorem lw_p22 : lw_okq (⟨"BrothersFieldModel", "isDigit", "()Z"⟩, 38) := ⟨⟨by decide +kernel, by decide +kernel⟩, List.mem_of_getElem? (i := 1137) (by decide +kernel), List.mem_of_getElem? (i := 1350) (by decide +kernel), List.mem_of_getElem? (i := 1351) (by decide +kernel)⟩
theorem lw_p23 : lw_okq (⟨"BrothersFieldModel", "next", "(II)Z"⟩, 38) := ⟨⟨by decide +kernel, by decide +kernel⟩, List.mem_of_getElem? (i := 1137) (by decide +kernel), List.mem_of_getElem? (i := 1354) (by decide +kernel), List.mem_of_getElem? (i := 1355) (by decide +kernel)⟩
theorem lw_p24 : lw_okq (⟨"BrothersFieldModel", "sizes", "(II)V"⟩, 38) := ⟨⟨by decide +kernel, by decide +kernel⟩, List.mem_of_getElem? (i := 1137) (by decide +kernel), List.mem_of_getElem? (i := 1358) (by decide +kernel), List.mem_of_getElem? (i := 1359) (by decide +kernel)⟩
theorem lw_p25 : lw_okq (⟨"BrothersFieldModel", "comes", "(I)I"⟩, 38) := ⟨⟨by decide +kernel, by decide +kernel⟩, List.mem_of_getElem? (i := 1137) (by decide +kernel), List.mem_of_getElem? (i := 1362) (by decide +kernel), List.mem_of_getElem? (i := 1363) (by decide +kernel)⟩
theorem lw_p26 : lw_okq (⟨"BrothersFieldModel", "isSquare", "(I)Z"⟩, 38) := ⟨⟨by decide +kernel, by decide +kernel⟩, List.mem_of_getElem? (i := 1137) (by decide +kernel), List.mem_of_getElem? (i := 1378) (by decide +kernel), List.mem_of_getElem? (i := 1379) (by decide +kernel)⟩
theorem lw_p27 : lw_okq (⟨"BrothersFieldModel", "noTen", "(I)I"⟩, 38) := ⟨⟨by decide +kernel, by decide +kernel⟩, List.mem_of_getElem? (i := 1137) (by decide +kernel), List.mem_of_getElem? (i := 1386) (by decide +kernel), List.mem_of_getElem? (i := 1387) (by decide +kernel)⟩
theorem lw_p28 : lw_okq (⟨"BrothersFieldModel", "isHeir", "(I)Z"⟩, 38) := ⟨⟨by decide +kernel, by decide +kernel⟩, List.mem_of_getElem? (i := 1137) (by decide +kernel), List.mem_of_getElem? (i := 1398) (by decide +kernel), List.mem_of_getElem? (i := 1399) (by decide +kernel)⟩
theorem lw_p29 : lw_okq (⟨"BrothersFieldModel", "pieceOf", "(I)J"⟩, 38) := ⟨⟨by decide +kernel, by decide +kernel⟩, List.mem_of_getElem? (i := 1137) (by decide +kernel), List.mem_of_getElem? (i := 1410) (by decide +kernel), List.mem_of_getElem? (i := 1411) (by decide +kernel)⟩
theorem lw_p30 : lw_okq (⟨"BrothersFieldModel", "isSet", "(J)Z"⟩, 38) := ⟨⟨by decide +kernel, by decide +kernel⟩, List.mem_of_getElem? (i := 1137) (by decide +kernel), List.mem_of_getElem? (i := 1418) (by decide +kernel), List.mem_of_getElem? (i := 1419) (by decide +kernel)⟩
theorem lw_p31 : lw_okq (⟨"BrothersFieldModel", "all", "()J"⟩, 38) := ⟨⟨by decide +kernel, by decide +kernel⟩, List.mem_of_getElem? (i := 1137) (by decide +kernel), List.mem_of_getElem? (i := 1422) (by decide +kernel), List.mem_of_getElem? (i := 1423) (by decide +kernel)⟩
def lw_privs_2 : List (MethodName × Nat) := [(⟨"BrothersFieldModel", "item", "()Z"⟩, 38), (⟨"BrothersFieldModel", "isWordAt", "(I)Z"⟩, 38), (⟨"BrothersFieldModel", "isWordFull", "(I)Z"⟩, 38), (⟨"BrothersFieldModel", "wrong", "(I)Z"⟩, 38), (⟨"BrothersFieldModel", "word", "()I"⟩, 38), (⟨"BrothersFieldModel", "number", "(II)Z"⟩, 38), (⟨"BrothersFieldModel", "isDigit", "()Z"⟩, 38), (⟨"BrothersFieldModel", "next", "(II)Z"⟩, 38), (⟨"BrothersFieldModel", "sizes", "(II)V"⟩, 38), (⟨"BrothersFieldModel", "comes", "(I)I"⟩, 38), (⟨"BrothersFieldModel", "isSquare", "(I)Z"⟩, 38), (⟨"BrothersFieldModel", "noTen", "(I)I"⟩, 38), (⟨"BrothersFieldModel", "isHeir", "(I)Z"⟩, 38), (⟨"BrothersFieldModel", "pieceOf", "(I)J"⟩, 38), (⟨"BrothersFieldModel", "isSet", "(J)Z"⟩, 38), (⟨"BrothersFieldModel", "all", "()J"⟩, 38)]
theorem lw_r2 : ∀ q ∈ lw_privs_2, lw_okq q := List.forall_mem_cons.mpr ⟨lw_p16, List.forall_mem_cons.mpr ⟨lw_p17, List.forall_mem_cons.mpr ⟨lw_p18, List.forall_mem_cons.mpr ⟨lw_p19, List.forall_mem_cons.mpr ⟨lw_p20, List.forall_mem_cons.mpr ⟨lw_p21, List.forall_mem_cons.mpr ⟨lw_p22, List.forall_mem_cons.mpr ⟨lw_p23, List.forall_mem_cons.mpr ⟨lw_p24, List.forall_mem_cons.mpr ⟨lw_p25, List.forall_mem_cons.mpr ⟨lw_p26, List.forall_mem_cons.mpr ⟨lw_p27, List.forall_mem_cons.mpr ⟨lw_p28, List.forall_mem_cons.mpr ⟨lw_p29, List.forall_mem_cons.mpr ⟨lw_p30, List.forall_mem_cons.mpr ⟨lw_p31, fun _ h => absurd h List.not_mem_nil⟩⟩⟩⟩⟩⟩⟩⟩⟩⟩⟩⟩⟩⟩⟩⟩
theorem lw_p32 : lw_okq (⟨"BrothersFieldModel", "worthOf", "(IJ)I"⟩, 38) := ⟨⟨by decide +kernel, by decide +kernel⟩, List.mem_of_getElem? (i := 1137) (by decide +kernel), List.mem_of_getElem? (i := 1427) (by decide +kernel), List.mem_of_getElem? (i := 1428) (by decide +kernel)⟩
theorem lw_p33 : lw_okq (⟨"BrothersFieldModel", "has", "(JI)Z"⟩, 38) := ⟨⟨by decide +kernel, by decide +kernel⟩, List.mem_of_getElem? (i := 1137) (by decide +kernel), List.mem_of_getElem? (i := 1431) (by decide +kernel), List.mem_of_getElem? (i := 1432) (by decide +kernel)⟩
theorem lw_p34 : lw_okq (⟨"BrothersFieldModel", "isOwner", "(I)Z"⟩, 38) := ⟨⟨by decide +kernel, by decide +kernel⟩, List.mem_of_getElem? (i := 1137) (by decide +kernel), List.mem_of_getElem? (i := 1443) (by decide +kernel), List.mem_of_getElem? (i := 1444) (by decide +kernel)⟩
theorem lw_p35 : lw_okq (⟨"BrothersFieldModel", "intAt", "(II)I"⟩, 38) := ⟨⟨by decide +kernel, by decide +kernel⟩, List.mem_of_getElem? (i := 1137) (by decide +kernel), List.mem_of_getElem? (i := 1455) (by decide +kernel), List.mem_of_getElem? (i := 1456) (by decide +kernel)⟩
theorem lw_p36 : lw_okq (⟨"BrothersFieldModel", "hedgeOf", "()I"⟩, 38) := ⟨⟨by decide +kernel, by decide +kernel⟩, List.mem_of_getElem? (i := 1137) (by decide +kernel), List.mem_of_getElem? (i := 1467) (by decide +kernel), List.mem_of_getElem? (i := 1468) (by decide +kernel)⟩
theorem lw_p37 : lw_okq (⟨"BrothersFieldModel", "partsOf", "(J)I"⟩, 38) := ⟨⟨by decide +kernel, by decide +kernel⟩, List.mem_of_getElem? (i := 1137) (by decide +kernel), List.mem_of_getElem? (i := 1475) (by decide +kernel), List.mem_of_getElem? (i := 1476) (by decide +kernel)⟩
theorem lw_p38 : lw_okq (⟨"BrothersFieldModel", "grown", "(JJ)J"⟩, 38) := ⟨⟨by decide +kernel, by decide +kernel⟩, List.mem_of_getElem? (i := 1137) (by decide +kernel), List.mem_of_getElem? (i := 1479) (by decide +kernel), List.mem_of_getElem? (i := 1480) (by decide +kernel)⟩
theorem lw_p39 : lw_okq (⟨"BrothersFieldModel", "beside", "(J)J"⟩, 38) := ⟨⟨by decide +kernel, by decide +kernel⟩, List.mem_of_getElem? (i := 1137) (by decide +kernel), List.mem_of_getElem? (i := 1483) (by decide +kernel), List.mem_of_getElem? (i := 1484) (by decide +kernel)⟩
theorem lw_p40 : lw_okq (⟨"BrothersFieldModel", "faultyNow", "()I"⟩, 38) := ⟨⟨by decide +kernel, by decide +kernel⟩, List.mem_of_getElem? (i := 1137) (by decide +kernel), List.mem_of_getElem? (i := 1491) (by decide +kernel), List.mem_of_getElem? (i := 1492) (by decide +kernel)⟩
theorem lw_p41 : lw_okq (⟨"BrothersFieldModel", "atRoad", "()J"⟩, 38) := ⟨⟨by decide +kernel, by decide +kernel⟩, List.mem_of_getElem? (i := 1137) (by decide +kernel), List.mem_of_getElem? (i := 1495) (by decide +kernel), List.mem_of_getElem? (i := 1496) (by decide +kernel)⟩
theorem lw_p42 : lw_okq (⟨"BrothersFieldModel", "shares", "()I"⟩, 38) := ⟨⟨by decide +kernel, by decide +kernel⟩, List.mem_of_getElem? (i := 1137) (by decide +kernel), List.mem_of_getElem? (i := 1499) (by decide +kernel), List.mem_of_getElem? (i := 1500) (by decide +kernel)⟩
theorem lw_p43 : lw_okq (⟨"BrothersFieldModel", "spares", "(Z)V"⟩, 38) := ⟨⟨by decide +kernel, by decide +kernel⟩, List.mem_of_getElem? (i := 1137) (by decide +kernel), List.mem_of_getElem? (i := 1511) (by decide +kernel), List.mem_of_getElem? (i := 1512) (by decide +kernel)⟩
theorem lw_p44 : lw_okq (⟨"BrothersFieldModel", "lists", "(I)V"⟩, 38) := ⟨⟨by decide +kernel, by decide +kernel⟩, List.mem_of_getElem? (i := 1137) (by decide +kernel), List.mem_of_getElem? (i := 1515) (by decide +kernel), List.mem_of_getElem? (i := 1516) (by decide +kernel)⟩
theorem lw_p45 : lw_okq (⟨"BrothersFieldModel", "lists", "(IZ)V"⟩, 38) := ⟨⟨by decide +kernel, by decide +kernel⟩, List.mem_of_getElem? (i := 1137) (by decide +kernel), List.mem_of_getElem? (i := 1519) (by decide +kernel), List.mem_of_getElem? (i := 1520) (by decide +kernel)⟩
theorem lw_p46 : lw_okq (⟨"BrothersFieldModel", "tries", "(II)V"⟩, 38) := ⟨⟨by decide +kernel, by decide +kernel⟩, List.mem_of_getElem? (i := 1137) (by decide +kernel), List.mem_of_getElem? (i := 1523) (by decide +kernel), List.mem_of_getElem? (i := 1524) (by decide +kernel)⟩
theorem lw_p47 : lw_okq (⟨"BrothersFieldModel", "bettered", "()I"⟩, 38) := ⟨⟨by decide +kernel, by decide +kernel⟩, List.mem_of_getElem? (i := 1137) (by decide +kernel), List.mem_of_getElem? (i := 1548) (by decide +kernel), List.mem_of_getElem? (i := 1549) (by decide +kernel)⟩
def lw_privs_3 : List (MethodName × Nat) := [(⟨"BrothersFieldModel", "worthOf", "(IJ)I"⟩, 38), (⟨"BrothersFieldModel", "has", "(JI)Z"⟩, 38), (⟨"BrothersFieldModel", "isOwner", "(I)Z"⟩, 38), (⟨"BrothersFieldModel", "intAt", "(II)I"⟩, 38), (⟨"BrothersFieldModel", "hedgeOf", "()I"⟩, 38), (⟨"BrothersFieldModel", "partsOf", "(J)I"⟩, 38), (⟨"BrothersFieldModel", "grown", "(JJ)J"⟩, 38), (⟨"BrothersFieldModel", "beside", "(J)J"⟩, 38), (⟨"BrothersFieldModel", "faultyNow", "()I"⟩, 38), (⟨"BrothersFieldModel", "atRoad", "()J"⟩, 38), (⟨"BrothersFieldModel", "shares", "()I"⟩, 38), (⟨"BrothersFieldModel", "spares", "(Z)V"⟩, 38), (⟨"BrothersFieldModel", "lists", "(I)V"⟩, 38), (⟨"BrothersFieldModel", "lists", "(IZ)V"⟩, 38), (⟨"BrothersFieldModel", "tries", "(II)V"⟩, 38), (⟨"BrothersFieldModel", "bettered", "()I"⟩, 38)]
theorem lw_r3 : ∀ q ∈ lw_privs_3, lw_okq q := List.forall_mem_cons.mpr ⟨lw_p32, List.forall_mem_cons.mpr ⟨lw_p33, List.forall_mem_cons.mpr ⟨lw_p34, List.forall_mem_cons.mpr ⟨lw_p35, List.forall_mem_cons.mpr ⟨lw_p36, List.forall_mem_cons.mpr ⟨lw_p37, List.forall_mem_cons.mpr ⟨lw_p38, List.forall_mem_cons.mpr ⟨lw_p39, List.forall_mem_cons.mpr ⟨lw_p40, List.forall_mem_cons.mpr ⟨lw_p41, List.forall_mem_cons.mpr ⟨lw_p42, List.forall_mem_cons.mpr ⟨lw_p43, List.forall_mem_cons.mpr ⟨lw_p44, List.forall_mem_cons.mpr ⟨lw_p45, List.forall_mem_cons.mpr ⟨lw_p46, List.forall_mem_cons.mpr ⟨lw_p47, fun _ h => absurd h List.not_mem_nil⟩⟩⟩⟩⟩⟩⟩⟩⟩⟩⟩⟩⟩⟩⟩⟩
theorem lw_p48 : lw_okq (⟨"BrothersFieldModel", "isFit", "(II)Z"⟩, 38) := ⟨⟨by decide +kernel, by decide +kernel⟩, List.mem_of_getElem? (i := 1137) (by decide +kernel), List.mem_of_getElem? (i := 1560) (by decide +kernel), List.mem_of_getElem? (i := 1561) (by decide +kernel)⟩
theorem lw_p49 : lw_okq (⟨"BrothersFieldModel", "parting", "(II)I"⟩, 38) := ⟨⟨by decide +kernel, by decide +kernel⟩, List.mem_of_getElem? (i := 1137) (by decide +kernel), List.mem_of_getElem? (i := 1580) (by decide +kernel), List.mem_of_getElem? (i := 1581) (by decide +kernel)⟩
theorem lw_p50 : lw_okq (⟨"BrothersFieldModel", "body", "(I)V"⟩, 38) := ⟨⟨by decide +kernel, by decide +kernel⟩, List.mem_of_getElem? (i := 1137) (by decide +kernel), List.mem_of_getElem? (i := 1584) (by decide +kernel), List.mem_of_getElem? (i := 1585) (by decide +kernel)⟩
theorem lw_p51 : lw_okq (⟨"BrothersFieldModel", "weighing", "(II)I"⟩, 38) := ⟨⟨by decide +kernel, by decide +kernel⟩, List.mem_of_getElem? (i := 1137) (by decide +kernel), List.mem_of_getElem? (i := 1588) (by decide +kernel), List.mem_of_getElem? (i := 1589) (by decide +kernel)⟩
theorem lw_p52 : lw_okq (⟨"BrothersFieldModel", "hedging", "(II)I"⟩, 38) := ⟨⟨by decide +kernel, by decide +kernel⟩, List.mem_of_getElem? (i := 1137) (by decide +kernel), List.mem_of_getElem? (i := 1592) (by decide +kernel), List.mem_of_getElem? (i := 1593) (by decide +kernel)⟩
def lw_privs_4 : List (MethodName × Nat) := [(⟨"BrothersFieldModel", "isFit", "(II)Z"⟩, 38), (⟨"BrothersFieldModel", "parting", "(II)I"⟩, 38), (⟨"BrothersFieldModel", "body", "(I)V"⟩, 38), (⟨"BrothersFieldModel", "weighing", "(II)I"⟩, 38), (⟨"BrothersFieldModel", "hedging", "(II)I"⟩, 38)]
theorem lw_r4 : ∀ q ∈ lw_privs_4, lw_okq q := List.forall_mem_cons.mpr ⟨lw_p48, List.forall_mem_cons.mpr ⟨lw_p49, List.forall_mem_cons.mpr ⟨lw_p50, List.forall_mem_cons.mpr ⟨lw_p51, List.forall_mem_cons.mpr ⟨lw_p52, fun _ h => absurd h List.not_mem_nil⟩⟩⟩⟩⟩
def lw_privs : List (MethodName × Nat) := lw_privs_1 ++ (lw_privs_2 ++ (lw_privs_3 ++ (lw_privs_4)))
def lw_tbl : List Cond := k2_sels lw_privs ++ tables_1
theorem lw_privs_ok : ∀ q ∈ lw_privs, lw_okq q := by
  show ∀ q ∈ lw_privs_1 ++ (lw_privs_2 ++ (lw_privs_3 ++ (lw_privs_4))), lw_okq q
  exact List.forall_mem_append.mpr ⟨lw_r1, List.forall_mem_append.mpr ⟨lw_r2, List.forall_mem_append.mpr ⟨lw_r3, lw_r4⟩⟩⟩
def RX0 : String := "BrothersField$Along"
def TX0 : u_T := fun k => match k with
  | 0 => ("BrothersField$Cut", "code", "I", true)
  | 1 => ("BrothersField$Cut", "shelf", "I", true)
  | 2 => ("BrothersField$Cut", "a", "I", true)
  | 3 => ("BrothersField$Cut", "b", "I", true)
  | 4 => ("BrothersField$Cut", "c", "I", true)
  | _ => ("BrothersField$Cut", "trace", "LBrothersField$Row;", true)
def tyX0 : Nat → FieldType := fun k => match k with
  | 0 => .int
  | 1 => .int
  | 2 => .int
  | 3 => .int
  | 4 => .int
  | _ => .object "BrothersField$Row"
theorem nmX0 : ∀ a, a < 6 → ∀ b, b < 6 → a ≠ b → (TX0 a).2.1 ≠ (TX0 b).2.1 := by decide +kernel
theorem tyX0_ok : ∀ k, k < 6 → parseFieldDescriptor (TX0 k).2.2.1 = some (tyX0 k) := by decide +kernel
abbrev cX0_init : ByteArray := prog_2_method_1_code
def yX0_init : MethodName := ⟨RX0, "<init>", "(IILBrothersField$Row;)V"⟩
abbrev cX0_isOf : ByteArray := prog_2_method_2_code
def yX0_isOf : MethodName := ⟨RX0, "isOf", "(I)Z"⟩
abbrev cX0_firstIn : ByteArray := prog_2_method_3_code
def yX0_firstIn : MethodName := ⟨RX0, "firstIn", "(LBrothersField$Field;)J"⟩
abbrev cX0_weighsBody : ByteArray := prog_2_method_4_code
def yX0_weighsBody : MethodName := ⟨RX0, "weighsBody", "(I)I"⟩
abbrev cX0_partsBody : ByteArray := prog_2_method_5_code
def yX0_partsBody : MethodName := ⟨RX0, "partsBody", "(I)I"⟩
def RX1 : String := "BrothersField$Bent"
def TX1 : u_T := fun k => match k with
  | 0 => ("BrothersField$Cut", "code", "I", true)
  | 1 => ("BrothersField$Cut", "shelf", "I", true)
  | 2 => ("BrothersField$Cut", "a", "I", true)
  | 3 => ("BrothersField$Cut", "b", "I", true)
  | 4 => ("BrothersField$Cut", "c", "I", true)
  | _ => ("BrothersField$Cut", "trace", "LBrothersField$Row;", true)
def tyX1 : Nat → FieldType := fun k => match k with
  | 0 => .int
  | 1 => .int
  | 2 => .int
  | 3 => .int
  | 4 => .int
  | _ => .object "BrothersField$Row"
theorem nmX1 : ∀ a, a < 6 → ∀ b, b < 6 → a ≠ b → (TX1 a).2.1 ≠ (TX1 b).2.1 := by decide +kernel
theorem tyX1_ok : ∀ k, k < 6 → parseFieldDescriptor (TX1 k).2.2.1 = some (tyX1 k) := by decide +kernel
abbrev cX1_init : ByteArray := prog_3_method_1_code
def yX1_init : MethodName := ⟨RX1, "<init>", "(IILBrothersField$Row;)V"⟩
abbrev cX1_isOf : ByteArray := prog_3_method_2_code
def yX1_isOf : MethodName := ⟨RX1, "isOf", "(I)Z"⟩
abbrev cX1_firstIn : ByteArray := prog_3_method_3_code
def yX1_firstIn : MethodName := ⟨RX1, "firstIn", "(LBrothersField$Field;)J"⟩
abbrev cX1_weighsBody : ByteArray := prog_3_method_4_code
def yX1_weighsBody : MethodName := ⟨RX1, "weighsBody", "(I)I"⟩
def RX2 : String := "BrothersField$Cut"
def TX2 : u_T := fun k => match k with
  | 0 => ("BrothersField$Cut", "code", "I", true)
  | 1 => ("BrothersField$Cut", "shelf", "I", true)
  | 2 => ("BrothersField$Cut", "a", "I", true)
  | 3 => ("BrothersField$Cut", "b", "I", true)
  | 4 => ("BrothersField$Cut", "c", "I", true)
  | _ => ("BrothersField$Cut", "trace", "LBrothersField$Row;", true)
def tyX2 : Nat → FieldType := fun k => match k with
  | 0 => .int
  | 1 => .int
  | 2 => .int
  | 3 => .int
  | 4 => .int
  | _ => .object "BrothersField$Row"
theorem nmX2 : ∀ a, a < 6 → ∀ b, b < 6 → a ≠ b → (TX2 a).2.1 ≠ (TX2 b).2.1 := by decide +kernel
theorem tyX2_ok : ∀ k, k < 6 → parseFieldDescriptor (TX2 k).2.2.1 = some (tyX2 k) := by decide +kernel
abbrev cX2_init : ByteArray := prog_4_method_1_code
def yX2_init : MethodName := ⟨RX2, "<init>", "(IILBrothersField$Row;)V"⟩
abbrev cX2_isOf : ByteArray := prog_4_method_2_code
def yX2_isOf : MethodName := ⟨RX2, "isOf", "(I)Z"⟩
abbrev cX2_firstIn : ByteArray := prog_4_method_3_code
def yX2_firstIn : MethodName := ⟨RX2, "firstIn", "(LBrothersField$Field;)J"⟩
abbrev cX2_laneIn : ByteArray := prog_4_method_4_code
def yX2_laneIn : MethodName := ⟨RX2, "laneIn", "(LBrothersField$Field;)J"⟩
abbrev cX2_partsBody : ByteArray := prog_4_method_5_code
def yX2_partsBody : MethodName := ⟨RX2, "partsBody", "(I)I"⟩
abbrev cX2_weighsBody : ByteArray := prog_4_method_6_code
def yX2_weighsBody : MethodName := ⟨RX2, "weighsBody", "(I)I"⟩
abbrev cX2_hedgesBody : ByteArray := prog_4_method_7_code
def yX2_hedgesBody : MethodName := ⟨RX2, "hedgesBody", "(I)I"⟩
def RX3 : String := "BrothersField$Field"
def TX3 : u_T := fun k => match k with
  | 0 => ("BrothersField$Field", "w", "I", false)
  | 1 => ("BrothersField$Field", "h", "I", false)
  | 2 => ("BrothersField$Field", "all", "J", false)
  | 3 => ("BrothersField$Field", "firstColumn", "J", false)
  | 4 => ("BrothersField$Field", "lastColumn", "J", false)
  | 5 => ("BrothersField$Field", "firstRow", "J", false)
  | 6 => ("BrothersField$Field", "lastRow", "J", false)
  | 7 => ("BrothersField$Field", "road", "I", false)
  | 8 => ("BrothersField$Field", "well", "I", false)
  | 9 => ("BrothersField$Field", "oak", "I", false)
  | 10 => ("BrothersField$Field", "small", "I", false)
  | 11 => ("BrothersField$Field", "heirs", "I", false)
  | 12 => ("BrothersField$Field", "soils", "[J", true)
  | 13 => ("BrothersField$Field", "shares", "[I", true)
  | 14 => ("BrothersField$Field", "soilWorths", "[[I", true)
  | 15 => ("BrothersField$Field", "isFond", "[Z", true)
  | _ => ("BrothersField$Field", "owned", "[J", true)
def tyX3 : Nat → FieldType := fun k => match k with
  | 0 => .int
  | 1 => .int
  | 2 => .long
  | 3 => .long
  | 4 => .long
  | 5 => .long
  | 6 => .long
  | 7 => .int
  | 8 => .int
  | 9 => .int
  | 10 => .int
  | 11 => .int
  | 12 => .array .long
  | 13 => .array .int
  | 14 => .array (.array .int)
  | 15 => .array .boolean
  | _ => .array .long
theorem nmX3 : ∀ a, a < 17 → ∀ b, b < 17 → a ≠ b → (TX3 a).2.1 ≠ (TX3 b).2.1 := by decide +kernel
theorem tyX3_ok : ∀ k, k < 17 → parseFieldDescriptor (TX3 k).2.2.1 = some (tyX3 k) := by decide +kernel
abbrev cX3_init : ByteArray := prog_5_method_1_code
def yX3_init : MethodName := ⟨RX3, "<init>", "()V"⟩
abbrev cX3_resize : ByteArray := prog_5_method_2_code
def yX3_resize : MethodName := ⟨RX3, "resize", "(II)V"⟩
abbrev cX3_become : ByteArray := prog_5_method_3_code
def yX3_become : MethodName := ⟨RX3, "become", "(LBrothersField$Field;)V"⟩
abbrev cX3_give : ByteArray := prog_5_method_4_code
def yX3_give : MethodName := ⟨RX3, "give", "([JJI)V"⟩
abbrev cX3_empty : ByteArray := prog_5_method_5_code
def yX3_empty : MethodName := ⟨RX3, "empty", "([J)V"⟩
abbrev cX3_squares : ByteArray := prog_5_method_6_code
def yX3_squares : MethodName := ⟨RX3, "squares", "()I"⟩
abbrev cX3_isSquare : ByteArray := prog_5_method_7_code
def yX3_isSquare : MethodName := ⟨RX3, "isSquare", "(I)Z"⟩
abbrev cX3_isHeir : ByteArray := prog_5_method_8_code
def yX3_isHeir : MethodName := ⟨RX3, "isHeir", "(I)Z"⟩
abbrev cX3_hasAll : ByteArray := prog_5_method_9_code
def yX3_hasAll : MethodName := ⟨RX3, "hasAll", "(J)Z"⟩
abbrev cX3_only : ByteArray := prog_5_method_10_code
def yX3_only : MethodName := ⟨RX3, "only", "(I)J"⟩
abbrev cX3_lowest : ByteArray := prog_5_method_11_code
def yX3_lowest : MethodName := ⟨RX3, "lowest", "(I)J"⟩
abbrev cX3_below : ByteArray := prog_5_method_12_code
def yX3_below : MethodName := ⟨RX3, "below", "(I)J"⟩
abbrev cX3_rowsBelow : ByteArray := prog_5_method_13_code
def yX3_rowsBelow : MethodName := ⟨RX3, "rowsBelow", "(I)J"⟩
abbrev cX3_columns : ByteArray := prog_5_method_14_code
def yX3_columns : MethodName := ⟨RX3, "columns", "(I)J"⟩
abbrev cX3_corner : ByteArray := prog_5_method_15_code
def yX3_corner : MethodName := ⟨RX3, "corner", "(II)J"⟩
abbrev cX3_bent : ByteArray := prog_5_method_16_code
def yX3_bent : MethodName := ⟨RX3, "bent", "(III)J"⟩
abbrev cX3_soilAt : ByteArray := prog_5_method_17_code
def yX3_soilAt : MethodName := ⟨RX3, "soilAt", "(I)I"⟩
abbrev cX3_laySoil : ByteArray := prog_5_method_18_code
def yX3_laySoil : MethodName := ⟨RX3, "laySoil", "(JI)V"⟩
abbrev cX3_placeOf : ByteArray := prog_5_method_19_code
def yX3_placeOf : MethodName := ⟨RX3, "placeOf", "(I)I"⟩
abbrev cX3_setPlace : ByteArray := prog_5_method_20_code
def yX3_setPlace : MethodName := ⟨RX3, "setPlace", "(II)V"⟩
abbrev cX3_addHeir : ByteArray := prog_5_method_21_code
def yX3_addHeir : MethodName := ⟨RX3, "addHeir", "(I)I"⟩
abbrev cX3_worthOf : ByteArray := prog_5_method_22_code
def yX3_worthOf : MethodName := ⟨RX3, "worthOf", "(IJ)I"⟩
abbrev cX3_allShares : ByteArray := prog_5_method_23_code
def yX3_allShares : MethodName := ⟨RX3, "allShares", "()I"⟩
abbrev cX3_surplusOf : ByteArray := prog_5_method_24_code
def yX3_surplusOf : MethodName := ⟨RX3, "surplusOf", "(IJ)I"⟩
abbrev cX3_slotOf : ByteArray := prog_5_method_25_code
def yX3_slotOf : MethodName := ⟨RX3, "slotOf", "(I)I"⟩
abbrev cX3_ownerAt : ByteArray := prog_5_method_26_code
def yX3_ownerAt : MethodName := ⟨RX3, "ownerAt", "(I)I"⟩
abbrev cX3_ownedByHeirs : ByteArray := prog_5_method_27_code
def yX3_ownedByHeirs : MethodName := ⟨RX3, "ownedByHeirs", "()I"⟩
abbrev cX3_takeOwners : ByteArray := prog_5_method_28_code
def yX3_takeOwners : MethodName := ⟨RX3, "takeOwners", "([J)I"⟩
abbrev cX3_withBeside : ByteArray := prog_5_method_29_code
def yX3_withBeside : MethodName := ⟨RX3, "withBeside", "(J)J"⟩
abbrev cX3_grown : ByteArray := prog_5_method_30_code
def yX3_grown : MethodName := ⟨RX3, "grown", "(JJ)J"⟩
abbrev cX3_piecesOf : ByteArray := prog_5_method_31_code
def yX3_piecesOf : MethodName := ⟨RX3, "piecesOf", "(J)I"⟩
abbrev cX3_hedgeOf : ByteArray := prog_5_method_32_code
def yX3_hedgeOf : MethodName := ⟨RX3, "hedgeOf", "([J)I"⟩
abbrev cX3_verdictOn : ByteArray := prog_5_method_33_code
def yX3_verdictOn : MethodName := ⟨RX3, "verdictOn", "([J)I"⟩
abbrev cX3_hasFault : ByteArray := prog_5_method_34_code
def yX3_hasFault : MethodName := ⟨RX3, "hasFault", "(IIJJ)Z"⟩
abbrev cX3_isContent : ByteArray := prog_5_method_35_code
def yX3_isContent : MethodName := ⟨RX3, "isContent", "(IJ)Z"⟩
abbrev cX3_reachOfRoad : ByteArray := prog_5_method_36_code
def yX3_reachOfRoad : MethodName := ⟨RX3, "reachOfRoad", "(J)J"⟩
abbrev cX3_roadSide : ByteArray := prog_5_method_37_code
def yX3_roadSide : MethodName := ⟨RX3, "roadSide", "()J"⟩
abbrev cX3_wellMatters : ByteArray := prog_5_method_38_code
def yX3_wellMatters : MethodName := ⟨RX3, "wellMatters", "(J)Z"⟩
abbrev cX3_toldBy : ByteArray := prog_5_method_39_code
def yX3_toldBy : MethodName := ⟨RX3, "toldBy", "(LBrothersField$Row;I)J"⟩
def RX4 : String := "BrothersField$From"
def TX4 : u_T := fun k => match k with
  | 0 => ("BrothersField$Cut", "code", "I", true)
  | 1 => ("BrothersField$Cut", "shelf", "I", true)
  | 2 => ("BrothersField$Cut", "a", "I", true)
  | 3 => ("BrothersField$Cut", "b", "I", true)
  | 4 => ("BrothersField$Cut", "c", "I", true)
  | _ => ("BrothersField$Cut", "trace", "LBrothersField$Row;", true)
def tyX4 : Nat → FieldType := fun k => match k with
  | 0 => .int
  | 1 => .int
  | 2 => .int
  | 3 => .int
  | 4 => .int
  | _ => .object "BrothersField$Row"
theorem nmX4 : ∀ a, a < 6 → ∀ b, b < 6 → a ≠ b → (TX4 a).2.1 ≠ (TX4 b).2.1 := by decide +kernel
theorem tyX4_ok : ∀ k, k < 6 → parseFieldDescriptor (TX4 k).2.2.1 = some (tyX4 k) := by decide +kernel
abbrev cX4_init : ByteArray := prog_6_method_1_code
def yX4_init : MethodName := ⟨RX4, "<init>", "(IILBrothersField$Row;)V"⟩
abbrev cX4_isOf : ByteArray := prog_6_method_2_code
def yX4_isOf : MethodName := ⟨RX4, "isOf", "(I)Z"⟩
abbrev cX4_firstIn : ByteArray := prog_6_method_3_code
def yX4_firstIn : MethodName := ⟨RX4, "firstIn", "(LBrothersField$Field;)J"⟩
abbrev cX4_hedgesBody : ByteArray := prog_6_method_4_code
def yX4_hedgesBody : MethodName := ⟨RX4, "hedgesBody", "(I)I"⟩
def RX5 : String := "BrothersField$Lane"
def TX5 : u_T := fun k => match k with
  | 0 => ("BrothersField$Cut", "code", "I", true)
  | 1 => ("BrothersField$Cut", "shelf", "I", true)
  | 2 => ("BrothersField$Cut", "a", "I", true)
  | 3 => ("BrothersField$Cut", "b", "I", true)
  | 4 => ("BrothersField$Cut", "c", "I", true)
  | _ => ("BrothersField$Cut", "trace", "LBrothersField$Row;", true)
def tyX5 : Nat → FieldType := fun k => match k with
  | 0 => .int
  | 1 => .int
  | 2 => .int
  | 3 => .int
  | 4 => .int
  | _ => .object "BrothersField$Row"
theorem nmX5 : ∀ a, a < 6 → ∀ b, b < 6 → a ≠ b → (TX5 a).2.1 ≠ (TX5 b).2.1 := by decide +kernel
theorem tyX5_ok : ∀ k, k < 6 → parseFieldDescriptor (TX5 k).2.2.1 = some (tyX5 k) := by decide +kernel
abbrev cX5_init : ByteArray := prog_7_method_1_code
def yX5_init : MethodName := ⟨RX5, "<init>", "(IILBrothersField$Row;)V"⟩
abbrev cX5_isOf : ByteArray := prog_7_method_2_code
def yX5_isOf : MethodName := ⟨RX5, "isOf", "(I)Z"⟩
abbrev cX5_firstIn : ByteArray := prog_7_method_3_code
def yX5_firstIn : MethodName := ⟨RX5, "firstIn", "(LBrothersField$Field;)J"⟩
abbrev cX5_laneIn : ByteArray := prog_7_method_4_code
def yX5_laneIn : MethodName := ⟨RX5, "laneIn", "(LBrothersField$Field;)J"⟩
abbrev cX5_hedgesBody : ByteArray := prog_7_method_5_code
def yX5_hedgesBody : MethodName := ⟨RX5, "hedgesBody", "(I)I"⟩
def RX6 : String := "BrothersField$Reader"
def TX6 : u_T := fun k => match k with
  | 0 => ("BrothersField$Reader", "fault", "I", false)
  | 1 => ("BrothersField$Reader", "text", "LBrothersField$Row;", true)
  | 2 => ("BrothersField$Reader", "field", "LBrothersField$Field;", true)
  | _ => ("BrothersField$Reader", "at", "I", false)
def tyX6 : Nat → FieldType := fun k => match k with
  | 0 => .int
  | 1 => .object "BrothersField$Row"
  | 2 => .object "BrothersField$Field"
  | _ => .int
theorem nmX6 : ∀ a, a < 4 → ∀ b, b < 4 → a ≠ b → (TX6 a).2.1 ≠ (TX6 b).2.1 := by decide +kernel
theorem tyX6_ok : ∀ k, k < 4 → parseFieldDescriptor (TX6 k).2.2.1 = some (tyX6 k) := by decide +kernel
abbrev cX6_init : ByteArray := prog_8_method_1_code
def yX6_init : MethodName := ⟨RX6, "<init>", "(LBrothersField$Row;LBrothersField$Field;)V"⟩
abbrev cX6_readItems : ByteArray := prog_8_method_2_code
def yX6_readItems : MethodName := ⟨RX6, "readItems", "()I"⟩
abbrev cX6_fails : ByteArray := prog_8_method_3_code
def yX6_fails : MethodName := ⟨RX6, "fails", "(I)Z"⟩
abbrev cX6_passes : ByteArray := prog_8_method_4_code
def yX6_passes : MethodName := ⟨RX6, "passes", "(C)Z"⟩
abbrev cX6_readItem : ByteArray := prog_8_method_5_code
def yX6_readItem : MethodName := ⟨RX6, "readItem", "()Z"⟩
abbrev cX6_wordOf : ByteArray := prog_8_method_6_code
def yX6_wordOf : MethodName := ⟨RX6, "wordOf", "(I)Ljava/lang/String;"⟩
abbrev cX6_readWord : ByteArray := prog_8_method_7_code
def yX6_readWord : MethodName := ⟨RX6, "readWord", "()I"⟩
abbrev cX6_lettersAlike : ByteArray := prog_8_method_8_code
def yX6_lettersAlike : MethodName := ⟨RX6, "lettersAlike", "(Ljava/lang/String;)I"⟩
abbrev cX6_readNumber : ByteArray := prog_8_method_9_code
def yX6_readNumber : MethodName := ⟨RX6, "readNumber", "(II)I"⟩
abbrev cX6_digitAt : ByteArray := prog_8_method_10_code
def yX6_digitAt : MethodName := ⟨RX6, "digitAt", "(I)I"⟩
abbrev cX6_readSize : ByteArray := prog_8_method_11_code
def yX6_readSize : MethodName := ⟨RX6, "readSize", "()Z"⟩
abbrev cX6_readSoil : ByteArray := prog_8_method_12_code
def yX6_readSoil : MethodName := ⟨RX6, "readSoil", "()Z"⟩
abbrev cX6_readPlace : ByteArray := prog_8_method_13_code
def yX6_readPlace : MethodName := ⟨RX6, "readPlace", "(III)Z"⟩
abbrev cX6_readHeir : ByteArray := prog_8_method_14_code
def yX6_readHeir : MethodName := ⟨RX6, "readHeir", "()Z"⟩
def RX7 : String := "BrothersField$Row"
def TX7 : u_T := fun k => match k with
  | 0 => ("BrothersField$Row", "sort", "I", false)
  | 1 => ("BrothersField$Row", "size", "I", false)
  | _ => ("BrothersField$Row", "elements", "[J", true)
def tyX7 : Nat → FieldType := fun k => match k with
  | 0 => .int
  | 1 => .int
  | _ => .array .long
theorem nmX7 : ∀ a, a < 3 → ∀ b, b < 3 → a ≠ b → (TX7 a).2.1 ≠ (TX7 b).2.1 := by decide +kernel
theorem tyX7_ok : ∀ k, k < 3 → parseFieldDescriptor (TX7 k).2.2.1 = some (tyX7 k) := by decide +kernel
abbrev cX7_init : ByteArray := prog_9_method_1_code
def yX7_init : MethodName := ⟨RX7, "<init>", "()V"⟩
abbrev cX7_renew : ByteArray := prog_9_method_2_code
def yX7_renew : MethodName := ⟨RX7, "renew", "(II)V"⟩
abbrev cX7_drop : ByteArray := prog_9_method_3_code
def yX7_drop : MethodName := ⟨RX7, "drop", "()V"⟩
abbrev cX7_isHeld : ByteArray := prog_9_method_4_code
def yX7_isHeld : MethodName := ⟨RX7, "isHeld", "()Z"⟩
abbrev cX7_has : ByteArray := prog_9_method_5_code
def yX7_has : MethodName := ⟨RX7, "has", "(I)Z"⟩
abbrev cX7_hasRange : ByteArray := prog_9_method_6_code
def yX7_hasRange : MethodName := ⟨RX7, "hasRange", "(II)Z"⟩
abbrev cX7_at : ByteArray := prog_9_method_7_code
def yX7_at : MethodName := ⟨RX7, "at", "(I)J"⟩
abbrev cX7_intAt : ByteArray := prog_9_method_8_code
def yX7_intAt : MethodName := ⟨RX7, "intAt", "(I)I"⟩
abbrev cX7_put : ByteArray := prog_9_method_9_code
def yX7_put : MethodName := ⟨RX7, "put", "(IJ)V"⟩
abbrev cX7_append : ByteArray := prog_9_method_10_code
def yX7_append : MethodName := ⟨RX7, "append", "(I)V"⟩
abbrev cX7_narrowed : ByteArray := prog_9_method_11_code
def yX7_narrowed : MethodName := ⟨RX7, "narrowed", "(J)J"⟩
def RX8 : String := "BrothersField$Search"
def TX8 : u_T := fun k => match k with
  | 0 => ("BrothersField$Search", "bestCode", "I", false)
  | 1 => ("BrothersField$Search", "fitting", "I", false)
  | 2 => ("BrothersField$Search", "sureFirst", "J", false)
  | 3 => ("BrothersField$Search", "sureSecond", "J", false)
  | 4 => ("BrothersField$Search", "bestOther", "I", false)
  | 5 => ("BrothersField$Search", "bestHedge", "I", false)
  | 6 => ("BrothersField$Search", "count", "I", false)
  | 7 => ("BrothersField$Search", "codes", "[I", true)
  | 8 => ("BrothersField$Search", "firsts", "[J", true)
  | _ => ("BrothersField$Search", "trial", "[J", true)
def tyX8 : Nat → FieldType := fun k => match k with
  | 0 => .int
  | 1 => .int
  | 2 => .long
  | 3 => .long
  | 4 => .int
  | 5 => .int
  | 6 => .int
  | 7 => .array .int
  | 8 => .array .long
  | _ => .array .long
theorem nmX8 : ∀ a, a < 10 → ∀ b, b < 10 → a ≠ b → (TX8 a).2.1 ≠ (TX8 b).2.1 := by decide +kernel
theorem tyX8_ok : ∀ k, k < 10 → parseFieldDescriptor (TX8 k).2.2.1 = some (tyX8 k) := by decide +kernel
abbrev cX8_init : ByteArray := prog_10_method_1_code
def yX8_init : MethodName := ⟨RX8, "<init>", "()V"⟩
abbrev cX8_best : ByteArray := prog_10_method_2_code
def yX8_best : MethodName := ⟨RX8, "best", "(I)I"⟩
abbrev cX8_addCut : ByteArray := prog_10_method_3_code
def yX8_addCut : MethodName := ⟨RX8, "addCut", "(IJ)V"⟩
abbrev cX8_listCuts : ByteArray := prog_10_method_4_code
def yX8_listCuts : MethodName := ⟨RX8, "listCuts", "(LBrothersField$Field;ZZ)V"⟩
abbrev cX8_addBent : ByteArray := prog_10_method_5_code
def yX8_addBent : MethodName := ⟨RX8, "addBent", "(LBrothersField$Field;)V"⟩
abbrev cX8_addFrom : ByteArray := prog_10_method_6_code
def yX8_addFrom : MethodName := ⟨RX8, "addFrom", "(LBrothersField$Field;)V"⟩
abbrev cX8_forget : ByteArray := prog_10_method_7_code
def yX8_forget : MethodName := ⟨RX8, "forget", "(I)V"⟩
abbrev cX8_tryTrial : ByteArray := prog_10_method_8_code
def yX8_tryTrial : MethodName := ⟨RX8, "tryTrial", "(LBrothersField$Field;II)V"⟩
abbrev cX8_findTwo : ByteArray := prog_10_method_9_code
def yX8_findTwo : MethodName := ⟨RX8, "findTwo", "(LBrothersField$Field;)Z"⟩
abbrev cX8_findThree : ByteArray := prog_10_method_10_code
def yX8_findThree : MethodName := ⟨RX8, "findThree", "(LBrothersField$Field;)Z"⟩
abbrev cX8_findFairest : ByteArray := prog_10_method_11_code
def yX8_findFairest : MethodName := ⟨RX8, "findFairest", "(LBrothersField$Field;I)J"⟩
abbrev cX8_findChange : ByteArray := prog_10_method_12_code
def yX8_findChange : MethodName := ⟨RX8, "findChange", "(LBrothersField$Field;)I"⟩
abbrev cX8_mayChange : ByteArray := prog_10_method_13_code
def yX8_mayChange : MethodName := ⟨RX8, "mayChange", "(LBrothersField$Field;II)Z"⟩
abbrev cX8_startFrom : ByteArray := prog_10_method_14_code
def yX8_startFrom : MethodName := ⟨RX8, "startFrom", "([J)V"⟩
abbrev cX8_findFitting : ByteArray := prog_10_method_15_code
def yX8_findFitting : MethodName := ⟨RX8, "findFitting", "(LBrothersField$Field;LBrothersField$Row;)V"⟩
def RX9 : String := "BrothersField$Straight"
def TX9 : u_T := fun k => match k with
  | 0 => ("BrothersField$Cut", "code", "I", true)
  | 1 => ("BrothersField$Cut", "shelf", "I", true)
  | 2 => ("BrothersField$Cut", "a", "I", true)
  | 3 => ("BrothersField$Cut", "b", "I", true)
  | 4 => ("BrothersField$Cut", "c", "I", true)
  | _ => ("BrothersField$Cut", "trace", "LBrothersField$Row;", true)
def tyX9 : Nat → FieldType := fun k => match k with
  | 0 => .int
  | 1 => .int
  | 2 => .int
  | 3 => .int
  | 4 => .int
  | _ => .object "BrothersField$Row"
theorem nmX9 : ∀ a, a < 6 → ∀ b, b < 6 → a ≠ b → (TX9 a).2.1 ≠ (TX9 b).2.1 := by decide +kernel
theorem tyX9_ok : ∀ k, k < 6 → parseFieldDescriptor (TX9 k).2.2.1 = some (tyX9 k) := by decide +kernel
abbrev cX9_init : ByteArray := prog_11_method_1_code
def yX9_init : MethodName := ⟨RX9, "<init>", "(IILBrothersField$Row;)V"⟩
abbrev cX9_isOf : ByteArray := prog_11_method_2_code
def yX9_isOf : MethodName := ⟨RX9, "isOf", "(I)Z"⟩
abbrev cX9_firstIn : ByteArray := prog_11_method_3_code
def yX9_firstIn : MethodName := ⟨RX9, "firstIn", "(LBrothersField$Field;)J"⟩
abbrev cX9_partsBody : ByteArray := prog_11_method_4_code
def yX9_partsBody : MethodName := ⟨RX9, "partsBody", "(I)I"⟩
def RX10 : String := "BrothersField$Told"
def TX10 : u_T := fun k => match k with
  | 0 => ("BrothersField$Cut", "code", "I", true)
  | 1 => ("BrothersField$Cut", "shelf", "I", true)
  | 2 => ("BrothersField$Cut", "a", "I", true)
  | 3 => ("BrothersField$Cut", "b", "I", true)
  | 4 => ("BrothersField$Cut", "c", "I", true)
  | _ => ("BrothersField$Cut", "trace", "LBrothersField$Row;", true)
def tyX10 : Nat → FieldType := fun k => match k with
  | 0 => .int
  | 1 => .int
  | 2 => .int
  | 3 => .int
  | 4 => .int
  | _ => .object "BrothersField$Row"
theorem nmX10 : ∀ a, a < 6 → ∀ b, b < 6 → a ≠ b → (TX10 a).2.1 ≠ (TX10 b).2.1 := by decide +kernel
theorem tyX10_ok : ∀ k, k < 6 → parseFieldDescriptor (TX10 k).2.2.1 = some (tyX10 k) := by decide +kernel
abbrev cX10_init : ByteArray := prog_12_method_1_code
def yX10_init : MethodName := ⟨RX10, "<init>", "(IILBrothersField$Row;)V"⟩
abbrev cX10_isOf : ByteArray := prog_12_method_2_code
def yX10_isOf : MethodName := ⟨RX10, "isOf", "(I)Z"⟩
abbrev cX10_firstIn : ByteArray := prog_12_method_3_code
def yX10_firstIn : MethodName := ⟨RX10, "firstIn", "(LBrothersField$Field;)J"⟩
abbrev cX10_partsBody : ByteArray := prog_12_method_4_code
def yX10_partsBody : MethodName := ⟨RX10, "partsBody", "(I)I"⟩
abbrev cX10_weighsBody : ByteArray := prog_12_method_5_code
def yX10_weighsBody : MethodName := ⟨RX10, "weighsBody", "(I)I"⟩
def RX11 : String := "BrothersField"
def TX11 : u_T := fun k => match k with
  | 0 => ("BrothersField", "heldRows", "[LBrothersField$Row;", true)
  | 1 => ("BrothersField", "heldCuts", "[LBrothersField$Cut;", true)
  | 2 => ("BrothersField", "trace", "LBrothersField$Row;", true)
  | 3 => ("BrothersField", "now", "LBrothersField$Field;", true)
  | 4 => ("BrothersField", "kept", "LBrothersField$Field;", true)
  | 5 => ("BrothersField", "draft", "LBrothersField$Field;", true)
  | 6 => ("BrothersField", "search", "LBrothersField$Search;", true)
  | 7 => ("BrothersField", "laid", "[J", true)
  | 8 => ("BrothersField", "refusals", "[I", true)
  | 9 => ("BrothersField", "imageTaken", "Z", false)
  | _ => ("BrothersField", "textFault", "I", false)
def tyX11 : Nat → FieldType := fun k => match k with
  | 0 => .array (.object "BrothersField$Row")
  | 1 => .array (.object "BrothersField$Cut")
  | 2 => .object "BrothersField$Row"
  | 3 => .object "BrothersField$Field"
  | 4 => .object "BrothersField$Field"
  | 5 => .object "BrothersField$Field"
  | 6 => .object "BrothersField$Search"
  | 7 => .array .long
  | 8 => .array .int
  | 9 => .boolean
  | _ => .int
theorem nmX11 : ∀ a, a < 11 → ∀ b, b < 11 → a ≠ b → (TX11 a).2.1 ≠ (TX11 b).2.1 := by decide +kernel
theorem tyX11_ok : ∀ k, k < 11 → parseFieldDescriptor (TX11 k).2.2.1 = some (tyX11 k) := by decide +kernel
abbrev cX11_init : ByteArray := prog_1_method_1_code
def yX11_init : MethodName := ⟨RX11, "<init>", "()V"⟩
abbrev cX11_row : ByteArray := prog_1_method_2_code
def yX11_row : MethodName := ⟨RX11, "row", "(III)I"⟩
abbrev cX11_set : ByteArray := prog_1_method_3_code
def yX11_set : MethodName := ⟨RX11, "set", "(IIJ)I"⟩
abbrev cX11_copy : ByteArray := prog_1_method_4_code
def yX11_copy : MethodName := ⟨RX11, "copy", "(IIIII)I"⟩
abbrev cX11_element : ByteArray := prog_1_method_5_code
def yX11_element : MethodName := ⟨RX11, "element", "(II)J"⟩
abbrev cX11_cut : ByteArray := prog_1_method_6_code
def yX11_cut : MethodName := ⟨RX11, "cut", "(II)I"⟩
abbrev cX11_holds : ByteArray := prog_1_method_7_code
def yX11_holds : MethodName := ⟨RX11, "holds", "(I)I"⟩
abbrev cX11_says : ByteArray := prog_1_method_8_code
def yX11_says : MethodName := ⟨RX11, "says", "(II)I"⟩
abbrev cX11_side : ByteArray := prog_1_method_9_code
def yX11_side : MethodName := ⟨RX11, "side", "(II)J"⟩
abbrev cX11_field : ByteArray := prog_1_method_10_code
def yX11_field : MethodName := ⟨RX11, "field", "(I)I"⟩
abbrev cX11_fault : ByteArray := prog_1_method_11_code
def yX11_fault : MethodName := ⟨RX11, "fault", "()I"⟩
abbrev cX11_size : ByteArray := prog_1_method_12_code
def yX11_size : MethodName := ⟨RX11, "size", "(II)I"⟩
abbrev cX11_soil : ByteArray := prog_1_method_13_code
def yX11_soil : MethodName := ⟨RX11, "soil", "(II)I"⟩
abbrev cX11_place : ByteArray := prog_1_method_14_code
def yX11_place : MethodName := ⟨RX11, "place", "(II)I"⟩
abbrev cX11_heir : ByteArray := prog_1_method_15_code
def yX11_heir : MethodName := ⟨RX11, "heir", "(I)I"⟩
abbrev cX11_worths : ByteArray := prog_1_method_16_code
def yX11_worths : MethodName := ⟨RX11, "worths", "(III)I"⟩
abbrev cX11_fond : ByteArray := prog_1_method_17_code
def yX11_fond : MethodName := ⟨RX11, "fond", "(IZ)I"⟩
abbrev cX11_heirOf : ByteArray := prog_1_method_18_code
def yX11_heirOf : MethodName := ⟨RX11, "heirOf", "(II)I"⟩
abbrev cX11_worth : ByteArray := prog_1_method_19_code
def yX11_worth : MethodName := ⟨RX11, "worth", "(IJ)I"⟩
abbrev cX11_owner : ByteArray := prog_1_method_20_code
def yX11_owner : MethodName := ⟨RX11, "owner", "(I)I"⟩
abbrev cX11_own : ByteArray := prog_1_method_21_code
def yX11_own : MethodName := ⟨RX11, "own", "(JI)I"⟩
abbrev cX11_lay : ByteArray := prog_1_method_22_code
def yX11_lay : MethodName := ⟨RX11, "lay", "(III)I"⟩
abbrev cX11_owners : ByteArray := prog_1_method_23_code
def yX11_owners : MethodName := ⟨RX11, "owners", "(I)I"⟩
abbrev cX11_piece : ByteArray := prog_1_method_24_code
def yX11_piece : MethodName := ⟨RX11, "piece", "(I)J"⟩
abbrev cX11_hedge : ByteArray := prog_1_method_25_code
def yX11_hedge : MethodName := ⟨RX11, "hedge", "()I"⟩
abbrev cX11_faulty : ByteArray := prog_1_method_26_code
def yX11_faulty : MethodName := ⟨RX11, "faulty", "()I"⟩
abbrev cX11_whose : ByteArray := prog_1_method_27_code
def yX11_whose : MethodName := ⟨RX11, "whose", "()I"⟩
abbrev cX11_parts : ByteArray := prog_1_method_28_code
def yX11_parts : MethodName := ⟨RX11, "parts", "(J)I"⟩
abbrev cX11_two : ByteArray := prog_1_method_29_code
def yX11_two : MethodName := ⟨RX11, "two", "(I)I"⟩
abbrev cX11_three : ByteArray := prog_1_method_30_code
def yX11_three : MethodName := ⟨RX11, "three", "(I)I"⟩
abbrev cX11_choose : ByteArray := prog_1_method_31_code
def yX11_choose : MethodName := ⟨RX11, "choose", "(III)I"⟩
abbrev cX11_envies : ByteArray := prog_1_method_32_code
def yX11_envies : MethodName := ⟨RX11, "envies", "(I)I"⟩
abbrev cX11_evens : ByteArray := prog_1_method_33_code
def yX11_evens : MethodName := ⟨RX11, "evens", "(I)I"⟩
abbrev cX11_better : ByteArray := prog_1_method_34_code
def yX11_better : MethodName := ⟨RX11, "better", "()I"⟩
abbrev cX11_mend : ByteArray := prog_1_method_35_code
def yX11_mend : MethodName := ⟨RX11, "mend", "(I)I"⟩
abbrev cX11_fits : ByteArray := prog_1_method_36_code
def yX11_fits : MethodName := ⟨RX11, "fits", "(II)I"⟩
abbrev cX11_old : ByteArray := prog_1_method_37_code
def yX11_old : MethodName := ⟨RX11, "old", "(I)I"⟩
abbrev cX11_sure : ByteArray := prog_1_method_38_code
def yX11_sure : MethodName := ⟨RX11, "sure", "(II)J"⟩
abbrev cX11_judge : ByteArray := prog_1_method_39_code
def yX11_judge : MethodName := ⟨RX11, "judge", "(I)I"⟩
abbrev cX11_act : ByteArray := prog_1_method_40_code
def yX11_act : MethodName := ⟨RX11, "act", "(III)I"⟩
abbrev cX11_trace : ByteArray := prog_1_method_41_code
def yX11_trace : MethodName := ⟨RX11, "trace", "(I)I"⟩
abbrev cX11_image : ByteArray := prog_1_method_42_code
def yX11_image : MethodName := ⟨RX11, "image", "()I"⟩
abbrev cX11_restore : ByteArray := prog_1_method_43_code
def yX11_restore : MethodName := ⟨RX11, "restore", "()I"⟩
abbrev cX11_status : ByteArray := prog_1_method_44_code
def yX11_status : MethodName := ⟨RX11, "status", "(I)I"⟩
abbrev cX11_refuse : ByteArray := prog_1_method_45_code
def yX11_refuse : MethodName := ⟨RX11, "refuse", "(I)I"⟩
abbrev cX11_refuseAs : ByteArray := prog_1_method_46_code
def yX11_refuseAs : MethodName := ⟨RX11, "refuseAs", "(II)I"⟩
abbrev cX11_earlier : ByteArray := prog_1_method_47_code
def yX11_earlier : MethodName := ⟨RX11, "earlier", "(II)I"⟩
abbrev cX11_isShelf : ByteArray := prog_1_method_48_code
def yX11_isShelf : MethodName := ⟨RX11, "isShelf", "(I)Z"⟩
abbrev cX11_noRow : ByteArray := prog_1_method_49_code
def yX11_noRow : MethodName := ⟨RX11, "noRow", "(I)I"⟩
abbrev cX11_noCut : ByteArray := prog_1_method_50_code
def yX11_noCut : MethodName := ⟨RX11, "noCut", "(I)I"⟩
abbrev cX11_hasCutNumbers : ByteArray := prog_1_method_51_code
def yX11_hasCutNumbers : MethodName := ⟨RX11, "hasCutNumbers", "(I)Z"⟩
abbrev cX11_newCut : ByteArray := prog_1_method_52_code
def yX11_newCut : MethodName := ⟨RX11, "newCut", "(II)LBrothersField$Cut;"⟩
abbrev cX11_sideOf : ByteArray := prog_1_method_53_code
def yX11_sideOf : MethodName := ⟨RX11, "sideOf", "(LBrothersField$Cut;I)J"⟩
abbrev cX11_toldAs : ByteArray := prog_1_method_54_code
def yX11_toldAs : MethodName := ⟨RX11, "toldAs", "(LBrothersField$Cut;I)I"⟩
abbrev cX11_mayStand : ByteArray := prog_1_method_55_code
def yX11_mayStand : MethodName := ⟨RX11, "mayStand", "(II)Z"⟩
def RX12 : String := "BrothersFieldModel"
def TX12 : u_T := fun k => match k with
  | 0 => ("BrothersFieldModel", "w", "I", false)
  | 1 => ("BrothersFieldModel", "h", "I", false)
  | 2 => ("BrothersFieldModel", "road", "I", false)
  | 3 => ("BrothersFieldModel", "well", "I", false)
  | 4 => ("BrothersFieldModel", "oak", "I", false)
  | 5 => ("BrothersFieldModel", "small", "I", false)
  | 6 => ("BrothersFieldModel", "heirs", "I", false)
  | 7 => ("BrothersFieldModel", "fault", "I", false)
  | 8 => ("BrothersFieldModel", "refused", "[I", true)
  | 9 => ("BrothersFieldModel", "soil", "[I", true)
  | 10 => ("BrothersFieldModel", "owner", "[I", true)
  | 11 => ("BrothersFieldModel", "share", "[I", true)
  | 12 => ("BrothersFieldModel", "fond", "[I", true)
  | 13 => ("BrothersFieldModel", "value", "[I", true)
  | 14 => ("BrothersFieldModel", "held", "[I", true)
  | 15 => ("BrothersFieldModel", "sort", "[I", true)
  | 16 => ("BrothersFieldModel", "size", "[I", true)
  | 17 => ("BrothersFieldModel", "code", "[I", true)
  | 18 => ("BrothersFieldModel", "cells", "[J", true)
  | 19 => ("BrothersFieldModel", "carried", "[J", true)
  | 20 => ("BrothersFieldModel", "words", "[I", true)
  | 21 => ("BrothersFieldModel", "base", "I", false)
  | 22 => ("BrothersFieldModel", "at", "I", false)
  | 23 => ("BrothersFieldModel", "end", "I", false)
  | 24 => ("BrothersFieldModel", "told", "I", false)
  | 25 => ("BrothersFieldModel", "wrongAt", "I", false)
  | 26 => ("BrothersFieldModel", "was", "[I", true)
  | 27 => ("BrothersFieldModel", "kept", "[I", true)
  | 28 => ("BrothersFieldModel", "culprit", "I", false)
  | 29 => ("BrothersFieldModel", "codes", "[I", true)
  | 30 => ("BrothersFieldModel", "spare", "[I", true)
  | 31 => ("BrothersFieldModel", "cuts", "I", false)
  | 32 => ("BrothersFieldModel", "one", "I", false)
  | 33 => ("BrothersFieldModel", "other", "I", false)
  | 34 => ("BrothersFieldModel", "least", "I", false)
  | 35 => ("BrothersFieldModel", "trace", "[I", true)
  | 36 => ("BrothersFieldModel", "ran", "I", false)
  | _ => ("BrothersFieldModel", "isKept", "Z", false)
def tyX12 : Nat → FieldType := fun k => match k with
  | 0 => .int
  | 1 => .int
  | 2 => .int
  | 3 => .int
  | 4 => .int
  | 5 => .int
  | 6 => .int
  | 7 => .int
  | 8 => .array .int
  | 9 => .array .int
  | 10 => .array .int
  | 11 => .array .int
  | 12 => .array .int
  | 13 => .array .int
  | 14 => .array .int
  | 15 => .array .int
  | 16 => .array .int
  | 17 => .array .int
  | 18 => .array .long
  | 19 => .array .long
  | 20 => .array .int
  | 21 => .int
  | 22 => .int
  | 23 => .int
  | 24 => .int
  | 25 => .int
  | 26 => .array .int
  | 27 => .array .int
  | 28 => .int
  | 29 => .array .int
  | 30 => .array .int
  | 31 => .int
  | 32 => .int
  | 33 => .int
  | 34 => .int
  | 35 => .array .int
  | 36 => .int
  | _ => .boolean
theorem nmX12 : ∀ a, a < 38 → ∀ b, b < 38 → a ≠ b → (TX12 a).2.1 ≠ (TX12 b).2.1 := by decide +kernel
theorem tyX12_ok : ∀ k, k < 38 → parseFieldDescriptor (TX12 k).2.2.1 = some (tyX12 k) := by decide +kernel
abbrev cX12_init : ByteArray := prog_14_method_1_code
def yX12_init : MethodName := ⟨RX12, "<init>", "()V"⟩
abbrev cX12_no : ByteArray := prog_14_method_2_code
def yX12_no : MethodName := ⟨RX12, "no", "(I)I"⟩
abbrev cX12_noTen : ByteArray := prog_14_method_3_code
def yX12_noTen : MethodName := ⟨RX12, "noTen", "(I)I"⟩
abbrev cX12_isShelf : ByteArray := prog_14_method_4_code
def yX12_isShelf : MethodName := ⟨RX12, "isShelf", "(I)Z"⟩
abbrev cX12_isSquare : ByteArray := prog_14_method_5_code
def yX12_isSquare : MethodName := ⟨RX12, "isSquare", "(I)Z"⟩
abbrev cX12_isHeir : ByteArray := prog_14_method_6_code
def yX12_isHeir : MethodName := ⟨RX12, "isHeir", "(I)Z"⟩
abbrev cX12_all : ByteArray := prog_14_method_7_code
def yX12_all : MethodName := ⟨RX12, "all", "()J"⟩
abbrev cX12_isSet : ByteArray := prog_14_method_8_code
def yX12_isSet : MethodName := ⟨RX12, "isSet", "(J)Z"⟩
abbrev cX12_many : ByteArray := prog_14_method_9_code
def yX12_many : MethodName := ⟨RX12, "many", "(J)I"⟩
abbrev cX12_has : ByteArray := prog_14_method_10_code
def yX12_has : MethodName := ⟨RX12, "has", "(JI)Z"⟩
abbrev cX12_row : ByteArray := prog_14_method_11_code
def yX12_row : MethodName := ⟨RX12, "row", "(III)I"⟩
abbrev cX12_set : ByteArray := prog_14_method_12_code
def yX12_set : MethodName := ⟨RX12, "set", "(IIJ)I"⟩
abbrev cX12_copy : ByteArray := prog_14_method_13_code
def yX12_copy : MethodName := ⟨RX12, "copy", "(IIIII)I"⟩
abbrev cX12_element : ByteArray := prog_14_method_14_code
def yX12_element : MethodName := ⟨RX12, "element", "(II)J"⟩
abbrev cX12_cut : ByteArray := prog_14_method_15_code
def yX12_cut : MethodName := ⟨RX12, "cut", "(II)I"⟩
abbrev cX12_holds : ByteArray := prog_14_method_16_code
def yX12_holds : MethodName := ⟨RX12, "holds", "(I)I"⟩
abbrev cX12_wants : ByteArray := prog_14_method_17_code
def yX12_wants : MethodName := ⟨RX12, "wants", "(II)I"⟩
abbrev cX12_intAt : ByteArray := prog_14_method_18_code
def yX12_intAt : MethodName := ⟨RX12, "intAt", "(II)I"⟩
abbrev cX12_isFirst : ByteArray := prog_14_method_19_code
def yX12_isFirst : MethodName := ⟨RX12, "isFirst", "(II)Z"⟩
abbrev cX12_sideOf : ByteArray := prog_14_method_20_code
def yX12_sideOf : MethodName := ⟨RX12, "sideOf", "(II)J"⟩
abbrev cX12_side : ByteArray := prog_14_method_21_code
def yX12_side : MethodName := ⟨RX12, "side", "(II)J"⟩
abbrev cX12_says : ByteArray := prog_14_method_22_code
def yX12_says : MethodName := ⟨RX12, "says", "(II)I"⟩
abbrev cX12_sizes : ByteArray := prog_14_method_23_code
def yX12_sizes : MethodName := ⟨RX12, "sizes", "(II)V"⟩
abbrev cX12_comes : ByteArray := prog_14_method_24_code
def yX12_comes : MethodName := ⟨RX12, "comes", "(I)I"⟩
abbrev cX12_wrong : ByteArray := prog_14_method_25_code
def yX12_wrong : MethodName := ⟨RX12, "wrong", "(I)Z"⟩
abbrev cX12_word : ByteArray := prog_14_method_26_code
def yX12_word : MethodName := ⟨RX12, "word", "()I"⟩
abbrev cX12_isDigit : ByteArray := prog_14_method_27_code
def yX12_isDigit : MethodName := ⟨RX12, "isDigit", "()Z"⟩
abbrev cX12_number : ByteArray := prog_14_method_28_code
def yX12_number : MethodName := ⟨RX12, "number", "(II)Z"⟩
abbrev cX12_next : ByteArray := prog_14_method_29_code
def yX12_next : MethodName := ⟨RX12, "next", "(II)Z"⟩
abbrev cX12_isWordFull : ByteArray := prog_14_method_30_code
def yX12_isWordFull : MethodName := ⟨RX12, "isWordFull", "(I)Z"⟩
abbrev cX12_isWordAt : ByteArray := prog_14_method_31_code
def yX12_isWordAt : MethodName := ⟨RX12, "isWordAt", "(I)Z"⟩
abbrev cX12_item : ByteArray := prog_14_method_32_code
def yX12_item : MethodName := ⟨RX12, "item", "()Z"⟩
abbrev cX12_keeps : ByteArray := prog_14_method_33_code
def yX12_keeps : MethodName := ⟨RX12, "keeps", "([II[IIZ)I"⟩
abbrev cX12_all_ : ByteArray := prog_14_method_34_code
def yX12_all_ : MethodName := ⟨RX12, "all", "([IZ)V"⟩
abbrev cX12_field : ByteArray := prog_14_method_35_code
def yX12_field : MethodName := ⟨RX12, "field", "(I)I"⟩
abbrev cX12_fault : ByteArray := prog_14_method_36_code
def yX12_fault : MethodName := ⟨RX12, "fault", "()I"⟩
abbrev cX12_size : ByteArray := prog_14_method_37_code
def yX12_size : MethodName := ⟨RX12, "size", "(II)I"⟩
abbrev cX12_soil : ByteArray := prog_14_method_38_code
def yX12_soil : MethodName := ⟨RX12, "soil", "(II)I"⟩
abbrev cX12_place : ByteArray := prog_14_method_39_code
def yX12_place : MethodName := ⟨RX12, "place", "(II)I"⟩
abbrev cX12_heir : ByteArray := prog_14_method_40_code
def yX12_heir : MethodName := ⟨RX12, "heir", "(I)I"⟩
abbrev cX12_worths : ByteArray := prog_14_method_41_code
def yX12_worths : MethodName := ⟨RX12, "worths", "(III)I"⟩
abbrev cX12_fond : ByteArray := prog_14_method_42_code
def yX12_fond : MethodName := ⟨RX12, "fond", "(IZ)I"⟩
abbrev cX12_heirOf : ByteArray := prog_14_method_43_code
def yX12_heirOf : MethodName := ⟨RX12, "heirOf", "(II)I"⟩
abbrev cX12_worthOf : ByteArray := prog_14_method_44_code
def yX12_worthOf : MethodName := ⟨RX12, "worthOf", "(IJ)I"⟩
abbrev cX12_worth : ByteArray := prog_14_method_45_code
def yX12_worth : MethodName := ⟨RX12, "worth", "(IJ)I"⟩
abbrev cX12_pieceOf : ByteArray := prog_14_method_46_code
def yX12_pieceOf : MethodName := ⟨RX12, "pieceOf", "(I)J"⟩
abbrev cX12_isOwner : ByteArray := prog_14_method_47_code
def yX12_isOwner : MethodName := ⟨RX12, "isOwner", "(I)Z"⟩
abbrev cX12_owner : ByteArray := prog_14_method_48_code
def yX12_owner : MethodName := ⟨RX12, "owner", "(I)I"⟩
abbrev cX12_own : ByteArray := prog_14_method_49_code
def yX12_own : MethodName := ⟨RX12, "own", "(JI)I"⟩
abbrev cX12_lay : ByteArray := prog_14_method_50_code
def yX12_lay : MethodName := ⟨RX12, "lay", "(III)I"⟩
abbrev cX12_owners : ByteArray := prog_14_method_51_code
def yX12_owners : MethodName := ⟨RX12, "owners", "(I)I"⟩
abbrev cX12_piece : ByteArray := prog_14_method_52_code
def yX12_piece : MethodName := ⟨RX12, "piece", "(I)J"⟩
abbrev cX12_hedgeOf : ByteArray := prog_14_method_53_code
def yX12_hedgeOf : MethodName := ⟨RX12, "hedgeOf", "()I"⟩
abbrev cX12_hedge : ByteArray := prog_14_method_54_code
def yX12_hedge : MethodName := ⟨RX12, "hedge", "()I"⟩
abbrev cX12_beside : ByteArray := prog_14_method_55_code
def yX12_beside : MethodName := ⟨RX12, "beside", "(J)J"⟩
abbrev cX12_grown : ByteArray := prog_14_method_56_code
def yX12_grown : MethodName := ⟨RX12, "grown", "(JJ)J"⟩
abbrev cX12_partsOf : ByteArray := prog_14_method_57_code
def yX12_partsOf : MethodName := ⟨RX12, "partsOf", "(J)I"⟩
abbrev cX12_parts : ByteArray := prog_14_method_58_code
def yX12_parts : MethodName := ⟨RX12, "parts", "(J)I"⟩
abbrev cX12_atRoad : ByteArray := prog_14_method_59_code
def yX12_atRoad : MethodName := ⟨RX12, "atRoad", "()J"⟩
abbrev cX12_faultyNow : ByteArray := prog_14_method_60_code
def yX12_faultyNow : MethodName := ⟨RX12, "faultyNow", "()I"⟩
abbrev cX12_shares : ByteArray := prog_14_method_61_code
def yX12_shares : MethodName := ⟨RX12, "shares", "()I"⟩
abbrev cX12_faulty : ByteArray := prog_14_method_62_code
def yX12_faulty : MethodName := ⟨RX12, "faulty", "()I"⟩
abbrev cX12_whose : ByteArray := prog_14_method_63_code
def yX12_whose : MethodName := ⟨RX12, "whose", "()I"⟩
abbrev cX12_lists : ByteArray := prog_14_method_64_code
def yX12_lists : MethodName := ⟨RX12, "lists", "(IZ)V"⟩
abbrev cX12_lists_ : ByteArray := prog_14_method_65_code
def yX12_lists_ : MethodName := ⟨RX12, "lists", "(I)V"⟩
abbrev cX12_spares : ByteArray := prog_14_method_66_code
def yX12_spares : MethodName := ⟨RX12, "spares", "(Z)V"⟩
abbrev cX12_tries : ByteArray := prog_14_method_67_code
def yX12_tries : MethodName := ⟨RX12, "tries", "(II)V"⟩
abbrev cX12_two : ByteArray := prog_14_method_68_code
def yX12_two : MethodName := ⟨RX12, "two", "(I)I"⟩
abbrev cX12_three : ByteArray := prog_14_method_69_code
def yX12_three : MethodName := ⟨RX12, "three", "(I)I"⟩
abbrev cX12_choose : ByteArray := prog_14_method_70_code
def yX12_choose : MethodName := ⟨RX12, "choose", "(III)I"⟩
abbrev cX12_envies : ByteArray := prog_14_method_71_code
def yX12_envies : MethodName := ⟨RX12, "envies", "(I)I"⟩
abbrev cX12_evens : ByteArray := prog_14_method_72_code
def yX12_evens : MethodName := ⟨RX12, "evens", "(I)I"⟩
abbrev cX12_bettered : ByteArray := prog_14_method_73_code
def yX12_bettered : MethodName := ⟨RX12, "bettered", "()I"⟩
abbrev cX12_better : ByteArray := prog_14_method_74_code
def yX12_better : MethodName := ⟨RX12, "better", "()I"⟩
abbrev cX12_mend : ByteArray := prog_14_method_75_code
def yX12_mend : MethodName := ⟨RX12, "mend", "(I)I"⟩
abbrev cX12_isFit : ByteArray := prog_14_method_76_code
def yX12_isFit : MethodName := ⟨RX12, "isFit", "(II)Z"⟩
abbrev cX12_fits : ByteArray := prog_14_method_77_code
def yX12_fits : MethodName := ⟨RX12, "fits", "(II)I"⟩
abbrev cX12_old : ByteArray := prog_14_method_78_code
def yX12_old : MethodName := ⟨RX12, "old", "(I)I"⟩
abbrev cX12_sure : ByteArray := prog_14_method_79_code
def yX12_sure : MethodName := ⟨RX12, "sure", "(II)J"⟩
abbrev cX12_judge : ByteArray := prog_14_method_80_code
def yX12_judge : MethodName := ⟨RX12, "judge", "(I)I"⟩
abbrev cX12_body : ByteArray := prog_14_method_81_code
def yX12_body : MethodName := ⟨RX12, "body", "(I)V"⟩
abbrev cX12_parting : ByteArray := prog_14_method_82_code
def yX12_parting : MethodName := ⟨RX12, "parting", "(II)I"⟩
abbrev cX12_weighing : ByteArray := prog_14_method_83_code
def yX12_weighing : MethodName := ⟨RX12, "weighing", "(II)I"⟩
abbrev cX12_hedging : ByteArray := prog_14_method_84_code
def yX12_hedging : MethodName := ⟨RX12, "hedging", "(II)I"⟩
abbrev cX12_act : ByteArray := prog_14_method_85_code
def yX12_act : MethodName := ⟨RX12, "act", "(III)I"⟩
abbrev cX12_trace : ByteArray := prog_14_method_86_code
def yX12_trace : MethodName := ⟨RX12, "trace", "(I)I"⟩
abbrev cX12_image : ByteArray := prog_14_method_87_code
def yX12_image : MethodName := ⟨RX12, "image", "()I"⟩
abbrev cX12_restore : ByteArray := prog_14_method_88_code
def yX12_restore : MethodName := ⟨RX12, "restore", "()I"⟩
abbrev cX12_status : ByteArray := prog_14_method_89_code
def yX12_status : MethodName := ⟨RX12, "status", "(I)I"⟩
def RJ13 : String := "java/lang/Long"
def TJ13 : u_T := fun k => match k with
  | _ => ("", "", "", false)
def tyJ13 : Nat → FieldType := fun k => match k with
  | _ => .int
theorem nmJ13 : ∀ a, a < 0 → ∀ b, b < 0 → a ≠ b → (TJ13 a).2.1 ≠ (TJ13 b).2.1 := by decide +kernel
theorem tyJ13_ok : ∀ k, k < 0 → parseFieldDescriptor (TJ13 k).2.2.1 = some (tyJ13 k) := by decide +kernel
abbrev cJ13_bitCount_95d88 : ByteArray := prog_15_method_50_code
def yJ13_bitCount_95d88 : MethodName := ⟨RJ13, "bitCount", "(J)I"⟩
def RJ9 : String := "java/lang/Math"
def TJ9 : u_T := fun k => match k with
  | _ => ("", "", "", false)
def tyJ9 : Nat → FieldType := fun k => match k with
  | _ => .int
theorem nmJ9 : ∀ a, a < 0 → ∀ b, b < 0 → a ≠ b → (TJ9 a).2.1 ≠ (TJ9 b).2.1 := by decide +kernel
theorem tyJ9_ok : ∀ k, k < 0 → parseFieldDescriptor (TJ9 k).2.2.1 = some (tyJ9 k) := by decide +kernel
abbrev cJ9_abs_0f7a4 : ByteArray := prog_16_method_59_code
def yJ9_abs_0f7a4 : MethodName := ⟨RJ9, "abs", "(I)I"⟩
abbrev cJ9_max_7cf53 : ByteArray := prog_16_method_65_code
def yJ9_max_7cf53 : MethodName := ⟨RJ9, "max", "(II)I"⟩
abbrev cJ9_min_7cf53 : ByteArray := prog_16_method_69_code
def yJ9_min_7cf53 : MethodName := ⟨RJ9, "min", "(II)I"⟩
def RJ0 : String := "java/lang/String"
def TJ0 : u_T := fun k => match k with
  | _ => ("", "", "", false)
def tyJ0 : Nat → FieldType := fun k => match k with
  | _ => .int
theorem nmJ0 : ∀ a, a < 0 → ∀ b, b < 0 → a ≠ b → (TJ0 a).2.1 ≠ (TJ0 b).2.1 := by decide +kernel
theorem tyJ0_ok : ∀ k, k < 0 → parseFieldDescriptor (TJ0 k).2.2.1 = some (tyJ0 k) := by decide +kernel
abbrev cJ0_length_8abf5 : ByteArray := prog_17_method_54_code
def yJ0_length_8abf5 : MethodName := ⟨RJ0, "length", "()I"⟩
abbrev cJ0_charAt_5068e : ByteArray := prog_17_method_56_code
def yJ0_charAt_5068e : MethodName := ⟨RJ0, "charAt", "(I)C"⟩
abbrev cJ0_coder_7d493 : ByteArray := prog_17_method_152_code
def yJ0_coder_7d493 : MethodName := ⟨RJ0, "coder", "()B"⟩
abbrev cJ0_isLatin1_aae02 : ByteArray := prog_17_method_154_code
def yJ0_isLatin1_aae02 : MethodName := ⟨RJ0, "isLatin1", "()Z"⟩
abbrev cJ0_checkIndex_df160 : ByteArray := prog_17_method_155_code
def yJ0_checkIndex_df160 : MethodName := ⟨RJ0, "checkIndex", "(II)V"⟩
def RJ1 : String := "java/lang/StringLatin1"
def TJ1 : u_T := fun k => match k with
  | _ => ("", "", "", false)
def tyJ1 : Nat → FieldType := fun k => match k with
  | _ => .int
theorem nmJ1 : ∀ a, a < 0 → ∀ b, b < 0 → a ≠ b → (TJ1 a).2.1 ≠ (TJ1 b).2.1 := by decide +kernel
theorem tyJ1_ok : ∀ k, k < 0 → parseFieldDescriptor (TJ1 k).2.2.1 = some (tyJ1 k) := by decide +kernel
abbrev cJ1_charAt_3b067 : ByteArray := prog_18_method_2_code
def yJ1_charAt_3b067 : MethodName := ⟨RJ1, "charAt", "([BI)C"⟩
def RJ2 : String := "java/lang/StringUTF16"
def TJ2 : u_T := fun k => match k with
  | _ => ("", "", "", false)
def tyJ2 : Nat → FieldType := fun k => match k with
  | _ => .int
theorem nmJ2 : ∀ a, a < 0 → ∀ b, b < 0 → a ≠ b → (TJ2 a).2.1 ≠ (TJ2 b).2.1 := by decide +kernel
theorem tyJ2_ok : ∀ k, k < 0 → parseFieldDescriptor (TJ2 k).2.2.1 = some (tyJ2 k) := by decide +kernel
abbrev cJ2_getChar_3b067 : ByteArray := prog_19_method_5_code
def yJ2_getChar_3b067 : MethodName := ⟨RJ2, "getChar", "([BI)C"⟩
abbrev cJ2_length_9d52b : ByteArray := prog_19_method_6_code
def yJ2_length_9d52b : MethodName := ⟨RJ2, "length", "([B)I"⟩
abbrev cJ2_charAt_3b067 : ByteArray := prog_19_method_83_code
def yJ2_charAt_3b067 : MethodName := ⟨RJ2, "charAt", "([BI)C"⟩
abbrev cJ2_checkIndex_2214a : ByteArray := prog_19_method_91_code
def yJ2_checkIndex_2214a : MethodName := ⟨RJ2, "checkIndex", "(I[B)V"⟩
def RJ10 : String := "java/lang/System"
def TJ10 : u_T := fun k => match k with
  | _ => ("", "", "", false)
def tyJ10 : Nat → FieldType := fun k => match k with
  | _ => .int
theorem nmJ10 : ∀ a, a < 0 → ∀ b, b < 0 → a ≠ b → (TJ10 a).2.1 ≠ (TJ10 b).2.1 := by decide +kernel
theorem tyJ10_ok : ∀ k, k < 0 → parseFieldDescriptor (TJ10 k).2.2.1 = some (tyJ10 k) := by decide +kernel
def RJ3 : String := "jdk/internal/util/Preconditions"
def TJ3 : u_T := fun k => match k with
  | _ => ("", "", "", false)
def tyJ3 : Nat → FieldType := fun k => match k with
  | _ => .int
theorem nmJ3 : ∀ a, a < 0 → ∀ b, b < 0 → a ≠ b → (TJ3 a).2.1 ≠ (TJ3 b).2.1 := by decide +kernel
theorem tyJ3_ok : ∀ k, k < 0 → parseFieldDescriptor (TJ3 k).2.2.1 = some (tyJ3 k) := by decide +kernel
abbrev cJ3_checkIndex_8e157 : ByteArray := prog_21_method_11_code
def yJ3_checkIndex_8e157 : MethodName := ⟨RJ3, "checkIndex", "(IILjava/util/function/BiFunction;)I"⟩
def RL : String := "BrothersFieldLaw"
abbrev cL_law : ByteArray := code
def yL_law : MethodName := ⟨RL, "law", "([I)Z"⟩
abbrev vwCl : List vw_C := [(RX0, TX0, 6), (RX1, TX1, 6), (RX2, TX2, 6), (RX3, TX3, 17), (RX4, TX4, 6), (RX5, TX5, 6), (RX6, TX6, 4), (RX7, TX7, 3), (RX8, TX8, 10), (RX9, TX9, 6), (RX10, TX10, 6), (RX11, TX11, 11), (RX12, TX12, 38)]
end
section
/-! ===== the methods by number, the rows of each: place, length, what it does, where its words stand ===== -/
abbrev sEt : Type := Nat × Nat × Instr × List Nat
def sT0 : List sEt := [(0, 1, .aload_n 0, []), (1, 1, .iload_n 1, []), (2, 1, .iload_n 2, []), (3, 1, .aload_n 3, []), (4, 3, .invokespecial 104, [1, 2162]), (7, 1, .return_, [])]
def sT1 : List sEt := [(0, 1, .iload_n 1, []), (1, 1, .iconst 4, []), (2, 3, .if_icmp .eq 11, []), (5, 1, .aload_n 0, []), (6, 1, .iload_n 1, []), (7, 3, .invokespecial 105, [7, 2223, 7153, 2169]), (10, 3, .ifCond .eq 7, []), (13, 1, .iconst 1, []), (14, 3, .goto 4, []), (17, 1, .iconst 0, []), (18, 1, .ireturn, [])]
def sT2 : List sEt := [(0, 1, .aload_n 1, []), (1, 1, .aload_n 0, []), (2, 3, .getfield 130, [11, 2079, 0, 2080]), (5, 3, .invokevirtual 28, [17, 3021]), (8, 1, .lreturn, [])]
def sT3 : List sEt := [(0, 1, .aload_n 0, []), (1, 3, .getfield 133, [23, 2110, 0, 2111]), (4, 2, .bipush 50, []), (6, 3, .invokevirtual 87, [27, 5092]), (9, 1, .aload_n 0, []), (10, 1, .iload_n 1, []), (11, 1, .iconst 1, []), (12, 1, .iadd, []), (13, 3, .invokespecial 14, [33, 5120, 5121, 2169, 2130]), (16, 1, .ireturn, [])]
def sT4 : List sEt := [(0, 1, .aload_n 0, []), (1, 3, .getfield 133, [23, 2110, 0, 2111]), (4, 2, .bipush 51, []), (6, 3, .invokevirtual 87, [27, 5092]), (9, 1, .aload_n 0, []), (10, 1, .iload_n 1, []), (11, 3, .invokespecial 107, [37, 5096, 7155, 2169]), (14, 1, .ineg, []), (15, 1, .ireturn, [])]
def sT5 : List sEt := [(0, 1, .aload_n 0, []), (1, 1, .iload_n 1, []), (2, 1, .iload_n 2, []), (3, 1, .aload_n 3, []), (4, 3, .invokespecial 9, [1, 2136]), (7, 1, .return_, [])]
def sT6 : List sEt := [(0, 1, .iload_n 1, []), (1, 1, .iconst 2, []), (2, 3, .if_icmp .eq 11, []), (5, 1, .aload_n 0, []), (6, 1, .iload_n 1, []), (7, 3, .invokespecial 10, [7, 2230, 2219, 2143]), (10, 3, .ifCond .eq 7, []), (13, 1, .iconst 1, []), (14, 3, .goto 4, []), (17, 1, .iconst 0, []), (18, 1, .ireturn, [])]
def sT7 : List sEt := [(0, 1, .aload_n 1, []), (1, 1, .aload_n 0, []), (2, 3, .getfield 130, [11, 2081, 1, 2082]), (5, 1, .aload_n 0, []), (6, 3, .getfield 131, [17, 2093, 1, 2094]), (9, 1, .aload_n 0, []), (10, 3, .getfield 132, [20, 2101, 1, 2102]), (13, 3, .invokevirtual 31, [23, 3028]), (16, 1, .lreturn, [])]
def sT8 : List sEt := [(0, 1, .aload_n 0, []), (1, 3, .getfield 133, [29, 2112, 1, 2113]), (4, 2, .bipush 30, []), (6, 3, .invokevirtual 87, [33, 5125]), (9, 1, .aload_n 0, []), (10, 1, .iload_n 1, []), (11, 3, .invokespecial 14, [39, 5126, 5116, 2143]), (14, 1, .iconst 3, []), (15, 1, .imul, []), (16, 1, .ireturn, [])]
def sT9 : List sEt := [(0, 1, .aload_n 0, []), (1, 3, .invokespecial 2000, [1, 2072, 1027, 1028]), (4, 1, .aload_n 0, []), (5, 1, .iload_n 2, []), (6, 3, .putfield 128, [7, 2073, 2, 0]), (9, 1, .aload_n 0, []), (10, 1, .iload_n 1, []), (11, 3, .putfield 129, [13, 2075, 2, 0]), (14, 1, .aload_n 0, []), (15, 1, .iload_n 2, []), (16, 2, .bipush 100, []), (18, 1, .idiv, []), (19, 2, .bipush 10, []), (21, 1, .irem, []), (22, 3, .putfield 130, [16, 2078, 2, 0]), (25, 1, .aload_n 0, []), (26, 1, .iload_n 2, []), (27, 2, .bipush 10, []), (29, 1, .idiv, []), (30, 2, .bipush 10, []), (32, 1, .irem, []), (33, 3, .putfield 131, [19, 2092, 2, 0]), (36, 1, .aload_n 0, []), (37, 1, .iload_n 2, []), (38, 2, .bipush 10, []), (40, 1, .irem, []), (41, 3, .putfield 132, [22, 2100, 2, 0]), (44, 1, .aload_n 0, []), (45, 1, .aload_n 3, []), (46, 3, .putfield 133, [25, 2105, 2, 0]), (49, 1, .return_, [])]
def sT10 : List sEt := [(0, 1, .iload_n 1, []), (1, 3, .ifCond .ne 7, []), (4, 1, .iconst 1, []), (5, 3, .goto 4, []), (8, 1, .iconst 0, []), (9, 1, .ireturn, [])]
def sT11 : List sEt := [(0, 1, .aload_n 1, []), (1, 2, .bipush 8, []), (3, 1, .aload_n 0, []), (4, 3, .getfield 130, [16, 2078, 2, 0]), (7, 1, .imul, []), (8, 1, .aload_n 0, []), (9, 3, .getfield 131, [19, 2092, 2, 0]), (12, 1, .iadd, []), (13, 3, .invokevirtual 27, [29, 3058]), (16, 1, .lreturn, [])]
def sT12 : List sEt := [(0, 1, .lconst 0, []), (1, 1, .lreturn, [])]
def sT13 : List sEt := [(0, 1, .aload_n 0, []), (1, 3, .getfield 133, [25, 2105, 2, 0]), (4, 2, .bipush 10, []), (6, 3, .invokevirtual 87, [35, 5112]), (9, 1, .iload_n 1, []), (10, 1, .aload_n 0, []), (11, 3, .getfield 129, [13, 2075, 2, 0]), (14, 1, .iadd, []), (15, 1, .ireturn, [])]
def sT14 : List sEt := [(0, 1, .aload_n 0, []), (1, 3, .getfield 133, [25, 2105, 2, 0]), (4, 2, .bipush 11, []), (6, 3, .invokevirtual 87, [35, 5112]), (9, 1, .aload_n 0, []), (10, 1, .iload_n 1, []), (11, 3, .invokevirtual 1003, [41, 5135]), (14, 1, .iconst 2, []), (15, 1, .imul, []), (16, 1, .ireturn, [])]
def sT15 : List sEt := [(0, 1, .aload_n 0, []), (1, 3, .getfield 133, [25, 2105, 2, 0]), (4, 2, .bipush 12, []), (6, 3, .invokevirtual 87, [35, 5112]), (9, 1, .aload_n 0, []), (10, 1, .iload_n 1, []), (11, 3, .invokevirtual 1004, [45, 5156]), (14, 1, .aload_n 0, []), (15, 1, .iload_n 1, []), (16, 1, .aload_n 0, []), (17, 3, .getfield 130, [16, 2078, 2, 0]), (20, 1, .isub, []), (21, 3, .invokevirtual 1003, [41, 5135]), (24, 1, .ixor, []), (25, 1, .ireturn, [])]
def sT16 : List sEt := [(0, 1, .aload_n 0, []), (1, 3, .invokespecial 2000, [3, 1056, 1027, 1028]), (4, 1, .aload_n 0, []), (5, 1, .iconst 0, []), (6, 3, .putfield 192, [9, 1069, 3, 0]), (9, 1, .aload_n 0, []), (10, 1, .iconst 0, []), (11, 3, .putfield 193, [15, 1072, 3, 0]), (14, 1, .aload_n 0, []), (15, 1, .lconst 0, []), (16, 3, .putfield 194, [18, 1075, 3, 0]), (19, 1, .aload_n 0, []), (20, 1, .lconst 0, []), (21, 3, .putfield 195, [22, 1079, 3, 0]), (24, 1, .aload_n 0, []), (25, 1, .lconst 0, []), (26, 3, .putfield 196, [25, 1080, 3, 0]), (29, 1, .aload_n 0, []), (30, 1, .lconst 0, []), (31, 3, .putfield 197, [28, 1081, 3, 0]), (34, 1, .aload_n 0, []), (35, 1, .lconst 0, []), (36, 3, .putfield 198, [31, 1082, 3, 0]), (39, 1, .aload_n 0, []), (40, 1, .iconst 0, []), (41, 3, .putfield 199, [34, 1083, 3, 0]), (44, 1, .aload_n 0, []), (45, 1, .iconst (-1), []), (46, 3, .putfield 200, [37, 1084, 3, 0]), (49, 1, .aload_n 0, []), (50, 1, .iconst (-1), []), (51, 3, .putfield 201, [40, 1085, 3, 0]), (54, 1, .aload_n 0, []), (55, 1, .iconst 1, []), (56, 3, .putfield 202, [43, 1086, 3, 0]), (59, 1, .aload_n 0, []), (60, 1, .iconst 0, []), (61, 3, .putfield 203, [46, 1087, 3, 0]), (64, 1, .aload_n 0, []), (65, 2, .bipush 6, []), (67, 2, .newarray .long, [1050]), (69, 3, .putfield 204, [49, 1091, 3, 0]), (72, 1, .aload_n 0, []), (73, 1, .iconst 5, []), (74, 2, .newarray .int, [1137]), (76, 3, .putfield 205, [53, 1092, 3, 0]), (79, 1, .aload_n 0, []), (80, 1, .iconst 5, []), (81, 2, .bipush 6, []), (83, 4, .multianewarray 0 2, [57, 1057, 1137]), (87, 3, .putfield 206, [59, 1094, 3, 0]), (90, 1, .aload_n 0, []), (91, 1, .iconst 5, []), (92, 2, .newarray .boolean, [1138]), (94, 3, .putfield 207, [62, 1097, 3, 0]), (97, 1, .aload_n 0, []), (98, 2, .bipush 7, []), (100, 2, .newarray .long, [1050]), (102, 3, .putfield 208, [66, 1099, 3, 0]), (105, 1, .aload_n 0, []), (106, 1, .iconst 4, []), (107, 1, .iconst 4, []), (108, 3, .invokevirtual 17, [69, 1058]), (111, 1, .return_, [])]
def sT17 : List sEt := [(0, 1, .aload_n 0, []), (1, 1, .iload_n 1, []), (2, 3, .putfield 192, [9, 1069, 3, 0]), (5, 1, .aload_n 0, []), (6, 1, .iload_n 2, []), (7, 3, .putfield 193, [15, 1072, 3, 0]), (10, 1, .aload_n 0, []), (11, 1, .aload_n 0, []), (12, 3, .getfield 192, [9, 1069, 3, 0]), (15, 1, .aload_n 0, []), (16, 3, .getfield 193, [15, 1072, 3, 0]), (19, 1, .imul, []), (20, 3, .invokestatic 26, [73, 1062]), (23, 3, .putfield 194, [18, 1075, 3, 0]), (26, 1, .aload_n 0, []), (27, 1, .lconst 0, []), (28, 3, .putfield 195, [22, 1079, 3, 0]), (31, 1, .iconst 0, []), (32, 1, .istore_n 3, []), (33, 1, .iload_n 3, []), (34, 1, .aload_n 0, []), (35, 3, .getfield 193, [15, 1072, 3, 0]), (38, 3, .if_icmp .ge 26, []), (41, 1, .aload_n 0, []), (42, 1, .dup, []), (43, 3, .getfield 195, [22, 1079, 3, 0]), (46, 1, .lconst 1, []), (47, 1, .iload_n 3, []), (48, 1, .aload_n 0, []), (49, 3, .getfield 192, [9, 1069, 3, 0]), (52, 1, .imul, []), (53, 1, .lshl, []), (54, 1, .lor, []), (55, 3, .putfield 195, [22, 1079, 3, 0]), (58, 3, .iinc 3 1, []), (61, 3, .goto (-28), []), (64, 1, .aload_n 0, []), (65, 1, .aload_n 0, []), (66, 3, .getfield 195, [22, 1079, 3, 0]), (69, 1, .aload_n 0, []), (70, 3, .getfield 192, [9, 1069, 3, 0]), (73, 1, .iconst 1, []), (74, 1, .isub, []), (75, 1, .lshl, []), (76, 3, .putfield 196, [25, 1080, 3, 0]), (79, 1, .aload_n 0, []), (80, 1, .aload_n 0, []), (81, 3, .getfield 192, [9, 1069, 3, 0]), (84, 3, .invokestatic 26, [73, 1062]), (87, 3, .putfield 197, [28, 1081, 3, 0]), (90, 1, .aload_n 0, []), (91, 1, .aload_n 0, []), (92, 3, .getfield 197, [28, 1081, 3, 0]), (95, 1, .aload_n 0, []), (96, 3, .getfield 192, [9, 1069, 3, 0]), (99, 1, .aload_n 0, []), (100, 3, .getfield 193, [15, 1072, 3, 0]), (103, 1, .iconst 1, []), (104, 1, .isub, []), (105, 1, .imul, []), (106, 1, .lshl, []), (107, 3, .putfield 198, [31, 1082, 3, 0]), (110, 1, .aload_n 0, []), (111, 1, .iconst (-1), []), (112, 3, .putfield 200, [37, 1084, 3, 0]), (115, 1, .aload_n 0, []), (116, 1, .iconst (-1), []), (117, 3, .putfield 201, [40, 1085, 3, 0]), (120, 1, .aload_n 0, []), (121, 3, .getfield 204, [49, 1091, 3, 0]), (124, 3, .invokestatic 20, [77, 1066]), (127, 1, .aload_n 0, []), (128, 3, .getfield 204, [49, 1091, 3, 0]), (131, 1, .iconst 0, []), (132, 1, .aload_n 0, []), (133, 3, .getfield 194, [18, 1075, 3, 0]), (136, 1, .lastore, []), (137, 1, .aload_n 0, []), (138, 3, .getfield 208, [66, 1099, 3, 0]), (141, 3, .invokestatic 20, [77, 1066]), (144, 1, .aload_n 0, []), (145, 3, .getfield 208, [66, 1099, 3, 0]), (148, 2, .bipush 6, []), (150, 1, .aload_n 0, []), (151, 3, .getfield 194, [18, 1075, 3, 0]), (154, 1, .lastore, []), (155, 1, .return_, [])]
def sT18 : List sEt := [(0, 1, .aload_n 0, []), (1, 1, .aload_n 1, []), (2, 3, .getfield 192, [9, 1069, 3, 0]), (5, 3, .putfield 192, [9, 1069, 3, 0]), (8, 1, .aload_n 0, []), (9, 1, .aload_n 1, []), (10, 3, .getfield 193, [15, 1072, 3, 0]), (13, 3, .putfield 193, [15, 1072, 3, 0]), (16, 1, .aload_n 0, []), (17, 1, .aload_n 1, []), (18, 3, .getfield 194, [18, 1075, 3, 0]), (21, 3, .putfield 194, [18, 1075, 3, 0]), (24, 1, .aload_n 0, []), (25, 1, .aload_n 1, []), (26, 3, .getfield 195, [22, 1079, 3, 0]), (29, 3, .putfield 195, [22, 1079, 3, 0]), (32, 1, .aload_n 0, []), (33, 1, .aload_n 1, []), (34, 3, .getfield 196, [25, 1080, 3, 0]), (37, 3, .putfield 196, [25, 1080, 3, 0]), (40, 1, .aload_n 0, []), (41, 1, .aload_n 1, []), (42, 3, .getfield 197, [28, 1081, 3, 0]), (45, 3, .putfield 197, [28, 1081, 3, 0]), (48, 1, .aload_n 0, []), (49, 1, .aload_n 1, []), (50, 3, .getfield 198, [31, 1082, 3, 0]), (53, 3, .putfield 198, [31, 1082, 3, 0]), (56, 1, .aload_n 0, []), (57, 1, .aload_n 1, []), (58, 3, .getfield 199, [34, 1083, 3, 0]), (61, 3, .putfield 199, [34, 1083, 3, 0]), (64, 1, .aload_n 0, []), (65, 1, .aload_n 1, []), (66, 3, .getfield 200, [37, 1084, 3, 0]), (69, 3, .putfield 200, [37, 1084, 3, 0]), (72, 1, .aload_n 0, []), (73, 1, .aload_n 1, []), (74, 3, .getfield 201, [40, 1085, 3, 0]), (77, 3, .putfield 201, [40, 1085, 3, 0]), (80, 1, .aload_n 0, []), (81, 1, .aload_n 1, []), (82, 3, .getfield 202, [43, 1086, 3, 0]), (85, 3, .putfield 202, [43, 1086, 3, 0]), (88, 1, .aload_n 0, []), (89, 1, .aload_n 1, []), (90, 3, .getfield 203, [46, 1087, 3, 0]), (93, 3, .putfield 203, [46, 1087, 3, 0]), (96, 1, .iconst 0, []), (97, 1, .istore_n 2, []), (98, 1, .iload_n 2, []), (99, 2, .bipush 6, []), (101, 3, .if_icmp .ge 21, []), (104, 1, .aload_n 0, []), (105, 3, .getfield 204, [49, 1091, 3, 0]), (108, 1, .iload_n 2, []), (109, 1, .aload_n 1, []), (110, 3, .getfield 204, [49, 1091, 3, 0]), (113, 1, .iload_n 2, []), (114, 1, .laload, []), (115, 1, .lastore, []), (116, 3, .iinc 2 1, []), (119, 3, .goto (-21), []), (122, 1, .iconst 0, []), (123, 1, .istore_n 2, []), (124, 1, .iload_n 2, []), (125, 2, .bipush 7, []), (127, 3, .if_icmp .ge 21, []), (130, 1, .aload_n 0, []), (131, 3, .getfield 208, [66, 1099, 3, 0]), (134, 1, .iload_n 2, []), (135, 1, .aload_n 1, []), (136, 3, .getfield 208, [66, 1099, 3, 0]), (139, 1, .iload_n 2, []), (140, 1, .laload, []), (141, 1, .lastore, []), (142, 3, .iinc 2 1, []), (145, 3, .goto (-21), []), (148, 1, .iconst 0, []), (149, 1, .istore_n 2, []), (150, 1, .iload_n 2, []), (151, 1, .iconst 5, []), (152, 3, .if_icmp .ge 63, []), (155, 1, .aload_n 0, []), (156, 3, .getfield 205, [53, 1092, 3, 0]), (159, 1, .iload_n 2, []), (160, 1, .aload_n 1, []), (161, 3, .getfield 205, [53, 1092, 3, 0]), (164, 1, .iload_n 2, []), (165, 1, .iaload, []), (166, 1, .iastore, []), (167, 1, .aload_n 0, []), (168, 3, .getfield 207, [62, 1097, 3, 0]), (171, 1, .iload_n 2, []), (172, 1, .aload_n 1, []), (173, 3, .getfield 207, [62, 1097, 3, 0]), (176, 1, .iload_n 2, []), (177, 1, .baload, []), (178, 1, .bastore, []), (179, 1, .iconst 0, []), (180, 1, .istore_n 3, []), (181, 1, .iload_n 3, []), (182, 2, .bipush 6, []), (184, 3, .if_icmp .ge 25, []), (187, 1, .aload_n 0, []), (188, 3, .getfield 206, [59, 1094, 3, 0]), (191, 1, .iload_n 2, []), (192, 1, .aaload, []), (193, 1, .iload_n 3, []), (194, 1, .aload_n 1, []), (195, 3, .getfield 206, [59, 1094, 3, 0]), (198, 1, .iload_n 2, []), (199, 1, .aaload, []), (200, 1, .iload_n 3, []), (201, 1, .iaload, []), (202, 1, .iastore, []), (203, 3, .iinc 3 1, []), (206, 3, .goto (-25), []), (209, 3, .iinc 2 1, []), (212, 3, .goto (-62), []), (215, 1, .return_, [])]
def sT19 : List sEt := [(0, 1, .iload_n 3, []), (1, 3, .ifCond .lt 9, []), (4, 1, .iload_n 3, []), (5, 1, .aload_n 0, []), (6, 1, .arraylength, []), (7, 3, .if_icmp .lt 4, []), (10, 1, .return_, []), (11, 1, .iconst 0, []), (12, 2, .istore 4, []), (14, 2, .iload 4, []), (16, 1, .aload_n 0, []), (17, 1, .arraylength, []), (18, 3, .if_icmp .ge 21, []), (21, 1, .aload_n 0, []), (22, 2, .iload 4, []), (24, 1, .dup2, []), (25, 1, .laload, []), (26, 1, .lload_n 1, []), (27, 3, .ldc2_w 18446744073709551615, [81, 1065]), (30, 1, .lxor, []), (31, 1, .land, []), (32, 1, .lastore, []), (33, 3, .iinc 4 1, []), (36, 3, .goto (-22), []), (39, 1, .aload_n 0, []), (40, 1, .iload_n 3, []), (41, 1, .dup2, []), (42, 1, .laload, []), (43, 1, .lload_n 1, []), (44, 1, .lor, []), (45, 1, .lastore, []), (46, 1, .return_, [])]
def sT20 : List sEt := [(0, 1, .iconst 0, []), (1, 1, .istore_n 1, []), (2, 1, .iload_n 1, []), (3, 1, .aload_n 0, []), (4, 1, .arraylength, []), (5, 3, .if_icmp .ge 13, []), (8, 1, .aload_n 0, []), (9, 1, .iload_n 1, []), (10, 1, .lconst 0, []), (11, 1, .lastore, []), (12, 3, .iinc 1 1, []), (15, 3, .goto (-13), []), (18, 1, .return_, [])]
def sT21 : List sEt := [(0, 1, .aload_n 0, []), (1, 3, .getfield 192, [9, 1069, 3, 0]), (4, 1, .aload_n 0, []), (5, 3, .getfield 193, [15, 1072, 3, 0]), (8, 1, .imul, []), (9, 1, .ireturn, [])]
def sT22 : List sEt := [(0, 1, .iload_n 1, []), (1, 3, .ifCond .lt 20, []), (4, 1, .iload_n 1, []), (5, 1, .aload_n 0, []), (6, 3, .getfield 192, [9, 1069, 3, 0]), (9, 1, .aload_n 0, []), (10, 3, .getfield 193, [15, 1072, 3, 0]), (13, 1, .imul, []), (14, 3, .if_icmp .ge 7, []), (17, 1, .iconst 1, []), (18, 3, .goto 4, []), (21, 1, .iconst 0, []), (22, 1, .ireturn, [])]
def sT23 : List sEt := [(0, 1, .iload_n 1, []), (1, 3, .ifCond .lt 20, []), (4, 1, .iload_n 1, []), (5, 1, .aload_n 0, []), (6, 3, .getfield 203, [46, 1087, 3, 0]), (9, 3, .if_icmp .ge 12, []), (12, 1, .iload_n 1, []), (13, 1, .iconst 5, []), (14, 3, .if_icmp .ge 7, []), (17, 1, .iconst 1, []), (18, 3, .goto 4, []), (21, 1, .iconst 0, []), (22, 1, .ireturn, [])]
def sT24 : List sEt := [(0, 1, .lload_n 1, []), (1, 1, .aload_n 0, []), (2, 3, .getfield 194, [18, 1075, 3, 0]), (5, 3, .ldc2_w 18446744073709551615, [81, 1065]), (8, 1, .lxor, []), (9, 1, .land, []), (10, 1, .lconst 0, []), (11, 1, .lcmp, []), (12, 3, .ifCond .ne 7, []), (15, 1, .iconst 1, []), (16, 3, .goto 4, []), (19, 1, .iconst 0, []), (20, 1, .ireturn, [])]
def sT25 : List sEt := [(0, 1, .aload_n 0, []), (1, 1, .iload_n 1, []), (2, 3, .invokevirtual 22, [83, 4040]), (5, 3, .ifCond .eq 9, []), (8, 1, .lconst 1, []), (9, 1, .iload_n 1, []), (10, 1, .lshl, []), (11, 3, .goto 4, []), (14, 1, .lconst 0, []), (15, 1, .lreturn, [])]
def sT26 : List sEt := [(0, 1, .iload_n 0, []), (1, 3, .ifCond .gt 5, []), (4, 1, .lconst 0, []), (5, 1, .lreturn, []), (6, 1, .iload_n 0, []), (7, 2, .bipush 64, []), (9, 3, .if_icmp .lt 9, []), (12, 3, .ldc2_w 18446744073709551615, [81, 1065]), (15, 3, .goto 8, []), (18, 1, .lconst 1, []), (19, 1, .iload_n 0, []), (20, 1, .lshl, []), (21, 1, .lconst 1, []), (22, 1, .lsub, []), (23, 1, .lreturn, [])]
def sT27 : List sEt := [(0, 1, .iload_n 1, []), (1, 3, .invokestatic 26, [73, 1062]), (4, 1, .aload_n 0, []), (5, 3, .getfield 194, [18, 1075, 3, 0]), (8, 1, .land, []), (9, 1, .lreturn, [])]
def sT28 : List sEt := [(0, 1, .iload_n 1, []), (1, 1, .aload_n 0, []), (2, 3, .getfield 192, [9, 1069, 3, 0]), (5, 1, .imul, []), (6, 3, .invokestatic 26, [73, 1062]), (9, 1, .aload_n 0, []), (10, 3, .getfield 194, [18, 1075, 3, 0]), (13, 1, .land, []), (14, 1, .lreturn, [])]
def sT29 : List sEt := [(0, 1, .lconst 0, []), (1, 1, .lstore_n 2, []), (2, 1, .iconst 0, []), (3, 2, .istore 4, []), (5, 2, .iload 4, []), (7, 1, .aload_n 0, []), (8, 3, .getfield 192, [9, 1069, 3, 0]), (11, 3, .if_icmp .ge 25, []), (14, 2, .iload 4, []), (16, 1, .iload_n 1, []), (17, 3, .if_icmp .ge 19, []), (20, 1, .lload_n 2, []), (21, 1, .aload_n 0, []), (22, 3, .getfield 195, [22, 1079, 3, 0]), (25, 2, .iload 4, []), (27, 1, .lshl, []), (28, 1, .lor, []), (29, 1, .lstore_n 2, []), (30, 3, .iinc 4 1, []), (33, 3, .goto (-28), []), (36, 1, .lload_n 2, []), (37, 1, .lreturn, [])]
def sT30 : List sEt := [(0, 1, .aload_n 0, []), (1, 1, .iload_n 1, []), (2, 3, .invokevirtual 29, [87, 3033]), (5, 1, .aload_n 0, []), (6, 1, .iload_n 2, []), (7, 3, .invokevirtual 28, [90, 3032]), (10, 1, .land, []), (11, 1, .lreturn, [])]
def sT31 : List sEt := [(0, 1, .aload_n 0, []), (1, 1, .iload_n 2, []), (2, 3, .invokevirtual 28, [90, 3032]), (5, 2, .lstore 4, []), (7, 1, .aload_n 0, []), (8, 1, .iload_n 1, []), (9, 3, .invokevirtual 29, [87, 3033]), (12, 2, .lload 4, []), (14, 1, .land, []), (15, 1, .aload_n 0, []), (16, 1, .iload_n 3, []), (17, 3, .invokevirtual 29, [87, 3033]), (20, 2, .lload 4, []), (22, 3, .ldc2_w 18446744073709551615, [81, 1065]), (25, 1, .lxor, []), (26, 1, .land, []), (27, 1, .lor, []), (28, 1, .lreturn, [])]
def sT32 : List sEt := [(0, 1, .iconst 0, []), (1, 1, .istore_n 2, []), (2, 1, .iload_n 2, []), (3, 2, .bipush 6, []), (5, 3, .if_icmp .ge 28, []), (8, 1, .aload_n 0, []), (9, 3, .getfield 204, [49, 1091, 3, 0]), (12, 1, .iload_n 2, []), (13, 1, .laload, []), (14, 1, .aload_n 0, []), (15, 1, .iload_n 1, []), (16, 3, .invokevirtual 25, [93, 4036]), (19, 1, .land, []), (20, 1, .lconst 0, []), (21, 1, .lcmp, []), (22, 3, .ifCond .eq 5, []), (25, 1, .iload_n 2, []), (26, 1, .ireturn, []), (27, 3, .iinc 2 1, []), (30, 3, .goto (-28), []), (33, 1, .iconst 0, []), (34, 1, .ireturn, [])]
def sT33 : List sEt := [(0, 1, .aload_n 0, []), (1, 3, .getfield 204, [49, 1091, 3, 0]), (4, 1, .lload_n 1, []), (5, 1, .iload_n 3, []), (6, 3, .invokestatic 19, [96, 3217]), (9, 1, .return_, [])]
def sT34 : List sEt := [(0, 1, .iload_n 1, []), (1, 27, .tableswitch 42 0 2 #[27, 32, 37], []), (28, 1, .aload_n 0, []), (29, 3, .getfield 199, [34, 1083, 3, 0]), (32, 1, .ireturn, []), (33, 1, .aload_n 0, []), (34, 3, .getfield 200, [37, 1084, 3, 0]), (37, 1, .ireturn, []), (38, 1, .aload_n 0, []), (39, 3, .getfield 201, [40, 1085, 3, 0]), (42, 1, .ireturn, []), (43, 1, .aload_n 0, []), (44, 3, .getfield 202, [43, 1086, 3, 0]), (47, 1, .ireturn, [])]
def sT35 : List sEt := [(0, 1, .iload_n 1, []), (1, 27, .tableswitch 51 0 2 #[27, 35, 43], []), (28, 1, .aload_n 0, []), (29, 1, .iload_n 2, []), (30, 3, .putfield 199, [34, 1083, 3, 0]), (33, 3, .goto 24, []), (36, 1, .aload_n 0, []), (37, 1, .iload_n 2, []), (38, 3, .putfield 200, [37, 1084, 3, 0]), (41, 3, .goto 16, []), (44, 1, .aload_n 0, []), (45, 1, .iload_n 2, []), (46, 3, .putfield 201, [40, 1085, 3, 0]), (49, 3, .goto 8, []), (52, 1, .aload_n 0, []), (53, 1, .iload_n 2, []), (54, 3, .putfield 202, [43, 1086, 3, 0]), (57, 1, .return_, [])]
def sT36 : List sEt := [(0, 1, .aload_n 0, []), (1, 3, .getfield 203, [46, 1087, 3, 0]), (4, 3, .ifCond .lt 11, []), (7, 1, .aload_n 0, []), (8, 3, .getfield 203, [46, 1087, 3, 0]), (11, 1, .iconst 5, []), (12, 3, .if_icmp .lt 5, []), (15, 1, .iconst (-1), []), (16, 1, .ireturn, []), (17, 1, .aload_n 0, []), (18, 3, .getfield 205, [53, 1092, 3, 0]), (21, 1, .aload_n 0, []), (22, 3, .getfield 203, [46, 1087, 3, 0]), (25, 1, .iload_n 1, []), (26, 1, .iastore, []), (27, 1, .aload_n 0, []), (28, 3, .getfield 207, [62, 1097, 3, 0]), (31, 1, .aload_n 0, []), (32, 3, .getfield 203, [46, 1087, 3, 0]), (35, 1, .iconst 0, []), (36, 1, .bastore, []), (37, 1, .iconst 0, []), (38, 1, .istore_n 2, []), (39, 1, .iload_n 2, []), (40, 2, .bipush 6, []), (42, 3, .if_icmp .ge 22, []), (45, 1, .aload_n 0, []), (46, 3, .getfield 206, [59, 1094, 3, 0]), (49, 1, .aload_n 0, []), (50, 3, .getfield 203, [46, 1087, 3, 0]), (53, 1, .aaload, []), (54, 1, .iload_n 2, []), (55, 2, .bipush 10, []), (57, 1, .iastore, []), (58, 3, .iinc 2 1, []), (61, 3, .goto (-22), []), (64, 1, .aload_n 0, []), (65, 1, .dup, []), (66, 3, .getfield 203, [46, 1087, 3, 0]), (69, 1, .iconst 1, []), (70, 1, .iadd, []), (71, 3, .putfield 203, [46, 1087, 3, 0]), (74, 1, .aload_n 0, []), (75, 3, .getfield 203, [46, 1087, 3, 0]), (78, 1, .iconst 1, []), (79, 1, .isub, []), (80, 1, .ireturn, [])]
def sT37 : List sEt := [(0, 1, .aload_n 0, []), (1, 1, .iload_n 1, []), (2, 3, .invokevirtual 23, [100, 4085]), (5, 3, .ifCond .ne 5, []), (8, 1, .iconst 0, []), (9, 1, .ireturn, []), (10, 1, .iconst 0, []), (11, 2, .istore 4, []), (13, 1, .iconst 0, []), (14, 2, .istore 5, []), (16, 2, .iload 5, []), (18, 2, .bipush 6, []), (20, 3, .if_icmp .ge 36, []), (23, 2, .iload 4, []), (25, 1, .aload_n 0, []), (26, 3, .getfield 206, [59, 1094, 3, 0]), (29, 1, .iload_n 1, []), (30, 1, .aaload, []), (31, 2, .iload 5, []), (33, 1, .iaload, []), (34, 1, .lload_n 2, []), (35, 1, .aload_n 0, []), (36, 3, .getfield 204, [49, 1091, 3, 0]), (39, 2, .iload 5, []), (41, 1, .laload, []), (42, 1, .land, []), (43, 3, .invokestatic 257, [103, 4086]), (46, 1, .imul, []), (47, 1, .iadd, []), (48, 2, .istore 4, []), (50, 3, .iinc 5 1, []), (53, 3, .goto (-37), []), (56, 1, .aload_n 0, []), (57, 3, .getfield 201, [40, 1085, 3, 0]), (60, 1, .iconst (-1), []), (61, 3, .if_icmp .eq 20, []), (64, 1, .lload_n 2, []), (65, 1, .aload_n 0, []), (66, 3, .getfield 201, [40, 1085, 3, 0]), (69, 1, .lushr, []), (70, 1, .lconst 1, []), (71, 1, .land, []), (72, 1, .lconst 0, []), (73, 1, .lcmp, []), (74, 3, .ifCond .eq 7, []), (77, 1, .iconst 1, []), (78, 3, .goto 4, []), (81, 1, .iconst 0, []), (82, 2, .istore 5, []), (84, 2, .iload 5, []), (86, 3, .ifCond .eq 20, []), (89, 1, .aload_n 0, []), (90, 3, .getfield 207, [62, 1097, 3, 0]), (93, 1, .iload_n 1, []), (94, 1, .baload, []), (95, 3, .ifCond .eq 11, []), (98, 2, .iload 4, []), (100, 2, .bipush 20, []), (102, 1, .iadd, []), (103, 3, .goto 5, []), (106, 2, .iload 4, []), (108, 1, .ireturn, [])]
def sT38 : List sEt := [(0, 1, .iconst 0, []), (1, 1, .istore_n 1, []), (2, 1, .iconst 0, []), (3, 1, .istore_n 2, []), (4, 1, .iload_n 2, []), (5, 1, .aload_n 0, []), (6, 3, .getfield 203, [46, 1087, 3, 0]), (9, 3, .if_icmp .ge 23, []), (12, 1, .iload_n 2, []), (13, 1, .iconst 5, []), (14, 3, .if_icmp .ge 18, []), (17, 1, .iload_n 1, []), (18, 1, .aload_n 0, []), (19, 3, .getfield 205, [53, 1092, 3, 0]), (22, 1, .iload_n 2, []), (23, 1, .iaload, []), (24, 1, .iadd, []), (25, 1, .istore_n 1, []), (26, 3, .iinc 2 1, []), (29, 3, .goto (-25), []), (32, 1, .iload_n 1, []), (33, 1, .ireturn, [])]
def sT39 : List sEt := [(0, 1, .aload_n 0, []), (1, 1, .iload_n 1, []), (2, 3, .invokevirtual 23, [100, 4085]), (5, 3, .ifCond .ne 5, []), (8, 1, .iconst 0, []), (9, 1, .ireturn, []), (10, 1, .aload_n 0, []), (11, 1, .iload_n 1, []), (12, 1, .lload_n 2, []), (13, 3, .invokevirtual 37, [109, 4171]), (16, 1, .aload_n 0, []), (17, 3, .invokevirtual 38, [113, 4172]), (20, 1, .imul, []), (21, 1, .aload_n 0, []), (22, 3, .getfield 205, [53, 1092, 3, 0]), (25, 1, .iload_n 1, []), (26, 1, .iaload, []), (27, 1, .aload_n 0, []), (28, 1, .iload_n 1, []), (29, 1, .aload_n 0, []), (30, 3, .getfield 194, [18, 1075, 3, 0]), (33, 3, .invokevirtual 37, [109, 4171]), (36, 1, .imul, []), (37, 1, .isub, []), (38, 1, .ireturn, [])]
def sT40 : List sEt := [(0, 1, .iload_n 1, []), (1, 2, .bipush 9, []), (3, 3, .if_icmp .ne 5, []), (6, 1, .iconst 5, []), (7, 1, .ireturn, []), (8, 1, .iload_n 1, []), (9, 1, .iconst (-1), []), (10, 3, .if_icmp .ne 6, []), (13, 2, .bipush 6, []), (15, 1, .ireturn, []), (16, 1, .aload_n 0, []), (17, 1, .iload_n 1, []), (18, 3, .invokevirtual 23, [100, 4085]), (21, 3, .ifCond .eq 7, []), (24, 1, .iload_n 1, []), (25, 3, .goto 4, []), (28, 1, .iconst (-1), []), (29, 1, .ireturn, [])]
def sT41 : List sEt := [(0, 1, .aload_n 0, []), (1, 1, .iload_n 1, []), (2, 3, .invokevirtual 25, [93, 4036]), (5, 1, .lstore_n 2, []), (6, 1, .aload_n 0, []), (7, 3, .getfield 208, [66, 1099, 3, 0]), (10, 1, .iconst 5, []), (11, 1, .laload, []), (12, 1, .lload_n 2, []), (13, 1, .land, []), (14, 1, .lconst 0, []), (15, 1, .lcmp, []), (16, 3, .ifCond .eq 6, []), (19, 2, .bipush 9, []), (21, 1, .ireturn, []), (22, 1, .iconst 0, []), (23, 2, .istore 4, []), (25, 2, .iload 4, []), (27, 1, .iconst 5, []), (28, 3, .if_icmp .ge 26, []), (31, 1, .aload_n 0, []), (32, 3, .getfield 208, [66, 1099, 3, 0]), (35, 2, .iload 4, []), (37, 1, .laload, []), (38, 1, .lload_n 2, []), (39, 1, .land, []), (40, 1, .lconst 0, []), (41, 1, .lcmp, []), (42, 3, .ifCond .eq 6, []), (45, 2, .iload 4, []), (47, 1, .ireturn, []), (48, 3, .iinc 4 1, []), (51, 3, .goto (-26), []), (54, 1, .iconst (-1), []), (55, 1, .ireturn, [])]
def sT42 : List sEt := [(0, 1, .aload_n 0, []), (1, 3, .getfield 194, [18, 1075, 3, 0]), (4, 1, .aload_n 0, []), (5, 3, .getfield 208, [66, 1099, 3, 0]), (8, 1, .iconst 5, []), (9, 1, .laload, []), (10, 3, .ldc2_w 18446744073709551615, [81, 1065]), (13, 1, .lxor, []), (14, 1, .land, []), (15, 1, .aload_n 0, []), (16, 3, .getfield 208, [66, 1099, 3, 0]), (19, 2, .bipush 6, []), (21, 1, .laload, []), (22, 3, .ldc2_w 18446744073709551615, [81, 1065]), (25, 1, .lxor, []), (26, 1, .land, []), (27, 3, .invokestatic 257, [103, 4086]), (30, 1, .ireturn, [])]
def sT43 : List sEt := [(0, 1, .iconst 0, []), (1, 1, .istore_n 2, []), (2, 1, .iconst 0, []), (3, 1, .istore_n 3, []), (4, 1, .iload_n 3, []), (5, 2, .bipush 7, []), (7, 3, .if_icmp .ge 44, []), (10, 1, .iload_n 3, []), (11, 1, .aload_n 1, []), (12, 1, .arraylength, []), (13, 3, .if_icmp .ge 38, []), (16, 1, .iload_n 2, []), (17, 1, .aload_n 1, []), (18, 1, .iload_n 3, []), (19, 1, .laload, []), (20, 1, .aload_n 0, []), (21, 3, .getfield 208, [66, 1099, 3, 0]), (24, 1, .iload_n 3, []), (25, 1, .laload, []), (26, 3, .ldc2_w 18446744073709551615, [81, 1065]), (29, 1, .lxor, []), (30, 1, .land, []), (31, 3, .invokestatic 257, [103, 4086]), (34, 1, .iadd, []), (35, 1, .istore_n 2, []), (36, 1, .aload_n 0, []), (37, 3, .getfield 208, [66, 1099, 3, 0]), (40, 1, .iload_n 3, []), (41, 1, .aload_n 1, []), (42, 1, .iload_n 3, []), (43, 1, .laload, []), (44, 1, .lastore, []), (45, 3, .iinc 3 1, []), (48, 3, .goto (-44), []), (51, 1, .iload_n 2, []), (52, 1, .ireturn, [])]
def sT44 : List sEt := [(0, 1, .lload_n 1, []), (1, 1, .aload_n 0, []), (2, 3, .getfield 192, [9, 1069, 3, 0]), (5, 1, .lshl, []), (6, 1, .lload_n 1, []), (7, 1, .aload_n 0, []), (8, 3, .getfield 192, [9, 1069, 3, 0]), (11, 1, .lushr, []), (12, 1, .lor, []), (13, 1, .lload_n 1, []), (14, 1, .aload_n 0, []), (15, 3, .getfield 196, [25, 1080, 3, 0]), (18, 3, .ldc2_w 18446744073709551615, [81, 1065]), (21, 1, .lxor, []), (22, 1, .land, []), (23, 1, .iconst 1, []), (24, 1, .lshl, []), (25, 1, .lor, []), (26, 1, .lload_n 1, []), (27, 1, .aload_n 0, []), (28, 3, .getfield 195, [22, 1079, 3, 0]), (31, 3, .ldc2_w 18446744073709551615, [81, 1065]), (34, 1, .lxor, []), (35, 1, .land, []), (36, 1, .iconst 1, []), (37, 1, .lushr, []), (38, 1, .lor, []), (39, 1, .lstore_n 3, []), (40, 1, .lload_n 1, []), (41, 1, .lload_n 3, []), (42, 1, .lor, []), (43, 1, .aload_n 0, []), (44, 3, .getfield 194, [18, 1075, 3, 0]), (47, 1, .land, []), (48, 1, .lreturn, [])]
def sT45 : List sEt := [(0, 1, .lload_n 1, []), (1, 1, .lload_n 3, []), (2, 1, .land, []), (3, 2, .lstore 5, []), (5, 1, .iconst 0, []), (6, 2, .istore 7, []), (8, 2, .iload 7, []), (10, 2, .bipush 64, []), (12, 3, .if_icmp .ge 34, []), (15, 1, .aload_n 0, []), (16, 2, .lload 5, []), (18, 3, .invokevirtual 44, [117, 4151]), (21, 1, .lload_n 3, []), (22, 1, .land, []), (23, 2, .lstore 8, []), (25, 2, .lload 8, []), (27, 2, .lload 5, []), (29, 1, .lcmp, []), (30, 3, .ifCond .ne 6, []), (33, 2, .lload 5, []), (35, 1, .lreturn, []), (36, 2, .lload 8, []), (38, 2, .lstore 5, []), (40, 3, .iinc 7 1, []), (43, 3, .goto (-35), []), (46, 2, .lload 5, []), (48, 1, .lreturn, [])]
def sT46 : List sEt := [(0, 1, .lload_n 1, []), (1, 1, .aload_n 0, []), (2, 3, .getfield 194, [18, 1075, 3, 0]), (5, 1, .land, []), (6, 1, .lstore_n 3, []), (7, 1, .iconst 0, []), (8, 2, .istore 5, []), (10, 1, .lload_n 3, []), (11, 1, .lconst 0, []), (12, 1, .lcmp, []), (13, 3, .ifCond .eq 32, []), (16, 2, .iload 5, []), (18, 2, .bipush 64, []), (20, 3, .if_icmp .ge 25, []), (23, 1, .lload_n 3, []), (24, 1, .aload_n 0, []), (25, 1, .lload_n 3, []), (26, 1, .lload_n 3, []), (27, 1, .lneg, []), (28, 1, .land, []), (29, 1, .lload_n 3, []), (30, 3, .invokevirtual 45, [121, 4147]), (33, 3, .ldc2_w 18446744073709551615, [81, 1065]), (36, 1, .lxor, []), (37, 1, .land, []), (38, 1, .lstore_n 3, []), (39, 3, .iinc 5 1, []), (42, 3, .goto (-32), []), (45, 2, .iload 5, []), (47, 1, .ireturn, [])]
def sT47 : List sEt := [(0, 1, .iconst 0, []), (1, 1, .istore_n 2, []), (2, 1, .iconst 0, []), (3, 1, .istore_n 3, []), (4, 1, .iload_n 3, []), (5, 1, .aload_n 1, []), (6, 1, .arraylength, []), (7, 3, .if_icmp .ge 50, []), (10, 1, .aload_n 1, []), (11, 1, .iload_n 3, []), (12, 1, .laload, []), (13, 2, .lstore 4, []), (15, 1, .iload_n 2, []), (16, 2, .lload 4, []), (18, 1, .aload_n 0, []), (19, 3, .getfield 196, [25, 1080, 3, 0]), (22, 3, .ldc2_w 18446744073709551615, [81, 1065]), (25, 1, .lxor, []), (26, 1, .land, []), (27, 2, .lload 4, []), (29, 1, .iconst 1, []), (30, 1, .lushr, []), (31, 1, .land, []), (32, 3, .invokestatic 257, [103, 4086]), (35, 2, .lload 4, []), (37, 2, .lload 4, []), (39, 1, .aload_n 0, []), (40, 3, .getfield 192, [9, 1069, 3, 0]), (43, 1, .lushr, []), (44, 1, .land, []), (45, 3, .invokestatic 257, [103, 4086]), (48, 1, .iadd, []), (49, 1, .iadd, []), (50, 1, .istore_n 2, []), (51, 3, .iinc 3 1, []), (54, 3, .goto (-50), []), (57, 1, .aload_n 0, []), (58, 3, .getfield 193, [15, 1072, 3, 0]), (61, 1, .aload_n 0, []), (62, 3, .getfield 192, [9, 1069, 3, 0]), (65, 1, .iconst 1, []), (66, 1, .isub, []), (67, 1, .imul, []), (68, 1, .aload_n 0, []), (69, 3, .getfield 192, [9, 1069, 3, 0]), (72, 1, .aload_n 0, []), (73, 3, .getfield 193, [15, 1072, 3, 0]), (76, 1, .iconst 1, []), (77, 1, .isub, []), (78, 1, .imul, []), (79, 1, .iadd, []), (80, 1, .iload_n 2, []), (81, 1, .isub, []), (82, 1, .ireturn, [])]
def sT48 : List sEt := [(0, 1, .aload_n 1, []), (1, 1, .arraylength, []), (2, 2, .bipush 7, []), (4, 3, .if_icmp .ge 5, []), (7, 1, .iconst 0, []), (8, 1, .ireturn, []), (9, 1, .aload_n 1, []), (10, 2, .bipush 6, []), (12, 1, .laload, []), (13, 1, .lstore_n 2, []), (14, 1, .lload_n 2, []), (15, 1, .lconst 0, []), (16, 1, .lcmp, []), (17, 3, .ifCond .eq 16, []), (20, 2, .bipush 100, []), (22, 1, .lload_n 2, []), (23, 1, .lload_n 2, []), (24, 1, .lneg, []), (25, 1, .land, []), (26, 1, .lconst 1, []), (27, 1, .lsub, []), (28, 3, .invokestatic 257, [103, 4086]), (31, 1, .iadd, []), (32, 1, .ireturn, []), (33, 1, .iconst 2, []), (34, 2, .istore 4, []), (36, 2, .iload 4, []), (38, 1, .iconst 5, []), (39, 3, .if_icmp .gt 60, []), (42, 1, .iconst 0, []), (43, 2, .istore 5, []), (45, 2, .iload 5, []), (47, 1, .aload_n 0, []), (48, 3, .getfield 203, [46, 1087, 3, 0]), (51, 3, .if_icmp .ge 42, []), (54, 2, .iload 5, []), (56, 1, .iconst 5, []), (57, 3, .if_icmp .ge 36, []), (60, 1, .aload_n 0, []), (61, 2, .iload 4, []), (63, 2, .iload 5, []), (65, 1, .aload_n 1, []), (66, 2, .iload 5, []), (68, 1, .laload, []), (69, 1, .aload_n 1, []), (70, 1, .iconst 5, []), (71, 1, .laload, []), (72, 3, .invokevirtual 49, [125, 4143]), (75, 3, .ifCond .eq 12, []), (78, 2, .bipush 100, []), (80, 2, .iload 4, []), (82, 1, .imul, []), (83, 2, .iload 5, []), (85, 1, .iadd, []), (86, 1, .ireturn, []), (87, 3, .iinc 5 1, []), (90, 3, .goto (-45), []), (93, 3, .iinc 4 1, []), (96, 3, .goto (-60), []), (99, 1, .iconst 0, []), (100, 1, .ireturn, [])]
def sT49 : List sEt := [(0, 1, .iload_n 1, []), (1, 27, .tableswitch 111 2 4 #[27, 58, 77], []), (28, 1, .lload_n 3, []), (29, 3, .invokestatic 257, [103, 4086]), (32, 1, .aload_n 0, []), (33, 3, .getfield 202, [43, 1086, 3, 0]), (36, 3, .if_icmp .lt 17, []), (39, 1, .aload_n 0, []), (40, 1, .lload_n 3, []), (41, 1, .lload_n 3, []), (42, 1, .lneg, []), (43, 1, .land, []), (44, 1, .lload_n 3, []), (45, 3, .invokevirtual 45, [121, 4147]), (48, 1, .lload_n 3, []), (49, 1, .lcmp, []), (50, 3, .ifCond .eq 7, []), (53, 1, .iconst 1, []), (54, 3, .goto 4, []), (57, 1, .iconst 0, []), (58, 1, .ireturn, []), (59, 1, .lload_n 3, []), (60, 1, .aload_n 0, []), (61, 2, .lload 5, []), (63, 3, .invokevirtual 51, [129, 4155]), (66, 1, .land, []), (67, 1, .lconst 0, []), (68, 1, .lcmp, []), (69, 3, .ifCond .ne 7, []), (72, 1, .iconst 1, []), (73, 3, .goto 4, []), (76, 1, .iconst 0, []), (77, 1, .ireturn, []), (78, 1, .aload_n 0, []), (79, 2, .lload 5, []), (81, 3, .invokevirtual 53, [132, 4163]), (84, 3, .ifCond .eq 26, []), (87, 1, .lload_n 3, []), (88, 1, .aload_n 0, []), (89, 1, .aload_n 0, []), (90, 1, .aload_n 0, []), (91, 3, .getfield 200, [37, 1084, 3, 0]), (94, 3, .invokevirtual 25, [93, 4036]), (97, 3, .invokevirtual 44, [117, 4151]), (100, 1, .land, []), (101, 1, .lconst 0, []), (102, 1, .lcmp, []), (103, 3, .ifCond .ne 7, []), (106, 1, .iconst 1, []), (107, 3, .goto 4, []), (110, 1, .iconst 0, []), (111, 1, .ireturn, []), (112, 1, .aload_n 0, []), (113, 1, .iload_n 2, []), (114, 1, .lload_n 3, []), (115, 3, .invokevirtual 39, [136, 4167]), (118, 3, .ifCond .ge 7, []), (121, 1, .iconst 1, []), (122, 3, .goto 4, []), (125, 1, .iconst 0, []), (126, 1, .ireturn, [])]
def sT50 : List sEt := [(0, 1, .iconst 2, []), (1, 2, .istore 4, []), (3, 2, .iload 4, []), (5, 1, .iconst 5, []), (6, 3, .if_icmp .gt 23, []), (9, 1, .aload_n 0, []), (10, 2, .iload 4, []), (12, 1, .iload_n 1, []), (13, 1, .lload_n 2, []), (14, 1, .lconst 0, []), (15, 3, .invokevirtual 49, [125, 4143]), (18, 3, .ifCond .eq 5, []), (21, 1, .iconst 0, []), (22, 1, .ireturn, []), (23, 3, .iinc 4 1, []), (26, 3, .goto (-23), []), (29, 1, .iconst 1, []), (30, 1, .ireturn, [])]
def sT51 : List sEt := [(0, 1, .aload_n 0, []), (1, 3, .invokevirtual 52, [139, 4159]), (4, 1, .lstore_n 3, []), (5, 1, .lload_n 3, []), (6, 1, .aload_n 0, []), (7, 1, .aload_n 0, []), (8, 1, .lload_n 1, []), (9, 1, .lload_n 3, []), (10, 1, .land, []), (11, 1, .lload_n 1, []), (12, 3, .invokevirtual 45, [121, 4147]), (15, 3, .invokevirtual 44, [117, 4151]), (18, 1, .lor, []), (19, 1, .lreturn, [])]
def sT52 : List sEt := [(0, 1, .aload_n 0, []), (1, 3, .getfield 199, [34, 1083, 3, 0]), (4, 28, .tableswitch 43 0 2 #[28, 33, 38], []), (32, 1, .aload_n 0, []), (33, 3, .getfield 197, [28, 1081, 3, 0]), (36, 1, .lreturn, []), (37, 1, .aload_n 0, []), (38, 3, .getfield 196, [25, 1080, 3, 0]), (41, 1, .lreturn, []), (42, 1, .aload_n 0, []), (43, 3, .getfield 198, [31, 1082, 3, 0]), (46, 1, .lreturn, []), (47, 1, .aload_n 0, []), (48, 3, .getfield 195, [22, 1079, 3, 0]), (51, 1, .lreturn, [])]
def sT53 : List sEt := [(0, 1, .aload_n 0, []), (1, 1, .aload_n 0, []), (2, 3, .getfield 200, [37, 1084, 3, 0]), (5, 3, .invokevirtual 22, [83, 4040]), (8, 3, .ifCond .eq 22, []), (11, 1, .lload_n 1, []), (12, 1, .aload_n 0, []), (13, 1, .aload_n 0, []), (14, 3, .getfield 200, [37, 1084, 3, 0]), (17, 3, .invokevirtual 25, [93, 4036]), (20, 1, .land, []), (21, 1, .lconst 0, []), (22, 1, .lcmp, []), (23, 3, .ifCond .ne 7, []), (26, 1, .iconst 1, []), (27, 3, .goto 4, []), (30, 1, .iconst 0, []), (31, 1, .ireturn, [])]
def sT54 : List sEt := [(0, 1, .lconst 0, []), (1, 1, .lstore_n 3, []), (2, 1, .iconst 0, []), (3, 2, .istore 5, []), (5, 2, .iload 5, []), (7, 1, .aload_n 0, []), (8, 3, .invokevirtual 21, [143, 5062]), (11, 3, .if_icmp .ge 37, []), (14, 2, .iload 5, []), (16, 1, .aload_n 1, []), (17, 3, .getfield 449, [146, 1039, 7, 0]), (20, 3, .if_icmp .ge 28, []), (23, 1, .aload_n 1, []), (24, 2, .iload 5, []), (26, 3, .invokevirtual 85, [151, 5063]), (29, 1, .iload_n 2, []), (30, 3, .if_icmp .ne 12, []), (33, 1, .lload_n 3, []), (34, 1, .aload_n 0, []), (35, 2, .iload 5, []), (37, 3, .invokevirtual 25, [93, 4036]), (40, 1, .lor, []), (41, 1, .lstore_n 3, []), (42, 3, .iinc 5 1, []), (45, 3, .goto (-40), []), (48, 1, .lload_n 3, []), (49, 1, .lreturn, [])]
def sT55 : List sEt := [(0, 1, .aload_n 0, []), (1, 1, .iload_n 1, []), (2, 1, .iload_n 2, []), (3, 1, .aload_n 3, []), (4, 3, .invokespecial 104, [1, 2175]), (7, 1, .return_, [])]
def sT56 : List sEt := [(0, 1, .iload_n 1, []), (1, 1, .iconst 5, []), (2, 3, .if_icmp .eq 11, []), (5, 1, .aload_n 0, []), (6, 1, .iload_n 1, []), (7, 3, .invokespecial 105, [7, 2234, 7153, 2182]), (10, 3, .ifCond .eq 7, []), (13, 1, .iconst 1, []), (14, 3, .goto 4, []), (17, 1, .iconst 0, []), (18, 1, .ireturn, [])]
def sT57 : List sEt := [(0, 1, .aload_n 1, []), (1, 1, .aload_n 0, []), (2, 3, .getfield 130, [11, 2083, 4, 2084]), (5, 1, .aload_n 0, []), (6, 3, .getfield 131, [17, 2095, 4, 2096]), (9, 3, .invokevirtual 30, [20, 3040]), (12, 1, .lreturn, [])]
def sT58 : List sEt := [(0, 1, .aload_n 0, []), (1, 3, .getfield 133, [26, 2114, 4, 2115]), (4, 2, .bipush 60, []), (6, 3, .invokevirtual 87, [30, 5145]), (9, 1, .aload_n 0, []), (10, 1, .iload_n 1, []), (11, 3, .invokespecial 15, [36, 5146, 5147, 2182, 2130]), (14, 1, .iconst 5, []), (15, 1, .ixor, []), (16, 1, .ireturn, [])]
def sT59 : List sEt := [(0, 1, .aload_n 0, []), (1, 1, .iload_n 1, []), (2, 1, .iload_n 2, []), (3, 1, .aload_n 3, []), (4, 3, .invokespecial 9, [1, 2149]), (7, 1, .return_, [])]
def sT60 : List sEt := [(0, 1, .iload_n 1, []), (1, 1, .iconst 3, []), (2, 3, .if_icmp .eq 11, []), (5, 1, .aload_n 0, []), (6, 1, .iload_n 1, []), (7, 3, .invokespecial 10, [7, 3001, 2219, 2156]), (10, 3, .ifCond .eq 7, []), (13, 1, .iconst 1, []), (14, 3, .goto 4, []), (17, 1, .iconst 0, []), (18, 1, .ireturn, [])]
def sT61 : List sEt := [(0, 1, .aload_n 1, []), (1, 1, .aload_n 0, []), (2, 3, .getfield 130, [11, 2085, 5, 2086]), (5, 3, .invokevirtual 29, [17, 3047]), (8, 1, .lreturn, [])]
def sT62 : List sEt := [(0, 1, .aload_n 1, []), (1, 1, .aload_n 0, []), (2, 3, .getfield 130, [11, 2085, 5, 2086]), (5, 1, .iconst 1, []), (6, 1, .iadd, []), (7, 3, .invokevirtual 29, [17, 3047]), (10, 1, .aload_n 1, []), (11, 1, .aload_n 0, []), (12, 3, .getfield 130, [11, 2085, 5, 2086]), (15, 3, .invokevirtual 29, [17, 3047]), (18, 3, .ldc2_w 18446744073709551615, [23, 3072]), (21, 1, .lxor, []), (22, 1, .land, []), (23, 1, .lreturn, [])]
def sT63 : List sEt := [(0, 1, .aload_n 0, []), (1, 3, .getfield 133, [25, 2116, 5, 2117]), (4, 2, .bipush 40, []), (6, 3, .invokevirtual 87, [29, 5151]), (9, 1, .aload_n 0, []), (10, 1, .iload_n 1, []), (11, 3, .invokespecial 15, [35, 5152, 5139, 2156]), (14, 1, .aload_n 0, []), (15, 3, .getfield 129, [39, 2076, 5, 2077]), (18, 1, .isub, []), (19, 1, .ireturn, [])]
def sT64 : List sEt := [(0, 1, .aload_n 0, []), (1, 3, .invokespecial 2000, [3, 3100, 1027, 1028]), (4, 1, .aload_n 0, []), (5, 1, .iconst (-1), []), (6, 3, .putfield 384, [9, 3101, 6, 0]), (9, 1, .aload_n 0, []), (10, 1, .iconst 0, []), (11, 3, .putfield 387, [15, 3105, 6, 0]), (14, 1, .aload_n 0, []), (15, 1, .aload_n 1, []), (16, 3, .putfield 385, [18, 3103, 6, 0]), (19, 1, .aload_n 0, []), (20, 1, .aload_n 2, []), (21, 3, .putfield 386, [22, 3104, 6, 0]), (24, 1, .return_, [])]
def sT65 : List sEt := [(0, 1, .iconst 0, []), (1, 1, .istore_n 1, []), (2, 1, .iload_n 1, []), (3, 2, .bipush 100, []), (5, 3, .if_icmp .gt 38, []), (8, 1, .aload_n 0, []), (9, 3, .invokevirtual 68, [26, 3119]), (12, 3, .ifCond .eq 31, []), (15, 3, .iinc 1 1, []), (18, 1, .aload_n 0, []), (19, 3, .getfield 387, [15, 3105, 6, 0]), (22, 1, .aload_n 0, []), (23, 3, .getfield 385, [18, 3103, 6, 0]), (26, 3, .getfield 449, [30, 1038, 7, 0]), (29, 3, .if_icmp .ge 12, []), (32, 1, .aload_n 0, []), (33, 2, .bipush 59, []), (35, 3, .invokevirtual 67, [35, 3194]), (38, 3, .ifCond .ne (-36), []), (41, 1, .iload_n 1, []), (42, 1, .ireturn, []), (43, 1, .iload_n 1, []), (44, 1, .ireturn, [])]
def sT66 : List sEt := [(0, 1, .aload_n 0, []), (1, 1, .iload_n 1, []), (2, 3, .putfield 384, [9, 3101, 6, 0]), (5, 1, .iconst 0, []), (6, 1, .ireturn, [])]
def sT67 : List sEt := [(0, 1, .aload_n 0, []), (1, 3, .getfield 385, [18, 3103, 6, 0]), (4, 1, .aload_n 0, []), (5, 3, .getfield 387, [15, 3105, 6, 0]), (8, 3, .invokevirtual 85, [39, 3143]), (11, 1, .iload_n 1, []), (12, 3, .if_icmp .eq 12, []), (15, 1, .aload_n 0, []), (16, 1, .aload_n 0, []), (17, 3, .getfield 387, [15, 3105, 6, 0]), (20, 3, .invokevirtual 66, [43, 3182]), (23, 1, .ireturn, []), (24, 1, .aload_n 0, []), (25, 1, .dup, []), (26, 3, .getfield 387, [15, 3105, 6, 0]), (29, 1, .iconst 1, []), (30, 1, .iadd, []), (31, 3, .putfield 387, [15, 3105, 6, 0]), (34, 1, .iconst 1, []), (35, 1, .ireturn, [])]
def sT68 : List sEt := [(0, 1, .aload_n 0, []), (1, 3, .invokevirtual 70, [47, 3123]), (4, 44, .tableswitch 108 0 6 #[44, 49, 54, 62, 78, 94, 103], []), (48, 1, .aload_n 0, []), (49, 3, .invokevirtual 74, [51, 3186]), (52, 1, .ireturn, []), (53, 1, .aload_n 0, []), (54, 3, .invokevirtual 75, [54, 3203]), (57, 1, .ireturn, []), (58, 1, .aload_n 0, []), (59, 1, .iconst 0, []), (60, 1, .iconst 0, []), (61, 1, .iconst 3, []), (62, 3, .invokevirtual 76, [57, 3220]), (65, 1, .ireturn, []), (66, 1, .aload_n 0, []), (67, 1, .iconst 1, []), (68, 1, .iconst 0, []), (69, 1, .aload_n 0, []), (70, 3, .getfield 386, [22, 3104, 6, 0]), (73, 3, .invokevirtual 21, [61, 3207]), (76, 1, .iconst 1, []), (77, 1, .isub, []), (78, 3, .invokevirtual 76, [57, 3220]), (81, 1, .ireturn, []), (82, 1, .aload_n 0, []), (83, 1, .iconst 2, []), (84, 1, .iconst 0, []), (85, 1, .aload_n 0, []), (86, 3, .getfield 386, [22, 3104, 6, 0]), (89, 3, .invokevirtual 21, [61, 3207]), (92, 1, .iconst 1, []), (93, 1, .isub, []), (94, 3, .invokevirtual 76, [57, 3220]), (97, 1, .ireturn, []), (98, 1, .aload_n 0, []), (99, 1, .iconst 3, []), (100, 1, .iconst 0, []), (101, 2, .bipush 20, []), (103, 3, .invokevirtual 76, [57, 3220]), (106, 1, .ireturn, []), (107, 1, .aload_n 0, []), (108, 3, .invokevirtual 77, [66, 4002]), (111, 1, .ireturn, []), (112, 1, .iconst 0, []), (113, 1, .ireturn, [])]
def sT69 : List sEt := [(0, 1, .iload_n 0, []), (1, 39, .tableswitch 57 0 5 #[39, 42, 45, 48, 51, 54], []), (40, 2, .ldc 4294967296, [69]), (42, 1, .areturn, []), (43, 2, .ldc 4294967297, [70]), (45, 1, .areturn, []), (46, 2, .ldc 4294967298, [72]), (48, 1, .areturn, []), (49, 2, .ldc 4294967299, [74]), (51, 1, .areturn, []), (52, 2, .ldc 4294967300, [76]), (54, 1, .areturn, []), (55, 2, .ldc 4294967301, [78]), (57, 1, .areturn, []), (58, 2, .ldc 4294967302, [80]), (60, 1, .areturn, [])]
def sT70 : List sEt := [(0, 1, .aload_n 0, []), (1, 3, .getfield 386, [22, 3104, 6, 0]), (4, 3, .getfield 203, [82, 1088, 3, 0]), (7, 1, .iconst 5, []), (8, 3, .if_icmp .ge 8, []), (11, 2, .bipush 7, []), (13, 3, .goto 5, []), (16, 2, .bipush 6, []), (18, 1, .istore_n 1, []), (19, 1, .iconst 0, []), (20, 1, .istore_n 2, []), (21, 1, .iconst 0, []), (22, 1, .istore_n 3, []), (23, 1, .iload_n 3, []), (24, 1, .iload_n 1, []), (25, 3, .if_icmp .ge 53, []), (28, 1, .iload_n 3, []), (29, 3, .invokestatic 69, [85, 3127]), (32, 2, .astore 4, []), (34, 1, .aload_n 0, []), (35, 2, .aload 4, []), (37, 3, .invokevirtual 71, [89, 3130]), (40, 2, .istore 5, []), (42, 2, .iload 5, []), (44, 2, .aload 4, []), (46, 3, .invokeinterface 3000 0, [93, 3134]), (49, 3, .if_icmp .ne 16, []), (52, 1, .aload_n 0, []), (53, 1, .dup, []), (54, 3, .getfield 387, [15, 3105, 6, 0]), (57, 2, .iload 5, []), (59, 1, .iadd, []), (60, 3, .putfield 387, [15, 3105, 6, 0]), (63, 1, .iload_n 3, []), (64, 1, .ireturn, []), (65, 1, .iload_n 2, []), (66, 2, .iload 5, []), (68, 3, .invokestatic 1000, [98, 3181, 2001, 1006, 2002]), (71, 1, .istore_n 2, []), (72, 3, .iinc 3 1, []), (75, 3, .goto (-52), []), (78, 1, .aload_n 0, []), (79, 1, .aload_n 0, []), (80, 3, .getfield 387, [15, 3105, 6, 0]), (83, 1, .iload_n 2, []), (84, 1, .iadd, []), (85, 3, .invokevirtual 66, [43, 3182]), (88, 1, .pop, []), (89, 1, .iconst (-1), []), (90, 1, .ireturn, [])]
def sT71 : List sEt := [(0, 1, .iconst 0, []), (1, 1, .istore_n 2, []), (2, 1, .iload_n 2, []), (3, 1, .aload_n 1, []), (4, 3, .invokeinterface 3000 0, [93, 3134]), (7, 3, .if_icmp .ge 32, []), (10, 1, .aload_n 0, []), (11, 3, .getfield 385, [18, 3103, 6, 0]), (14, 1, .aload_n 0, []), (15, 3, .getfield 387, [15, 3105, 6, 0]), (18, 1, .iload_n 2, []), (19, 1, .iadd, []), (20, 3, .invokevirtual 85, [39, 3143]), (23, 1, .aload_n 1, []), (24, 1, .iload_n 2, []), (25, 3, .invokeinterface 3001 0, [104, 3147]), (28, 3, .if_icmp .eq 5, []), (31, 1, .iload_n 2, []), (32, 1, .ireturn, []), (33, 3, .iinc 2 1, []), (36, 3, .goto (-34), []), (39, 1, .aload_n 1, []), (40, 3, .invokeinterface 3000 0, [93, 3134]), (43, 1, .ireturn, [])]
def sT72 : List sEt := [(0, 1, .aload_n 0, []), (1, 2, .bipush 32, []), (3, 3, .invokevirtual 67, [35, 3194]), (6, 3, .ifCond .ne 5, []), (9, 1, .iconst (-1), []), (10, 1, .ireturn, []), (11, 1, .aload_n 0, []), (12, 3, .getfield 387, [15, 3105, 6, 0]), (15, 1, .istore_n 3, []), (16, 1, .aload_n 0, []), (17, 1, .aload_n 0, []), (18, 3, .getfield 387, [15, 3105, 6, 0]), (21, 3, .invokevirtual 73, [108, 3198]), (24, 2, .istore 4, []), (26, 2, .iload 4, []), (28, 1, .iconst (-1), []), (29, 3, .if_icmp .ne 14, []), (32, 1, .aload_n 0, []), (33, 1, .aload_n 0, []), (34, 3, .getfield 387, [15, 3105, 6, 0]), (37, 3, .invokevirtual 66, [43, 3182]), (40, 1, .pop, []), (41, 1, .iconst (-1), []), (42, 1, .ireturn, []), (43, 1, .aload_n 0, []), (44, 1, .dup, []), (45, 3, .getfield 387, [15, 3105, 6, 0]), (48, 1, .iconst 1, []), (49, 1, .iadd, []), (50, 3, .putfield 387, [15, 3105, 6, 0]), (53, 1, .aload_n 0, []), (54, 1, .aload_n 0, []), (55, 3, .getfield 387, [15, 3105, 6, 0]), (58, 3, .invokevirtual 73, [108, 3198]), (61, 2, .istore 5, []), (63, 2, .iload 5, []), (65, 1, .iconst (-1), []), (66, 3, .if_icmp .eq 23, []), (69, 2, .bipush 10, []), (71, 2, .iload 4, []), (73, 1, .imul, []), (74, 2, .iload 5, []), (76, 1, .iadd, []), (77, 2, .istore 4, []), (79, 1, .aload_n 0, []), (80, 1, .dup, []), (81, 3, .getfield 387, [15, 3105, 6, 0]), (84, 1, .iconst 1, []), (85, 1, .iadd, []), (86, 3, .putfield 387, [15, 3105, 6, 0]), (89, 2, .iload 4, []), (91, 1, .iload_n 1, []), (92, 3, .if_icmp .lt 9, []), (95, 2, .iload 4, []), (97, 1, .iload_n 2, []), (98, 3, .if_icmp .le 11, []), (101, 1, .aload_n 0, []), (102, 1, .iload_n 3, []), (103, 3, .invokevirtual 66, [43, 3182]), (106, 1, .pop, []), (107, 1, .iconst (-1), []), (108, 1, .ireturn, []), (109, 2, .iload 4, []), (111, 1, .ireturn, [])]
def sT73 : List sEt := [(0, 1, .aload_n 0, []), (1, 3, .getfield 385, [18, 3103, 6, 0]), (4, 1, .iload_n 1, []), (5, 3, .invokevirtual 85, [39, 3143]), (8, 1, .istore_n 2, []), (9, 1, .iload_n 2, []), (10, 2, .bipush 48, []), (12, 3, .if_icmp .lt 16, []), (15, 1, .iload_n 2, []), (16, 2, .bipush 57, []), (18, 3, .if_icmp .gt 10, []), (21, 1, .iload_n 2, []), (22, 2, .bipush 48, []), (24, 1, .isub, []), (25, 3, .goto 4, []), (28, 1, .iconst (-1), []), (29, 1, .ireturn, [])]
def sT74 : List sEt := [(0, 1, .aload_n 0, []), (1, 1, .iconst 2, []), (2, 2, .bipush 8, []), (4, 3, .invokevirtual 72, [111, 3190]), (7, 1, .istore_n 1, []), (8, 1, .iload_n 1, []), (9, 1, .iconst (-1), []), (10, 3, .if_icmp .ne 7, []), (13, 1, .iconst (-1), []), (14, 3, .goto 10, []), (17, 1, .aload_n 0, []), (18, 1, .iconst 2, []), (19, 2, .bipush 8, []), (21, 3, .invokevirtual 72, [111, 3190]), (24, 1, .istore_n 2, []), (25, 1, .iload_n 2, []), (26, 1, .iconst (-1), []), (27, 3, .if_icmp .ne 5, []), (30, 1, .iconst 0, []), (31, 1, .ireturn, []), (32, 1, .aload_n 0, []), (33, 3, .getfield 386, [22, 3104, 6, 0]), (36, 1, .iload_n 1, []), (37, 1, .iload_n 2, []), (38, 3, .invokevirtual 17, [114, 3202]), (41, 1, .iconst 1, []), (42, 1, .ireturn, [])]
def sT75 : List sEt := [(0, 1, .aload_n 0, []), (1, 1, .iconst 0, []), (2, 1, .iconst 5, []), (3, 3, .invokevirtual 72, [111, 3190]), (6, 1, .istore_n 1, []), (7, 1, .iload_n 1, []), (8, 1, .iconst (-1), []), (9, 3, .if_icmp .ne 7, []), (12, 1, .iconst (-1), []), (13, 3, .goto 17, []), (16, 1, .aload_n 0, []), (17, 1, .iconst 0, []), (18, 1, .aload_n 0, []), (19, 3, .getfield 386, [22, 3104, 6, 0]), (22, 3, .invokevirtual 21, [61, 3207]), (25, 1, .iconst 1, []), (26, 1, .isub, []), (27, 3, .invokevirtual 72, [111, 3190]), (30, 1, .istore_n 2, []), (31, 1, .iload_n 2, []), (32, 1, .iconst (-1), []), (33, 3, .if_icmp .ne 7, []), (36, 1, .iconst (-1), []), (37, 3, .goto 17, []), (40, 1, .aload_n 0, []), (41, 1, .iload_n 2, []), (42, 1, .aload_n 0, []), (43, 3, .getfield 386, [22, 3104, 6, 0]), (46, 3, .invokevirtual 21, [61, 3207]), (49, 1, .iconst 1, []), (50, 1, .isub, []), (51, 3, .invokevirtual 72, [111, 3190]), (54, 1, .istore_n 3, []), (55, 1, .iload_n 3, []), (56, 1, .iconst (-1), []), (57, 3, .if_icmp .ne 5, []), (60, 1, .iconst 0, []), (61, 1, .ireturn, []), (62, 1, .aload_n 0, []), (63, 3, .getfield 386, [22, 3104, 6, 0]), (66, 1, .aload_n 0, []), (67, 3, .getfield 386, [22, 3104, 6, 0]), (70, 1, .iload_n 3, []), (71, 1, .iconst 1, []), (72, 1, .iadd, []), (73, 3, .invokevirtual 27, [118, 3211]), (76, 1, .aload_n 0, []), (77, 3, .getfield 386, [22, 3104, 6, 0]), (80, 1, .iload_n 2, []), (81, 3, .invokevirtual 27, [118, 3211]), (84, 3, .ldc2_w 18446744073709551615, [122, 3212]), (87, 1, .lxor, []), (88, 1, .land, []), (89, 1, .iload_n 1, []), (90, 3, .invokevirtual 33, [124, 3213]), (93, 1, .iconst 1, []), (94, 1, .ireturn, [])]
def sT76 : List sEt := [(0, 1, .aload_n 0, []), (1, 1, .iload_n 2, []), (2, 1, .iload_n 3, []), (3, 3, .invokevirtual 72, [111, 3190]), (6, 2, .istore 4, []), (8, 2, .iload 4, []), (10, 1, .iconst (-1), []), (11, 3, .if_icmp .ne 5, []), (14, 1, .iconst 0, []), (15, 1, .ireturn, []), (16, 1, .aload_n 0, []), (17, 3, .getfield 386, [22, 3104, 6, 0]), (20, 1, .iload_n 1, []), (21, 2, .iload 4, []), (23, 3, .invokevirtual 35, [128, 3224]), (26, 1, .iconst 1, []), (27, 1, .ireturn, [])]
def sT77 : List sEt := [(0, 1, .aload_n 0, []), (1, 1, .iconst 1, []), (2, 2, .bipush 9, []), (4, 3, .invokevirtual 72, [111, 3190]), (7, 1, .istore_n 1, []), (8, 1, .iload_n 1, []), (9, 1, .iconst (-1), []), (10, 3, .if_icmp .ne 7, []), (13, 1, .iconst (-1), []), (14, 3, .goto 11, []), (17, 1, .aload_n 0, []), (18, 3, .getfield 386, [22, 3104, 6, 0]), (21, 1, .iload_n 1, []), (22, 3, .invokevirtual 36, [131, 4006]), (25, 1, .istore_n 2, []), (26, 1, .aload_n 0, []), (27, 3, .getfield 386, [22, 3104, 6, 0]), (30, 1, .iload_n 2, []), (31, 3, .invokevirtual 23, [134, 4010]), (34, 3, .ifCond .ne 5, []), (37, 1, .iconst 0, []), (38, 1, .ireturn, []), (39, 1, .iconst 0, []), (40, 1, .istore_n 3, []), (41, 1, .iload_n 3, []), (42, 2, .bipush 6, []), (44, 3, .if_icmp .ge 39, []), (47, 1, .aload_n 0, []), (48, 1, .iconst 0, []), (49, 2, .bipush 99, []), (51, 3, .invokevirtual 72, [111, 3190]), (54, 2, .istore 4, []), (56, 2, .iload 4, []), (58, 1, .iconst (-1), []), (59, 3, .if_icmp .ne 5, []), (62, 1, .iconst 0, []), (63, 1, .ireturn, []), (64, 1, .aload_n 0, []), (65, 3, .getfield 386, [22, 3104, 6, 0]), (68, 3, .getfield 206, [137, 1095, 3, 0]), (71, 1, .iload_n 2, []), (72, 1, .aaload, []), (73, 1, .iload_n 3, []), (74, 2, .iload 4, []), (76, 1, .iastore, []), (77, 3, .iinc 3 1, []), (80, 3, .goto (-39), []), (83, 1, .iconst 1, []), (84, 1, .ireturn, [])]
def sT78 : List sEt := [(0, 1, .aload_n 0, []), (1, 3, .invokespecial 2000, [3, 1034, 1027, 1028]), (4, 1, .aload_n 0, []), (5, 1, .iconst (-1), []), (6, 3, .putfield 448, [9, 1035, 7, 0]), (9, 1, .aload_n 0, []), (10, 1, .iconst 0, []), (11, 3, .putfield 449, [15, 1037, 7, 0]), (14, 1, .aload_n 0, []), (15, 2, .bipush 100, []), (17, 2, .newarray .long, [1050]), (19, 3, .putfield 450, [18, 1041, 7, 0]), (22, 1, .return_, [])]
def sT79 : List sEt := [(0, 1, .aload_n 0, []), (1, 1, .iload_n 1, []), (2, 3, .putfield 448, [9, 1035, 7, 0]), (5, 1, .aload_n 0, []), (6, 1, .iconst 0, []), (7, 1, .iload_n 2, []), (8, 2, .bipush 100, []), (10, 3, .invokestatic 1001, [22, 1230, 1231, 1006, 1232]), (13, 3, .invokestatic 1000, [28, 2000, 2001, 1006, 2002]), (16, 3, .putfield 449, [15, 1037, 7, 0]), (19, 1, .iconst 0, []), (20, 1, .istore_n 3, []), (21, 1, .iload_n 3, []), (22, 1, .aload_n 0, []), (23, 3, .getfield 449, [15, 1037, 7, 0]), (26, 3, .if_icmp .ge 16, []), (29, 1, .aload_n 0, []), (30, 3, .getfield 450, [18, 1041, 7, 0]), (33, 1, .iload_n 3, []), (34, 1, .lconst 0, []), (35, 1, .lastore, []), (36, 3, .iinc 3 1, []), (39, 3, .goto (-18), []), (42, 1, .return_, [])]
def sT80 : List sEt := [(0, 1, .aload_n 0, []), (1, 1, .iconst (-1), []), (2, 3, .putfield 448, [9, 1035, 7, 0]), (5, 1, .aload_n 0, []), (6, 1, .iconst 0, []), (7, 3, .putfield 449, [15, 1037, 7, 0]), (10, 1, .return_, [])]
def sT81 : List sEt := [(0, 1, .aload_n 0, []), (1, 3, .getfield 448, [9, 1035, 7, 0]), (4, 1, .iconst (-1), []), (5, 3, .if_icmp .eq 7, []), (8, 1, .iconst 1, []), (9, 3, .goto 4, []), (12, 1, .iconst 0, []), (13, 1, .ireturn, [])]
def sT82 : List sEt := [(0, 1, .iload_n 1, []), (1, 3, .ifCond .lt 15, []), (4, 1, .iload_n 1, []), (5, 1, .aload_n 0, []), (6, 3, .getfield 449, [15, 1037, 7, 0]), (9, 3, .if_icmp .ge 7, []), (12, 1, .iconst 1, []), (13, 3, .goto 4, []), (16, 1, .iconst 0, []), (17, 1, .ireturn, [])]
def sT83 : List sEt := [(0, 1, .iload_n 1, []), (1, 3, .ifCond .lt 21, []), (4, 1, .iload_n 2, []), (5, 3, .ifCond .lt 17, []), (8, 1, .iload_n 1, []), (9, 1, .aload_n 0, []), (10, 3, .getfield 449, [15, 1037, 7, 0]), (13, 1, .iload_n 2, []), (14, 1, .isub, []), (15, 3, .if_icmp .gt 7, []), (18, 1, .iconst 1, []), (19, 3, .goto 4, []), (22, 1, .iconst 0, []), (23, 1, .ireturn, [])]
def sT84 : List sEt := [(0, 1, .aload_n 0, []), (1, 1, .iload_n 1, []), (2, 3, .invokevirtual 82, [31, 2022]), (5, 3, .ifCond .eq 12, []), (8, 1, .aload_n 0, []), (9, 3, .getfield 450, [18, 1041, 7, 0]), (12, 1, .iload_n 1, []), (13, 1, .laload, []), (14, 3, .goto 4, []), (17, 1, .lconst 0, []), (18, 1, .lreturn, [])]
def sT85 : List sEt := [(0, 1, .aload_n 0, []), (1, 1, .iload_n 1, []), (2, 3, .invokevirtual 82, [31, 2022]), (5, 3, .ifCond .eq 13, []), (8, 1, .aload_n 0, []), (9, 3, .getfield 450, [18, 1041, 7, 0]), (12, 1, .iload_n 1, []), (13, 1, .laload, []), (14, 1, .l2i, []), (15, 3, .goto 4, []), (18, 1, .iconst 0, []), (19, 1, .ireturn, [])]
def sT86 : List sEt := [(0, 1, .aload_n 0, []), (1, 1, .iload_n 1, []), (2, 3, .invokevirtual 82, [31, 2022]), (5, 3, .ifCond .eq 14, []), (8, 1, .aload_n 0, []), (9, 3, .getfield 450, [18, 1041, 7, 0]), (12, 1, .iload_n 1, []), (13, 1, .aload_n 0, []), (14, 1, .lload_n 2, []), (15, 3, .invokevirtual 88, [35, 2023]), (18, 1, .lastore, []), (19, 1, .return_, [])]
def sT87 : List sEt := [(0, 1, .aload_n 0, []), (1, 3, .getfield 449, [15, 1037, 7, 0]), (4, 2, .bipush 100, []), (6, 3, .if_icmp .ge 24, []), (9, 1, .aload_n 0, []), (10, 3, .getfield 450, [18, 1041, 7, 0]), (13, 1, .aload_n 0, []), (14, 3, .getfield 449, [15, 1037, 7, 0]), (17, 1, .iload_n 1, []), (18, 1, .i2l, []), (19, 1, .lastore, []), (20, 1, .aload_n 0, []), (21, 1, .dup, []), (22, 3, .getfield 449, [15, 1037, 7, 0]), (25, 1, .iconst 1, []), (26, 1, .iadd, []), (27, 3, .putfield 449, [15, 1037, 7, 0]), (30, 1, .return_, [])]
def sT88 : List sEt := [(0, 1, .aload_n 0, []), (1, 3, .getfield 448, [9, 1035, 7, 0]), (4, 28, .tableswitch 42 0 2 #[28, 33, 38], []), (32, 1, .lload_n 1, []), (33, 1, .l2i, []), (34, 1, .i2b, []), (35, 1, .i2l, []), (36, 1, .lreturn, []), (37, 1, .lload_n 1, []), (38, 1, .l2i, []), (39, 1, .i2s, []), (40, 1, .i2l, []), (41, 1, .lreturn, []), (42, 1, .lload_n 1, []), (43, 1, .l2i, []), (44, 1, .i2l, []), (45, 1, .lreturn, []), (46, 1, .lload_n 1, []), (47, 1, .lreturn, [])]
def sT89 : List sEt := [(0, 1, .aload_n 0, []), (1, 3, .invokespecial 2000, [3, 1143, 1027, 1028]), (4, 1, .aload_n 0, []), (5, 1, .iconst (-1), []), (6, 3, .putfield 512, [9, 1144, 8, 0]), (9, 1, .aload_n 0, []), (10, 1, .iconst 0, []), (11, 3, .putfield 513, [15, 1146, 8, 0]), (14, 1, .aload_n 0, []), (15, 1, .lconst 0, []), (16, 3, .putfield 514, [18, 1148, 8, 0]), (19, 1, .aload_n 0, []), (20, 1, .lconst 0, []), (21, 3, .putfield 515, [22, 1150, 8, 0]), (24, 1, .aload_n 0, []), (25, 1, .iconst 0, []), (26, 3, .putfield 516, [25, 1152, 8, 0]), (29, 1, .aload_n 0, []), (30, 3, .sipush 1000, []), (33, 3, .putfield 517, [28, 1153, 8, 0]), (36, 1, .aload_n 0, []), (37, 1, .iconst 0, []), (38, 3, .putfield 518, [31, 1154, 8, 0]), (41, 1, .aload_n 0, []), (42, 3, .sipush 644, []), (45, 2, .newarray .int, [1137]), (47, 3, .putfield 519, [34, 1155, 8, 0]), (50, 1, .aload_n 0, []), (51, 3, .sipush 644, []), (54, 2, .newarray .long, [1050]), (56, 3, .putfield 520, [38, 1156, 8, 0]), (59, 1, .aload_n 0, []), (60, 2, .bipush 7, []), (62, 2, .newarray .long, [1050]), (64, 3, .putfield 521, [42, 1157, 8, 0]), (67, 1, .return_, [])]
def sT90 : List sEt := [(0, 1, .iload_n 1, []), (1, 27, .lookupswitch 37 #[(0, 27), (1, 32)], []), (28, 1, .aload_n 0, []), (29, 3, .getfield 512, [9, 1144, 8, 0]), (32, 1, .ireturn, []), (33, 1, .aload_n 0, []), (34, 3, .getfield 516, [25, 1152, 8, 0]), (37, 1, .ireturn, []), (38, 1, .aload_n 0, []), (39, 3, .getfield 517, [28, 1153, 8, 0]), (42, 1, .ireturn, [])]
def sT91 : List sEt := [(0, 1, .aload_n 0, []), (1, 3, .getfield 518, [31, 1154, 8, 0]), (4, 3, .sipush 644, []), (7, 3, .if_icmp .ge 33, []), (10, 1, .aload_n 0, []), (11, 3, .getfield 519, [34, 1155, 8, 0]), (14, 1, .aload_n 0, []), (15, 3, .getfield 518, [31, 1154, 8, 0]), (18, 1, .iload_n 1, []), (19, 1, .iastore, []), (20, 1, .aload_n 0, []), (21, 3, .getfield 520, [38, 1156, 8, 0]), (24, 1, .aload_n 0, []), (25, 3, .getfield 518, [31, 1154, 8, 0]), (28, 1, .lload_n 2, []), (29, 1, .lastore, []), (30, 1, .aload_n 0, []), (31, 1, .dup, []), (32, 3, .getfield 518, [31, 1154, 8, 0]), (35, 1, .iconst 1, []), (36, 1, .iadd, []), (37, 3, .putfield 518, [31, 1154, 8, 0]), (40, 1, .return_, [])]
def sT92 : List sEt := [(0, 1, .aload_n 0, []), (1, 1, .iconst 0, []), (2, 3, .putfield 518, [31, 1154, 8, 0]), (5, 1, .iconst 1, []), (6, 2, .istore 4, []), (8, 2, .iload 4, []), (10, 1, .aload_n 1, []), (11, 3, .getfield 192, [45, 1070, 3, 0]), (14, 3, .if_icmp .ge 28, []), (17, 1, .aload_n 0, []), (18, 3, .sipush 1000, []), (21, 2, .bipush 100, []), (23, 2, .iload 4, []), (25, 1, .imul, []), (26, 1, .iadd, []), (27, 1, .aload_n 1, []), (28, 2, .iload 4, []), (30, 3, .invokevirtual 29, [50, 4204]), (33, 3, .invokevirtual 91, [54, 4205]), (36, 3, .iinc 4 1, []), (39, 3, .goto (-31), []), (42, 1, .iload_n 2, []), (43, 3, .ifCond .eq 8, []), (46, 1, .aload_n 0, []), (47, 1, .aload_n 1, []), (48, 3, .invokevirtual 93, [58, 4209]), (51, 1, .iconst 1, []), (52, 2, .istore 4, []), (54, 2, .iload 4, []), (56, 1, .aload_n 1, []), (57, 3, .getfield 193, [62, 1073, 3, 0]), (60, 3, .if_icmp .ge 28, []), (63, 1, .aload_n 0, []), (64, 3, .sipush 4000, []), (67, 2, .bipush 100, []), (69, 2, .iload 4, []), (71, 1, .imul, []), (72, 1, .iadd, []), (73, 1, .aload_n 1, []), (74, 2, .iload 4, []), (76, 3, .invokevirtual 28, [65, 4214]), (79, 3, .invokevirtual 91, [54, 4205]), (82, 3, .iinc 4 1, []), (85, 3, .goto (-31), []), (88, 1, .iload_n 3, []), (89, 3, .ifCond .eq 8, []), (92, 1, .aload_n 0, []), (93, 1, .aload_n 1, []), (94, 3, .invokevirtual 94, [68, 4215]), (97, 1, .return_, [])]
def sT93 : List sEt := [(0, 1, .iconst 0, []), (1, 1, .istore_n 2, []), (2, 1, .iload_n 2, []), (3, 1, .aload_n 1, []), (4, 3, .getfield 192, [45, 1070, 3, 0]), (7, 3, .if_icmp .gt 71, []), (10, 1, .iconst 1, []), (11, 1, .istore_n 3, []), (12, 1, .iload_n 3, []), (13, 1, .aload_n 1, []), (14, 3, .getfield 193, [62, 1073, 3, 0]), (17, 3, .if_icmp .ge 55, []), (20, 1, .iconst 0, []), (21, 2, .istore 4, []), (23, 2, .iload 4, []), (25, 1, .aload_n 1, []), (26, 3, .getfield 192, [45, 1070, 3, 0]), (29, 3, .if_icmp .gt 37, []), (32, 1, .aload_n 0, []), (33, 3, .sipush 2000, []), (36, 2, .bipush 100, []), (38, 1, .iload_n 2, []), (39, 1, .imul, []), (40, 1, .iadd, []), (41, 2, .bipush 10, []), (43, 1, .iload_n 3, []), (44, 1, .imul, []), (45, 1, .iadd, []), (46, 2, .iload 4, []), (48, 1, .iadd, []), (49, 1, .aload_n 1, []), (50, 1, .iload_n 2, []), (51, 1, .iload_n 3, []), (52, 2, .iload 4, []), (54, 3, .invokevirtual 31, [71, 4213]), (57, 3, .invokevirtual 91, [54, 4205]), (60, 3, .iinc 4 1, []), (63, 3, .goto (-40), []), (66, 3, .iinc 3 1, []), (69, 3, .goto (-57), []), (72, 3, .iinc 2 1, []), (75, 3, .goto (-73), []), (78, 1, .return_, [])]
def sT94 : List sEt := [(0, 1, .iconst 1, []), (1, 1, .istore_n 2, []), (2, 1, .iload_n 2, []), (3, 1, .aload_n 1, []), (4, 3, .getfield 192, [45, 1070, 3, 0]), (7, 3, .if_icmp .gt 64, []), (10, 1, .iconst 1, []), (11, 1, .istore_n 3, []), (12, 1, .iload_n 3, []), (13, 1, .aload_n 1, []), (14, 3, .getfield 193, [62, 1073, 3, 0]), (17, 3, .if_icmp .gt 48, []), (20, 1, .iload_n 2, []), (21, 1, .aload_n 1, []), (22, 3, .getfield 192, [45, 1070, 3, 0]), (25, 3, .if_icmp .lt 11, []), (28, 1, .iload_n 3, []), (29, 1, .aload_n 1, []), (30, 3, .getfield 193, [62, 1073, 3, 0]), (33, 3, .if_icmp .ge 26, []), (36, 1, .aload_n 0, []), (37, 3, .sipush 5000, []), (40, 2, .bipush 100, []), (42, 1, .iload_n 2, []), (43, 1, .imul, []), (44, 1, .iadd, []), (45, 2, .bipush 10, []), (47, 1, .iload_n 3, []), (48, 1, .imul, []), (49, 1, .iadd, []), (50, 1, .aload_n 1, []), (51, 1, .iload_n 2, []), (52, 1, .iload_n 3, []), (53, 3, .invokevirtual 30, [75, 4219]), (56, 3, .invokevirtual 91, [54, 4205]), (59, 3, .iinc 3 1, []), (62, 3, .goto (-50), []), (65, 3, .iinc 2 1, []), (68, 3, .goto (-66), []), (71, 1, .return_, [])]
def sT95 : List sEt := [(0, 1, .aload_n 0, []), (1, 1, .iconst (-1), []), (2, 3, .putfield 512, [9, 1144, 8, 0]), (5, 1, .aload_n 0, []), (6, 1, .iconst 0, []), (7, 3, .putfield 516, [25, 1152, 8, 0]), (10, 1, .aload_n 0, []), (11, 1, .iload_n 1, []), (12, 3, .putfield 517, [28, 1153, 8, 0]), (15, 1, .return_, [])]
def sT96 : List sEt := [(0, 1, .aload_n 1, []), (1, 1, .aload_n 0, []), (2, 3, .getfield 521, [42, 1157, 8, 0]), (5, 3, .invokevirtual 47, [79, 4226]), (8, 2, .istore 4, []), (10, 2, .iload 4, []), (12, 1, .aload_n 0, []), (13, 3, .getfield 517, [28, 1153, 8, 0]), (16, 3, .if_icmp .ge 30, []), (19, 1, .aload_n 1, []), (20, 1, .aload_n 0, []), (21, 3, .getfield 521, [42, 1157, 8, 0]), (24, 3, .invokevirtual 48, [83, 4227]), (27, 3, .ifCond .ne 19, []), (30, 1, .aload_n 0, []), (31, 1, .iload_n 2, []), (32, 3, .putfield 512, [9, 1144, 8, 0]), (35, 1, .aload_n 0, []), (36, 1, .iload_n 3, []), (37, 3, .putfield 516, [25, 1152, 8, 0]), (40, 1, .aload_n 0, []), (41, 2, .iload 4, []), (43, 3, .putfield 517, [28, 1153, 8, 0]), (46, 1, .return_, [])]
def sT97 : List sEt := [(0, 1, .aload_n 0, []), (1, 3, .sipush 1000, []), (4, 3, .invokevirtual 95, [86, 4196]), (7, 1, .aload_n 1, []), (8, 3, .getfield 203, [90, 1089, 3, 0]), (11, 1, .iconst 2, []), (12, 3, .if_icmp .eq 5, []), (15, 1, .iconst 0, []), (16, 1, .ireturn, []), (17, 1, .aload_n 0, []), (18, 1, .aload_n 1, []), (19, 1, .iconst 1, []), (20, 1, .iconst 0, []), (21, 3, .invokevirtual 92, [93, 4200]), (24, 1, .aload_n 0, []), (25, 3, .getfield 521, [42, 1157, 8, 0]), (28, 3, .invokestatic 20, [97, 4220]), (31, 1, .iconst 0, []), (32, 1, .istore_n 2, []), (33, 1, .iload_n 2, []), (34, 1, .aload_n 0, []), (35, 3, .getfield 518, [31, 1154, 8, 0]), (38, 3, .if_icmp .ge 69, []), (41, 1, .iconst 0, []), (42, 1, .istore_n 3, []), (43, 1, .iload_n 3, []), (44, 1, .iconst 2, []), (45, 3, .if_icmp .ge 56, []), (48, 1, .aload_n 0, []), (49, 3, .getfield 521, [42, 1157, 8, 0]), (52, 1, .iload_n 3, []), (53, 1, .aload_n 0, []), (54, 3, .getfield 520, [38, 1156, 8, 0]), (57, 1, .iload_n 2, []), (58, 1, .laload, []), (59, 1, .lastore, []), (60, 1, .aload_n 0, []), (61, 3, .getfield 521, [42, 1157, 8, 0]), (64, 1, .iconst 1, []), (65, 1, .iload_n 3, []), (66, 1, .isub, []), (67, 1, .aload_n 1, []), (68, 3, .getfield 194, [101, 1077, 3, 0]), (71, 1, .aload_n 0, []), (72, 3, .getfield 520, [38, 1156, 8, 0]), (75, 1, .iload_n 2, []), (76, 1, .laload, []), (77, 3, .ldc2_w 18446744073709551615, [104, 4221]), (80, 1, .lxor, []), (81, 1, .land, []), (82, 1, .lastore, []), (83, 1, .aload_n 0, []), (84, 1, .aload_n 1, []), (85, 1, .aload_n 0, []), (86, 3, .getfield 519, [34, 1155, 8, 0]), (89, 1, .iload_n 2, []), (90, 1, .iaload, []), (91, 1, .iload_n 3, []), (92, 3, .invokevirtual 96, [106, 4222]), (95, 3, .iinc 3 1, []), (98, 3, .goto (-55), []), (101, 3, .iinc 2 1, []), (104, 3, .goto (-71), []), (107, 1, .aload_n 0, []), (108, 3, .getfield 512, [9, 1144, 8, 0]), (111, 1, .iconst (-1), []), (112, 3, .if_icmp .eq 7, []), (115, 1, .iconst 1, []), (116, 3, .goto 4, []), (119, 1, .iconst 0, []), (120, 1, .ireturn, [])]
def sT98 : List sEt := [(0, 1, .aload_n 0, []), (1, 3, .sipush 1000, []), (4, 3, .invokevirtual 95, [86, 4196]), (7, 1, .aload_n 1, []), (8, 3, .getfield 203, [90, 1089, 3, 0]), (11, 1, .iconst 3, []), (12, 3, .if_icmp .eq 5, []), (15, 1, .iconst 0, []), (16, 1, .ireturn, []), (17, 1, .aload_n 0, []), (18, 1, .aload_n 1, []), (19, 1, .iconst 0, []), (20, 1, .iconst 1, []), (21, 3, .invokevirtual 92, [93, 4200]), (24, 1, .aload_n 0, []), (25, 3, .getfield 521, [42, 1157, 8, 0]), (28, 3, .invokestatic 20, [97, 4220]), (31, 1, .iconst 0, []), (32, 1, .istore_n 2, []), (33, 1, .iload_n 2, []), (34, 1, .aload_n 0, []), (35, 3, .getfield 518, [31, 1154, 8, 0]), (38, 3, .if_icmp .ge 126, []), (41, 1, .aload_n 1, []), (42, 1, .iconst 0, []), (43, 1, .aload_n 0, []), (44, 3, .getfield 520, [38, 1156, 8, 0]), (47, 1, .iload_n 2, []), (48, 1, .laload, []), (49, 3, .invokevirtual 50, [110, 5001]), (52, 3, .ifCond .ne 6, []), (55, 3, .goto 103, []), (58, 1, .iconst 0, []), (59, 1, .istore_n 3, []), (60, 1, .iload_n 3, []), (61, 1, .aload_n 0, []), (62, 3, .getfield 518, [31, 1154, 8, 0]), (65, 3, .if_icmp .ge 93, []), (68, 1, .aload_n 0, []), (69, 3, .getfield 521, [42, 1157, 8, 0]), (72, 1, .iconst 0, []), (73, 1, .aload_n 0, []), (74, 3, .getfield 520, [38, 1156, 8, 0]), (77, 1, .iload_n 2, []), (78, 1, .laload, []), (79, 1, .lastore, []), (80, 1, .aload_n 0, []), (81, 3, .getfield 521, [42, 1157, 8, 0]), (84, 1, .iconst 1, []), (85, 1, .aload_n 0, []), (86, 3, .getfield 520, [38, 1156, 8, 0]), (89, 1, .iload_n 3, []), (90, 1, .laload, []), (91, 1, .aload_n 0, []), (92, 3, .getfield 520, [38, 1156, 8, 0]), (95, 1, .iload_n 2, []), (96, 1, .laload, []), (97, 3, .ldc2_w 18446744073709551615, [104, 4221]), (100, 1, .lxor, []), (101, 1, .land, []), (102, 1, .lastore, []), (103, 1, .aload_n 0, []), (104, 3, .getfield 521, [42, 1157, 8, 0]), (107, 1, .iconst 2, []), (108, 1, .aload_n 1, []), (109, 3, .getfield 194, [101, 1077, 3, 0]), (112, 1, .aload_n 0, []), (113, 3, .getfield 520, [38, 1156, 8, 0]), (116, 1, .iload_n 2, []), (117, 1, .laload, []), (118, 3, .ldc2_w 18446744073709551615, [104, 4221]), (121, 1, .lxor, []), (122, 1, .land, []), (123, 1, .aload_n 0, []), (124, 3, .getfield 520, [38, 1156, 8, 0]), (127, 1, .iload_n 3, []), (128, 1, .laload, []), (129, 3, .ldc2_w 18446744073709551615, [104, 4221]), (132, 1, .lxor, []), (133, 1, .land, []), (134, 1, .lastore, []), (135, 1, .aload_n 0, []), (136, 1, .aload_n 1, []), (137, 1, .aload_n 0, []), (138, 3, .getfield 519, [34, 1155, 8, 0]), (141, 1, .iload_n 2, []), (142, 1, .iaload, []), (143, 1, .aload_n 0, []), (144, 3, .getfield 519, [34, 1155, 8, 0]), (147, 1, .iload_n 3, []), (148, 1, .iaload, []), (149, 3, .invokevirtual 96, [106, 4222]), (152, 3, .iinc 3 1, []), (155, 3, .goto (-95), []), (158, 3, .iinc 2 1, []), (161, 3, .goto (-128), []), (164, 1, .aload_n 0, []), (165, 3, .getfield 512, [9, 1144, 8, 0]), (168, 1, .iconst (-1), []), (169, 3, .if_icmp .eq 7, []), (172, 1, .iconst 1, []), (173, 3, .goto 4, []), (176, 1, .iconst 0, []), (177, 1, .ireturn, [])]
def sT99 : List sEt := [(0, 1, .aload_n 0, []), (1, 3, .sipush 1000, []), (4, 3, .invokevirtual 95, [86, 4196]), (7, 1, .aload_n 0, []), (8, 1, .aload_n 1, []), (9, 1, .iconst 1, []), (10, 1, .iconst 0, []), (11, 3, .invokevirtual 92, [93, 4200]), (14, 1, .lconst 0, []), (15, 1, .lstore_n 3, []), (16, 2, .ldc 1000000, [114, 5013]), (18, 2, .istore 5, []), (20, 1, .iconst 0, []), (21, 2, .istore 6, []), (23, 2, .iload 6, []), (25, 1, .aload_n 0, []), (26, 3, .getfield 518, [31, 1154, 8, 0]), (29, 3, .if_icmp .ge 82, []), (32, 1, .aload_n 1, []), (33, 3, .getfield 194, [101, 1077, 3, 0]), (36, 1, .aload_n 0, []), (37, 3, .getfield 520, [38, 1156, 8, 0]), (40, 2, .iload 6, []), (42, 1, .laload, []), (43, 3, .ldc2_w 18446744073709551615, [104, 4221]), (46, 1, .lxor, []), (47, 1, .land, []), (48, 2, .lstore 7, []), (50, 1, .aload_n 1, []), (51, 1, .iload_n 2, []), (52, 1, .aload_n 0, []), (53, 3, .getfield 520, [38, 1156, 8, 0]), (56, 2, .iload 6, []), (58, 1, .laload, []), (59, 3, .invokevirtual 37, [115, 5014]), (62, 1, .aload_n 1, []), (63, 1, .iload_n 2, []), (64, 2, .lload 7, []), (66, 3, .invokevirtual 37, [115, 5014]), (69, 1, .isub, []), (70, 3, .invokestatic 1002, [119, 5015, 5016, 1006, 5017]), (73, 2, .istore 9, []), (75, 2, .iload 9, []), (77, 2, .iload 5, []), (79, 3, .if_icmp .ge 26, []), (82, 2, .iload 9, []), (84, 2, .istore 5, []), (86, 1, .aload_n 0, []), (87, 1, .aload_n 0, []), (88, 3, .getfield 519, [34, 1155, 8, 0]), (91, 2, .iload 6, []), (93, 1, .iaload, []), (94, 3, .putfield 512, [9, 1144, 8, 0]), (97, 1, .aload_n 0, []), (98, 3, .getfield 520, [38, 1156, 8, 0]), (101, 2, .iload 6, []), (103, 1, .laload, []), (104, 1, .lstore_n 3, []), (105, 3, .iinc 6 1, []), (108, 3, .goto (-85), []), (111, 1, .lload_n 3, []), (112, 1, .lreturn, [])]
def sT100 : List sEt := [(0, 1, .aload_n 0, []), (1, 1, .aload_n 1, []), (2, 1, .aload_n 1, []), (3, 3, .getfield 208, [125, 1100, 3, 0]), (6, 3, .invokevirtual 47, [79, 4226]), (9, 3, .invokevirtual 95, [86, 4196]), (12, 1, .iconst 0, []), (13, 1, .istore_n 2, []), (14, 1, .iload_n 2, []), (15, 1, .aload_n 1, []), (16, 3, .invokevirtual 21, [128, 5037]), (19, 3, .if_icmp .ge 72, []), (22, 1, .iconst 0, []), (23, 1, .istore_n 3, []), (24, 1, .iload_n 3, []), (25, 1, .aload_n 1, []), (26, 3, .getfield 203, [90, 1089, 3, 0]), (29, 3, .if_icmp .ge 56, []), (32, 1, .iload_n 3, []), (33, 1, .iconst 5, []), (34, 3, .if_icmp .ge 51, []), (37, 1, .aload_n 1, []), (38, 1, .iload_n 2, []), (39, 1, .iload_n 3, []), (40, 3, .invokestatic 101, [132, 5038]), (43, 3, .ifCond .eq 36, []), (46, 1, .aload_n 0, []), (47, 1, .aload_n 1, []), (48, 3, .getfield 208, [125, 1100, 3, 0]), (51, 3, .invokevirtual 102, [136, 5045]), (54, 1, .aload_n 0, []), (55, 3, .getfield 521, [42, 1157, 8, 0]), (58, 1, .aload_n 1, []), (59, 1, .iload_n 2, []), (60, 3, .invokevirtual 25, [139, 5042]), (63, 1, .iload_n 3, []), (64, 3, .invokestatic 19, [142, 5049]), (67, 1, .aload_n 0, []), (68, 1, .aload_n 1, []), (69, 2, .bipush 10, []), (71, 1, .iload_n 2, []), (72, 1, .imul, []), (73, 1, .iload_n 3, []), (74, 1, .iadd, []), (75, 1, .iconst 0, []), (76, 3, .invokevirtual 96, [106, 4222]), (79, 3, .iinc 3 1, []), (82, 3, .goto (-58), []), (85, 3, .iinc 2 1, []), (88, 3, .goto (-74), []), (91, 1, .aload_n 0, []), (92, 3, .getfield 512, [9, 1144, 8, 0]), (95, 1, .ireturn, [])]
def sT101 : List sEt := [(0, 1, .aload_n 0, []), (1, 1, .iload_n 1, []), (2, 3, .invokevirtual 41, [146, 5041]), (5, 1, .istore_n 3, []), (6, 1, .aload_n 0, []), (7, 1, .aload_n 0, []), (8, 1, .iload_n 1, []), (9, 3, .invokevirtual 25, [139, 5042]), (12, 3, .invokevirtual 44, [149, 5043]), (15, 2, .lstore 4, []), (17, 1, .aload_n 0, []), (18, 1, .iload_n 3, []), (19, 3, .invokevirtual 23, [153, 5044]), (22, 3, .ifCond .eq 26, []), (25, 1, .iload_n 3, []), (26, 1, .iload_n 2, []), (27, 3, .if_icmp .eq 21, []), (30, 1, .aload_n 0, []), (31, 3, .getfield 208, [125, 1100, 3, 0]), (34, 1, .iload_n 2, []), (35, 1, .laload, []), (36, 2, .lload 4, []), (38, 1, .land, []), (39, 1, .lconst 0, []), (40, 1, .lcmp, []), (41, 3, .ifCond .eq 7, []), (44, 1, .iconst 1, []), (45, 3, .goto 4, []), (48, 1, .iconst 0, []), (49, 1, .ireturn, [])]
def sT102 : List sEt := [(0, 1, .iconst 0, []), (1, 1, .istore_n 2, []), (2, 1, .iload_n 2, []), (3, 2, .bipush 7, []), (5, 3, .if_icmp .ge 24, []), (8, 1, .iload_n 2, []), (9, 1, .aload_n 1, []), (10, 1, .arraylength, []), (11, 3, .if_icmp .ge 18, []), (14, 1, .aload_n 0, []), (15, 3, .getfield 521, [42, 1157, 8, 0]), (18, 1, .iload_n 2, []), (19, 1, .aload_n 1, []), (20, 1, .iload_n 2, []), (21, 1, .laload, []), (22, 1, .lastore, []), (23, 3, .iinc 2 1, []), (26, 3, .goto (-24), []), (29, 1, .return_, [])]
def sT103 : List sEt := [(0, 1, .aload_n 1, []), (1, 1, .aload_n 2, []), (2, 1, .iconst 0, []), (3, 3, .invokevirtual 54, [157, 5072]), (6, 1, .lstore_n 3, []), (7, 1, .aload_n 1, []), (8, 1, .aload_n 2, []), (9, 1, .iconst 1, []), (10, 3, .invokevirtual 54, [157, 5072]), (13, 2, .lstore 5, []), (15, 1, .aload_n 0, []), (16, 1, .iconst 0, []), (17, 3, .putfield 513, [15, 1146, 8, 0]), (20, 1, .aload_n 0, []), (21, 1, .aload_n 1, []), (22, 3, .getfield 194, [101, 1077, 3, 0]), (25, 3, .putfield 514, [18, 1148, 8, 0]), (28, 1, .aload_n 0, []), (29, 1, .aload_n 1, []), (30, 3, .getfield 194, [101, 1077, 3, 0]), (33, 3, .putfield 515, [22, 1150, 8, 0]), (36, 1, .aload_n 0, []), (37, 1, .aload_n 1, []), (38, 1, .iconst 1, []), (39, 1, .iconst 1, []), (40, 3, .invokevirtual 92, [93, 4200]), (43, 1, .iconst 0, []), (44, 2, .istore 7, []), (46, 2, .iload 7, []), (48, 1, .aload_n 0, []), (49, 3, .getfield 518, [31, 1154, 8, 0]), (52, 3, .if_icmp .ge 88, []), (55, 1, .lload_n 3, []), (56, 1, .aload_n 0, []), (57, 3, .getfield 520, [38, 1156, 8, 0]), (60, 2, .iload 7, []), (62, 1, .laload, []), (63, 3, .ldc2_w 18446744073709551615, [104, 4221]), (66, 1, .lxor, []), (67, 1, .land, []), (68, 1, .lconst 0, []), (69, 1, .lcmp, []), (70, 3, .ifCond .ne 64, []), (73, 2, .lload 5, []), (75, 1, .aload_n 0, []), (76, 3, .getfield 520, [38, 1156, 8, 0]), (79, 2, .iload 7, []), (81, 1, .laload, []), (82, 1, .land, []), (83, 1, .lconst 0, []), (84, 1, .lcmp, []), (85, 3, .ifCond .ne 49, []), (88, 1, .aload_n 0, []), (89, 1, .dup, []), (90, 3, .getfield 513, [15, 1146, 8, 0]), (93, 1, .iconst 1, []), (94, 1, .iadd, []), (95, 3, .putfield 513, [15, 1146, 8, 0]), (98, 1, .aload_n 0, []), (99, 1, .dup, []), (100, 3, .getfield 514, [18, 1148, 8, 0]), (103, 1, .aload_n 0, []), (104, 3, .getfield 520, [38, 1156, 8, 0]), (107, 2, .iload 7, []), (109, 1, .laload, []), (110, 1, .land, []), (111, 3, .putfield 514, [18, 1148, 8, 0]), (114, 1, .aload_n 0, []), (115, 1, .dup, []), (116, 3, .getfield 515, [22, 1150, 8, 0]), (119, 1, .aload_n 0, []), (120, 3, .getfield 520, [38, 1156, 8, 0]), (123, 2, .iload 7, []), (125, 1, .laload, []), (126, 3, .ldc2_w 18446744073709551615, [104, 4221]), (129, 1, .lxor, []), (130, 1, .land, []), (131, 3, .putfield 515, [22, 1150, 8, 0]), (134, 3, .iinc 7 1, []), (137, 3, .goto (-91), []), (140, 1, .aload_n 0, []), (141, 3, .getfield 513, [15, 1146, 8, 0]), (144, 3, .ifCond .ne 13, []), (147, 1, .aload_n 0, []), (148, 1, .lconst 0, []), (149, 3, .putfield 514, [18, 1148, 8, 0]), (152, 1, .aload_n 0, []), (153, 1, .lconst 0, []), (154, 3, .putfield 515, [22, 1150, 8, 0]), (157, 1, .return_, [])]
def sT104 : List sEt := [(0, 1, .aload_n 0, []), (1, 1, .iload_n 1, []), (2, 1, .iload_n 2, []), (3, 1, .aload_n 3, []), (4, 3, .invokespecial 9, [1, 2069]), (7, 1, .return_, [])]
def sT105 : List sEt := [(0, 1, .iload_n 1, []), (1, 1, .iconst 1, []), (2, 3, .if_icmp .eq 11, []), (5, 1, .aload_n 0, []), (6, 1, .iload_n 1, []), (7, 3, .invokespecial 10, [7, 2226, 2219, 2130]), (10, 3, .ifCond .eq 7, []), (13, 1, .iconst 1, []), (14, 3, .goto 4, []), (17, 1, .iconst 0, []), (18, 1, .ireturn, [])]
def sT106 : List sEt := [(0, 1, .aload_n 1, []), (1, 1, .aload_n 0, []), (2, 3, .getfield 130, [11, 2087, 9, 2088]), (5, 3, .invokevirtual 29, [17, 3051]), (8, 1, .lreturn, [])]
def sT107 : List sEt := [(0, 1, .aload_n 0, []), (1, 3, .getfield 133, [23, 2106, 9, 2107]), (4, 2, .bipush 20, []), (6, 3, .invokevirtual 87, [27, 5099]), (9, 1, .aload_n 0, []), (10, 1, .iload_n 1, []), (11, 3, .invokespecial 13, [33, 5100, 5088, 2130]), (14, 1, .aload_n 0, []), (15, 3, .getfield 130, [11, 2087, 9, 2088]), (18, 1, .iadd, []), (19, 1, .ireturn, [])]
def sT108 : List sEt := [(0, 1, .aload_n 0, []), (1, 1, .iload_n 1, []), (2, 1, .iload_n 2, []), (3, 1, .aload_n 3, []), (4, 3, .invokespecial 5, [1, 2188]), (7, 1, .return_, [])]
def sT109 : List sEt := [(0, 1, .iload_n 1, []), (1, 2, .bipush 6, []), (3, 3, .if_icmp .eq 11, []), (6, 1, .aload_n 0, []), (7, 1, .iload_n 1, []), (8, 3, .invokespecial 6, [7, 3006, 7154, 2195]), (11, 3, .ifCond .eq 7, []), (14, 1, .iconst 1, []), (15, 3, .goto 4, []), (18, 1, .iconst 0, []), (19, 1, .ireturn, [])]
def sT110 : List sEt := [(0, 1, .aload_n 1, []), (1, 3, .getfield 194, [11, 1076, 3, 0]), (4, 1, .aload_n 1, []), (5, 1, .aload_n 0, []), (6, 3, .getfield 130, [17, 2089, 10, 2090]), (9, 1, .aload_n 0, []), (10, 3, .getfield 131, [23, 2097, 10, 2098]), (13, 1, .aload_n 0, []), (14, 3, .getfield 132, [26, 2103, 10, 2104]), (17, 3, .invokevirtual 31, [29, 3055]), (20, 3, .ldc2_w 18446744073709551615, [33, 3056]), (23, 1, .lxor, []), (24, 1, .land, []), (25, 1, .lreturn, [])]
def sT111 : List sEt := [(0, 1, .aload_n 0, []), (1, 3, .getfield 133, [35, 2108, 10, 2109]), (4, 2, .bipush 70, []), (6, 3, .invokevirtual 87, [39, 5108]), (9, 1, .aload_n 0, []), (10, 1, .iload_n 1, []), (11, 3, .invokespecial 13, [45, 5109, 5110, 2195, 2143]), (14, 1, .iconst 2, []), (15, 1, .imul, []), (16, 1, .ireturn, [])]
def sT112 : List sEt := [(0, 1, .aload_n 0, []), (1, 3, .getfield 133, [35, 2108, 10, 2109]), (4, 2, .bipush 71, []), (6, 3, .invokevirtual 87, [39, 5108]), (9, 1, .aload_n 0, []), (10, 1, .iload_n 1, []), (11, 1, .aload_n 0, []), (12, 3, .getfield 130, [17, 2089, 10, 2090]), (15, 1, .isub, []), (16, 3, .invokespecial 8, [49, 5133, 7156, 2195]), (19, 1, .ireturn, [])]
def sT113 : List sEt := [(0, 1, .aload_n 0, []), (1, 3, .invokespecial 2000, [3, 1026, 1027, 1028]), (4, 1, .aload_n 0, []), (5, 2, .bipush 8, []), (7, 3, .anewarray 3, [9, 1029]), (10, 3, .putfield 704, [11, 1179, 11, 0]), (13, 1, .aload_n 0, []), (14, 2, .bipush 8, []), (16, 3, .anewarray 4, [15, 1030]), (19, 3, .putfield 705, [17, 1180, 11, 0]), (22, 1, .aload_n 0, []), (23, 3, .new 7, [9, 1029, 1031, 1002]), (26, 1, .dup, []), (27, 3, .invokespecial 78, [21]), (30, 3, .putfield 706, [22, 1181, 11, 0]), (33, 1, .aload_n 0, []), (34, 3, .new 3, [26, 1051, 1052, 1003]), (37, 1, .dup, []), (38, 3, .invokespecial 16, [28, 1053]), (41, 3, .putfield 707, [29, 1182, 11, 0]), (44, 1, .aload_n 0, []), (45, 3, .new 3, [26, 1051, 1052, 1003]), (48, 1, .dup, []), (49, 3, .invokespecial 16, [28, 1053]), (52, 3, .putfield 708, [33, 1183, 11, 0]), (55, 1, .aload_n 0, []), (56, 3, .new 3, [26, 1051, 1052, 1003]), (59, 1, .dup, []), (60, 3, .invokespecial 16, [28, 1053]), (63, 3, .putfield 709, [36, 1184, 11, 0]), (66, 1, .aload_n 0, []), (67, 3, .new 8, [39, 1139, 1140, 1004]), (70, 1, .dup, []), (71, 3, .invokespecial 89, [41]), (74, 3, .putfield 710, [42, 1185, 11, 0]), (77, 1, .aload_n 0, []), (78, 2, .bipush 7, []), (80, 2, .newarray .long, [1050]), (82, 3, .putfield 711, [46, 1186, 11, 0]), (85, 1, .aload_n 0, []), (86, 2, .bipush 8, []), (88, 2, .newarray .int, [1137]), (90, 3, .putfield 712, [50, 1187, 11, 0]), (93, 1, .aload_n 0, []), (94, 1, .iconst 0, []), (95, 3, .putfield 713, [54, 1188, 11, 0]), (98, 1, .aload_n 0, []), (99, 1, .iconst (-1), []), (100, 3, .putfield 714, [58, 1189, 11, 0]), (103, 1, .iconst 0, []), (104, 1, .istore_n 1, []), (105, 1, .iload_n 1, []), (106, 2, .bipush 8, []), (108, 3, .if_icmp .ge 22, []), (111, 1, .aload_n 0, []), (112, 3, .getfield 704, [11, 1179, 11, 0]), (115, 1, .iload_n 1, []), (116, 3, .new 7, [9, 1029, 1031, 1002]), (119, 1, .dup, []), (120, 3, .invokespecial 78, [21]), (123, 1, .aastore, []), (124, 3, .iinc 1 1, []), (127, 3, .goto (-22), []), (130, 1, .return_, [])]
def sT114 : List sEt := [(0, 1, .iload_n 1, []), (1, 3, .invokestatic 160, [62, 1217]), (4, 3, .ifCond .ne 9, []), (7, 1, .aload_n 0, []), (8, 1, .iconst (-1), []), (9, 3, .invokevirtual 157, [66, 1220]), (12, 1, .ireturn, []), (13, 1, .iload_n 3, []), (14, 3, .ifCond .ge 10, []), (17, 1, .aload_n 0, []), (18, 2, .bipush (-4), []), (20, 3, .invokevirtual 157, [66, 1220]), (23, 1, .ireturn, []), (24, 1, .iload_n 2, []), (25, 3, .ifCond .lt 8, []), (28, 1, .iload_n 2, []), (29, 1, .iconst 3, []), (30, 3, .if_icmp .le 10, []), (33, 1, .aload_n 0, []), (34, 2, .bipush (-6), []), (36, 3, .invokevirtual 157, [66, 1220]), (39, 1, .ireturn, []), (40, 1, .iload_n 3, []), (41, 2, .bipush 100, []), (43, 3, .if_icmp .le 10, []), (46, 1, .aload_n 0, []), (47, 2, .bipush (-7), []), (49, 3, .invokevirtual 157, [66, 1220]), (52, 1, .ireturn, []), (53, 1, .aload_n 0, []), (54, 3, .getfield 705, [17, 1180, 11, 0]), (57, 1, .iload_n 1, []), (58, 1, .aconst_null, []), (59, 1, .aastore, []), (60, 1, .aload_n 0, []), (61, 3, .getfield 704, [11, 1179, 11, 0]), (64, 1, .iload_n 1, []), (65, 1, .aaload, []), (66, 1, .iload_n 2, []), (67, 1, .iload_n 3, []), (68, 3, .invokevirtual 79, [70, 1226]), (71, 1, .iconst 1, []), (72, 1, .ireturn, [])]
def sT115 : List sEt := [(0, 1, .aload_n 0, []), (1, 1, .iload_n 1, []), (2, 3, .invokevirtual 161, [74, 2007]), (5, 2, .istore 5, []), (7, 2, .iload 5, []), (9, 3, .ifCond .eq 10, []), (12, 1, .aload_n 0, []), (13, 2, .iload 5, []), (15, 3, .invokevirtual 157, [66, 1220]), (18, 1, .ireturn, []), (19, 1, .aload_n 0, []), (20, 3, .getfield 704, [11, 1179, 11, 0]), (23, 1, .iload_n 1, []), (24, 1, .aaload, []), (25, 1, .iload_n 2, []), (26, 3, .invokevirtual 82, [77, 2014]), (29, 3, .ifCond .ne 10, []), (32, 1, .aload_n 0, []), (33, 2, .bipush (-5), []), (35, 3, .invokevirtual 157, [66, 1220]), (38, 1, .ireturn, []), (39, 1, .aload_n 0, []), (40, 3, .getfield 704, [11, 1179, 11, 0]), (43, 1, .iload_n 1, []), (44, 1, .aaload, []), (45, 1, .iload_n 2, []), (46, 1, .lload_n 3, []), (47, 3, .invokevirtual 86, [80, 2018]), (50, 1, .iconst 1, []), (51, 1, .ireturn, [])]
def sT116 : List sEt := [(0, 1, .aload_n 0, []), (1, 1, .iload_n 1, []), (2, 3, .invokevirtual 161, [74, 2007]), (5, 1, .aload_n 0, []), (6, 1, .iload_n 2, []), (7, 3, .invokevirtual 161, [74, 2007]), (10, 3, .invokestatic 159, [84, 2031]), (13, 2, .istore 6, []), (15, 2, .iload 6, []), (17, 3, .ifCond .eq 10, []), (20, 1, .aload_n 0, []), (21, 2, .iload 6, []), (23, 3, .invokevirtual 157, [66, 1220]), (26, 1, .ireturn, []), (27, 1, .aload_n 0, []), (28, 3, .getfield 704, [11, 1179, 11, 0]), (31, 1, .iload_n 1, []), (32, 1, .aaload, []), (33, 3, .getfield 448, [88, 1036, 7, 0]), (36, 1, .aload_n 0, []), (37, 3, .getfield 704, [11, 1179, 11, 0]), (40, 1, .iload_n 2, []), (41, 1, .aaload, []), (42, 3, .getfield 448, [88, 1036, 7, 0]), (45, 3, .if_icmp .eq 10, []), (48, 1, .aload_n 0, []), (49, 2, .bipush (-2), []), (51, 3, .invokevirtual 157, [66, 1220]), (54, 1, .ireturn, []), (55, 2, .iload 5, []), (57, 3, .ifCond .ge 10, []), (60, 1, .aload_n 0, []), (61, 2, .bipush (-4), []), (63, 3, .invokevirtual 157, [66, 1220]), (66, 1, .ireturn, []), (67, 1, .aload_n 0, []), (68, 3, .getfield 704, [11, 1179, 11, 0]), (71, 1, .iload_n 1, []), (72, 1, .aaload, []), (73, 1, .iload_n 3, []), (74, 2, .iload 5, []), (76, 3, .invokevirtual 83, [91, 2035]), (79, 3, .ifCond .eq 19, []), (82, 1, .aload_n 0, []), (83, 3, .getfield 704, [11, 1179, 11, 0]), (86, 1, .iload_n 2, []), (87, 1, .aaload, []), (88, 2, .iload 4, []), (90, 2, .iload 5, []), (92, 3, .invokevirtual 83, [91, 2035]), (95, 3, .ifCond .ne 10, []), (98, 1, .aload_n 0, []), (99, 2, .bipush (-5), []), (101, 3, .invokevirtual 157, [66, 1220]), (104, 1, .ireturn, []), (105, 1, .aload_n 0, []), (106, 3, .getfield 704, [11, 1179, 11, 0]), (109, 1, .iload_n 1, []), (110, 1, .aaload, []), (111, 3, .getfield 450, [95, 1042, 7, 0]), (114, 1, .iload_n 3, []), (115, 1, .aload_n 0, []), (116, 3, .getfield 704, [11, 1179, 11, 0]), (119, 1, .iload_n 2, []), (120, 1, .aaload, []), (121, 3, .getfield 450, [95, 1042, 7, 0]), (124, 2, .iload 4, []), (126, 2, .iload 5, []), (128, 3, .invokestatic 1003, [98, 2039, 2041, 2040, 1007]), (131, 1, .iconst 1, []), (132, 1, .ireturn, [])]
def sT117 : List sEt := [(0, 1, .aload_n 0, []), (1, 1, .iload_n 1, []), (2, 3, .invokevirtual 161, [74, 2007]), (5, 3, .ifCond .ne 16, []), (8, 1, .aload_n 0, []), (9, 3, .getfield 704, [11, 1179, 11, 0]), (12, 1, .iload_n 1, []), (13, 1, .aaload, []), (14, 1, .iload_n 2, []), (15, 3, .invokevirtual 84, [104, 2046]), (18, 3, .goto 4, []), (21, 1, .lconst 0, []), (22, 1, .lreturn, [])]
def sT118 : List sEt := [(0, 1, .iload_n 1, []), (1, 3, .invokestatic 160, [62, 1217]), (4, 3, .ifCond .eq 13, []), (7, 1, .iload_n 2, []), (8, 3, .sipush 1000, []), (11, 1, .idiv, []), (12, 2, .bipush 7, []), (14, 3, .if_icmp .lt 9, []), (17, 1, .aload_n 0, []), (18, 1, .iconst (-1), []), (19, 3, .invokevirtual 157, [66, 1220]), (22, 1, .ireturn, []), (23, 1, .iload_n 2, []), (24, 1, .iconst (-1), []), (25, 3, .if_icmp .lt 15, []), (28, 1, .iload_n 2, []), (29, 1, .iconst (-1), []), (30, 3, .if_icmp .eq 17, []), (33, 1, .iload_n 2, []), (34, 3, .invokestatic 163, [108, 2054]), (37, 3, .ifCond .ne 10, []), (40, 1, .aload_n 0, []), (41, 2, .bipush (-6), []), (43, 3, .invokevirtual 157, [66, 1220]), (46, 1, .ireturn, []), (47, 1, .aload_n 0, []), (48, 3, .getfield 704, [11, 1179, 11, 0]), (51, 1, .iload_n 1, []), (52, 1, .aaload, []), (53, 3, .invokevirtual 80, [111, 2057]), (56, 1, .aload_n 0, []), (57, 3, .getfield 705, [17, 1180, 11, 0]), (60, 1, .iload_n 1, []), (61, 1, .iload_n 2, []), (62, 1, .iconst (-1), []), (63, 3, .if_icmp .ne 7, []), (66, 1, .aconst_null, []), (67, 3, .goto 9, []), (70, 1, .aload_n 0, []), (71, 1, .iload_n 1, []), (72, 1, .iload_n 2, []), (73, 3, .invokevirtual 164, [114, 2061]), (76, 1, .aastore, []), (77, 1, .iload_n 2, []), (78, 1, .iconst (-1), []), (79, 3, .if_icmp .ne 7, []), (82, 1, .iconst 0, []), (83, 3, .goto 4, []), (86, 1, .iconst 1, []), (87, 1, .ireturn, [])]
def sT119 : List sEt := [(0, 1, .iload_n 1, []), (1, 3, .invokestatic 160, [62, 1217]), (4, 3, .ifCond .ne 5, []), (7, 1, .iconst (-1), []), (8, 1, .ireturn, []), (9, 1, .aload_n 0, []), (10, 3, .getfield 705, [17, 1180, 11, 0]), (13, 1, .iload_n 1, []), (14, 1, .aaload, []), (15, 3, .ifnull 13, []), (18, 1, .aload_n 0, []), (19, 3, .getfield 705, [17, 1180, 11, 0]), (22, 1, .iload_n 1, []), (23, 1, .aaload, []), (24, 3, .getfield 128, [118, 2074, 2, 0]), (27, 1, .ireturn, []), (28, 1, .aload_n 0, []), (29, 3, .getfield 704, [11, 1179, 11, 0]), (32, 1, .iload_n 1, []), (33, 1, .aaload, []), (34, 3, .invokevirtual 81, [121, 2010]), (37, 3, .ifCond .eq 19, []), (40, 3, .sipush 10000, []), (43, 1, .aload_n 0, []), (44, 3, .getfield 704, [11, 1179, 11, 0]), (47, 1, .iload_n 1, []), (48, 1, .aaload, []), (49, 3, .getfield 448, [88, 1036, 7, 0]), (52, 1, .iadd, []), (53, 3, .goto 4, []), (56, 1, .iconst (-1), []), (57, 1, .ireturn, [])]
def sT120 : List sEt := [(0, 1, .aload_n 0, []), (1, 1, .iload_n 1, []), (2, 3, .invokevirtual 162, [125, 2213]), (5, 1, .istore_n 3, []), (6, 1, .iload_n 3, []), (7, 1, .iconst (-1), []), (8, 3, .if_icmp .eq 13, []), (11, 1, .iload_n 2, []), (12, 3, .ifCond .lt 9, []), (15, 1, .iload_n 2, []), (16, 2, .bipush 7, []), (18, 3, .if_icmp .lt 9, []), (21, 1, .aload_n 0, []), (22, 1, .iconst (-1), []), (23, 3, .invokevirtual 157, [66, 1220]), (26, 1, .ireturn, []), (27, 1, .iload_n 3, []), (28, 3, .ifCond .eq 9, []), (31, 1, .aload_n 0, []), (32, 1, .iload_n 3, []), (33, 3, .invokevirtual 157, [66, 1220]), (36, 1, .ireturn, []), (37, 1, .aload_n 0, []), (38, 3, .getfield 705, [17, 1180, 11, 0]), (41, 1, .iload_n 1, []), (42, 1, .aaload, []), (43, 1, .iload_n 2, []), (44, 3, .invokevirtual 1000, [128, 2216]), (47, 3, .ifCond .ne 10, []), (50, 1, .aload_n 0, []), (51, 2, .bipush (-2), []), (53, 3, .invokevirtual 157, [66, 1220]), (56, 1, .ireturn, []), (57, 1, .aload_n 0, []), (58, 1, .aload_n 0, []), (59, 3, .getfield 705, [17, 1180, 11, 0]), (62, 1, .iload_n 1, []), (63, 1, .aaload, []), (64, 1, .iload_n 2, []), (65, 3, .invokevirtual 166, [131, 3008]), (68, 1, .ireturn, [])]
def sT121 : List sEt := [(0, 1, .aload_n 0, []), (1, 1, .iload_n 1, []), (2, 3, .invokevirtual 162, [125, 2213]), (5, 3, .ifCond .ne 17, []), (8, 1, .aload_n 0, []), (9, 1, .aload_n 0, []), (10, 3, .getfield 705, [17, 1180, 11, 0]), (13, 1, .iload_n 1, []), (14, 1, .aaload, []), (15, 1, .iload_n 2, []), (16, 3, .invokevirtual 165, [135, 3011]), (19, 3, .goto 4, []), (22, 1, .lconst 0, []), (23, 1, .lreturn, [])]
def sT122 : List sEt := [(0, 1, .aload_n 0, []), (1, 1, .iload_n 1, []), (2, 3, .invokevirtual 161, [74, 2007]), (5, 1, .istore_n 2, []), (6, 1, .iload_n 2, []), (7, 3, .ifCond .eq 9, []), (10, 1, .aload_n 0, []), (11, 1, .iload_n 2, []), (12, 3, .invokevirtual 157, [66, 1220]), (15, 1, .ireturn, []), (16, 1, .aload_n 0, []), (17, 3, .getfield 709, [36, 1184, 11, 0]), (20, 1, .aload_n 0, []), (21, 3, .getfield 707, [29, 1182, 11, 0]), (24, 3, .invokevirtual 18, [139, 3091]), (27, 3, .new 6, [143, 3095, 3096, 1016]), (30, 1, .dup, []), (31, 1, .aload_n 0, []), (32, 3, .getfield 704, [11, 1179, 11, 0]), (35, 1, .iload_n 1, []), (36, 1, .aaload, []), (37, 1, .aload_n 0, []), (38, 3, .getfield 709, [36, 1184, 11, 0]), (41, 3, .invokespecial 64, [145, 3097]), (44, 1, .astore_n 3, []), (45, 1, .aload_n 3, []), (46, 3, .invokevirtual 65, [148, 3115]), (49, 2, .istore 4, []), (51, 1, .aload_n 0, []), (52, 1, .aload_n 3, []), (53, 3, .getfield 384, [152, 3102, 6, 0]), (56, 3, .putfield 714, [58, 1189, 11, 0]), (59, 1, .aload_n 0, []), (60, 3, .getfield 714, [58, 1189, 11, 0]), (63, 1, .iconst (-1), []), (64, 3, .if_icmp .eq 10, []), (67, 1, .aload_n 0, []), (68, 2, .bipush (-6), []), (70, 3, .invokevirtual 157, [66, 1220]), (73, 1, .ireturn, []), (74, 1, .aload_n 0, []), (75, 3, .getfield 707, [29, 1182, 11, 0]), (78, 1, .aload_n 0, []), (79, 3, .getfield 709, [36, 1184, 11, 0]), (82, 3, .invokevirtual 18, [139, 3091]), (85, 2, .iload 4, []), (87, 1, .ireturn, [])]
def sT123 : List sEt := [(0, 1, .aload_n 0, []), (1, 3, .getfield 714, [58, 1189, 11, 0]), (4, 1, .ireturn, [])]
def sT124 : List sEt := [(0, 1, .iload_n 1, []), (1, 1, .iconst 2, []), (2, 3, .if_icmp .lt 20, []), (5, 1, .iload_n 1, []), (6, 2, .bipush 8, []), (8, 3, .if_icmp .gt 14, []), (11, 1, .iload_n 2, []), (12, 1, .iconst 2, []), (13, 3, .if_icmp .lt 9, []), (16, 1, .iload_n 2, []), (17, 2, .bipush 8, []), (19, 3, .if_icmp .le 10, []), (22, 1, .aload_n 0, []), (23, 2, .bipush (-6), []), (25, 3, .invokevirtual 157, [66, 1220]), (28, 1, .ireturn, []), (29, 1, .aload_n 0, []), (30, 3, .getfield 707, [29, 1182, 11, 0]), (33, 1, .iload_n 1, []), (34, 1, .iload_n 2, []), (35, 3, .invokevirtual 17, [155, 4023]), (38, 1, .iconst 1, []), (39, 1, .ireturn, [])]
def sT125 : List sEt := [(0, 1, .aload_n 0, []), (1, 3, .getfield 707, [29, 1182, 11, 0]), (4, 1, .iload_n 1, []), (5, 3, .invokevirtual 22, [158, 4028]), (8, 3, .ifCond .eq 13, []), (11, 1, .iload_n 2, []), (12, 3, .ifCond .lt 9, []), (15, 1, .iload_n 2, []), (16, 2, .bipush 6, []), (18, 3, .if_icmp .lt 9, []), (21, 1, .aload_n 0, []), (22, 1, .iconst (-1), []), (23, 3, .invokevirtual 157, [66, 1220]), (26, 1, .ireturn, []), (27, 1, .aload_n 0, []), (28, 3, .getfield 707, [29, 1182, 11, 0]), (31, 1, .iload_n 1, []), (32, 3, .invokevirtual 32, [161, 4032]), (35, 1, .istore_n 3, []), (36, 1, .aload_n 0, []), (37, 3, .getfield 707, [29, 1182, 11, 0]), (40, 1, .aload_n 0, []), (41, 3, .getfield 707, [29, 1182, 11, 0]), (44, 1, .iload_n 1, []), (45, 3, .invokevirtual 25, [164, 4041]), (48, 1, .iload_n 2, []), (49, 3, .invokevirtual 33, [167, 4042]), (52, 1, .iload_n 3, []), (53, 1, .ireturn, [])]
def sT126 : List sEt := [(0, 1, .aload_n 0, []), (1, 1, .iload_n 1, []), (2, 1, .iload_n 2, []), (3, 3, .invokevirtual 167, [171, 4047]), (6, 3, .ifCond .ne 12, []), (9, 1, .aload_n 0, []), (10, 2, .bipush (-6), []), (12, 2, .bipush (-16), []), (14, 3, .invokevirtual 158, [174, 1223]), (17, 1, .ireturn, []), (18, 1, .aload_n 0, []), (19, 3, .getfield 707, [29, 1182, 11, 0]), (22, 1, .iload_n 1, []), (23, 3, .invokevirtual 34, [177, 4050]), (26, 1, .istore_n 3, []), (27, 1, .aload_n 0, []), (28, 3, .getfield 707, [29, 1182, 11, 0]), (31, 1, .iload_n 1, []), (32, 1, .iload_n 2, []), (33, 3, .invokevirtual 35, [180, 4054]), (36, 1, .iload_n 3, []), (37, 1, .ireturn, [])]
def sT127 : List sEt := [(0, 1, .iload_n 1, []), (1, 1, .iconst 1, []), (2, 3, .if_icmp .lt 9, []), (5, 1, .iload_n 1, []), (6, 2, .bipush 9, []), (8, 3, .if_icmp .le 10, []), (11, 1, .aload_n 0, []), (12, 2, .bipush (-6), []), (14, 3, .invokevirtual 157, [66, 1220]), (17, 1, .ireturn, []), (18, 1, .aload_n 0, []), (19, 3, .getfield 707, [29, 1182, 11, 0]), (22, 3, .getfield 203, [183, 1090, 3, 0]), (25, 1, .iconst 5, []), (26, 3, .if_icmp .lt 10, []), (29, 1, .aload_n 0, []), (30, 2, .bipush (-7), []), (32, 3, .invokevirtual 157, [66, 1220]), (35, 1, .ireturn, []), (36, 1, .aload_n 0, []), (37, 3, .getfield 707, [29, 1182, 11, 0]), (40, 1, .iload_n 1, []), (41, 3, .invokevirtual 36, [186, 4059]), (44, 1, .ireturn, [])]
def sT128 : List sEt := [(0, 1, .aload_n 0, []), (1, 3, .getfield 707, [29, 1182, 11, 0]), (4, 1, .iload_n 1, []), (5, 3, .invokevirtual 23, [189, 4064]), (8, 3, .ifCond .eq 13, []), (11, 1, .iload_n 2, []), (12, 3, .ifCond .lt 9, []), (15, 1, .iload_n 2, []), (16, 2, .bipush 6, []), (18, 3, .if_icmp .lt 9, []), (21, 1, .aload_n 0, []), (22, 1, .iconst (-1), []), (23, 3, .invokevirtual 157, [66, 1220]), (26, 1, .ireturn, []), (27, 1, .iload_n 3, []), (28, 3, .ifCond .lt 9, []), (31, 1, .iload_n 3, []), (32, 2, .bipush 99, []), (34, 3, .if_icmp .le 10, []), (37, 1, .aload_n 0, []), (38, 2, .bipush (-6), []), (40, 3, .invokevirtual 157, [66, 1220]), (43, 1, .ireturn, []), (44, 1, .aload_n 0, []), (45, 3, .getfield 707, [29, 1182, 11, 0]), (48, 3, .getfield 206, [192, 1096, 3, 0]), (51, 1, .iload_n 1, []), (52, 1, .aaload, []), (53, 1, .iload_n 2, []), (54, 1, .iaload, []), (55, 2, .istore 4, []), (57, 1, .aload_n 0, []), (58, 3, .getfield 707, [29, 1182, 11, 0]), (61, 3, .getfield 206, [192, 1096, 3, 0]), (64, 1, .iload_n 1, []), (65, 1, .aaload, []), (66, 1, .iload_n 2, []), (67, 1, .iload_n 3, []), (68, 1, .iastore, []), (69, 2, .iload 4, []), (71, 1, .ireturn, [])]
def sT129 : List sEt := [(0, 1, .aload_n 0, []), (1, 3, .getfield 707, [29, 1182, 11, 0]), (4, 1, .iload_n 1, []), (5, 3, .invokevirtual 23, [189, 4064]), (8, 3, .ifCond .ne 9, []), (11, 1, .aload_n 0, []), (12, 1, .iconst (-1), []), (13, 3, .invokevirtual 157, [66, 1220]), (16, 1, .ireturn, []), (17, 1, .aload_n 0, []), (18, 3, .getfield 707, [29, 1182, 11, 0]), (21, 3, .getfield 207, [196, 1098, 3, 0]), (24, 1, .iload_n 1, []), (25, 1, .baload, []), (26, 1, .istore_n 3, []), (27, 1, .aload_n 0, []), (28, 3, .getfield 707, [29, 1182, 11, 0]), (31, 3, .getfield 207, [196, 1098, 3, 0]), (34, 1, .iload_n 1, []), (35, 1, .iload_n 2, []), (36, 1, .bastore, []), (37, 1, .iload_n 3, []), (38, 1, .iload_n 2, []), (39, 3, .if_icmp .ne 7, []), (42, 1, .iconst 0, []), (43, 3, .goto 4, []), (46, 1, .iconst 1, []), (47, 1, .ireturn, [])]
def sT130 : List sEt := [(0, 1, .aload_n 0, []), (1, 3, .getfield 707, [29, 1182, 11, 0]), (4, 1, .iload_n 1, []), (5, 3, .invokevirtual 23, [189, 4064]), (8, 3, .ifCond .ne 10, []), (11, 1, .aload_n 0, []), (12, 2, .bipush (-5), []), (14, 3, .invokevirtual 157, [66, 1220]), (17, 1, .ireturn, []), (18, 1, .iload_n 2, []), (19, 2, .bipush 10, []), (21, 3, .if_icmp .lt 24, []), (24, 1, .iload_n 2, []), (25, 2, .bipush 16, []), (27, 3, .if_icmp .ge 18, []), (30, 1, .aload_n 0, []), (31, 3, .getfield 707, [29, 1182, 11, 0]), (34, 3, .getfield 206, [192, 1096, 3, 0]), (37, 1, .iload_n 1, []), (38, 1, .aaload, []), (39, 1, .iload_n 2, []), (40, 2, .bipush 10, []), (42, 1, .isub, []), (43, 1, .iaload, []), (44, 1, .ireturn, []), (45, 1, .iload_n 2, []), (46, 26, .tableswitch 67 0 2 #[26, 36, 54], []), (72, 1, .aload_n 0, []), (73, 3, .getfield 707, [29, 1182, 11, 0]), (76, 3, .getfield 205, [200, 1093, 3, 0]), (79, 1, .iload_n 1, []), (80, 1, .iaload, []), (81, 1, .ireturn, []), (82, 1, .aload_n 0, []), (83, 3, .getfield 707, [29, 1182, 11, 0]), (86, 3, .getfield 207, [196, 1098, 3, 0]), (89, 1, .iload_n 1, []), (90, 1, .baload, []), (91, 3, .ifCond .eq 7, []), (94, 1, .iconst 1, []), (95, 3, .goto 4, []), (98, 1, .iconst 0, []), (99, 1, .ireturn, []), (100, 1, .aload_n 0, []), (101, 3, .getfield 707, [29, 1182, 11, 0]), (104, 3, .getfield 208, [203, 1101, 3, 0]), (107, 1, .iload_n 1, []), (108, 1, .laload, []), (109, 3, .invokestatic 257, [206, 3077]), (112, 1, .ireturn, []), (113, 1, .aload_n 0, []), (114, 2, .bipush (-5), []), (116, 3, .invokevirtual 157, [66, 1220]), (119, 1, .ireturn, [])]
def sT131 : List sEt := [(0, 1, .aload_n 0, []), (1, 3, .getfield 707, [29, 1182, 11, 0]), (4, 1, .iload_n 1, []), (5, 3, .invokevirtual 23, [189, 4064]), (8, 3, .ifCond .eq 14, []), (11, 1, .aload_n 0, []), (12, 3, .getfield 707, [29, 1182, 11, 0]), (15, 1, .lload_n 2, []), (16, 3, .invokevirtual 24, [212, 4077]), (19, 3, .ifCond .ne 9, []), (22, 1, .aload_n 0, []), (23, 1, .iconst (-1), []), (24, 3, .invokevirtual 157, [66, 1220]), (27, 1, .ireturn, []), (28, 1, .aload_n 0, []), (29, 3, .getfield 707, [29, 1182, 11, 0]), (32, 1, .iload_n 1, []), (33, 1, .lload_n 2, []), (34, 3, .invokevirtual 37, [216, 4081]), (37, 1, .ireturn, [])]
def sT132 : List sEt := [(0, 1, .aload_n 0, []), (1, 3, .getfield 707, [29, 1182, 11, 0]), (4, 1, .iload_n 1, []), (5, 3, .invokevirtual 41, [220, 4091]), (8, 1, .ireturn, [])]
def sT133 : List sEt := [(0, 1, .aload_n 0, []), (1, 3, .getfield 707, [29, 1182, 11, 0]), (4, 1, .iload_n 3, []), (5, 3, .invokevirtual 40, [223, 4099]), (8, 2, .istore 4, []), (10, 1, .aload_n 0, []), (11, 3, .getfield 707, [29, 1182, 11, 0]), (14, 1, .lload_n 1, []), (15, 3, .invokevirtual 24, [212, 4077]), (18, 3, .ifCond .eq 9, []), (21, 2, .iload 4, []), (23, 1, .iconst (-1), []), (24, 3, .if_icmp .ne 9, []), (27, 1, .aload_n 0, []), (28, 1, .iconst (-1), []), (29, 3, .invokevirtual 157, [66, 1220]), (32, 1, .ireturn, []), (33, 1, .aload_n 0, []), (34, 3, .getfield 707, [29, 1182, 11, 0]), (37, 3, .getfield 208, [203, 1101, 3, 0]), (40, 1, .lload_n 1, []), (41, 2, .iload 4, []), (43, 3, .invokestatic 19, [226, 4103]), (46, 1, .lload_n 1, []), (47, 3, .invokestatic 257, [206, 3077]), (50, 1, .ireturn, [])]
def sT134 : List sEt := [(0, 1, .aload_n 0, []), (1, 1, .iload_n 1, []), (2, 3, .invokevirtual 162, [125, 2213]), (5, 2, .istore 4, []), (7, 1, .aload_n 0, []), (8, 3, .getfield 707, [29, 1182, 11, 0]), (11, 1, .iload_n 2, []), (12, 3, .invokevirtual 40, [223, 4099]), (15, 2, .istore 5, []), (17, 1, .aload_n 0, []), (18, 3, .getfield 707, [29, 1182, 11, 0]), (21, 1, .iload_n 3, []), (22, 3, .invokevirtual 40, [223, 4099]), (25, 2, .istore 6, []), (27, 2, .iload 4, []), (29, 1, .iconst (-1), []), (30, 3, .if_icmp .eq 15, []), (33, 2, .iload 5, []), (35, 1, .iconst (-1), []), (36, 3, .if_icmp .eq 9, []), (39, 2, .iload 6, []), (41, 1, .iconst (-1), []), (42, 3, .if_icmp .ne 9, []), (45, 1, .aload_n 0, []), (46, 1, .iconst (-1), []), (47, 3, .invokevirtual 157, [66, 1220]), (50, 1, .ireturn, []), (51, 2, .iload 4, []), (53, 3, .ifCond .eq 10, []), (56, 1, .aload_n 0, []), (57, 2, .iload 4, []), (59, 3, .invokevirtual 157, [66, 1220]), (62, 1, .ireturn, []), (63, 1, .aload_n 0, []), (64, 3, .getfield 711, [46, 1186, 11, 0]), (67, 3, .invokestatic 20, [230, 4108]), (70, 1, .aload_n 0, []), (71, 3, .getfield 711, [46, 1186, 11, 0]), (74, 2, .iload 5, []), (76, 1, .dup2, []), (77, 1, .laload, []), (78, 1, .aload_n 0, []), (79, 1, .aload_n 0, []), (80, 3, .getfield 705, [17, 1180, 11, 0]), (83, 1, .iload_n 1, []), (84, 1, .aaload, []), (85, 1, .iconst 0, []), (86, 3, .invokevirtual 165, [135, 3011]), (89, 1, .lor, []), (90, 1, .lastore, []), (91, 1, .aload_n 0, []), (92, 3, .getfield 711, [46, 1186, 11, 0]), (95, 2, .iload 6, []), (97, 1, .dup2, []), (98, 1, .laload, []), (99, 1, .aload_n 0, []), (100, 1, .aload_n 0, []), (101, 3, .getfield 705, [17, 1180, 11, 0]), (104, 1, .iload_n 1, []), (105, 1, .aaload, []), (106, 1, .iconst 1, []), (107, 3, .invokevirtual 165, [135, 3011]), (110, 1, .lor, []), (111, 1, .lastore, []), (112, 1, .aload_n 0, []), (113, 3, .getfield 711, [46, 1186, 11, 0]), (116, 1, .iconst 5, []), (117, 1, .dup2, []), (118, 1, .laload, []), (119, 1, .aload_n 0, []), (120, 1, .aload_n 0, []), (121, 3, .getfield 705, [17, 1180, 11, 0]), (124, 1, .iload_n 1, []), (125, 1, .aaload, []), (126, 1, .iconst 2, []), (127, 3, .invokevirtual 165, [135, 3011]), (130, 1, .lor, []), (131, 1, .lastore, []), (132, 1, .aload_n 0, []), (133, 3, .getfield 707, [29, 1182, 11, 0]), (136, 1, .aload_n 0, []), (137, 3, .getfield 711, [46, 1186, 11, 0]), (140, 3, .invokevirtual 43, [234, 4109]), (143, 1, .ireturn, [])]
def sT135 : List sEt := [(0, 1, .aload_n 0, []), (1, 1, .iload_n 1, []), (2, 3, .invokevirtual 161, [74, 2007]), (5, 1, .istore_n 2, []), (6, 1, .iload_n 2, []), (7, 3, .ifCond .eq 9, []), (10, 1, .aload_n 0, []), (11, 1, .iload_n 2, []), (12, 3, .invokevirtual 157, [66, 1220]), (15, 1, .ireturn, []), (16, 1, .aload_n 0, []), (17, 3, .getfield 711, [46, 1186, 11, 0]), (20, 3, .invokestatic 20, [230, 4108]), (23, 1, .iconst 0, []), (24, 1, .istore_n 3, []), (25, 1, .iload_n 3, []), (26, 1, .aload_n 0, []), (27, 3, .getfield 707, [29, 1182, 11, 0]), (30, 3, .invokevirtual 21, [238, 4117]), (33, 3, .if_icmp .ge 74, []), (36, 1, .aload_n 0, []), (37, 3, .getfield 704, [11, 1179, 11, 0]), (40, 1, .iload_n 1, []), (41, 1, .aaload, []), (42, 1, .iload_n 3, []), (43, 3, .invokevirtual 82, [77, 2014]), (46, 3, .ifCond .eq 23, []), (49, 1, .aload_n 0, []), (50, 3, .getfield 707, [29, 1182, 11, 0]), (53, 1, .aload_n 0, []), (54, 3, .getfield 704, [11, 1179, 11, 0]), (57, 1, .iload_n 1, []), (58, 1, .aaload, []), (59, 1, .iload_n 3, []), (60, 3, .invokevirtual 85, [241, 4118]), (63, 3, .invokevirtual 40, [223, 4099]), (66, 3, .goto 4, []), (69, 1, .iconst (-1), []), (70, 2, .istore 4, []), (72, 1, .aload_n 0, []), (73, 3, .getfield 711, [46, 1186, 11, 0]), (76, 2, .iload 4, []), (78, 1, .iconst (-1), []), (79, 3, .if_icmp .ne 8, []), (82, 2, .bipush 6, []), (84, 3, .goto 5, []), (87, 2, .iload 4, []), (89, 1, .dup2, []), (90, 1, .laload, []), (91, 1, .aload_n 0, []), (92, 3, .getfield 707, [29, 1182, 11, 0]), (95, 1, .iload_n 3, []), (96, 3, .invokevirtual 25, [164, 4041]), (99, 1, .lor, []), (100, 1, .lastore, []), (101, 3, .iinc 3 1, []), (104, 3, .goto (-79), []), (107, 1, .aload_n 0, []), (108, 3, .getfield 707, [29, 1182, 11, 0]), (111, 1, .aload_n 0, []), (112, 3, .getfield 711, [46, 1186, 11, 0]), (115, 3, .invokevirtual 43, [234, 4109]), (118, 1, .pop, []), (119, 1, .aload_n 0, []), (120, 3, .getfield 707, [29, 1182, 11, 0]), (123, 3, .invokevirtual 42, [244, 4119]), (126, 1, .ireturn, [])]
def sT136 : List sEt := [(0, 1, .aload_n 0, []), (1, 3, .getfield 707, [29, 1182, 11, 0]), (4, 1, .iload_n 1, []), (5, 3, .invokevirtual 40, [223, 4099]), (8, 1, .istore_n 2, []), (9, 1, .iload_n 2, []), (10, 1, .iconst (-1), []), (11, 3, .if_icmp .ne 7, []), (14, 1, .lconst 0, []), (15, 3, .goto 12, []), (18, 1, .aload_n 0, []), (19, 3, .getfield 707, [29, 1182, 11, 0]), (22, 3, .getfield 208, [203, 1101, 3, 0]), (25, 1, .iload_n 2, []), (26, 1, .laload, []), (27, 1, .lreturn, [])]
def sT137 : List sEt := [(0, 1, .aload_n 0, []), (1, 3, .getfield 707, [29, 1182, 11, 0]), (4, 1, .aload_n 0, []), (5, 3, .getfield 707, [29, 1182, 11, 0]), (8, 3, .getfield 208, [203, 1101, 3, 0]), (11, 3, .invokevirtual 47, [247, 4131]), (14, 1, .ireturn, [])]
def sT138 : List sEt := [(0, 1, .aload_n 0, []), (1, 3, .getfield 707, [29, 1182, 11, 0]), (4, 1, .aload_n 0, []), (5, 3, .getfield 707, [29, 1182, 11, 0]), (8, 3, .getfield 208, [203, 1101, 3, 0]), (11, 3, .invokevirtual 48, [250, 4139]), (14, 2, .bipush 100, []), (16, 1, .idiv, []), (17, 1, .ireturn, [])]
def sT139 : List sEt := [(0, 1, .aload_n 0, []), (1, 3, .getfield 707, [29, 1182, 11, 0]), (4, 1, .aload_n 0, []), (5, 3, .getfield 707, [29, 1182, 11, 0]), (8, 3, .getfield 208, [203, 1101, 3, 0]), (11, 3, .invokevirtual 48, [250, 4139]), (14, 1, .istore_n 1, []), (15, 1, .iload_n 1, []), (16, 3, .ifCond .ne 7, []), (19, 1, .iconst (-1), []), (20, 3, .goto 7, []), (23, 1, .iload_n 1, []), (24, 2, .bipush 100, []), (26, 1, .irem, []), (27, 1, .ireturn, [])]
def sT140 : List sEt := [(0, 1, .aload_n 0, []), (1, 3, .getfield 707, [29, 1182, 11, 0]), (4, 1, .lload_n 1, []), (5, 3, .invokevirtual 24, [212, 4077]), (8, 3, .ifCond .eq 14, []), (11, 1, .aload_n 0, []), (12, 3, .getfield 707, [29, 1182, 11, 0]), (15, 1, .lload_n 1, []), (16, 3, .invokevirtual 46, [253, 4184]), (19, 3, .goto 4, []), (22, 1, .iconst 0, []), (23, 1, .ireturn, [])]
def sT141 : List sEt := [(0, 1, .iload_n 1, []), (1, 3, .ifCond .lt 22, []), (4, 1, .iload_n 1, []), (5, 1, .iconst 2, []), (6, 3, .if_icmp .gt 17, []), (9, 1, .aload_n 0, []), (10, 3, .getfield 710, [42, 1185, 11, 0]), (13, 1, .aload_n 0, []), (14, 3, .getfield 707, [29, 1182, 11, 0]), (17, 3, .invokevirtual 97, [256, 4192]), (20, 3, .ifCond .ne 10, []), (23, 1, .aload_n 0, []), (24, 2, .bipush (-5), []), (26, 3, .invokevirtual 157, [66, 1220]), (29, 1, .ireturn, []), (30, 1, .aload_n 0, []), (31, 3, .getfield 710, [42, 1185, 11, 0]), (34, 1, .iload_n 1, []), (35, 3, .invokevirtual 90, [260, 4228]), (38, 1, .ireturn, [])]
def sT142 : List sEt := [(0, 1, .iload_n 1, []), (1, 3, .ifCond .lt 22, []), (4, 1, .iload_n 1, []), (5, 1, .iconst 2, []), (6, 3, .if_icmp .gt 17, []), (9, 1, .aload_n 0, []), (10, 3, .getfield 710, [42, 1185, 11, 0]), (13, 1, .aload_n 0, []), (14, 3, .getfield 707, [29, 1182, 11, 0]), (17, 3, .invokevirtual 98, [263, 4236]), (20, 3, .ifCond .ne 10, []), (23, 1, .aload_n 0, []), (24, 2, .bipush (-5), []), (26, 3, .invokevirtual 157, [66, 1220]), (29, 1, .ireturn, []), (30, 1, .aload_n 0, []), (31, 3, .getfield 710, [42, 1185, 11, 0]), (34, 1, .iload_n 1, []), (35, 3, .invokevirtual 90, [260, 4228]), (38, 1, .ireturn, [])]
def sT143 : List sEt := [(0, 1, .aload_n 0, []), (1, 3, .getfield 707, [29, 1182, 11, 0]), (4, 1, .iload_n 1, []), (5, 3, .invokevirtual 23, [189, 4064]), (8, 3, .ifCond .eq 14, []), (11, 1, .aload_n 0, []), (12, 3, .getfield 707, [29, 1182, 11, 0]), (15, 1, .iload_n 2, []), (16, 3, .invokevirtual 23, [189, 4064]), (19, 3, .ifCond .ne 9, []), (22, 1, .aload_n 0, []), (23, 1, .iconst (-1), []), (24, 3, .invokevirtual 157, [66, 1220]), (27, 1, .ireturn, []), (28, 1, .iload_n 3, []), (29, 3, .ifCond .lt 8, []), (32, 1, .iload_n 3, []), (33, 1, .iconst 3, []), (34, 3, .if_icmp .le 10, []), (37, 1, .aload_n 0, []), (38, 2, .bipush (-5), []), (40, 3, .invokevirtual 157, [66, 1220]), (43, 1, .ireturn, []), (44, 1, .iload_n 1, []), (45, 1, .iload_n 2, []), (46, 3, .if_icmp .ne 10, []), (49, 1, .aload_n 0, []), (50, 2, .bipush (-6), []), (52, 3, .invokevirtual 157, [66, 1220]), (55, 1, .ireturn, []), (56, 1, .aload_n 0, []), (57, 3, .getfield 710, [42, 1185, 11, 0]), (60, 1, .aload_n 0, []), (61, 3, .getfield 707, [29, 1182, 11, 0]), (64, 1, .iload_n 1, []), (65, 3, .invokevirtual 99, [266, 5009]), (68, 2, .lstore 4, []), (70, 1, .aload_n 0, []), (71, 3, .getfield 707, [29, 1182, 11, 0]), (74, 3, .getfield 194, [270, 1078, 3, 0]), (77, 2, .lload 4, []), (79, 3, .ldc2_w 18446744073709551615, [274, 3076]), (82, 1, .lxor, []), (83, 1, .land, []), (84, 2, .lstore 6, []), (86, 1, .aload_n 0, []), (87, 3, .getfield 707, [29, 1182, 11, 0]), (90, 1, .iload_n 2, []), (91, 2, .lload 6, []), (93, 3, .invokevirtual 37, [216, 4081]), (96, 1, .aload_n 0, []), (97, 3, .getfield 707, [29, 1182, 11, 0]), (100, 1, .iload_n 2, []), (101, 2, .lload 4, []), (103, 3, .invokevirtual 37, [216, 4081]), (106, 3, .if_icmp .le 7, []), (109, 1, .iconst 1, []), (110, 3, .goto 4, []), (113, 1, .iconst 0, []), (114, 2, .istore 8, []), (116, 1, .iload_n 3, []), (117, 27, .tableswitch 67 0 2 #[27, 35, 46], []), (144, 1, .aload_n 0, []), (145, 3, .getfield 710, [42, 1185, 11, 0]), (148, 3, .getfield 512, [276, 1145, 8, 0]), (151, 1, .ireturn, []), (152, 2, .iload 8, []), (154, 3, .ifCond .eq 7, []), (157, 1, .iconst 1, []), (158, 3, .goto 4, []), (161, 1, .iconst 0, []), (162, 1, .ireturn, []), (163, 1, .aload_n 0, []), (164, 3, .getfield 707, [29, 1182, 11, 0]), (167, 1, .iload_n 2, []), (168, 2, .iload 8, []), (170, 3, .ifCond .eq 8, []), (173, 2, .lload 6, []), (175, 3, .goto 5, []), (178, 2, .lload 4, []), (180, 3, .invokevirtual 37, [216, 4081]), (183, 1, .ireturn, []), (184, 1, .aload_n 0, []), (185, 3, .getfield 707, [29, 1182, 11, 0]), (188, 1, .iload_n 1, []), (189, 2, .iload 8, []), (191, 3, .ifCond .eq 8, []), (194, 2, .lload 4, []), (196, 3, .goto 5, []), (199, 2, .lload 6, []), (201, 3, .invokevirtual 37, [216, 4081]), (204, 1, .ireturn, [])]
def sT144 : List sEt := [(0, 1, .aload_n 0, []), (1, 3, .getfield 707, [29, 1182, 11, 0]), (4, 1, .iload_n 1, []), (5, 3, .invokevirtual 23, [189, 4064]), (8, 3, .ifCond .ne 9, []), (11, 1, .aload_n 0, []), (12, 1, .iconst (-1), []), (13, 3, .invokevirtual 157, [66, 1220]), (16, 1, .ireturn, []), (17, 1, .aload_n 0, []), (18, 3, .getfield 707, [29, 1182, 11, 0]), (21, 1, .iload_n 1, []), (22, 1, .aload_n 0, []), (23, 3, .getfield 707, [29, 1182, 11, 0]), (26, 3, .getfield 208, [203, 1101, 3, 0]), (29, 1, .iload_n 1, []), (30, 1, .laload, []), (31, 3, .invokevirtual 37, [216, 4081]), (34, 1, .istore_n 2, []), (35, 1, .iconst 0, []), (36, 1, .istore_n 3, []), (37, 1, .iconst 0, []), (38, 2, .istore 4, []), (40, 2, .iload 4, []), (42, 1, .aload_n 0, []), (43, 3, .getfield 707, [29, 1182, 11, 0]), (46, 3, .getfield 203, [183, 1090, 3, 0]), (49, 3, .if_icmp .ge 44, []), (52, 2, .iload 4, []), (54, 1, .iconst 5, []), (55, 3, .if_icmp .ge 38, []), (58, 1, .aload_n 0, []), (59, 3, .getfield 707, [29, 1182, 11, 0]), (62, 1, .iload_n 1, []), (63, 1, .aload_n 0, []), (64, 3, .getfield 707, [29, 1182, 11, 0]), (67, 3, .getfield 208, [203, 1101, 3, 0]), (70, 2, .iload 4, []), (72, 1, .laload, []), (73, 3, .invokevirtual 37, [216, 4081]), (76, 1, .iload_n 2, []), (77, 3, .if_icmp .le 10, []), (80, 1, .iload_n 3, []), (81, 1, .iconst 1, []), (82, 2, .iload 4, []), (84, 1, .ishl, []), (85, 1, .ior, []), (86, 1, .istore_n 3, []), (87, 3, .iinc 4 1, []), (90, 3, .goto (-50), []), (93, 1, .iload_n 3, []), (94, 1, .ireturn, [])]
def sT145 : List sEt := [(0, 1, .aload_n 0, []), (1, 3, .getfield 707, [29, 1182, 11, 0]), (4, 1, .iload_n 1, []), (5, 3, .invokevirtual 23, [189, 4064]), (8, 3, .ifCond .ne 12, []), (11, 1, .aload_n 0, []), (12, 1, .iconst (-1), []), (13, 3, .ldc_w 4293967295, [279, 5026]), (16, 3, .invokevirtual 158, [174, 1223]), (19, 1, .ireturn, []), (20, 1, .aload_n 0, []), (21, 3, .getfield 707, [29, 1182, 11, 0]), (24, 3, .invokevirtual 38, [280, 5027]), (27, 1, .istore_n 2, []), (28, 1, .iload_n 2, []), (29, 3, .ifCond .ne 7, []), (32, 1, .iconst 0, []), (33, 3, .goto 23, []), (36, 1, .aload_n 0, []), (37, 3, .getfield 707, [29, 1182, 11, 0]), (40, 1, .iload_n 1, []), (41, 1, .aload_n 0, []), (42, 3, .getfield 707, [29, 1182, 11, 0]), (45, 3, .getfield 208, [203, 1101, 3, 0]), (48, 1, .iload_n 1, []), (49, 1, .laload, []), (50, 3, .invokevirtual 39, [283, 5028]), (53, 1, .ineg, []), (54, 1, .iload_n 2, []), (55, 1, .idiv, []), (56, 1, .ireturn, [])]
def sT146 : List sEt := [(0, 1, .aload_n 0, []), (1, 3, .getfield 710, [42, 1185, 11, 0]), (4, 1, .aload_n 0, []), (5, 3, .getfield 707, [29, 1182, 11, 0]), (8, 3, .invokevirtual 100, [286, 5033]), (11, 1, .istore_n 1, []), (12, 1, .iload_n 1, []), (13, 1, .iconst (-1), []), (14, 3, .if_icmp .ne 12, []), (17, 1, .aload_n 0, []), (18, 2, .bipush (-5), []), (20, 3, .invokevirtual 157, [66, 1220]), (23, 3, .goto 4, []), (26, 1, .iload_n 1, []), (27, 1, .ireturn, [])]
def sT147 : List sEt := [(0, 1, .iload_n 1, []), (1, 1, .iconst 1, []), (2, 3, .if_icmp .lt 9, []), (5, 1, .iload_n 1, []), (6, 2, .bipush 20, []), (8, 3, .if_icmp .le 10, []), (11, 1, .aload_n 0, []), (12, 2, .bipush (-6), []), (14, 3, .invokevirtual 157, [66, 1220]), (17, 1, .ireturn, []), (18, 1, .iconst 0, []), (19, 1, .istore_n 2, []), (20, 1, .iload_n 2, []), (21, 1, .iload_n 1, []), (22, 3, .if_icmp .ge 53, []), (25, 1, .aload_n 0, []), (26, 3, .getfield 710, [42, 1185, 11, 0]), (29, 1, .aload_n 0, []), (30, 3, .getfield 707, [29, 1182, 11, 0]), (33, 3, .invokevirtual 100, [286, 5033]), (36, 1, .istore_n 3, []), (37, 1, .iload_n 3, []), (38, 1, .iconst (-1), []), (39, 3, .if_icmp .ne 5, []), (42, 1, .iload_n 2, []), (43, 1, .ireturn, []), (44, 1, .aload_n 0, []), (45, 3, .getfield 707, [29, 1182, 11, 0]), (48, 3, .getfield 208, [203, 1101, 3, 0]), (51, 1, .aload_n 0, []), (52, 3, .getfield 707, [29, 1182, 11, 0]), (55, 1, .iload_n 3, []), (56, 2, .bipush 10, []), (58, 1, .idiv, []), (59, 3, .invokevirtual 25, [164, 4041]), (62, 1, .iload_n 3, []), (63, 2, .bipush 10, []), (65, 1, .irem, []), (66, 3, .invokestatic 19, [226, 4103]), (69, 3, .iinc 2 1, []), (72, 3, .goto (-52), []), (75, 1, .iload_n 1, []), (76, 1, .ireturn, [])]
def sT148 : List sEt := [(0, 1, .aload_n 0, []), (1, 1, .iload_n 1, []), (2, 3, .invokevirtual 162, [125, 2213]), (5, 1, .aload_n 0, []), (6, 1, .iload_n 2, []), (7, 3, .invokevirtual 161, [74, 2007]), (10, 3, .invokestatic 159, [84, 2031]), (13, 1, .istore_n 3, []), (14, 1, .iload_n 3, []), (15, 3, .ifCond .eq 9, []), (18, 1, .aload_n 0, []), (19, 1, .iload_n 3, []), (20, 3, .invokevirtual 157, [66, 1220]), (23, 1, .ireturn, []), (24, 1, .aload_n 0, []), (25, 3, .getfield 707, [29, 1182, 11, 0]), (28, 1, .aload_n 0, []), (29, 3, .getfield 704, [11, 1179, 11, 0]), (32, 1, .iload_n 2, []), (33, 1, .aaload, []), (34, 1, .iconst 0, []), (35, 3, .invokevirtual 54, [290, 5058]), (38, 1, .aload_n 0, []), (39, 1, .aload_n 0, []), (40, 3, .getfield 705, [17, 1180, 11, 0]), (43, 1, .iload_n 1, []), (44, 1, .aaload, []), (45, 1, .iconst 0, []), (46, 3, .invokevirtual 165, [135, 3011]), (49, 3, .ldc2_w 18446744073709551615, [274, 3076]), (52, 1, .lxor, []), (53, 1, .land, []), (54, 2, .lstore 4, []), (56, 1, .aload_n 0, []), (57, 3, .getfield 707, [29, 1182, 11, 0]), (60, 1, .aload_n 0, []), (61, 3, .getfield 704, [11, 1179, 11, 0]), (64, 1, .iload_n 2, []), (65, 1, .aaload, []), (66, 1, .iconst 1, []), (67, 3, .invokevirtual 54, [290, 5058]), (70, 1, .aload_n 0, []), (71, 1, .aload_n 0, []), (72, 3, .getfield 705, [17, 1180, 11, 0]), (75, 1, .iload_n 1, []), (76, 1, .aaload, []), (77, 1, .iconst 1, []), (78, 3, .invokevirtual 165, [135, 3011]), (81, 3, .ldc2_w 18446744073709551615, [274, 3076]), (84, 1, .lxor, []), (85, 1, .land, []), (86, 2, .lstore 6, []), (88, 2, .lload 4, []), (90, 2, .lload 6, []), (92, 1, .lor, []), (93, 1, .lconst 0, []), (94, 1, .lcmp, []), (95, 3, .ifCond .ne 7, []), (98, 1, .iconst 1, []), (99, 3, .goto 4, []), (102, 1, .iconst 0, []), (103, 1, .ireturn, [])]
def sT149 : List sEt := [(0, 1, .aload_n 0, []), (1, 1, .iload_n 1, []), (2, 3, .invokevirtual 161, [74, 2007]), (5, 1, .istore_n 2, []), (6, 1, .iload_n 2, []), (7, 3, .ifCond .eq 9, []), (10, 1, .aload_n 0, []), (11, 1, .iload_n 2, []), (12, 3, .invokevirtual 157, [66, 1220]), (15, 1, .ireturn, []), (16, 1, .aload_n 0, []), (17, 3, .getfield 710, [42, 1185, 11, 0]), (20, 1, .aload_n 0, []), (21, 3, .getfield 707, [29, 1182, 11, 0]), (24, 1, .aload_n 0, []), (25, 3, .getfield 704, [11, 1179, 11, 0]), (28, 1, .iload_n 1, []), (29, 1, .aaload, []), (30, 3, .invokevirtual 103, [294, 5068]), (33, 1, .aload_n 0, []), (34, 3, .getfield 710, [42, 1185, 11, 0]), (37, 3, .getfield 513, [298, 1147, 8, 0]), (40, 1, .ireturn, [])]
def sT150 : List sEt := [(0, 1, .aload_n 0, []), (1, 1, .iload_n 1, []), (2, 3, .invokevirtual 161, [74, 2007]), (5, 1, .istore_n 3, []), (6, 1, .iload_n 3, []), (7, 3, .ifCond .eq 10, []), (10, 1, .aload_n 0, []), (11, 1, .iload_n 3, []), (12, 3, .invokevirtual 157, [66, 1220]), (15, 1, .i2l, []), (16, 1, .lreturn, []), (17, 1, .iload_n 2, []), (18, 3, .ifCond .lt 8, []), (21, 1, .iload_n 2, []), (22, 1, .iconst 1, []), (23, 3, .if_icmp .le 11, []), (26, 1, .aload_n 0, []), (27, 2, .bipush (-5), []), (29, 3, .invokevirtual 157, [66, 1220]), (32, 1, .i2l, []), (33, 1, .lreturn, []), (34, 1, .aload_n 0, []), (35, 3, .getfield 710, [42, 1185, 11, 0]), (38, 1, .aload_n 0, []), (39, 3, .getfield 707, [29, 1182, 11, 0]), (42, 1, .aload_n 0, []), (43, 3, .getfield 704, [11, 1179, 11, 0]), (46, 1, .iload_n 1, []), (47, 1, .aaload, []), (48, 3, .invokevirtual 103, [294, 5068]), (51, 1, .iload_n 2, []), (52, 3, .ifCond .ne 13, []), (55, 1, .aload_n 0, []), (56, 3, .getfield 710, [42, 1185, 11, 0]), (59, 3, .getfield 514, [301, 1149, 8, 0]), (62, 3, .goto 10, []), (65, 1, .aload_n 0, []), (66, 3, .getfield 710, [42, 1185, 11, 0]), (69, 3, .getfield 515, [304, 1151, 8, 0]), (72, 1, .lreturn, [])]
def sT151 : List sEt := [(0, 1, .aload_n 0, []), (1, 1, .iload_n 1, []), (2, 3, .invokevirtual 161, [74, 2007]), (5, 1, .istore_n 2, []), (6, 1, .iload_n 2, []), (7, 3, .ifCond .eq 13, []), (10, 1, .aload_n 0, []), (11, 1, .iload_n 2, []), (12, 1, .iload_n 2, []), (13, 2, .bipush 10, []), (15, 1, .isub, []), (16, 3, .invokevirtual 158, [174, 1223]), (19, 1, .ireturn, []), (20, 1, .iconst 0, []), (21, 1, .istore_n 3, []), (22, 1, .iload_n 3, []), (23, 1, .aload_n 0, []), (24, 3, .getfield 707, [29, 1182, 11, 0]), (27, 3, .getfield 203, [183, 1090, 3, 0]), (30, 3, .if_icmp .ge 46, []), (33, 1, .iload_n 3, []), (34, 1, .iconst 5, []), (35, 3, .if_icmp .ge 41, []), (38, 1, .aload_n 0, []), (39, 3, .getfield 707, [29, 1182, 11, 0]), (42, 1, .iload_n 3, []), (43, 1, .aload_n 0, []), (44, 3, .getfield 707, [29, 1182, 11, 0]), (47, 3, .getfield 208, [203, 1101, 3, 0]), (50, 1, .iload_n 3, []), (51, 1, .laload, []), (52, 3, .invokevirtual 37, [216, 4081]), (55, 1, .aload_n 0, []), (56, 3, .getfield 704, [11, 1179, 11, 0]), (59, 1, .iload_n 1, []), (60, 1, .aaload, []), (61, 1, .iload_n 3, []), (62, 3, .invokevirtual 85, [241, 4118]), (65, 3, .if_icmp .eq 5, []), (68, 1, .iload_n 3, []), (69, 1, .ireturn, []), (70, 3, .iinc 3 1, []), (73, 3, .goto (-51), []), (76, 1, .iconst (-1), []), (77, 1, .ireturn, [])]
def sT152 : List sEt := [(0, 1, .aload_n 0, []), (1, 3, .getfield 706, [22, 1181, 11, 0]), (4, 1, .iconst 2, []), (5, 1, .iconst 0, []), (6, 3, .invokevirtual 79, [70, 1226]), (9, 1, .aload_n 0, []), (10, 1, .iload_n 1, []), (11, 3, .invokevirtual 162, [125, 2213]), (14, 3, .ifCond .eq 5, []), (17, 1, .iconst 0, []), (18, 1, .ireturn, []), (19, 1, .iload_n 2, []), (20, 28, .tableswitch 61 0 2 #[28, 39, 50], []), (48, 1, .aload_n 0, []), (49, 3, .getfield 705, [17, 1180, 11, 0]), (52, 1, .iload_n 1, []), (53, 1, .aaload, []), (54, 1, .iload_n 3, []), (55, 3, .invokevirtual 1003, [307, 5085]), (58, 1, .ireturn, []), (59, 1, .aload_n 0, []), (60, 3, .getfield 705, [17, 1180, 11, 0]), (63, 1, .iload_n 1, []), (64, 1, .aaload, []), (65, 1, .iload_n 3, []), (66, 3, .invokevirtual 1004, [310, 5113]), (69, 1, .ireturn, []), (70, 1, .aload_n 0, []), (71, 3, .getfield 705, [17, 1180, 11, 0]), (74, 1, .iload_n 1, []), (75, 1, .aaload, []), (76, 1, .iload_n 3, []), (77, 3, .invokevirtual 1005, [313, 5136]), (80, 1, .ireturn, []), (81, 1, .iconst 0, []), (82, 1, .ireturn, [])]
def sT153 : List sEt := [(0, 1, .aload_n 0, []), (1, 3, .getfield 706, [22, 1181, 11, 0]), (4, 1, .iload_n 1, []), (5, 3, .invokevirtual 82, [77, 2014]), (8, 3, .ifCond .eq 20, []), (11, 1, .iload_n 1, []), (12, 2, .bipush 20, []), (14, 3, .if_icmp .ge 14, []), (17, 1, .aload_n 0, []), (18, 3, .getfield 706, [22, 1181, 11, 0]), (21, 1, .iload_n 1, []), (22, 3, .invokevirtual 85, [241, 4118]), (25, 3, .goto 4, []), (28, 1, .iconst (-1), []), (29, 1, .ireturn, [])]
def sT154 : List sEt := [(0, 1, .aload_n 0, []), (1, 3, .getfield 708, [33, 1183, 11, 0]), (4, 1, .aload_n 0, []), (5, 3, .getfield 707, [29, 1182, 11, 0]), (8, 3, .invokevirtual 18, [139, 3091]), (11, 1, .aload_n 0, []), (12, 1, .iconst 1, []), (13, 3, .putfield 713, [54, 1188, 11, 0]), (16, 1, .aload_n 0, []), (17, 3, .getfield 707, [29, 1182, 11, 0]), (20, 3, .getfield 203, [183, 1090, 3, 0]), (23, 1, .ireturn, [])]
def sT155 : List sEt := [(0, 1, .aload_n 0, []), (1, 3, .getfield 713, [54, 1188, 11, 0]), (4, 3, .ifCond .ne 10, []), (7, 1, .aload_n 0, []), (8, 2, .bipush (-6), []), (10, 3, .invokevirtual 157, [66, 1220]), (13, 1, .ireturn, []), (14, 1, .aload_n 0, []), (15, 3, .getfield 707, [29, 1182, 11, 0]), (18, 1, .aload_n 0, []), (19, 3, .getfield 708, [33, 1183, 11, 0]), (22, 3, .invokevirtual 18, [139, 3091]), (25, 1, .aload_n 0, []), (26, 3, .getfield 707, [29, 1182, 11, 0]), (29, 3, .getfield 203, [183, 1090, 3, 0]), (32, 1, .ireturn, [])]
def sT156 : List sEt := [(0, 1, .iload_n 1, []), (1, 2, .bipush 10, []), (3, 3, .if_icmp .le 19, []), (6, 1, .iload_n 1, []), (7, 2, .bipush 17, []), (9, 3, .if_icmp .gt 13, []), (12, 1, .aload_n 0, []), (13, 3, .getfield 712, [50, 1187, 11, 0]), (16, 1, .iload_n 1, []), (17, 2, .bipush 10, []), (19, 1, .isub, []), (20, 1, .iaload, []), (21, 1, .ireturn, []), (22, 1, .iload_n 1, []), (23, 49, .tableswitch 100 0 8 #[49, 57, 65, 73, 73, 73, 73, 84, 92], []), (72, 1, .aload_n 0, []), (73, 3, .getfield 707, [29, 1182, 11, 0]), (76, 3, .getfield 192, [316, 1071, 3, 0]), (79, 1, .ireturn, []), (80, 1, .aload_n 0, []), (81, 3, .getfield 707, [29, 1182, 11, 0]), (84, 3, .getfield 193, [319, 1074, 3, 0]), (87, 1, .ireturn, []), (88, 1, .aload_n 0, []), (89, 3, .getfield 707, [29, 1182, 11, 0]), (92, 3, .getfield 203, [183, 1090, 3, 0]), (95, 1, .ireturn, []), (96, 1, .aload_n 0, []), (97, 3, .getfield 707, [29, 1182, 11, 0]), (100, 1, .iload_n 1, []), (101, 1, .iconst 3, []), (102, 1, .isub, []), (103, 3, .invokevirtual 34, [177, 4050]), (106, 1, .ireturn, []), (107, 1, .aload_n 0, []), (108, 3, .getfield 707, [29, 1182, 11, 0]), (111, 3, .invokevirtual 42, [244, 4119]), (114, 1, .ireturn, []), (115, 1, .aload_n 0, []), (116, 3, .getfield 706, [22, 1181, 11, 0]), (119, 3, .getfield 449, [322, 1040, 7, 0]), (122, 1, .ireturn, []), (123, 1, .iconst (-1), []), (124, 1, .ireturn, [])]
def sT157 : List sEt := [(0, 1, .aload_n 0, []), (1, 1, .iload_n 1, []), (2, 1, .iload_n 1, []), (3, 3, .invokevirtual 158, [174, 1223]), (6, 1, .ireturn, [])]
def sT158 : List sEt := [(0, 1, .iload_n 1, []), (1, 3, .ifCond .ge 20, []), (4, 1, .iload_n 1, []), (5, 2, .bipush (-7), []), (7, 3, .if_icmp .lt 14, []), (10, 1, .aload_n 0, []), (11, 3, .getfield 712, [50, 1187, 11, 0]), (14, 1, .iload_n 1, []), (15, 1, .ineg, []), (16, 1, .dup2, []), (17, 1, .iaload, []), (18, 1, .iconst 1, []), (19, 1, .iadd, []), (20, 1, .iastore, []), (21, 1, .iload_n 2, []), (22, 1, .ireturn, [])]
def sT159 : List sEt := [(0, 1, .iload_n 0, []), (1, 3, .ifCond .ne 5, []), (4, 1, .iload_n 1, []), (5, 1, .ireturn, []), (6, 1, .iload_n 1, []), (7, 3, .ifCond .ne 7, []), (10, 1, .iload_n 0, []), (11, 3, .goto 8, []), (14, 1, .iload_n 0, []), (15, 1, .iload_n 1, []), (16, 3, .invokestatic 1000, [325, 2034, 2001, 1006, 2002]), (19, 1, .ireturn, [])]
def sT160 : List sEt := [(0, 1, .iload_n 0, []), (1, 3, .ifCond .lt 13, []), (4, 1, .iload_n 0, []), (5, 2, .bipush 8, []), (7, 3, .if_icmp .ge 7, []), (10, 1, .iconst 1, []), (11, 3, .goto 4, []), (14, 1, .iconst 0, []), (15, 1, .ireturn, [])]
def sT161 : List sEt := [(0, 1, .iload_n 1, []), (1, 3, .invokestatic 160, [62, 1217]), (4, 3, .ifCond .ne 5, []), (7, 1, .iconst (-1), []), (8, 1, .ireturn, []), (9, 1, .aload_n 0, []), (10, 3, .getfield 705, [17, 1180, 11, 0]), (13, 1, .iload_n 1, []), (14, 1, .aaload, []), (15, 3, .ifnull 6, []), (18, 2, .bipush (-2), []), (20, 1, .ireturn, []), (21, 1, .aload_n 0, []), (22, 3, .getfield 704, [11, 1179, 11, 0]), (25, 1, .iload_n 1, []), (26, 1, .aaload, []), (27, 3, .invokevirtual 81, [121, 2010]), (30, 3, .ifCond .eq 7, []), (33, 1, .iconst 0, []), (34, 3, .goto 5, []), (37, 2, .bipush (-3), []), (39, 1, .ireturn, [])]
def sT162 : List sEt := [(0, 1, .iload_n 1, []), (1, 3, .invokestatic 160, [62, 1217]), (4, 3, .ifCond .ne 5, []), (7, 1, .iconst (-1), []), (8, 1, .ireturn, []), (9, 1, .aload_n 0, []), (10, 3, .getfield 704, [11, 1179, 11, 0]), (13, 1, .iload_n 1, []), (14, 1, .aaload, []), (15, 3, .invokevirtual 81, [121, 2010]), (18, 3, .ifCond .eq 6, []), (21, 2, .bipush (-2), []), (23, 1, .ireturn, []), (24, 1, .aload_n 0, []), (25, 3, .getfield 705, [17, 1180, 11, 0]), (28, 1, .iload_n 1, []), (29, 1, .aaload, []), (30, 3, .ifnull 7, []), (33, 1, .iconst 0, []), (34, 3, .goto 5, []), (37, 2, .bipush (-3), []), (39, 1, .ireturn, [])]
def sT163 : List sEt := [(0, 1, .iload_n 0, []), (1, 2, .bipush 100, []), (3, 1, .idiv, []), (4, 2, .bipush 10, []), (6, 1, .irem, []), (7, 2, .bipush 8, []), (9, 3, .if_icmp .gt 28, []), (12, 1, .iload_n 0, []), (13, 2, .bipush 10, []), (15, 1, .idiv, []), (16, 2, .bipush 10, []), (18, 1, .irem, []), (19, 2, .bipush 8, []), (21, 3, .if_icmp .gt 16, []), (24, 1, .iload_n 0, []), (25, 2, .bipush 10, []), (27, 1, .irem, []), (28, 2, .bipush 8, []), (30, 3, .if_icmp .gt 7, []), (33, 1, .iconst 1, []), (34, 3, .goto 4, []), (37, 1, .iconst 0, []), (38, 1, .ireturn, [])]
def sT164 : List sEt := [(0, 1, .iload_n 2, []), (1, 3, .sipush 1000, []), (4, 1, .idiv, []), (5, 39, .tableswitch 123 1 6 #[39, 53, 67, 81, 95, 109], []), (44, 3, .new 9, [330, 2064, 2065, 1009]), (47, 1, .dup, []), (48, 1, .iload_n 1, []), (49, 1, .iload_n 2, []), (50, 1, .aload_n 0, []), (51, 3, .getfield 706, [22, 1181, 11, 0]), (54, 3, .invokespecial 104, [332, 2066]), (57, 1, .areturn, []), (58, 3, .new 1, [335, 2131, 2132, 1010]), (61, 1, .dup, []), (62, 1, .iload_n 1, []), (63, 1, .iload_n 2, []), (64, 1, .aload_n 0, []), (65, 3, .getfield 706, [22, 1181, 11, 0]), (68, 3, .invokespecial 5, [337, 2133]), (71, 1, .areturn, []), (72, 3, .new 5, [338, 2144, 2145, 1011]), (75, 1, .dup, []), (76, 1, .iload_n 1, []), (77, 1, .iload_n 2, []), (78, 1, .aload_n 0, []), (79, 3, .getfield 706, [22, 1181, 11, 0]), (82, 3, .invokespecial 59, [340, 2146]), (85, 1, .areturn, []), (86, 3, .new 0, [341, 2157, 2158, 1012]), (89, 1, .dup, []), (90, 1, .iload_n 1, []), (91, 1, .iload_n 2, []), (92, 1, .aload_n 0, []), (93, 3, .getfield 706, [22, 1181, 11, 0]), (96, 3, .invokespecial 0, [343, 2159]), (99, 1, .areturn, []), (100, 3, .new 4, [344, 2170, 2171, 1013]), (103, 1, .dup, []), (104, 1, .iload_n 1, []), (105, 1, .iload_n 2, []), (106, 1, .aload_n 0, []), (107, 3, .getfield 706, [22, 1181, 11, 0]), (110, 3, .invokespecial 55, [346, 2172]), (113, 1, .areturn, []), (114, 3, .new 10, [347, 2183, 2184, 1014]), (117, 1, .dup, []), (118, 1, .iload_n 1, []), (119, 1, .iload_n 2, []), (120, 1, .aload_n 0, []), (121, 3, .getfield 706, [22, 1181, 11, 0]), (124, 3, .invokespecial 108, [349, 2185]), (127, 1, .areturn, []), (128, 3, .new 2, [15, 1030, 2196, 1008]), (131, 1, .dup, []), (132, 1, .iload_n 1, []), (133, 1, .iload_n 2, []), (134, 1, .aload_n 0, []), (135, 3, .getfield 706, [22, 1181, 11, 0]), (138, 3, .invokespecial 9, [350, 2197]), (141, 1, .areturn, [])]
def sT165 : List sEt := [(0, 1, .aload_n 1, []), (1, 1, .aload_n 0, []), (2, 3, .getfield 707, [29, 1182, 11, 0]), (5, 3, .invokevirtual 1001, [351, 3014]), (8, 1, .lstore_n 3, []), (9, 1, .aload_n 1, []), (10, 1, .aload_n 0, []), (11, 3, .getfield 707, [29, 1182, 11, 0]), (14, 3, .invokevirtual 1002, [355, 3062]), (17, 2, .lstore 5, []), (19, 1, .iload_n 2, []), (20, 28, .tableswitch 54 0 2 #[28, 30, 51], []), (48, 1, .lload_n 3, []), (49, 1, .lreturn, []), (50, 1, .aload_n 0, []), (51, 3, .getfield 707, [29, 1182, 11, 0]), (54, 3, .getfield 194, [270, 1078, 3, 0]), (57, 1, .lload_n 3, []), (58, 3, .ldc2_w 18446744073709551615, [274, 3076]), (61, 1, .lxor, []), (62, 1, .land, []), (63, 2, .lload 5, []), (65, 3, .ldc2_w 18446744073709551615, [274, 3076]), (68, 1, .lxor, []), (69, 1, .land, []), (70, 1, .lreturn, []), (71, 2, .lload 5, []), (73, 1, .lreturn, []), (74, 1, .lconst 0, []), (75, 1, .lreturn, [])]
def sT166 : List sEt := [(0, 1, .iload_n 2, []), (1, 39, .tableswitch 79 1 6 #[39, 49, 54, 64, 69, 49], []), (40, 1, .aload_n 0, []), (41, 1, .aload_n 1, []), (42, 1, .iconst 1, []), (43, 3, .invokevirtual 165, [135, 3011]), (46, 3, .invokestatic 257, [206, 3077]), (49, 1, .ireturn, []), (50, 1, .aload_n 1, []), (51, 3, .getfield 131, [358, 2099, 2, 0]), (54, 1, .ireturn, []), (55, 1, .aload_n 0, []), (56, 1, .aload_n 1, []), (57, 1, .iconst 2, []), (58, 3, .invokevirtual 165, [135, 3011]), (61, 3, .invokestatic 257, [206, 3077]), (64, 1, .ireturn, []), (65, 1, .aload_n 1, []), (66, 3, .getfield 130, [361, 2091, 2, 0]), (69, 1, .ireturn, []), (70, 1, .aload_n 1, []), (71, 3, .getfield 130, [361, 2091, 2, 0]), (74, 1, .aload_n 1, []), (75, 3, .getfield 131, [358, 2099, 2, 0]), (78, 1, .imul, []), (79, 1, .ireturn, []), (80, 1, .aload_n 0, []), (81, 1, .aload_n 1, []), (82, 1, .iconst 0, []), (83, 3, .invokevirtual 165, [135, 3011]), (86, 3, .invokestatic 257, [206, 3077]), (89, 1, .ireturn, [])]
def sT167 : List sEt := [(0, 1, .iload_n 1, []), (1, 31, .tableswitch 84 0 3 #[31, 46, 46, 68], []), (32, 1, .iload_n 2, []), (33, 3, .ifCond .lt 12, []), (36, 1, .iload_n 2, []), (37, 1, .iconst 3, []), (38, 3, .if_icmp .gt 7, []), (41, 1, .iconst 1, []), (42, 3, .goto 4, []), (45, 1, .iconst 0, []), (46, 1, .ireturn, []), (47, 1, .iload_n 2, []), (48, 1, .iconst (-1), []), (49, 3, .if_icmp .eq 14, []), (52, 1, .aload_n 0, []), (53, 3, .getfield 707, [29, 1182, 11, 0]), (56, 1, .iload_n 2, []), (57, 3, .invokevirtual 22, [158, 4028]), (60, 3, .ifCond .eq 7, []), (63, 1, .iconst 1, []), (64, 3, .goto 4, []), (67, 1, .iconst 0, []), (68, 1, .ireturn, []), (69, 1, .iload_n 2, []), (70, 3, .ifCond .lt 13, []), (73, 1, .iload_n 2, []), (74, 2, .bipush 20, []), (76, 3, .if_icmp .gt 7, []), (79, 1, .iconst 1, []), (80, 3, .goto 4, []), (83, 1, .iconst 0, []), (84, 1, .ireturn, []), (85, 1, .iconst 0, []), (86, 1, .ireturn, [])]
def sT168 : List sEt := [(0, 1, .aload_n 0, []), (1, 3, .invokespecial 2000, [1, 5178, 1027, 1028]), (4, 1, .aload_n 0, []), (5, 1, .iconst 4, []), (6, 3, .putfield 768, [7, 5179, 12, 0]), (9, 1, .aload_n 0, []), (10, 1, .iconst 4, []), (11, 3, .putfield 769, [13, 5180, 12, 0]), (14, 1, .aload_n 0, []), (15, 1, .iconst (-1), []), (16, 3, .putfield 771, [16, 5182, 12, 0]), (19, 1, .aload_n 0, []), (20, 1, .iconst (-1), []), (21, 3, .putfield 772, [19, 5183, 12, 0]), (24, 1, .aload_n 0, []), (25, 1, .iconst 1, []), (26, 3, .putfield 773, [22, 5184, 12, 0]), (29, 1, .aload_n 0, []), (30, 1, .iconst (-1), []), (31, 3, .putfield 775, [25, 5186, 12, 0]), (34, 1, .aload_n 0, []), (35, 2, .bipush 8, []), (37, 2, .newarray .int, [1137]), (39, 3, .putfield 776, [28, 5187, 12, 0]), (42, 1, .aload_n 0, []), (43, 2, .bipush 64, []), (45, 2, .newarray .int, [1137]), (47, 3, .putfield 777, [32, 5188, 12, 0]), (50, 1, .aload_n 0, []), (51, 2, .bipush 64, []), (53, 2, .newarray .int, [1137]), (55, 3, .putfield 778, [35, 5189, 12, 0]), (58, 1, .aload_n 0, []), (59, 1, .iconst 5, []), (60, 2, .newarray .int, [1137]), (62, 3, .putfield 779, [38, 5190, 12, 0]), (65, 1, .aload_n 0, []), (66, 1, .iconst 5, []), (67, 2, .newarray .int, [1137]), (69, 3, .putfield 780, [41, 5191, 12, 0]), (72, 1, .aload_n 0, []), (73, 2, .bipush 30, []), (75, 2, .newarray .int, [1137]), (77, 3, .putfield 781, [44, 5192, 12, 0]), (80, 1, .aload_n 0, []), (81, 2, .bipush 8, []), (83, 2, .newarray .int, [1137]), (85, 3, .putfield 782, [47, 5193, 12, 0]), (88, 1, .aload_n 0, []), (89, 2, .bipush 8, []), (91, 2, .newarray .int, [1137]), (93, 3, .putfield 783, [50, 5194, 12, 0]), (96, 1, .aload_n 0, []), (97, 2, .bipush 8, []), (99, 2, .newarray .int, [1137]), (101, 3, .putfield 784, [53, 5195, 12, 0]), (104, 1, .aload_n 0, []), (105, 2, .bipush 8, []), (107, 2, .newarray .int, [1137]), (109, 3, .putfield 785, [56, 5196, 12, 0]), (112, 1, .aload_n 0, []), (113, 3, .sipush 800, []), (116, 2, .newarray .long, [1050]), (118, 3, .putfield 786, [59, 5197, 12, 0]), (121, 1, .aload_n 0, []), (122, 2, .bipush 100, []), (124, 2, .newarray .long, [1050]), (126, 3, .putfield 787, [63, 5198, 12, 0]), (129, 1, .aload_n 0, []), (130, 2, .bipush 42, []), (132, 2, .newarray .int, [1137]), (134, 1, .dup, []), (135, 1, .iconst 0, []), (136, 2, .bipush 115, []), (138, 1, .iastore, []), (139, 1, .dup, []), (140, 1, .iconst 1, []), (141, 2, .bipush 105, []), (143, 1, .iastore, []), (144, 1, .dup, []), (145, 1, .iconst 2, []), (146, 2, .bipush 122, []), (148, 1, .iastore, []), (149, 1, .dup, []), (150, 1, .iconst 3, []), (151, 2, .bipush 101, []), (153, 1, .iastore, []), (154, 1, .dup, []), (155, 1, .iconst 4, []), (156, 2, .bipush 32, []), (158, 1, .iastore, []), (159, 1, .dup, []), (160, 1, .iconst 5, []), (161, 1, .iconst 0, []), (162, 1, .iastore, []), (163, 1, .dup, []), (164, 2, .bipush 6, []), (166, 2, .bipush 115, []), (168, 1, .iastore, []), (169, 1, .dup, []), (170, 2, .bipush 7, []), (172, 2, .bipush 111, []), (174, 1, .iastore, []), (175, 1, .dup, []), (176, 2, .bipush 8, []), (178, 2, .bipush 105, []), (180, 1, .iastore, []), (181, 1, .dup, []), (182, 2, .bipush 9, []), (184, 2, .bipush 108, []), (186, 1, .iastore, []), (187, 1, .dup, []), (188, 2, .bipush 10, []), (190, 2, .bipush 32, []), (192, 1, .iastore, []), (193, 1, .dup, []), (194, 2, .bipush 11, []), (196, 1, .iconst 0, []), (197, 1, .iastore, []), (198, 1, .dup, []), (199, 2, .bipush 12, []), (201, 2, .bipush 114, []), (203, 1, .iastore, []), (204, 1, .dup, []), (205, 2, .bipush 13, []), (207, 2, .bipush 111, []), (209, 1, .iastore, []), (210, 1, .dup, []), (211, 2, .bipush 14, []), (213, 2, .bipush 97, []), (215, 1, .iastore, []), (216, 1, .dup, []), (217, 2, .bipush 15, []), (219, 2, .bipush 100, []), (221, 1, .iastore, []), (222, 1, .dup, []), (223, 2, .bipush 16, []), (225, 2, .bipush 32, []), (227, 1, .iastore, []), (228, 1, .dup, []), (229, 2, .bipush 17, []), (231, 1, .iconst 0, []), (232, 1, .iastore, []), (233, 1, .dup, []), (234, 2, .bipush 18, []), (236, 2, .bipush 119, []), (238, 1, .iastore, []), (239, 1, .dup, []), (240, 2, .bipush 19, []), (242, 2, .bipush 101, []), (244, 1, .iastore, []), (245, 1, .dup, []), (246, 2, .bipush 20, []), (248, 2, .bipush 108, []), (250, 1, .iastore, []), (251, 1, .dup, []), (252, 2, .bipush 21, []), (254, 2, .bipush 108, []), (256, 1, .iastore, []), (257, 1, .dup, []), (258, 2, .bipush 22, []), (260, 2, .bipush 32, []), (262, 1, .iastore, []), (263, 1, .dup, []), (264, 2, .bipush 23, []), (266, 1, .iconst 0, []), (267, 1, .iastore, []), (268, 1, .dup, []), (269, 2, .bipush 24, []), (271, 2, .bipush 111, []), (273, 1, .iastore, []), (274, 1, .dup, []), (275, 2, .bipush 25, []), (277, 2, .bipush 97, []), (279, 1, .iastore, []), (280, 1, .dup, []), (281, 2, .bipush 26, []), (283, 2, .bipush 107, []), (285, 1, .iastore, []), (286, 1, .dup, []), (287, 2, .bipush 27, []), (289, 2, .bipush 32, []), (291, 1, .iastore, []), (292, 1, .dup, []), (293, 2, .bipush 28, []), (295, 1, .iconst 0, []), (296, 1, .iastore, []), (297, 1, .dup, []), (298, 2, .bipush 29, []), (300, 2, .bipush 115, []), (302, 1, .iastore, []), (303, 1, .dup, []), (304, 2, .bipush 30, []), (306, 2, .bipush 109, []), (308, 1, .iastore, []), (309, 1, .dup, []), (310, 2, .bipush 31, []), (312, 2, .bipush 97, []), (314, 1, .iastore, []), (315, 1, .dup, []), (316, 2, .bipush 32, []), (318, 2, .bipush 108, []), (320, 1, .iastore, []), (321, 1, .dup, []), (322, 2, .bipush 33, []), (324, 2, .bipush 108, []), (326, 1, .iastore, []), (327, 1, .dup, []), (328, 2, .bipush 34, []), (330, 2, .bipush 32, []), (332, 1, .iastore, []), (333, 1, .dup, []), (334, 2, .bipush 35, []), (336, 1, .iconst 0, []), (337, 1, .iastore, []), (338, 1, .dup, []), (339, 2, .bipush 36, []), (341, 2, .bipush 104, []), (343, 1, .iastore, []), (344, 1, .dup, []), (345, 2, .bipush 37, []), (347, 2, .bipush 101, []), (349, 1, .iastore, []), (350, 1, .dup, []), (351, 2, .bipush 38, []), (353, 2, .bipush 105, []), (355, 1, .iastore, []), (356, 1, .dup, []), (357, 2, .bipush 39, []), (359, 2, .bipush 114, []), (361, 1, .iastore, []), (362, 1, .dup, []), (363, 2, .bipush 40, []), (365, 2, .bipush 32, []), (367, 1, .iastore, []), (368, 1, .dup, []), (369, 2, .bipush 41, []), (371, 1, .iconst 0, []), (372, 1, .iastore, []), (373, 3, .putfield 788, [66, 5199, 12, 0]), (376, 1, .aload_n 0, []), (377, 3, .sipush 180, []), (380, 2, .newarray .int, [1137]), (382, 3, .putfield 794, [69, 5205, 12, 0]), (385, 1, .aload_n 0, []), (386, 3, .sipush 180, []), (389, 2, .newarray .int, [1137]), (391, 3, .putfield 795, [72, 5206, 12, 0]), (394, 1, .aload_n 0, []), (395, 3, .sipush 1000, []), (398, 2, .newarray .int, [1137]), (400, 3, .putfield 797, [75, 5208, 12, 0]), (403, 1, .aload_n 0, []), (404, 2, .bipush 64, []), (406, 2, .newarray .int, [1137]), (408, 3, .putfield 798, [78, 5209, 12, 0]), (411, 1, .aload_n 0, []), (412, 2, .bipush 20, []), (414, 2, .newarray .int, [1137]), (416, 3, .putfield 803, [81, 5214, 12, 0]), (419, 1, .iconst 0, []), (420, 1, .istore_n 1, []), (421, 1, .iload_n 1, []), (422, 2, .bipush 64, []), (424, 3, .if_icmp .ge 16, []), (427, 1, .aload_n 0, []), (428, 3, .getfield 778, [35, 5189, 12, 0]), (431, 1, .iload_n 1, []), (432, 1, .iconst (-1), []), (433, 1, .iastore, []), (434, 3, .iinc 1 1, []), (437, 3, .goto (-16), []), (440, 1, .return_, [])]
def sT169 : List sEt := [(0, 1, .aload_n 0, []), (1, 3, .getfield 776, [28, 5187, 12, 0]), (4, 1, .iload_n 1, []), (5, 1, .ineg, []), (6, 1, .dup2, []), (7, 1, .iaload, []), (8, 1, .iconst 1, []), (9, 1, .iadd, []), (10, 1, .iastore, []), (11, 1, .iload_n 1, []), (12, 1, .ireturn, [])]
def sT170 : List sEt := [(0, 1, .aload_n 0, []), (1, 3, .getfield 776, [28, 5187, 12, 0]), (4, 1, .iload_n 1, []), (5, 1, .ineg, []), (6, 1, .dup2, []), (7, 1, .iaload, []), (8, 1, .iconst 1, []), (9, 1, .iadd, []), (10, 1, .iastore, []), (11, 1, .iload_n 1, []), (12, 2, .bipush 10, []), (14, 1, .isub, []), (15, 1, .ireturn, [])]
def sT171 : List sEt := [(0, 1, .iload_n 1, []), (1, 3, .ifCond .lt 13, []), (4, 1, .iload_n 1, []), (5, 2, .bipush 8, []), (7, 3, .if_icmp .ge 7, []), (10, 1, .iconst 1, []), (11, 3, .goto 4, []), (14, 1, .iconst 0, []), (15, 1, .ireturn, [])]
def sT172 : List sEt := [(0, 1, .iload_n 1, []), (1, 3, .ifCond .lt 20, []), (4, 1, .iload_n 1, []), (5, 1, .aload_n 0, []), (6, 3, .getfield 768, [7, 5179, 12, 0]), (9, 1, .aload_n 0, []), (10, 3, .getfield 769, [13, 5180, 12, 0]), (13, 1, .imul, []), (14, 3, .if_icmp .ge 7, []), (17, 1, .iconst 1, []), (18, 3, .goto 4, []), (21, 1, .iconst 0, []), (22, 1, .ireturn, [])]
def sT173 : List sEt := [(0, 1, .iload_n 1, []), (1, 3, .ifCond .lt 15, []), (4, 1, .iload_n 1, []), (5, 1, .aload_n 0, []), (6, 3, .getfield 774, [84, 5185, 12, 0]), (9, 3, .if_icmp .ge 7, []), (12, 1, .iconst 1, []), (13, 3, .goto 4, []), (16, 1, .iconst 0, []), (17, 1, .ireturn, [])]
def sT174 : List sEt := [(0, 1, .aload_n 0, []), (1, 3, .getfield 768, [7, 5179, 12, 0]), (4, 1, .aload_n 0, []), (5, 3, .getfield 769, [13, 5180, 12, 0]), (8, 1, .imul, []), (9, 2, .bipush 64, []), (11, 3, .if_icmp .ne 9, []), (14, 3, .ldc2_w 18446744073709551615, [87, 6201]), (17, 3, .goto 16, []), (20, 1, .lconst 1, []), (21, 1, .aload_n 0, []), (22, 3, .getfield 768, [7, 5179, 12, 0]), (25, 1, .aload_n 0, []), (26, 3, .getfield 769, [13, 5180, 12, 0]), (29, 1, .imul, []), (30, 1, .lshl, []), (31, 1, .lconst 1, []), (32, 1, .lsub, []), (33, 1, .lreturn, [])]
def sT175 : List sEt := [(0, 1, .lload_n 1, []), (1, 1, .aload_n 0, []), (2, 3, .invokevirtual 174, [89, 6198]), (5, 3, .ldc2_w 18446744073709551615, [87, 6201]), (8, 1, .lxor, []), (9, 1, .land, []), (10, 1, .lconst 0, []), (11, 1, .lcmp, []), (12, 3, .ifCond .ne 7, []), (15, 1, .iconst 1, []), (16, 3, .goto 4, []), (19, 1, .iconst 0, []), (20, 1, .ireturn, [])]
def sT176 : List sEt := [(0, 1, .iconst 0, []), (1, 1, .istore_n 3, []), (2, 1, .lload_n 1, []), (3, 2, .lstore 4, []), (5, 2, .lload 4, []), (7, 1, .lconst 0, []), (8, 1, .lcmp, []), (9, 3, .ifCond .eq 18, []), (12, 3, .iinc 3 1, []), (15, 2, .lload 4, []), (17, 2, .lload 4, []), (19, 1, .lconst 1, []), (20, 1, .lsub, []), (21, 1, .land, []), (22, 2, .lstore 4, []), (24, 3, .goto (-19), []), (27, 1, .iload_n 3, []), (28, 1, .ireturn, [])]
def sT177 : List sEt := [(0, 1, .lload_n 1, []), (1, 1, .iload_n 3, []), (2, 1, .lshr, []), (3, 1, .lconst 1, []), (4, 1, .land, []), (5, 1, .lconst 1, []), (6, 1, .lcmp, []), (7, 3, .ifCond .ne 7, []), (10, 1, .iconst 1, []), (11, 3, .goto 4, []), (14, 1, .iconst 0, []), (15, 1, .ireturn, [])]
def sT178 : List sEt := [(0, 1, .aload_n 0, []), (1, 1, .iload_n 1, []), (2, 3, .invokevirtual 171, [93, 6061]), (5, 3, .ifCond .ne 9, []), (8, 1, .aload_n 0, []), (9, 1, .iconst (-1), []), (10, 3, .invokevirtual 169, [97, 6064]), (13, 1, .ireturn, []), (14, 1, .iload_n 3, []), (15, 3, .ifCond .ge 10, []), (18, 1, .aload_n 0, []), (19, 2, .bipush (-4), []), (21, 3, .invokevirtual 169, [97, 6064]), (24, 1, .ireturn, []), (25, 1, .iload_n 2, []), (26, 3, .ifCond .lt 8, []), (29, 1, .iload_n 2, []), (30, 1, .iconst 3, []), (31, 3, .if_icmp .le 10, []), (34, 1, .aload_n 0, []), (35, 2, .bipush (-6), []), (37, 3, .invokevirtual 169, [97, 6064]), (40, 1, .ireturn, []), (41, 1, .iload_n 3, []), (42, 2, .bipush 100, []), (44, 3, .if_icmp .le 10, []), (47, 1, .aload_n 0, []), (48, 2, .bipush (-7), []), (50, 3, .invokevirtual 169, [97, 6064]), (53, 1, .ireturn, []), (54, 1, .aload_n 0, []), (55, 3, .getfield 782, [47, 5193, 12, 0]), (58, 1, .iload_n 1, []), (59, 1, .iconst 1, []), (60, 1, .iastore, []), (61, 1, .aload_n 0, []), (62, 3, .getfield 783, [50, 5194, 12, 0]), (65, 1, .iload_n 1, []), (66, 1, .iload_n 2, []), (67, 1, .iastore, []), (68, 1, .aload_n 0, []), (69, 3, .getfield 784, [53, 5195, 12, 0]), (72, 1, .iload_n 1, []), (73, 1, .iload_n 3, []), (74, 1, .iastore, []), (75, 1, .iconst 0, []), (76, 2, .istore 4, []), (78, 2, .iload 4, []), (80, 2, .bipush 100, []), (82, 3, .if_icmp .ge 22, []), (85, 1, .aload_n 0, []), (86, 3, .getfield 786, [59, 5197, 12, 0]), (89, 2, .bipush 100, []), (91, 1, .iload_n 1, []), (92, 1, .imul, []), (93, 2, .iload 4, []), (95, 1, .iadd, []), (96, 1, .lconst 0, []), (97, 1, .lastore, []), (98, 3, .iinc 4 1, []), (101, 3, .goto (-23), []), (104, 1, .iconst 1, []), (105, 1, .ireturn, [])]
def sT179 : List sEt := [(0, 1, .aload_n 0, []), (1, 1, .iload_n 1, []), (2, 3, .invokevirtual 171, [93, 6061]), (5, 3, .ifCond .ne 9, []), (8, 1, .aload_n 0, []), (9, 1, .iconst (-1), []), (10, 3, .invokevirtual 169, [97, 6064]), (13, 1, .ireturn, []), (14, 1, .aload_n 0, []), (15, 3, .getfield 782, [47, 5193, 12, 0]), (18, 1, .iload_n 1, []), (19, 1, .iaload, []), (20, 1, .iconst 2, []), (21, 3, .if_icmp .ne 10, []), (24, 1, .aload_n 0, []), (25, 2, .bipush (-2), []), (27, 3, .invokevirtual 169, [97, 6064]), (30, 1, .ireturn, []), (31, 1, .aload_n 0, []), (32, 3, .getfield 782, [47, 5193, 12, 0]), (35, 1, .iload_n 1, []), (36, 1, .iaload, []), (37, 3, .ifCond .ne 10, []), (40, 1, .aload_n 0, []), (41, 2, .bipush (-3), []), (43, 3, .invokevirtual 169, [97, 6064]), (46, 1, .ireturn, []), (47, 1, .iload_n 2, []), (48, 3, .ifCond .lt 13, []), (51, 1, .iload_n 2, []), (52, 1, .aload_n 0, []), (53, 3, .getfield 784, [53, 5195, 12, 0]), (56, 1, .iload_n 1, []), (57, 1, .iaload, []), (58, 3, .if_icmp .lt 10, []), (61, 1, .aload_n 0, []), (62, 2, .bipush (-5), []), (64, 3, .invokevirtual 169, [97, 6064]), (67, 1, .ireturn, []), (68, 1, .aload_n 0, []), (69, 3, .getfield 786, [59, 5197, 12, 0]), (72, 2, .bipush 100, []), (74, 1, .iload_n 1, []), (75, 1, .imul, []), (76, 1, .iload_n 2, []), (77, 1, .iadd, []), (78, 1, .aload_n 0, []), (79, 3, .getfield 783, [50, 5194, 12, 0]), (82, 1, .iload_n 1, []), (83, 1, .iaload, []), (84, 3, .ifCond .ne 10, []), (87, 1, .lload_n 3, []), (88, 1, .l2i, []), (89, 1, .i2b, []), (90, 1, .i2l, []), (91, 3, .goto 37, []), (94, 1, .aload_n 0, []), (95, 3, .getfield 783, [50, 5194, 12, 0]), (98, 1, .iload_n 1, []), (99, 1, .iaload, []), (100, 1, .iconst 1, []), (101, 3, .if_icmp .ne 10, []), (104, 1, .lload_n 3, []), (105, 1, .l2i, []), (106, 1, .i2s, []), (107, 1, .i2l, []), (108, 3, .goto 20, []), (111, 1, .aload_n 0, []), (112, 3, .getfield 783, [50, 5194, 12, 0]), (115, 1, .iload_n 1, []), (116, 1, .iaload, []), (117, 1, .iconst 2, []), (118, 3, .if_icmp .ne 9, []), (121, 1, .lload_n 3, []), (122, 1, .l2i, []), (123, 1, .i2l, []), (124, 3, .goto 4, []), (127, 1, .lload_n 3, []), (128, 1, .lastore, []), (129, 1, .iconst 1, []), (130, 1, .ireturn, [])]
def sT180 : List sEt := [(0, 1, .aload_n 0, []), (1, 1, .iload_n 1, []), (2, 3, .invokevirtual 171, [93, 6061]), (5, 3, .ifCond .eq 11, []), (8, 1, .aload_n 0, []), (9, 1, .iload_n 2, []), (10, 3, .invokevirtual 171, [93, 6061]), (13, 3, .ifCond .ne 9, []), (16, 1, .aload_n 0, []), (17, 1, .iconst (-1), []), (18, 3, .invokevirtual 169, [97, 6064]), (21, 1, .ireturn, []), (22, 1, .aload_n 0, []), (23, 3, .getfield 782, [47, 5193, 12, 0]), (26, 1, .iload_n 1, []), (27, 1, .iaload, []), (28, 1, .iconst 2, []), (29, 3, .if_icmp .eq 48, []), (32, 1, .aload_n 0, []), (33, 3, .getfield 782, [47, 5193, 12, 0]), (36, 1, .iload_n 2, []), (37, 1, .iaload, []), (38, 1, .iconst 2, []), (39, 3, .if_icmp .eq 38, []), (42, 1, .aload_n 0, []), (43, 3, .getfield 782, [47, 5193, 12, 0]), (46, 1, .iload_n 1, []), (47, 1, .iaload, []), (48, 1, .iconst 1, []), (49, 3, .if_icmp .ne 35, []), (52, 1, .aload_n 0, []), (53, 3, .getfield 782, [47, 5193, 12, 0]), (56, 1, .iload_n 2, []), (57, 1, .iaload, []), (58, 1, .iconst 1, []), (59, 3, .if_icmp .ne 25, []), (62, 1, .aload_n 0, []), (63, 3, .getfield 783, [50, 5194, 12, 0]), (66, 1, .iload_n 1, []), (67, 1, .iaload, []), (68, 1, .aload_n 0, []), (69, 3, .getfield 783, [50, 5194, 12, 0]), (72, 1, .iload_n 2, []), (73, 1, .iaload, []), (74, 3, .if_icmp .eq 10, []), (77, 1, .aload_n 0, []), (78, 2, .bipush (-2), []), (80, 3, .invokevirtual 169, [97, 6064]), (83, 1, .ireturn, []), (84, 1, .aload_n 0, []), (85, 3, .getfield 782, [47, 5193, 12, 0]), (88, 1, .iload_n 1, []), (89, 1, .iaload, []), (90, 3, .ifCond .eq 12, []), (93, 1, .aload_n 0, []), (94, 3, .getfield 782, [47, 5193, 12, 0]), (97, 1, .iload_n 2, []), (98, 1, .iaload, []), (99, 3, .ifCond .ne 10, []), (102, 1, .aload_n 0, []), (103, 2, .bipush (-3), []), (105, 3, .invokevirtual 169, [97, 6064]), (108, 1, .ireturn, []), (109, 2, .iload 5, []), (111, 3, .ifCond .ge 10, []), (114, 1, .aload_n 0, []), (115, 2, .bipush (-4), []), (117, 3, .invokevirtual 169, [97, 6064]), (120, 1, .ireturn, []), (121, 1, .iload_n 3, []), (122, 3, .ifCond .lt 35, []), (125, 2, .iload 4, []), (127, 3, .ifCond .lt 30, []), (130, 1, .iload_n 3, []), (131, 1, .aload_n 0, []), (132, 3, .getfield 784, [53, 5195, 12, 0]), (135, 1, .iload_n 1, []), (136, 1, .iaload, []), (137, 2, .iload 5, []), (139, 1, .isub, []), (140, 3, .if_icmp .gt 17, []), (143, 2, .iload 4, []), (145, 1, .aload_n 0, []), (146, 3, .getfield 784, [53, 5195, 12, 0]), (149, 1, .iload_n 2, []), (150, 1, .iaload, []), (151, 2, .iload 5, []), (153, 1, .isub, []), (154, 3, .if_icmp .le 10, []), (157, 1, .aload_n 0, []), (158, 2, .bipush (-5), []), (160, 3, .invokevirtual 169, [97, 6064]), (163, 1, .ireturn, []), (164, 1, .iconst 0, []), (165, 2, .istore 6, []), (167, 2, .iload 6, []), (169, 2, .iload 5, []), (171, 3, .if_icmp .ge 30, []), (174, 1, .aload_n 0, []), (175, 3, .getfield 787, [63, 5198, 12, 0]), (178, 2, .iload 6, []), (180, 1, .aload_n 0, []), (181, 3, .getfield 786, [59, 5197, 12, 0]), (184, 2, .bipush 100, []), (186, 1, .iload_n 1, []), (187, 1, .imul, []), (188, 1, .iload_n 3, []), (189, 1, .iadd, []), (190, 2, .iload 6, []), (192, 1, .iadd, []), (193, 1, .laload, []), (194, 1, .lastore, []), (195, 3, .iinc 6 1, []), (198, 3, .goto (-31), []), (201, 1, .iconst 0, []), (202, 2, .istore 6, []), (204, 2, .iload 6, []), (206, 2, .iload 5, []), (208, 3, .if_icmp .ge 31, []), (211, 1, .aload_n 0, []), (212, 3, .getfield 786, [59, 5197, 12, 0]), (215, 2, .bipush 100, []), (217, 1, .iload_n 2, []), (218, 1, .imul, []), (219, 2, .iload 4, []), (221, 1, .iadd, []), (222, 2, .iload 6, []), (224, 1, .iadd, []), (225, 1, .aload_n 0, []), (226, 3, .getfield 787, [63, 5198, 12, 0]), (229, 2, .iload 6, []), (231, 1, .laload, []), (232, 1, .lastore, []), (233, 3, .iinc 6 1, []), (236, 3, .goto (-32), []), (239, 1, .iconst 1, []), (240, 1, .ireturn, [])]
def sT181 : List sEt := [(0, 1, .aload_n 0, []), (1, 1, .iload_n 1, []), (2, 3, .invokevirtual 171, [93, 6061]), (5, 3, .ifCond .eq 41, []), (8, 1, .aload_n 0, []), (9, 3, .getfield 782, [47, 5193, 12, 0]), (12, 1, .iload_n 1, []), (13, 1, .iaload, []), (14, 1, .iconst 1, []), (15, 3, .if_icmp .ne 31, []), (18, 1, .iload_n 2, []), (19, 3, .ifCond .lt 27, []), (22, 1, .iload_n 2, []), (23, 1, .aload_n 0, []), (24, 3, .getfield 784, [53, 5195, 12, 0]), (27, 1, .iload_n 1, []), (28, 1, .iaload, []), (29, 3, .if_icmp .ge 17, []), (32, 1, .aload_n 0, []), (33, 3, .getfield 786, [59, 5197, 12, 0]), (36, 2, .bipush 100, []), (38, 1, .iload_n 1, []), (39, 1, .imul, []), (40, 1, .iload_n 2, []), (41, 1, .iadd, []), (42, 1, .laload, []), (43, 3, .goto 4, []), (46, 1, .lconst 0, []), (47, 1, .lreturn, [])]
def sT182 : List sEt := [(0, 1, .aload_n 0, []), (1, 1, .iload_n 1, []), (2, 3, .invokevirtual 171, [93, 6061]), (5, 3, .ifCond .eq 10, []), (8, 1, .iload_n 2, []), (9, 3, .sipush 7000, []), (12, 3, .if_icmp .lt 9, []), (15, 1, .aload_n 0, []), (16, 1, .iconst (-1), []), (17, 3, .invokevirtual 169, [97, 6064]), (20, 1, .ireturn, []), (21, 1, .iload_n 2, []), (22, 1, .iconst (-1), []), (23, 3, .if_icmp .lt 36, []), (26, 1, .iload_n 2, []), (27, 2, .bipush 10, []), (29, 1, .irem, []), (30, 2, .bipush 9, []), (32, 3, .if_icmp .eq 27, []), (35, 1, .iload_n 2, []), (36, 2, .bipush 10, []), (38, 1, .idiv, []), (39, 2, .bipush 10, []), (41, 1, .irem, []), (42, 2, .bipush 9, []), (44, 3, .if_icmp .eq 15, []), (47, 1, .iload_n 2, []), (48, 2, .bipush 100, []), (50, 1, .idiv, []), (51, 2, .bipush 10, []), (53, 1, .irem, []), (54, 2, .bipush 9, []), (56, 3, .if_icmp .ne 10, []), (59, 1, .aload_n 0, []), (60, 2, .bipush (-6), []), (62, 3, .invokevirtual 169, [97, 6064]), (65, 1, .ireturn, []), (66, 1, .aload_n 0, []), (67, 3, .getfield 782, [47, 5193, 12, 0]), (70, 1, .iload_n 1, []), (71, 1, .iload_n 2, []), (72, 1, .iconst (-1), []), (73, 3, .if_icmp .ne 7, []), (76, 1, .iconst 0, []), (77, 3, .goto 4, []), (80, 1, .iconst 2, []), (81, 1, .iastore, []), (82, 1, .aload_n 0, []), (83, 3, .getfield 785, [56, 5196, 12, 0]), (86, 1, .iload_n 1, []), (87, 1, .iload_n 2, []), (88, 1, .iastore, []), (89, 1, .iload_n 2, []), (90, 1, .iconst (-1), []), (91, 3, .if_icmp .ne 7, []), (94, 1, .iconst 0, []), (95, 3, .goto 4, []), (98, 1, .iconst 1, []), (99, 1, .ireturn, [])]
def sT183 : List sEt := [(0, 1, .aload_n 0, []), (1, 1, .iload_n 1, []), (2, 3, .invokevirtual 171, [93, 6061]), (5, 3, .ifCond .eq 12, []), (8, 1, .aload_n 0, []), (9, 3, .getfield 782, [47, 5193, 12, 0]), (12, 1, .iload_n 1, []), (13, 1, .iaload, []), (14, 3, .ifCond .ne 5, []), (17, 1, .iconst (-1), []), (18, 1, .ireturn, []), (19, 1, .aload_n 0, []), (20, 3, .getfield 782, [47, 5193, 12, 0]), (23, 1, .iload_n 1, []), (24, 1, .iaload, []), (25, 1, .iconst 1, []), (26, 3, .if_icmp .ne 16, []), (29, 3, .sipush 10000, []), (32, 1, .aload_n 0, []), (33, 3, .getfield 783, [50, 5194, 12, 0]), (36, 1, .iload_n 1, []), (37, 1, .iaload, []), (38, 1, .iadd, []), (39, 3, .goto 9, []), (42, 1, .aload_n 0, []), (43, 3, .getfield 785, [56, 5196, 12, 0]), (46, 1, .iload_n 1, []), (47, 1, .iaload, []), (48, 1, .ireturn, [])]
def sT184 : List sEt := [(0, 1, .aload_n 0, []), (1, 1, .iload_n 1, []), (2, 3, .invokevirtual 171, [93, 6061]), (5, 3, .ifCond .ne 7, []), (8, 1, .iconst (-1), []), (9, 3, .goto 35, []), (12, 1, .aload_n 0, []), (13, 3, .getfield 782, [47, 5193, 12, 0]), (16, 1, .iload_n 1, []), (17, 1, .iaload, []), (18, 1, .iconst 3, []), (19, 1, .iload_n 2, []), (20, 1, .isub, []), (21, 3, .if_icmp .ne 8, []), (24, 2, .bipush (-2), []), (26, 3, .goto 18, []), (29, 1, .aload_n 0, []), (30, 3, .getfield 782, [47, 5193, 12, 0]), (33, 1, .iload_n 1, []), (34, 1, .iaload, []), (35, 3, .ifCond .ne 8, []), (38, 2, .bipush (-3), []), (40, 3, .goto 4, []), (43, 1, .iconst 0, []), (44, 1, .ireturn, [])]
def sT185 : List sEt := [(0, 1, .aload_n 0, []), (1, 3, .getfield 786, [59, 5197, 12, 0]), (4, 2, .bipush 100, []), (6, 1, .iload_n 1, []), (7, 1, .imul, []), (8, 1, .iload_n 2, []), (9, 1, .iadd, []), (10, 1, .laload, []), (11, 1, .l2i, []), (12, 1, .ireturn, [])]
def sT186 : List sEt := [(0, 1, .iload_n 1, []), (1, 3, .sipush 1000, []), (4, 1, .idiv, []), (5, 1, .istore_n 3, []), (6, 1, .iload_n 1, []), (7, 2, .bipush 100, []), (9, 1, .idiv, []), (10, 2, .bipush 10, []), (12, 1, .irem, []), (13, 2, .istore 4, []), (15, 1, .iload_n 1, []), (16, 2, .bipush 10, []), (18, 1, .idiv, []), (19, 2, .bipush 10, []), (21, 1, .irem, []), (22, 2, .istore 5, []), (24, 1, .iload_n 1, []), (25, 2, .bipush 10, []), (27, 1, .irem, []), (28, 2, .istore 6, []), (30, 1, .iload_n 2, []), (31, 1, .aload_n 0, []), (32, 3, .getfield 768, [7, 5179, 12, 0]), (35, 1, .irem, []), (36, 2, .istore 7, []), (38, 1, .iload_n 2, []), (39, 1, .aload_n 0, []), (40, 3, .getfield 768, [7, 5179, 12, 0]), (43, 1, .idiv, []), (44, 2, .istore 8, []), (46, 1, .iload_n 3, []), (47, 41, .tableswitch 142 0 6 #[41, 142, 92, 142, 59, 72, 117], []), (88, 1, .iload_n 2, []), (89, 2, .bipush 8, []), (91, 2, .iload 4, []), (93, 1, .imul, []), (94, 2, .iload 5, []), (96, 1, .iadd, []), (97, 3, .if_icmp .ge 7, []), (100, 1, .iconst 1, []), (101, 3, .goto 4, []), (104, 1, .iconst 0, []), (105, 1, .ireturn, []), (106, 2, .iload 8, []), (108, 2, .iload 4, []), (110, 3, .if_icmp .ge 7, []), (113, 1, .iconst 1, []), (114, 3, .goto 4, []), (117, 1, .iconst 0, []), (118, 1, .ireturn, []), (119, 2, .iload 7, []), (121, 2, .iload 4, []), (123, 3, .if_icmp .ge 14, []), (126, 2, .iload 8, []), (128, 2, .iload 5, []), (130, 3, .if_icmp .ge 7, []), (133, 1, .iconst 1, []), (134, 3, .goto 4, []), (137, 1, .iconst 0, []), (138, 1, .ireturn, []), (139, 2, .iload 7, []), (141, 2, .iload 8, []), (143, 2, .iload 5, []), (145, 3, .if_icmp .ge 8, []), (148, 2, .iload 4, []), (150, 3, .goto 5, []), (153, 2, .iload 6, []), (155, 3, .if_icmp .ge 7, []), (158, 1, .iconst 1, []), (159, 3, .goto 4, []), (162, 1, .iconst 0, []), (163, 1, .ireturn, []), (164, 2, .iload 7, []), (166, 2, .iload 8, []), (168, 2, .iload 5, []), (170, 3, .if_icmp .ge 8, []), (173, 2, .iload 4, []), (175, 3, .goto 5, []), (178, 2, .iload 6, []), (180, 3, .if_icmp .lt 7, []), (183, 1, .iconst 1, []), (184, 3, .goto 4, []), (187, 1, .iconst 0, []), (188, 1, .ireturn, []), (189, 2, .iload 7, []), (191, 2, .iload 4, []), (193, 3, .if_icmp .ge 7, []), (196, 1, .iconst 1, []), (197, 3, .goto 4, []), (200, 1, .iconst 0, []), (201, 1, .ireturn, [])]
def sT187 : List sEt := [(0, 1, .lconst 0, []), (1, 1, .lstore_n 3, []), (2, 1, .iconst 0, []), (3, 2, .istore 5, []), (5, 2, .iload 5, []), (7, 1, .aload_n 0, []), (8, 3, .getfield 768, [7, 5179, 12, 0]), (11, 1, .aload_n 0, []), (12, 3, .getfield 769, [13, 5180, 12, 0]), (15, 1, .imul, []), (16, 3, .if_icmp .ge 69, []), (19, 1, .iload_n 1, []), (20, 3, .sipush 1000, []), (23, 1, .idiv, []), (24, 1, .iconst 3, []), (25, 3, .if_icmp .ne 24, []), (28, 2, .iload 5, []), (30, 1, .aload_n 0, []), (31, 3, .getfield 768, [7, 5179, 12, 0]), (34, 1, .irem, []), (35, 1, .iload_n 1, []), (36, 2, .bipush 100, []), (38, 1, .idiv, []), (39, 2, .bipush 10, []), (41, 1, .irem, []), (42, 3, .if_icmp .ne 7, []), (45, 1, .iconst 2, []), (46, 3, .goto 18, []), (49, 1, .aload_n 0, []), (50, 1, .iload_n 1, []), (51, 2, .iload 5, []), (53, 3, .invokevirtual 186, [101, 6094]), (56, 3, .ifCond .eq 7, []), (59, 1, .iconst 0, []), (60, 3, .goto 4, []), (63, 1, .iconst 1, []), (64, 2, .istore 6, []), (66, 2, .iload 6, []), (68, 1, .iload_n 2, []), (69, 3, .if_icmp .ne 10, []), (72, 1, .lload_n 3, []), (73, 1, .lconst 1, []), (74, 2, .iload 5, []), (76, 1, .lshl, []), (77, 1, .lor, []), (78, 1, .lstore_n 3, []), (79, 3, .iinc 5 1, []), (82, 3, .goto (-77), []), (85, 1, .lload_n 3, []), (86, 1, .lreturn, [])]
def sT188 : List sEt := [(0, 1, .aload_n 0, []), (1, 1, .iload_n 1, []), (2, 3, .invokevirtual 171, [93, 6061]), (5, 3, .ifCond .eq 36, []), (8, 1, .aload_n 0, []), (9, 3, .getfield 782, [47, 5193, 12, 0]), (12, 1, .iload_n 1, []), (13, 1, .iaload, []), (14, 1, .iconst 2, []), (15, 3, .if_icmp .ne 26, []), (18, 1, .iload_n 2, []), (19, 3, .ifCond .lt 22, []), (22, 1, .iload_n 2, []), (23, 1, .iconst 3, []), (24, 3, .if_icmp .ge 17, []), (27, 1, .aload_n 0, []), (28, 1, .aload_n 0, []), (29, 3, .getfield 785, [56, 5196, 12, 0]), (32, 1, .iload_n 1, []), (33, 1, .iaload, []), (34, 1, .iload_n 2, []), (35, 3, .invokevirtual 187, [105, 6091]), (38, 3, .goto 4, []), (41, 1, .lconst 0, []), (42, 1, .lreturn, [])]
def sT189 : List sEt := [(0, 1, .aload_n 0, []), (1, 1, .iload_n 1, []), (2, 3, .invokevirtual 171, [93, 6061]), (5, 3, .ifCond .eq 13, []), (8, 1, .iload_n 2, []), (9, 3, .ifCond .lt 9, []), (12, 1, .iload_n 2, []), (13, 2, .bipush 6, []), (15, 3, .if_icmp .le 9, []), (18, 1, .aload_n 0, []), (19, 1, .iconst (-1), []), (20, 3, .invokevirtual 169, [97, 6064]), (23, 1, .ireturn, []), (24, 1, .aload_n 0, []), (25, 3, .getfield 782, [47, 5193, 12, 0]), (28, 1, .iload_n 1, []), (29, 1, .iaload, []), (30, 1, .iconst 1, []), (31, 3, .if_icmp .ne 10, []), (34, 1, .aload_n 0, []), (35, 2, .bipush (-2), []), (37, 3, .invokevirtual 169, [97, 6064]), (40, 1, .ireturn, []), (41, 1, .aload_n 0, []), (42, 3, .getfield 782, [47, 5193, 12, 0]), (45, 1, .iload_n 1, []), (46, 1, .iaload, []), (47, 3, .ifCond .ne 10, []), (50, 1, .aload_n 0, []), (51, 2, .bipush (-3), []), (53, 3, .invokevirtual 169, [97, 6064]), (56, 1, .ireturn, []), (57, 1, .aload_n 0, []), (58, 3, .getfield 785, [56, 5196, 12, 0]), (61, 1, .iload_n 1, []), (62, 1, .iaload, []), (63, 1, .istore_n 3, []), (64, 1, .iload_n 3, []), (65, 3, .sipush 1000, []), (68, 1, .idiv, []), (69, 2, .istore 4, []), (71, 1, .iload_n 2, []), (72, 3, .ifCond .eq 45, []), (75, 1, .iload_n 2, []), (76, 2, .iload 4, []), (78, 3, .if_icmp .eq 39, []), (81, 1, .iload_n 2, []), (82, 1, .iconst 1, []), (83, 3, .if_icmp .ne 15, []), (86, 2, .iload 4, []), (88, 1, .iconst 4, []), (89, 3, .if_icmp .eq 28, []), (92, 2, .iload 4, []), (94, 1, .iconst 5, []), (95, 3, .if_icmp .eq 22, []), (98, 1, .iload_n 2, []), (99, 1, .iconst 2, []), (100, 3, .if_icmp .ne 10, []), (103, 2, .iload 4, []), (105, 2, .bipush 6, []), (107, 3, .if_icmp .eq 10, []), (110, 1, .aload_n 0, []), (111, 2, .bipush (-2), []), (113, 3, .invokevirtual 169, [97, 6064]), (116, 1, .ireturn, []), (117, 1, .iload_n 2, []), (118, 38, .tableswitch 95 0 5 #[38, 49, 95, 60, 71, 79], []), (156, 1, .aload_n 0, []), (157, 1, .aload_n 0, []), (158, 1, .iload_n 3, []), (159, 1, .iconst 0, []), (160, 3, .invokevirtual 187, [105, 6091]), (163, 3, .invokevirtual 176, [109, 6101]), (166, 1, .ireturn, []), (167, 1, .aload_n 0, []), (168, 1, .aload_n 0, []), (169, 1, .iload_n 3, []), (170, 1, .iconst 1, []), (171, 3, .invokevirtual 187, [105, 6091]), (174, 3, .invokevirtual 176, [109, 6101]), (177, 1, .ireturn, []), (178, 1, .aload_n 0, []), (179, 1, .aload_n 0, []), (180, 1, .iload_n 3, []), (181, 1, .iconst 2, []), (182, 3, .invokevirtual 187, [105, 6091]), (185, 3, .invokevirtual 176, [109, 6101]), (188, 1, .ireturn, []), (189, 1, .iload_n 3, []), (190, 2, .bipush 100, []), (192, 1, .idiv, []), (193, 2, .bipush 10, []), (195, 1, .irem, []), (196, 1, .ireturn, []), (197, 1, .iload_n 3, []), (198, 2, .bipush 100, []), (200, 1, .idiv, []), (201, 2, .bipush 10, []), (203, 1, .irem, []), (204, 1, .iload_n 3, []), (205, 2, .bipush 10, []), (207, 1, .idiv, []), (208, 2, .bipush 10, []), (210, 1, .irem, []), (211, 1, .imul, []), (212, 1, .ireturn, []), (213, 1, .iload_n 3, []), (214, 2, .bipush 10, []), (216, 1, .idiv, []), (217, 2, .bipush 10, []), (219, 1, .irem, []), (220, 1, .ireturn, [])]
def sT190 : List sEt := [(0, 1, .aload_n 0, []), (1, 1, .iload_n 1, []), (2, 3, .putfield 768, [7, 5179, 12, 0]), (5, 1, .aload_n 0, []), (6, 1, .iload_n 2, []), (7, 3, .putfield 769, [13, 5180, 12, 0]), (10, 1, .aload_n 0, []), (11, 1, .iconst (-1), []), (12, 3, .putfield 771, [16, 5182, 12, 0]), (15, 1, .aload_n 0, []), (16, 1, .iconst (-1), []), (17, 3, .putfield 772, [19, 5183, 12, 0]), (20, 1, .iconst 0, []), (21, 1, .istore_n 3, []), (22, 1, .iload_n 3, []), (23, 2, .bipush 64, []), (25, 3, .if_icmp .ge 23, []), (28, 1, .aload_n 0, []), (29, 3, .getfield 777, [32, 5188, 12, 0]), (32, 1, .iload_n 3, []), (33, 1, .iconst 0, []), (34, 1, .iastore, []), (35, 1, .aload_n 0, []), (36, 3, .getfield 778, [35, 5189, 12, 0]), (39, 1, .iload_n 3, []), (40, 1, .iconst (-1), []), (41, 1, .iastore, []), (42, 3, .iinc 3 1, []), (45, 3, .goto (-23), []), (48, 1, .return_, [])]
def sT191 : List sEt := [(0, 1, .aload_n 0, []), (1, 3, .getfield 779, [38, 5190, 12, 0]), (4, 1, .aload_n 0, []), (5, 3, .getfield 774, [84, 5185, 12, 0]), (8, 1, .iload_n 1, []), (9, 1, .iastore, []), (10, 1, .aload_n 0, []), (11, 3, .getfield 780, [41, 5191, 12, 0]), (14, 1, .aload_n 0, []), (15, 3, .getfield 774, [84, 5185, 12, 0]), (18, 1, .iconst 0, []), (19, 1, .iastore, []), (20, 1, .iconst 0, []), (21, 1, .istore_n 2, []), (22, 1, .iload_n 2, []), (23, 2, .bipush 6, []), (25, 3, .if_icmp .ge 25, []), (28, 1, .aload_n 0, []), (29, 3, .getfield 781, [44, 5192, 12, 0]), (32, 2, .bipush 6, []), (34, 1, .aload_n 0, []), (35, 3, .getfield 774, [84, 5185, 12, 0]), (38, 1, .imul, []), (39, 1, .iload_n 2, []), (40, 1, .iadd, []), (41, 2, .bipush 10, []), (43, 1, .iastore, []), (44, 3, .iinc 2 1, []), (47, 3, .goto (-25), []), (50, 1, .aload_n 0, []), (51, 1, .dup, []), (52, 3, .getfield 774, [84, 5185, 12, 0]), (55, 1, .dup_x1, []), (56, 1, .iconst 1, []), (57, 1, .iadd, []), (58, 3, .putfield 774, [84, 5185, 12, 0]), (61, 1, .ireturn, [])]
def sT192 : List sEt := [(0, 1, .aload_n 0, []), (1, 1, .iload_n 1, []), (2, 3, .putfield 793, [113, 5204, 12, 0]), (5, 1, .iconst 0, []), (6, 1, .ireturn, [])]
def sT193 : List sEt := [(0, 1, .iconst 0, []), (1, 1, .istore_n 1, []), (2, 1, .aload_n 0, []), (3, 3, .getfield 790, [116, 5201, 12, 0]), (6, 1, .istore_n 2, []), (7, 1, .iconst 0, []), (8, 1, .istore_n 3, []), (9, 1, .iload_n 3, []), (10, 2, .bipush 7, []), (12, 3, .if_icmp .ge 118, []), (15, 1, .aload_n 0, []), (16, 3, .getfield 790, [116, 5201, 12, 0]), (19, 2, .istore 4, []), (21, 1, .iload_n 1, []), (22, 2, .istore 5, []), (24, 1, .aload_n 0, []), (25, 3, .getfield 788, [66, 5199, 12, 0]), (28, 2, .iload 5, []), (30, 1, .iaload, []), (31, 3, .ifCond .eq 44, []), (34, 2, .iload 4, []), (36, 1, .aload_n 0, []), (37, 3, .getfield 791, [119, 5202, 12, 0]), (40, 3, .if_icmp .ge 35, []), (43, 1, .aload_n 0, []), (44, 3, .getfield 786, [59, 5197, 12, 0]), (47, 1, .aload_n 0, []), (48, 3, .getfield 789, [122, 5200, 12, 0]), (51, 2, .iload 4, []), (53, 1, .iadd, []), (54, 1, .laload, []), (55, 1, .l2i, []), (56, 1, .aload_n 0, []), (57, 3, .getfield 788, [66, 5199, 12, 0]), (60, 2, .iload 5, []), (62, 1, .iaload, []), (63, 3, .if_icmp .ne 12, []), (66, 3, .iinc 4 1, []), (69, 3, .iinc 5 1, []), (72, 3, .goto (-48), []), (75, 1, .aload_n 0, []), (76, 3, .getfield 788, [66, 5199, 12, 0]), (79, 2, .iload 5, []), (81, 1, .iaload, []), (82, 3, .ifCond .ne 11, []), (85, 1, .aload_n 0, []), (86, 2, .iload 4, []), (88, 3, .putfield 790, [116, 5201, 12, 0]), (91, 1, .iload_n 3, []), (92, 1, .ireturn, []), (93, 2, .iload 4, []), (95, 1, .iload_n 2, []), (96, 3, .if_icmp .le 8, []), (99, 2, .iload 4, []), (101, 3, .goto 4, []), (104, 1, .iload_n 2, []), (105, 1, .istore_n 2, []), (106, 1, .aload_n 0, []), (107, 3, .getfield 788, [66, 5199, 12, 0]), (110, 1, .iload_n 1, []), (111, 1, .iaload, []), (112, 3, .ifCond .eq 9, []), (115, 3, .iinc 1 1, []), (118, 3, .goto (-12), []), (121, 3, .iinc 1 1, []), (124, 3, .iinc 3 1, []), (127, 3, .goto (-118), []), (130, 1, .aload_n 0, []), (131, 1, .iload_n 2, []), (132, 3, .putfield 793, [113, 5204, 12, 0]), (135, 1, .iconst (-1), []), (136, 1, .ireturn, [])]
def sT194 : List sEt := [(0, 1, .aload_n 0, []), (1, 3, .getfield 790, [116, 5201, 12, 0]), (4, 1, .aload_n 0, []), (5, 3, .getfield 791, [119, 5202, 12, 0]), (8, 3, .if_icmp .ge 47, []), (11, 1, .aload_n 0, []), (12, 3, .getfield 786, [59, 5197, 12, 0]), (15, 1, .aload_n 0, []), (16, 3, .getfield 789, [122, 5200, 12, 0]), (19, 1, .aload_n 0, []), (20, 3, .getfield 790, [116, 5201, 12, 0]), (23, 1, .iadd, []), (24, 1, .laload, []), (25, 1, .l2i, []), (26, 2, .bipush 48, []), (28, 3, .if_icmp .lt 27, []), (31, 1, .aload_n 0, []), (32, 3, .getfield 786, [59, 5197, 12, 0]), (35, 1, .aload_n 0, []), (36, 3, .getfield 789, [122, 5200, 12, 0]), (39, 1, .aload_n 0, []), (40, 3, .getfield 790, [116, 5201, 12, 0]), (43, 1, .iadd, []), (44, 1, .laload, []), (45, 1, .l2i, []), (46, 2, .bipush 57, []), (48, 3, .if_icmp .gt 7, []), (51, 1, .iconst 1, []), (52, 3, .goto 4, []), (55, 1, .iconst 0, []), (56, 1, .ireturn, [])]
def sT195 : List sEt := [(0, 1, .aload_n 0, []), (1, 3, .getfield 790, [116, 5201, 12, 0]), (4, 1, .istore_n 3, []), (5, 1, .aload_n 0, []), (6, 3, .invokevirtual 194, [125, 6135]), (9, 3, .ifCond .ne 12, []), (12, 1, .aload_n 0, []), (13, 1, .aload_n 0, []), (14, 3, .getfield 790, [116, 5201, 12, 0]), (17, 3, .invokevirtual 192, [129, 6126]), (20, 1, .ireturn, []), (21, 1, .aload_n 0, []), (22, 1, .aload_n 0, []), (23, 3, .getfield 786, [59, 5197, 12, 0]), (26, 1, .aload_n 0, []), (27, 3, .getfield 789, [122, 5200, 12, 0]), (30, 1, .aload_n 0, []), (31, 3, .getfield 790, [116, 5201, 12, 0]), (34, 1, .iadd, []), (35, 1, .laload, []), (36, 1, .l2i, []), (37, 2, .bipush 48, []), (39, 1, .isub, []), (40, 3, .putfield 792, [132, 5203, 12, 0]), (43, 1, .aload_n 0, []), (44, 1, .dup, []), (45, 3, .getfield 790, [116, 5201, 12, 0]), (48, 1, .iconst 1, []), (49, 1, .iadd, []), (50, 3, .putfield 790, [116, 5201, 12, 0]), (53, 1, .aload_n 0, []), (54, 3, .invokevirtual 194, [125, 6135]), (57, 3, .ifCond .eq 43, []), (60, 1, .aload_n 0, []), (61, 2, .bipush 10, []), (63, 1, .aload_n 0, []), (64, 3, .getfield 792, [132, 5203, 12, 0]), (67, 1, .imul, []), (68, 1, .aload_n 0, []), (69, 3, .getfield 786, [59, 5197, 12, 0]), (72, 1, .aload_n 0, []), (73, 3, .getfield 789, [122, 5200, 12, 0]), (76, 1, .aload_n 0, []), (77, 3, .getfield 790, [116, 5201, 12, 0]), (80, 1, .iadd, []), (81, 1, .laload, []), (82, 1, .l2i, []), (83, 1, .iadd, []), (84, 2, .bipush 48, []), (86, 1, .isub, []), (87, 3, .putfield 792, [132, 5203, 12, 0]), (90, 1, .aload_n 0, []), (91, 1, .dup, []), (92, 3, .getfield 790, [116, 5201, 12, 0]), (95, 1, .iconst 1, []), (96, 1, .iadd, []), (97, 3, .putfield 790, [116, 5201, 12, 0]), (100, 1, .aload_n 0, []), (101, 3, .getfield 792, [132, 5203, 12, 0]), (104, 1, .iload_n 1, []), (105, 3, .if_icmp .lt 11, []), (108, 1, .aload_n 0, []), (109, 3, .getfield 792, [132, 5203, 12, 0]), (112, 1, .iload_n 2, []), (113, 3, .if_icmp .le 11, []), (116, 1, .aload_n 0, []), (117, 1, .iload_n 3, []), (118, 3, .invokevirtual 192, [129, 6126]), (121, 3, .ifCond .eq 7, []), (124, 1, .iconst 1, []), (125, 3, .goto 4, []), (128, 1, .iconst 0, []), (129, 1, .ireturn, [])]
def sT196 : List sEt := [(0, 1, .aload_n 0, []), (1, 3, .getfield 790, [116, 5201, 12, 0]), (4, 1, .aload_n 0, []), (5, 3, .getfield 791, [119, 5202, 12, 0]), (8, 3, .if_icmp .ge 23, []), (11, 1, .aload_n 0, []), (12, 3, .getfield 786, [59, 5197, 12, 0]), (15, 1, .aload_n 0, []), (16, 3, .getfield 789, [122, 5200, 12, 0]), (19, 1, .aload_n 0, []), (20, 3, .getfield 790, [116, 5201, 12, 0]), (23, 1, .iadd, []), (24, 1, .laload, []), (25, 1, .l2i, []), (26, 2, .bipush 32, []), (28, 3, .if_icmp .eq 12, []), (31, 1, .aload_n 0, []), (32, 1, .aload_n 0, []), (33, 3, .getfield 790, [116, 5201, 12, 0]), (36, 3, .invokevirtual 192, [129, 6126]), (39, 1, .ireturn, []), (40, 1, .aload_n 0, []), (41, 1, .dup, []), (42, 3, .getfield 790, [116, 5201, 12, 0]), (45, 1, .iconst 1, []), (46, 1, .iadd, []), (47, 3, .putfield 790, [116, 5201, 12, 0]), (50, 1, .aload_n 0, []), (51, 1, .iload_n 1, []), (52, 1, .iload_n 2, []), (53, 3, .invokevirtual 195, [135, 6132]), (56, 1, .ireturn, [])]
def sT197 : List sEt := [(0, 1, .iload_n 1, []), (1, 2, .bipush 6, []), (3, 3, .if_icmp .ne 15, []), (6, 1, .aload_n 0, []), (7, 3, .getfield 774, [84, 5185, 12, 0]), (10, 1, .iconst 5, []), (11, 3, .if_icmp .ne 7, []), (14, 1, .iconst 1, []), (15, 3, .goto 4, []), (18, 1, .iconst 0, []), (19, 1, .ireturn, [])]
def sT198 : List sEt := [(0, 1, .iconst 0, []), (1, 1, .istore_n 2, []), (2, 1, .iconst 0, []), (3, 1, .istore_n 3, []), (4, 1, .iload_n 3, []), (5, 1, .iload_n 1, []), (6, 3, .if_icmp .ge 26, []), (9, 1, .iload_n 3, []), (10, 1, .aload_n 0, []), (11, 3, .getfield 788, [66, 5199, 12, 0]), (14, 1, .iload_n 2, []), (15, 1, .iaload, []), (16, 3, .ifCond .ne 7, []), (19, 1, .iconst 1, []), (20, 3, .goto 4, []), (23, 1, .iconst 0, []), (24, 1, .iadd, []), (25, 1, .istore_n 3, []), (26, 3, .iinc 2 1, []), (29, 3, .goto (-25), []), (32, 1, .aload_n 0, []), (33, 3, .getfield 790, [116, 5201, 12, 0]), (36, 1, .istore_n 3, []), (37, 1, .aload_n 0, []), (38, 3, .getfield 788, [66, 5199, 12, 0]), (41, 1, .iload_n 2, []), (42, 1, .iaload, []), (43, 2, .bipush 32, []), (45, 3, .if_icmp .le 41, []), (48, 1, .iload_n 3, []), (49, 1, .aload_n 0, []), (50, 3, .getfield 791, [119, 5202, 12, 0]), (53, 3, .if_icmp .ge 33, []), (56, 1, .aload_n 0, []), (57, 3, .getfield 786, [59, 5197, 12, 0]), (60, 1, .aload_n 0, []), (61, 3, .getfield 789, [122, 5200, 12, 0]), (64, 1, .iload_n 3, []), (65, 1, .iadd, []), (66, 1, .laload, []), (67, 1, .l2i, []), (68, 1, .aload_n 0, []), (69, 3, .getfield 788, [66, 5199, 12, 0]), (72, 1, .iload_n 2, []), (73, 1, .iaload, []), (74, 3, .if_icmp .ne 12, []), (77, 3, .iinc 3 1, []), (80, 3, .iinc 2 1, []), (83, 3, .goto (-46), []), (86, 1, .aload_n 0, []), (87, 3, .getfield 788, [66, 5199, 12, 0]), (90, 1, .iload_n 2, []), (91, 1, .iaload, []), (92, 2, .bipush 32, []), (94, 3, .if_icmp .gt 7, []), (97, 1, .iconst 1, []), (98, 3, .goto 4, []), (101, 1, .iconst 0, []), (102, 1, .ireturn, [])]
def sT199 : List sEt := [(0, 1, .aload_n 0, []), (1, 2, .bipush 6, []), (3, 3, .invokevirtual 198, [138, 6120]), (6, 3, .ifCond .eq 21, []), (9, 1, .aload_n 0, []), (10, 2, .bipush 6, []), (12, 3, .invokevirtual 197, [141, 6123]), (15, 3, .ifCond .eq 12, []), (18, 1, .aload_n 0, []), (19, 1, .aload_n 0, []), (20, 3, .getfield 790, [116, 5201, 12, 0]), (23, 3, .invokevirtual 192, [129, 6126]), (26, 1, .ireturn, []), (27, 1, .aload_n 0, []), (28, 3, .getfield 790, [116, 5201, 12, 0]), (31, 1, .istore_n 1, []), (32, 1, .aload_n 0, []), (33, 3, .invokevirtual 193, [144, 6129]), (36, 1, .istore_n 2, []), (37, 1, .iload_n 2, []), (38, 1, .iconst (-1), []), (39, 3, .if_icmp .ne 5, []), (42, 1, .iconst 0, []), (43, 1, .ireturn, []), (44, 1, .aload_n 0, []), (45, 3, .getfield 768, [7, 5179, 12, 0]), (48, 1, .aload_n 0, []), (49, 3, .getfield 769, [13, 5180, 12, 0]), (52, 1, .imul, []), (53, 1, .iconst 1, []), (54, 1, .isub, []), (55, 1, .istore_n 3, []), (56, 1, .iload_n 2, []), (57, 3, .ifCond .ne 46, []), (60, 1, .aload_n 0, []), (61, 1, .iconst 2, []), (62, 2, .bipush 8, []), (64, 3, .invokevirtual 195, [135, 6132]), (67, 3, .ifCond .ne 5, []), (70, 1, .iconst 0, []), (71, 1, .ireturn, []), (72, 1, .aload_n 0, []), (73, 3, .getfield 792, [132, 5203, 12, 0]), (76, 2, .istore 4, []), (78, 1, .aload_n 0, []), (79, 1, .iconst 2, []), (80, 2, .bipush 8, []), (82, 3, .invokevirtual 196, [148, 6138]), (85, 3, .ifCond .ne 5, []), (88, 1, .iconst 0, []), (89, 1, .ireturn, []), (90, 1, .aload_n 0, []), (91, 2, .iload 4, []), (93, 1, .aload_n 0, []), (94, 3, .getfield 792, [132, 5203, 12, 0]), (97, 3, .invokevirtual 190, [151, 6141]), (100, 3, .goto 261, []), (103, 1, .iload_n 2, []), (104, 1, .iconst 1, []), (105, 3, .if_icmp .ne 80, []), (108, 1, .aload_n 0, []), (109, 1, .iconst 0, []), (110, 1, .iconst 5, []), (111, 3, .invokevirtual 195, [135, 6132]), (114, 3, .ifCond .ne 5, []), (117, 1, .iconst 0, []), (118, 1, .ireturn, []), (119, 1, .aload_n 0, []), (120, 3, .getfield 792, [132, 5203, 12, 0]), (123, 2, .istore 4, []), (125, 1, .aload_n 0, []), (126, 1, .iconst 0, []), (127, 1, .iload_n 3, []), (128, 3, .invokevirtual 196, [148, 6138]), (131, 3, .ifCond .ne 5, []), (134, 1, .iconst 0, []), (135, 1, .ireturn, []), (136, 1, .aload_n 0, []), (137, 3, .getfield 792, [132, 5203, 12, 0]), (140, 2, .istore 5, []), (142, 1, .aload_n 0, []), (143, 2, .iload 5, []), (145, 1, .iload_n 3, []), (146, 3, .invokevirtual 196, [148, 6138]), (149, 3, .ifCond .ne 5, []), (152, 1, .iconst 0, []), (153, 1, .ireturn, []), (154, 2, .iload 5, []), (156, 2, .istore 6, []), (158, 2, .iload 6, []), (160, 1, .aload_n 0, []), (161, 3, .getfield 792, [132, 5203, 12, 0]), (164, 3, .if_icmp .gt 18, []), (167, 1, .aload_n 0, []), (168, 3, .getfield 777, [32, 5188, 12, 0]), (171, 2, .iload 6, []), (173, 2, .iload 4, []), (175, 1, .iastore, []), (176, 3, .iinc 6 1, []), (179, 3, .goto (-21), []), (182, 3, .goto 179, []), (185, 1, .iload_n 2, []), (186, 2, .bipush 6, []), (188, 3, .if_icmp .ne 87, []), (191, 1, .aload_n 0, []), (192, 3, .getfield 774, [84, 5185, 12, 0]), (195, 1, .iconst 5, []), (196, 3, .if_icmp .ne 9, []), (199, 1, .aload_n 0, []), (200, 1, .iload_n 1, []), (201, 3, .invokevirtual 192, [129, 6126]), (204, 1, .ireturn, []), (205, 1, .aload_n 0, []), (206, 1, .iconst 1, []), (207, 2, .bipush 9, []), (209, 3, .invokevirtual 195, [135, 6132]), (212, 3, .ifCond .ne 5, []), (215, 1, .iconst 0, []), (216, 1, .ireturn, []), (217, 1, .aload_n 0, []), (218, 1, .aload_n 0, []), (219, 3, .getfield 792, [132, 5203, 12, 0]), (222, 3, .invokevirtual 191, [155, 6144]), (225, 2, .istore 4, []), (227, 1, .iconst 0, []), (228, 2, .istore 5, []), (230, 2, .iload 5, []), (232, 2, .bipush 6, []), (234, 3, .if_icmp .ge 38, []), (237, 1, .aload_n 0, []), (238, 1, .iconst 0, []), (239, 2, .bipush 99, []), (241, 3, .invokevirtual 196, [148, 6138]), (244, 3, .ifCond .ne 5, []), (247, 1, .iconst 0, []), (248, 1, .ireturn, []), (249, 1, .aload_n 0, []), (250, 3, .getfield 781, [44, 5192, 12, 0]), (253, 2, .bipush 6, []), (255, 2, .iload 4, []), (257, 1, .imul, []), (258, 2, .iload 5, []), (260, 1, .iadd, []), (261, 1, .aload_n 0, []), (262, 3, .getfield 792, [132, 5203, 12, 0]), (265, 1, .iastore, []), (266, 3, .iinc 5 1, []), (269, 3, .goto (-39), []), (272, 3, .goto 89, []), (275, 1, .aload_n 0, []), (276, 1, .iconst 0, []), (277, 1, .iload_n 2, []), (278, 1, .iconst 2, []), (279, 3, .if_icmp .ne 7, []), (282, 1, .iconst 3, []), (283, 3, .goto 14, []), (286, 1, .iload_n 2, []), (287, 1, .iconst 5, []), (288, 3, .if_icmp .ne 8, []), (291, 2, .bipush 20, []), (293, 3, .goto 4, []), (296, 1, .iload_n 3, []), (297, 3, .invokevirtual 195, [135, 6132]), (300, 3, .ifCond .ne 5, []), (303, 1, .iconst 0, []), (304, 1, .ireturn, []), (305, 1, .iload_n 2, []), (306, 1, .iconst 2, []), (307, 3, .if_icmp .ne 14, []), (310, 1, .aload_n 0, []), (311, 1, .aload_n 0, []), (312, 3, .getfield 792, [132, 5203, 12, 0]), (315, 3, .putfield 770, [158, 5181, 12, 0]), (318, 3, .goto 43, []), (321, 1, .iload_n 2, []), (322, 1, .iconst 3, []), (323, 3, .if_icmp .ne 14, []), (326, 1, .aload_n 0, []), (327, 1, .aload_n 0, []), (328, 3, .getfield 792, [132, 5203, 12, 0]), (331, 3, .putfield 771, [16, 5182, 12, 0]), (334, 3, .goto 27, []), (337, 1, .iload_n 2, []), (338, 1, .iconst 4, []), (339, 3, .if_icmp .ne 14, []), (342, 1, .aload_n 0, []), (343, 1, .aload_n 0, []), (344, 3, .getfield 792, [132, 5203, 12, 0]), (347, 3, .putfield 772, [19, 5183, 12, 0]), (350, 3, .goto 11, []), (353, 1, .aload_n 0, []), (354, 1, .aload_n 0, []), (355, 3, .getfield 792, [132, 5203, 12, 0]), (358, 3, .putfield 773, [22, 5184, 12, 0]), (361, 1, .iconst 1, []), (362, 1, .ireturn, [])]
def sT200 : List sEt := [(0, 1, .iconst 0, []), (1, 2, .istore 6, []), (3, 2, .iload 6, []), (5, 1, .iload_n 2, []), (6, 3, .if_icmp .ge 39, []), (9, 2, .iload 5, []), (11, 3, .ifCond .eq 17, []), (14, 1, .aload_n 1, []), (15, 2, .iload 6, []), (17, 1, .aload_n 3, []), (18, 2, .iload 4, []), (20, 2, .iload 6, []), (22, 1, .iadd, []), (23, 1, .iaload, []), (24, 1, .iastore, []), (25, 3, .goto 14, []), (28, 1, .aload_n 3, []), (29, 2, .iload 4, []), (31, 2, .iload 6, []), (33, 1, .iadd, []), (34, 1, .aload_n 1, []), (35, 2, .iload 6, []), (37, 1, .iaload, []), (38, 1, .iastore, []), (39, 3, .iinc 6 1, []), (42, 3, .goto (-39), []), (45, 2, .iload 4, []), (47, 1, .iload_n 2, []), (48, 1, .iadd, []), (49, 1, .ireturn, [])]
def sT201 : List sEt := [(0, 1, .aload_n 0, []), (1, 1, .aload_n 0, []), (2, 3, .getfield 777, [32, 5188, 12, 0]), (5, 2, .bipush 64, []), (7, 1, .aload_n 1, []), (8, 1, .iconst 0, []), (9, 1, .iload_n 2, []), (10, 3, .invokevirtual 200, [161, 6114]), (13, 1, .istore_n 3, []), (14, 1, .aload_n 0, []), (15, 1, .aload_n 0, []), (16, 3, .getfield 778, [35, 5189, 12, 0]), (19, 2, .bipush 64, []), (21, 1, .aload_n 1, []), (22, 1, .iload_n 3, []), (23, 1, .iload_n 2, []), (24, 3, .invokevirtual 200, [161, 6114]), (27, 1, .istore_n 3, []), (28, 1, .aload_n 0, []), (29, 1, .aload_n 0, []), (30, 3, .getfield 779, [38, 5190, 12, 0]), (33, 1, .iconst 5, []), (34, 1, .aload_n 1, []), (35, 1, .iload_n 3, []), (36, 1, .iload_n 2, []), (37, 3, .invokevirtual 200, [161, 6114]), (40, 1, .istore_n 3, []), (41, 1, .aload_n 0, []), (42, 1, .aload_n 0, []), (43, 3, .getfield 780, [41, 5191, 12, 0]), (46, 1, .iconst 5, []), (47, 1, .aload_n 1, []), (48, 1, .iload_n 3, []), (49, 1, .iload_n 2, []), (50, 3, .invokevirtual 200, [161, 6114]), (53, 1, .istore_n 3, []), (54, 1, .aload_n 0, []), (55, 1, .aload_n 0, []), (56, 3, .getfield 781, [44, 5192, 12, 0]), (59, 2, .bipush 30, []), (61, 1, .aload_n 1, []), (62, 1, .iload_n 3, []), (63, 1, .iload_n 2, []), (64, 3, .invokevirtual 200, [161, 6114]), (67, 1, .istore_n 3, []), (68, 1, .iload_n 2, []), (69, 3, .ifCond .eq 68, []), (72, 1, .aload_n 0, []), (73, 1, .aload_n 1, []), (74, 1, .iload_n 3, []), (75, 1, .iaload, []), (76, 3, .putfield 768, [7, 5179, 12, 0]), (79, 1, .aload_n 0, []), (80, 1, .aload_n 1, []), (81, 1, .iload_n 3, []), (82, 1, .iconst 1, []), (83, 1, .iadd, []), (84, 1, .iaload, []), (85, 3, .putfield 769, [13, 5180, 12, 0]), (88, 1, .aload_n 0, []), (89, 1, .aload_n 1, []), (90, 1, .iload_n 3, []), (91, 1, .iconst 2, []), (92, 1, .iadd, []), (93, 1, .iaload, []), (94, 3, .putfield 770, [158, 5181, 12, 0]), (97, 1, .aload_n 0, []), (98, 1, .aload_n 1, []), (99, 1, .iload_n 3, []), (100, 1, .iconst 3, []), (101, 1, .iadd, []), (102, 1, .iaload, []), (103, 3, .putfield 771, [16, 5182, 12, 0]), (106, 1, .aload_n 0, []), (107, 1, .aload_n 1, []), (108, 1, .iload_n 3, []), (109, 1, .iconst 4, []), (110, 1, .iadd, []), (111, 1, .iaload, []), (112, 3, .putfield 772, [19, 5183, 12, 0]), (115, 1, .aload_n 0, []), (116, 1, .aload_n 1, []), (117, 1, .iload_n 3, []), (118, 1, .iconst 5, []), (119, 1, .iadd, []), (120, 1, .iaload, []), (121, 3, .putfield 773, [22, 5184, 12, 0]), (124, 1, .aload_n 0, []), (125, 1, .aload_n 1, []), (126, 1, .iload_n 3, []), (127, 2, .bipush 6, []), (129, 1, .iadd, []), (130, 1, .iaload, []), (131, 3, .putfield 774, [84, 5185, 12, 0]), (134, 3, .goto 65, []), (137, 1, .aload_n 1, []), (138, 1, .iload_n 3, []), (139, 1, .aload_n 0, []), (140, 3, .getfield 768, [7, 5179, 12, 0]), (143, 1, .iastore, []), (144, 1, .aload_n 1, []), (145, 1, .iload_n 3, []), (146, 1, .iconst 1, []), (147, 1, .iadd, []), (148, 1, .aload_n 0, []), (149, 3, .getfield 769, [13, 5180, 12, 0]), (152, 1, .iastore, []), (153, 1, .aload_n 1, []), (154, 1, .iload_n 3, []), (155, 1, .iconst 2, []), (156, 1, .iadd, []), (157, 1, .aload_n 0, []), (158, 3, .getfield 770, [158, 5181, 12, 0]), (161, 1, .iastore, []), (162, 1, .aload_n 1, []), (163, 1, .iload_n 3, []), (164, 1, .iconst 3, []), (165, 1, .iadd, []), (166, 1, .aload_n 0, []), (167, 3, .getfield 771, [16, 5182, 12, 0]), (170, 1, .iastore, []), (171, 1, .aload_n 1, []), (172, 1, .iload_n 3, []), (173, 1, .iconst 4, []), (174, 1, .iadd, []), (175, 1, .aload_n 0, []), (176, 3, .getfield 772, [19, 5183, 12, 0]), (179, 1, .iastore, []), (180, 1, .aload_n 1, []), (181, 1, .iload_n 3, []), (182, 1, .iconst 5, []), (183, 1, .iadd, []), (184, 1, .aload_n 0, []), (185, 3, .getfield 773, [22, 5184, 12, 0]), (188, 1, .iastore, []), (189, 1, .aload_n 1, []), (190, 1, .iload_n 3, []), (191, 2, .bipush 6, []), (193, 1, .iadd, []), (194, 1, .aload_n 0, []), (195, 3, .getfield 774, [84, 5185, 12, 0]), (198, 1, .iastore, []), (199, 1, .return_, [])]
def sT202 : List sEt := [(0, 1, .aload_n 0, []), (1, 1, .iload_n 1, []), (2, 1, .iconst 1, []), (3, 3, .invokevirtual 184, [165, 6108]), (6, 1, .istore_n 2, []), (7, 1, .iload_n 2, []), (8, 3, .ifCond .eq 9, []), (11, 1, .aload_n 0, []), (12, 1, .iload_n 2, []), (13, 3, .invokevirtual 169, [97, 6064]), (16, 1, .ireturn, []), (17, 1, .aload_n 0, []), (18, 1, .aload_n 0, []), (19, 3, .getfield 794, [69, 5205, 12, 0]), (22, 1, .iconst 0, []), (23, 3, .invokevirtual 201, [169, 6111]), (26, 1, .aload_n 0, []), (27, 2, .bipush 100, []), (29, 1, .iload_n 1, []), (30, 1, .imul, []), (31, 3, .putfield 789, [122, 5200, 12, 0]), (34, 1, .aload_n 0, []), (35, 1, .iconst 0, []), (36, 3, .putfield 790, [116, 5201, 12, 0]), (39, 1, .aload_n 0, []), (40, 1, .aload_n 0, []), (41, 3, .getfield 784, [53, 5195, 12, 0]), (44, 1, .iload_n 1, []), (45, 1, .iaload, []), (46, 3, .putfield 791, [119, 5202, 12, 0]), (49, 1, .aload_n 0, []), (50, 1, .iconst (-1), []), (51, 3, .putfield 775, [25, 5186, 12, 0]), (54, 1, .iconst 1, []), (55, 1, .istore_n 3, []), (56, 1, .aload_n 0, []), (57, 3, .invokevirtual 199, [172, 6117]), (60, 2, .istore 4, []), (62, 2, .iload 4, []), (64, 3, .ifCond .eq 69, []), (67, 1, .aload_n 0, []), (68, 3, .getfield 790, [116, 5201, 12, 0]), (71, 1, .aload_n 0, []), (72, 3, .getfield 791, [119, 5202, 12, 0]), (75, 3, .if_icmp .ge 58, []), (78, 1, .aload_n 0, []), (79, 3, .getfield 786, [59, 5197, 12, 0]), (82, 1, .aload_n 0, []), (83, 3, .getfield 789, [122, 5200, 12, 0]), (86, 1, .aload_n 0, []), (87, 3, .getfield 790, [116, 5201, 12, 0]), (90, 1, .iadd, []), (91, 1, .laload, []), (92, 1, .l2i, []), (93, 2, .bipush 59, []), (95, 3, .if_icmp .eq 16, []), (98, 1, .aload_n 0, []), (99, 1, .aload_n 0, []), (100, 3, .getfield 790, [116, 5201, 12, 0]), (103, 3, .invokevirtual 192, [129, 6126]), (106, 2, .istore 4, []), (108, 3, .goto (-46), []), (111, 1, .aload_n 0, []), (112, 1, .dup, []), (113, 3, .getfield 790, [116, 5201, 12, 0]), (116, 1, .iconst 1, []), (117, 1, .iadd, []), (118, 3, .putfield 790, [116, 5201, 12, 0]), (121, 3, .iinc 3 1, []), (124, 1, .aload_n 0, []), (125, 3, .invokevirtual 199, [172, 6117]), (128, 2, .istore 4, []), (130, 3, .goto (-68), []), (133, 2, .iload 4, []), (135, 3, .ifCond .eq 5, []), (138, 1, .iload_n 3, []), (139, 1, .ireturn, []), (140, 1, .aload_n 0, []), (141, 1, .aload_n 0, []), (142, 3, .getfield 794, [69, 5205, 12, 0]), (145, 1, .iconst 1, []), (146, 3, .invokevirtual 201, [169, 6111]), (149, 1, .aload_n 0, []), (150, 1, .aload_n 0, []), (151, 3, .getfield 793, [113, 5204, 12, 0]), (154, 3, .putfield 775, [25, 5186, 12, 0]), (157, 1, .aload_n 0, []), (158, 2, .bipush (-6), []), (160, 3, .invokevirtual 169, [97, 6064]), (163, 1, .ireturn, [])]
def sT203 : List sEt := [(0, 1, .aload_n 0, []), (1, 3, .getfield 775, [25, 5186, 12, 0]), (4, 1, .ireturn, [])]
def sT204 : List sEt := [(0, 1, .iload_n 1, []), (1, 1, .iconst 2, []), (2, 3, .if_icmp .lt 20, []), (5, 1, .iload_n 1, []), (6, 2, .bipush 8, []), (8, 3, .if_icmp .gt 14, []), (11, 1, .iload_n 2, []), (12, 1, .iconst 2, []), (13, 3, .if_icmp .lt 9, []), (16, 1, .iload_n 2, []), (17, 2, .bipush 8, []), (19, 3, .if_icmp .le 10, []), (22, 1, .aload_n 0, []), (23, 2, .bipush (-6), []), (25, 3, .invokevirtual 169, [97, 6064]), (28, 1, .ireturn, []), (29, 1, .aload_n 0, []), (30, 1, .iload_n 1, []), (31, 1, .iload_n 2, []), (32, 3, .invokevirtual 190, [151, 6141]), (35, 1, .iconst 1, []), (36, 1, .ireturn, [])]
def sT205 : List sEt := [(0, 1, .aload_n 0, []), (1, 1, .iload_n 1, []), (2, 3, .invokevirtual 172, [175, 6159]), (5, 3, .ifCond .eq 12, []), (8, 1, .iload_n 2, []), (9, 3, .ifCond .lt 8, []), (12, 1, .iload_n 2, []), (13, 1, .iconst 5, []), (14, 3, .if_icmp .le 9, []), (17, 1, .aload_n 0, []), (18, 1, .iconst (-1), []), (19, 3, .invokevirtual 169, [97, 6064]), (22, 1, .ireturn, []), (23, 1, .aload_n 0, []), (24, 3, .getfield 777, [32, 5188, 12, 0]), (27, 1, .iload_n 1, []), (28, 1, .iaload, []), (29, 1, .istore_n 3, []), (30, 1, .aload_n 0, []), (31, 3, .getfield 777, [32, 5188, 12, 0]), (34, 1, .iload_n 1, []), (35, 1, .iload_n 2, []), (36, 1, .iastore, []), (37, 1, .iload_n 3, []), (38, 1, .ireturn, [])]
def sT206 : List sEt := [(0, 1, .iload_n 1, []), (1, 3, .ifCond .ne 25, []), (4, 1, .iload_n 2, []), (5, 3, .ifCond .lt 21, []), (8, 1, .iload_n 2, []), (9, 1, .iconst 4, []), (10, 3, .if_icmp .ge 16, []), (13, 1, .aload_n 0, []), (14, 3, .getfield 770, [158, 5181, 12, 0]), (17, 1, .istore_n 3, []), (18, 1, .aload_n 0, []), (19, 1, .iload_n 2, []), (20, 3, .putfield 770, [158, 5181, 12, 0]), (23, 3, .goto 100, []), (26, 1, .iload_n 1, []), (27, 1, .iconst 1, []), (28, 3, .if_icmp .ne 29, []), (31, 1, .iload_n 2, []), (32, 1, .iconst (-1), []), (33, 3, .if_icmp .eq 11, []), (36, 1, .aload_n 0, []), (37, 1, .iload_n 2, []), (38, 3, .invokevirtual 172, [175, 6159]), (41, 3, .ifCond .eq 16, []), (44, 1, .aload_n 0, []), (45, 3, .getfield 771, [16, 5182, 12, 0]), (48, 1, .istore_n 3, []), (49, 1, .aload_n 0, []), (50, 1, .iload_n 2, []), (51, 3, .putfield 771, [16, 5182, 12, 0]), (54, 3, .goto 69, []), (57, 1, .iload_n 1, []), (58, 1, .iconst 2, []), (59, 3, .if_icmp .ne 29, []), (62, 1, .iload_n 2, []), (63, 1, .iconst (-1), []), (64, 3, .if_icmp .eq 11, []), (67, 1, .aload_n 0, []), (68, 1, .iload_n 2, []), (69, 3, .invokevirtual 172, [175, 6159]), (72, 3, .ifCond .eq 16, []), (75, 1, .aload_n 0, []), (76, 3, .getfield 772, [19, 5183, 12, 0]), (79, 1, .istore_n 3, []), (80, 1, .aload_n 0, []), (81, 1, .iload_n 2, []), (82, 3, .putfield 772, [19, 5183, 12, 0]), (85, 3, .goto 38, []), (88, 1, .iload_n 1, []), (89, 1, .iconst 3, []), (90, 3, .if_icmp .ne 26, []), (93, 1, .iload_n 2, []), (94, 3, .ifCond .lt 22, []), (97, 1, .iload_n 2, []), (98, 2, .bipush 20, []), (100, 3, .if_icmp .gt 16, []), (103, 1, .aload_n 0, []), (104, 3, .getfield 773, [22, 5184, 12, 0]), (107, 1, .istore_n 3, []), (108, 1, .aload_n 0, []), (109, 1, .iload_n 2, []), (110, 3, .putfield 773, [22, 5184, 12, 0]), (113, 3, .goto 10, []), (116, 1, .aload_n 0, []), (117, 2, .bipush (-6), []), (119, 3, .invokevirtual 170, [178, 6166]), (122, 1, .ireturn, []), (123, 1, .iload_n 3, []), (124, 1, .ireturn, [])]
def sT207 : List sEt := [(0, 1, .iload_n 1, []), (1, 1, .iconst 1, []), (2, 3, .if_icmp .lt 9, []), (5, 1, .iload_n 1, []), (6, 2, .bipush 9, []), (8, 3, .if_icmp .le 10, []), (11, 1, .aload_n 0, []), (12, 2, .bipush (-6), []), (14, 3, .invokevirtual 169, [97, 6064]), (17, 1, .ireturn, []), (18, 1, .aload_n 0, []), (19, 3, .getfield 774, [84, 5185, 12, 0]), (22, 1, .iconst 5, []), (23, 3, .if_icmp .ne 12, []), (26, 1, .aload_n 0, []), (27, 2, .bipush (-7), []), (29, 3, .invokevirtual 169, [97, 6064]), (32, 3, .goto 8, []), (35, 1, .aload_n 0, []), (36, 1, .iload_n 1, []), (37, 3, .invokevirtual 191, [155, 6144]), (40, 1, .ireturn, [])]
def sT208 : List sEt := [(0, 1, .aload_n 0, []), (1, 1, .iload_n 1, []), (2, 3, .invokevirtual 173, [181, 6177]), (5, 3, .ifCond .eq 12, []), (8, 1, .iload_n 2, []), (9, 3, .ifCond .lt 8, []), (12, 1, .iload_n 2, []), (13, 1, .iconst 5, []), (14, 3, .if_icmp .le 9, []), (17, 1, .aload_n 0, []), (18, 1, .iconst (-1), []), (19, 3, .invokevirtual 169, [97, 6064]), (22, 1, .ireturn, []), (23, 1, .iload_n 3, []), (24, 3, .ifCond .lt 9, []), (27, 1, .iload_n 3, []), (28, 2, .bipush 99, []), (30, 3, .if_icmp .le 10, []), (33, 1, .aload_n 0, []), (34, 2, .bipush (-6), []), (36, 3, .invokevirtual 169, [97, 6064]), (39, 1, .ireturn, []), (40, 1, .aload_n 0, []), (41, 3, .getfield 781, [44, 5192, 12, 0]), (44, 2, .bipush 6, []), (46, 1, .iload_n 1, []), (47, 1, .imul, []), (48, 1, .iload_n 2, []), (49, 1, .iadd, []), (50, 1, .iaload, []), (51, 2, .istore 4, []), (53, 1, .aload_n 0, []), (54, 3, .getfield 781, [44, 5192, 12, 0]), (57, 2, .bipush 6, []), (59, 1, .iload_n 1, []), (60, 1, .imul, []), (61, 1, .iload_n 2, []), (62, 1, .iadd, []), (63, 1, .iload_n 3, []), (64, 1, .iastore, []), (65, 2, .iload 4, []), (67, 1, .ireturn, [])]
def sT209 : List sEt := [(0, 1, .aload_n 0, []), (1, 1, .iload_n 1, []), (2, 3, .invokevirtual 173, [181, 6177]), (5, 3, .ifCond .ne 9, []), (8, 1, .aload_n 0, []), (9, 1, .iconst (-1), []), (10, 3, .invokevirtual 169, [97, 6064]), (13, 1, .ireturn, []), (14, 1, .iload_n 2, []), (15, 3, .ifCond .eq 7, []), (18, 1, .iconst 1, []), (19, 3, .goto 4, []), (22, 1, .iconst 0, []), (23, 1, .istore_n 3, []), (24, 1, .aload_n 0, []), (25, 3, .getfield 780, [41, 5191, 12, 0]), (28, 1, .iload_n 1, []), (29, 1, .iaload, []), (30, 1, .iload_n 3, []), (31, 3, .if_icmp .ne 5, []), (34, 1, .iconst 0, []), (35, 1, .ireturn, []), (36, 1, .aload_n 0, []), (37, 3, .getfield 780, [41, 5191, 12, 0]), (40, 1, .iload_n 1, []), (41, 1, .iload_n 3, []), (42, 1, .iastore, []), (43, 1, .iconst 1, []), (44, 1, .ireturn, [])]
def sT210 : List sEt := [(0, 1, .aload_n 0, []), (1, 1, .iload_n 1, []), (2, 3, .invokevirtual 173, [181, 6177]), (5, 3, .ifCond .ne 10, []), (8, 1, .aload_n 0, []), (9, 2, .bipush (-5), []), (11, 3, .invokevirtual 169, [97, 6064]), (14, 1, .ireturn, []), (15, 1, .iload_n 2, []), (16, 2, .bipush 10, []), (18, 3, .if_icmp .lt 24, []), (21, 1, .iload_n 2, []), (22, 2, .bipush 16, []), (24, 3, .if_icmp .ge 18, []), (27, 1, .aload_n 0, []), (28, 3, .getfield 781, [44, 5192, 12, 0]), (31, 2, .bipush 6, []), (33, 1, .iload_n 1, []), (34, 1, .imul, []), (35, 1, .iload_n 2, []), (36, 1, .iadd, []), (37, 2, .bipush 10, []), (39, 1, .isub, []), (40, 1, .iaload, []), (41, 1, .ireturn, []), (42, 1, .iload_n 2, []), (43, 3, .ifCond .ne 12, []), (46, 1, .aload_n 0, []), (47, 3, .getfield 779, [38, 5190, 12, 0]), (50, 1, .iload_n 1, []), (51, 1, .iaload, []), (52, 3, .goto 40, []), (55, 1, .iload_n 2, []), (56, 1, .iconst 1, []), (57, 3, .if_icmp .ne 12, []), (60, 1, .aload_n 0, []), (61, 3, .getfield 780, [41, 5191, 12, 0]), (64, 1, .iload_n 1, []), (65, 1, .iaload, []), (66, 3, .goto 26, []), (69, 1, .iload_n 2, []), (70, 1, .iconst 2, []), (71, 3, .if_icmp .ne 15, []), (74, 1, .aload_n 0, []), (75, 1, .aload_n 0, []), (76, 1, .iload_n 1, []), (77, 3, .invokevirtual 213, [184, 6188]), (80, 3, .invokevirtual 176, [109, 6101]), (83, 3, .goto 9, []), (86, 1, .aload_n 0, []), (87, 2, .bipush (-5), []), (89, 3, .invokevirtual 169, [97, 6064]), (92, 1, .ireturn, [])]
def sT211 : List sEt := [(0, 1, .aload_n 0, []), (1, 3, .getfield 780, [41, 5191, 12, 0]), (4, 1, .iload_n 1, []), (5, 1, .iaload, []), (6, 1, .iconst 1, []), (7, 3, .if_icmp .ne 28, []), (10, 1, .aload_n 0, []), (11, 3, .getfield 772, [19, 5183, 12, 0]), (14, 1, .iconst (-1), []), (15, 3, .if_icmp .eq 20, []), (18, 1, .aload_n 0, []), (19, 1, .lload_n 2, []), (20, 1, .aload_n 0, []), (21, 3, .getfield 772, [19, 5183, 12, 0]), (24, 3, .invokevirtual 177, [188, 6205]), (27, 3, .ifCond .eq 8, []), (30, 2, .bipush 20, []), (32, 3, .goto 4, []), (35, 1, .iconst 0, []), (36, 2, .istore 4, []), (38, 1, .iconst 0, []), (39, 2, .istore 5, []), (41, 2, .iload 5, []), (43, 1, .aload_n 0, []), (44, 3, .getfield 768, [7, 5179, 12, 0]), (47, 1, .aload_n 0, []), (48, 3, .getfield 769, [13, 5180, 12, 0]), (51, 1, .imul, []), (52, 3, .if_icmp .ge 41, []), (55, 1, .aload_n 0, []), (56, 1, .lload_n 2, []), (57, 2, .iload 5, []), (59, 3, .invokevirtual 177, [188, 6205]), (62, 3, .ifCond .eq 25, []), (65, 2, .iload 4, []), (67, 1, .aload_n 0, []), (68, 3, .getfield 781, [44, 5192, 12, 0]), (71, 2, .bipush 6, []), (73, 1, .iload_n 1, []), (74, 1, .imul, []), (75, 1, .aload_n 0, []), (76, 3, .getfield 777, [32, 5188, 12, 0]), (79, 2, .iload 5, []), (81, 1, .iaload, []), (82, 1, .iadd, []), (83, 1, .iaload, []), (84, 1, .iadd, []), (85, 2, .istore 4, []), (87, 3, .iinc 5 1, []), (90, 3, .goto (-49), []), (93, 2, .iload 4, []), (95, 1, .ireturn, [])]
def sT212 : List sEt := [(0, 1, .aload_n 0, []), (1, 1, .iload_n 1, []), (2, 3, .invokevirtual 173, [181, 6177]), (5, 3, .ifCond .eq 20, []), (8, 1, .aload_n 0, []), (9, 1, .lload_n 2, []), (10, 3, .invokevirtual 175, [192, 6195]), (13, 3, .ifCond .eq 12, []), (16, 1, .aload_n 0, []), (17, 1, .iload_n 1, []), (18, 1, .lload_n 2, []), (19, 3, .invokevirtual 211, [196, 6202]), (22, 3, .goto 8, []), (25, 1, .aload_n 0, []), (26, 1, .iconst (-1), []), (27, 3, .invokevirtual 169, [97, 6064]), (30, 1, .ireturn, [])]
def sT213 : List sEt := [(0, 1, .lconst 0, []), (1, 1, .lstore_n 2, []), (2, 1, .iconst 0, []), (3, 2, .istore 4, []), (5, 2, .iload 4, []), (7, 1, .aload_n 0, []), (8, 3, .getfield 768, [7, 5179, 12, 0]), (11, 1, .aload_n 0, []), (12, 3, .getfield 769, [13, 5180, 12, 0]), (15, 1, .imul, []), (16, 3, .if_icmp .ge 27, []), (19, 1, .aload_n 0, []), (20, 3, .getfield 778, [35, 5189, 12, 0]), (23, 2, .iload 4, []), (25, 1, .iaload, []), (26, 1, .iload_n 1, []), (27, 3, .if_icmp .ne 10, []), (30, 1, .lload_n 2, []), (31, 1, .lconst 1, []), (32, 2, .iload 4, []), (34, 1, .lshl, []), (35, 1, .lor, []), (36, 1, .lstore_n 2, []), (37, 3, .iinc 4 1, []), (40, 3, .goto (-35), []), (43, 1, .lload_n 2, []), (44, 1, .lreturn, [])]
def sT214 : List sEt := [(0, 1, .iload_n 1, []), (1, 1, .iconst (-1), []), (2, 3, .if_icmp .eq 17, []), (5, 1, .iload_n 1, []), (6, 2, .bipush 9, []), (8, 3, .if_icmp .eq 11, []), (11, 1, .aload_n 0, []), (12, 1, .iload_n 1, []), (13, 3, .invokevirtual 173, [181, 6177]), (16, 3, .ifCond .eq 7, []), (19, 1, .iconst 1, []), (20, 3, .goto 4, []), (23, 1, .iconst 0, []), (24, 1, .ireturn, [])]
def sT215 : List sEt := [(0, 1, .aload_n 0, []), (1, 1, .iload_n 1, []), (2, 3, .invokevirtual 172, [175, 6159]), (5, 3, .ifCond .eq 12, []), (8, 1, .aload_n 0, []), (9, 3, .getfield 778, [35, 5189, 12, 0]), (12, 1, .iload_n 1, []), (13, 1, .iaload, []), (14, 3, .goto 4, []), (17, 1, .iconst (-1), []), (18, 1, .ireturn, [])]
def sT216 : List sEt := [(0, 1, .aload_n 0, []), (1, 1, .lload_n 1, []), (2, 3, .invokevirtual 175, [192, 6195]), (5, 3, .ifCond .eq 11, []), (8, 1, .aload_n 0, []), (9, 1, .iload_n 3, []), (10, 3, .invokevirtual 214, [200, 7002]), (13, 3, .ifCond .ne 9, []), (16, 1, .aload_n 0, []), (17, 1, .iconst (-1), []), (18, 3, .invokevirtual 169, [97, 6064]), (21, 1, .ireturn, []), (22, 1, .iconst 0, []), (23, 2, .istore 4, []), (25, 2, .iload 4, []), (27, 1, .aload_n 0, []), (28, 3, .getfield 768, [7, 5179, 12, 0]), (31, 1, .aload_n 0, []), (32, 3, .getfield 769, [13, 5180, 12, 0]), (35, 1, .imul, []), (36, 3, .if_icmp .ge 27, []), (39, 1, .aload_n 0, []), (40, 1, .lload_n 1, []), (41, 2, .iload 4, []), (43, 3, .invokevirtual 177, [188, 6205]), (46, 3, .ifCond .eq 11, []), (49, 1, .aload_n 0, []), (50, 3, .getfield 778, [35, 5189, 12, 0]), (53, 2, .iload 4, []), (55, 1, .iload_n 3, []), (56, 1, .iastore, []), (57, 3, .iinc 4 1, []), (60, 3, .goto (-35), []), (63, 1, .aload_n 0, []), (64, 1, .lload_n 1, []), (65, 3, .invokevirtual 176, [109, 6101]), (68, 1, .ireturn, [])]
def sT217 : List sEt := [(0, 1, .aload_n 0, []), (1, 1, .iload_n 1, []), (2, 3, .invokevirtual 171, [93, 6061]), (5, 3, .ifCond .eq 19, []), (8, 1, .aload_n 0, []), (9, 1, .iload_n 2, []), (10, 3, .invokevirtual 214, [200, 7002]), (13, 3, .ifCond .eq 11, []), (16, 1, .aload_n 0, []), (17, 1, .iload_n 3, []), (18, 3, .invokevirtual 214, [200, 7002]), (21, 3, .ifCond .ne 9, []), (24, 1, .aload_n 0, []), (25, 1, .iconst (-1), []), (26, 3, .invokevirtual 169, [97, 6064]), (29, 1, .ireturn, []), (30, 1, .aload_n 0, []), (31, 1, .iload_n 1, []), (32, 1, .iconst 2, []), (33, 3, .invokevirtual 184, [165, 6108]), (36, 2, .istore 4, []), (38, 1, .iconst 0, []), (39, 2, .istore 5, []), (41, 2, .iload 4, []), (43, 3, .ifCond .eq 10, []), (46, 1, .aload_n 0, []), (47, 2, .iload 4, []), (49, 3, .invokevirtual 169, [97, 6064]), (52, 1, .ireturn, []), (53, 1, .aload_n 0, []), (54, 1, .aload_n 0, []), (55, 3, .getfield 785, [56, 5196, 12, 0]), (58, 1, .iload_n 1, []), (59, 1, .iaload, []), (60, 1, .iconst 0, []), (61, 3, .invokevirtual 187, [105, 6091]), (64, 2, .lstore 6, []), (66, 1, .aload_n 0, []), (67, 1, .aload_n 0, []), (68, 3, .getfield 785, [56, 5196, 12, 0]), (71, 1, .iload_n 1, []), (72, 1, .iaload, []), (73, 1, .iconst 2, []), (74, 3, .invokevirtual 187, [105, 6091]), (77, 2, .lstore 8, []), (79, 1, .iconst 0, []), (80, 2, .istore 10, []), (82, 2, .iload 10, []), (84, 1, .aload_n 0, []), (85, 3, .getfield 768, [7, 5179, 12, 0]), (88, 1, .aload_n 0, []), (89, 3, .getfield 769, [13, 5180, 12, 0]), (92, 1, .imul, []), (93, 3, .if_icmp .ge 67, []), (96, 1, .aload_n 0, []), (97, 2, .lload 8, []), (99, 2, .iload 10, []), (101, 3, .invokevirtual 177, [188, 6205]), (104, 3, .ifCond .eq 8, []), (107, 2, .bipush 9, []), (109, 3, .goto 19, []), (112, 1, .aload_n 0, []), (113, 2, .lload 6, []), (115, 2, .iload 10, []), (117, 3, .invokevirtual 177, [188, 6205]), (120, 3, .ifCond .eq 7, []), (123, 1, .iload_n 2, []), (124, 3, .goto 4, []), (127, 1, .iload_n 3, []), (128, 2, .istore 11, []), (130, 1, .aload_n 0, []), (131, 3, .getfield 778, [35, 5189, 12, 0]), (134, 2, .iload 10, []), (136, 1, .iaload, []), (137, 2, .iload 11, []), (139, 3, .if_icmp .eq 6, []), (142, 3, .iinc 5 1, []), (145, 1, .aload_n 0, []), (146, 3, .getfield 778, [35, 5189, 12, 0]), (149, 2, .iload 10, []), (151, 2, .iload 11, []), (153, 1, .iastore, []), (154, 3, .iinc 10 1, []), (157, 3, .goto (-75), []), (160, 2, .iload 5, []), (162, 1, .ireturn, [])]
def sT218 : List sEt := [(0, 1, .aload_n 0, []), (1, 1, .iload_n 1, []), (2, 1, .iconst 1, []), (3, 3, .invokevirtual 184, [165, 6108]), (6, 1, .istore_n 2, []), (7, 1, .iconst 0, []), (8, 1, .istore_n 3, []), (9, 1, .iload_n 2, []), (10, 3, .ifCond .eq 9, []), (13, 1, .aload_n 0, []), (14, 1, .iload_n 2, []), (15, 3, .invokevirtual 169, [97, 6064]), (18, 1, .ireturn, []), (19, 1, .iconst 0, []), (20, 2, .istore 4, []), (22, 2, .iload 4, []), (24, 1, .aload_n 0, []), (25, 3, .getfield 768, [7, 5179, 12, 0]), (28, 1, .aload_n 0, []), (29, 3, .getfield 769, [13, 5180, 12, 0]), (32, 1, .imul, []), (33, 3, .if_icmp .ge 79, []), (36, 2, .iload 4, []), (38, 1, .aload_n 0, []), (39, 3, .getfield 784, [53, 5195, 12, 0]), (42, 1, .iload_n 1, []), (43, 1, .iaload, []), (44, 3, .if_icmp .ge 13, []), (47, 1, .aload_n 0, []), (48, 1, .iload_n 1, []), (49, 2, .iload 4, []), (51, 3, .invokevirtual 185, [203, 7013]), (54, 3, .goto 4, []), (57, 1, .iconst (-1), []), (58, 2, .istore 5, []), (60, 1, .aload_n 0, []), (61, 3, .getfield 778, [35, 5189, 12, 0]), (64, 2, .iload 4, []), (66, 2, .iload 5, []), (68, 2, .bipush 9, []), (70, 3, .if_icmp .eq 12, []), (73, 1, .aload_n 0, []), (74, 2, .iload 5, []), (76, 3, .invokevirtual 173, [181, 6177]), (79, 3, .ifCond .eq 8, []), (82, 2, .iload 5, []), (84, 3, .goto 4, []), (87, 1, .iconst (-1), []), (88, 1, .iastore, []), (89, 1, .aload_n 0, []), (90, 1, .aload_n 0, []), (91, 3, .getfield 778, [35, 5189, 12, 0]), (94, 2, .iload 4, []), (96, 1, .iaload, []), (97, 3, .invokevirtual 173, [181, 6177]), (100, 3, .ifCond .eq 6, []), (103, 3, .iinc 3 1, []), (106, 3, .iinc 4 1, []), (109, 3, .goto (-87), []), (112, 1, .iload_n 3, []), (113, 1, .ireturn, [])]
def sT219 : List sEt := [(0, 1, .aload_n 0, []), (1, 1, .iload_n 1, []), (2, 3, .invokevirtual 214, [200, 7002]), (5, 3, .ifCond .eq 11, []), (8, 1, .aload_n 0, []), (9, 1, .iload_n 1, []), (10, 3, .invokevirtual 213, [184, 6188]), (13, 3, .goto 4, []), (16, 1, .lconst 0, []), (17, 1, .lreturn, [])]
def sT220 : List sEt := [(0, 1, .iconst 0, []), (1, 1, .istore_n 1, []), (2, 1, .iconst 0, []), (3, 1, .istore_n 2, []), (4, 1, .iload_n 2, []), (5, 1, .aload_n 0, []), (6, 3, .getfield 768, [7, 5179, 12, 0]), (9, 1, .aload_n 0, []), (10, 3, .getfield 769, [13, 5180, 12, 0]), (13, 1, .imul, []), (14, 3, .if_icmp .ge 85, []), (17, 1, .iload_n 2, []), (18, 1, .aload_n 0, []), (19, 3, .getfield 768, [7, 5179, 12, 0]), (22, 1, .irem, []), (23, 1, .iconst 1, []), (24, 1, .iadd, []), (25, 1, .aload_n 0, []), (26, 3, .getfield 768, [7, 5179, 12, 0]), (29, 3, .if_icmp .ge 23, []), (32, 1, .aload_n 0, []), (33, 3, .getfield 778, [35, 5189, 12, 0]), (36, 1, .iload_n 2, []), (37, 1, .iaload, []), (38, 1, .aload_n 0, []), (39, 3, .getfield 778, [35, 5189, 12, 0]), (42, 1, .iload_n 2, []), (43, 1, .iconst 1, []), (44, 1, .iadd, []), (45, 1, .iaload, []), (46, 3, .if_icmp .eq 6, []), (49, 3, .iinc 1 1, []), (52, 1, .iload_n 2, []), (53, 1, .aload_n 0, []), (54, 3, .getfield 768, [7, 5179, 12, 0]), (57, 1, .iadd, []), (58, 1, .aload_n 0, []), (59, 3, .getfield 768, [7, 5179, 12, 0]), (62, 1, .aload_n 0, []), (63, 3, .getfield 769, [13, 5180, 12, 0]), (66, 1, .imul, []), (67, 3, .if_icmp .ge 26, []), (70, 1, .aload_n 0, []), (71, 3, .getfield 778, [35, 5189, 12, 0]), (74, 1, .iload_n 2, []), (75, 1, .iaload, []), (76, 1, .aload_n 0, []), (77, 3, .getfield 778, [35, 5189, 12, 0]), (80, 1, .iload_n 2, []), (81, 1, .aload_n 0, []), (82, 3, .getfield 768, [7, 5179, 12, 0]), (85, 1, .iadd, []), (86, 1, .iaload, []), (87, 3, .if_icmp .eq 6, []), (90, 3, .iinc 1 1, []), (93, 3, .iinc 2 1, []), (96, 3, .goto (-92), []), (99, 1, .iload_n 1, []), (100, 1, .ireturn, [])]
def sT221 : List sEt := [(0, 1, .aload_n 0, []), (1, 3, .invokevirtual 220, [206, 7024]), (4, 1, .ireturn, [])]
def sT222 : List sEt := [(0, 1, .lconst 0, []), (1, 1, .lstore_n 3, []), (2, 1, .iconst 0, []), (3, 2, .istore 5, []), (5, 2, .iload 5, []), (7, 1, .aload_n 0, []), (8, 3, .getfield 768, [7, 5179, 12, 0]), (11, 1, .aload_n 0, []), (12, 3, .getfield 769, [13, 5180, 12, 0]), (15, 1, .imul, []), (16, 3, .if_icmp .ge 118, []), (19, 1, .aload_n 0, []), (20, 1, .lload_n 1, []), (21, 2, .iload 5, []), (23, 3, .invokevirtual 177, [188, 6205]), (26, 3, .ifCond .ne 6, []), (29, 3, .goto 99, []), (32, 2, .iload 5, []), (34, 1, .aload_n 0, []), (35, 3, .getfield 768, [7, 5179, 12, 0]), (38, 1, .irem, []), (39, 3, .ifCond .le 12, []), (42, 1, .lload_n 3, []), (43, 1, .lconst 1, []), (44, 2, .iload 5, []), (46, 1, .iconst 1, []), (47, 1, .isub, []), (48, 1, .lshl, []), (49, 1, .lor, []), (50, 1, .lstore_n 3, []), (51, 2, .iload 5, []), (53, 1, .aload_n 0, []), (54, 3, .getfield 768, [7, 5179, 12, 0]), (57, 1, .irem, []), (58, 1, .iconst 1, []), (59, 1, .iadd, []), (60, 1, .aload_n 0, []), (61, 3, .getfield 768, [7, 5179, 12, 0]), (64, 3, .if_icmp .ge 12, []), (67, 1, .lload_n 3, []), (68, 1, .lconst 1, []), (69, 2, .iload 5, []), (71, 1, .iconst 1, []), (72, 1, .iadd, []), (73, 1, .lshl, []), (74, 1, .lor, []), (75, 1, .lstore_n 3, []), (76, 2, .iload 5, []), (78, 1, .aload_n 0, []), (79, 3, .getfield 768, [7, 5179, 12, 0]), (82, 3, .if_icmp .lt 15, []), (85, 1, .lload_n 3, []), (86, 1, .lconst 1, []), (87, 2, .iload 5, []), (89, 1, .aload_n 0, []), (90, 3, .getfield 768, [7, 5179, 12, 0]), (93, 1, .isub, []), (94, 1, .lshl, []), (95, 1, .lor, []), (96, 1, .lstore_n 3, []), (97, 2, .iload 5, []), (99, 1, .aload_n 0, []), (100, 3, .getfield 768, [7, 5179, 12, 0]), (103, 1, .iadd, []), (104, 1, .aload_n 0, []), (105, 3, .getfield 768, [7, 5179, 12, 0]), (108, 1, .aload_n 0, []), (109, 3, .getfield 769, [13, 5180, 12, 0]), (112, 1, .imul, []), (113, 3, .if_icmp .ge 15, []), (116, 1, .lload_n 3, []), (117, 1, .lconst 1, []), (118, 2, .iload 5, []), (120, 1, .aload_n 0, []), (121, 3, .getfield 768, [7, 5179, 12, 0]), (124, 1, .iadd, []), (125, 1, .lshl, []), (126, 1, .lor, []), (127, 1, .lstore_n 3, []), (128, 3, .iinc 5 1, []), (131, 3, .goto (-126), []), (134, 1, .lload_n 3, []), (135, 1, .lreturn, [])]
def sT223 : List sEt := [(0, 1, .lload_n 1, []), (1, 1, .lload_n 3, []), (2, 1, .land, []), (3, 2, .lstore 5, []), (5, 2, .lload 5, []), (7, 1, .aload_n 0, []), (8, 2, .lload 5, []), (10, 3, .invokevirtual 222, [209, 7037]), (13, 1, .lload_n 3, []), (14, 1, .land, []), (15, 1, .lor, []), (16, 2, .lstore 7, []), (18, 2, .lload 7, []), (20, 2, .lload 5, []), (22, 1, .lcmp, []), (23, 3, .ifCond .eq 23, []), (26, 2, .lload 7, []), (28, 2, .lstore 5, []), (30, 2, .lload 5, []), (32, 1, .aload_n 0, []), (33, 2, .lload 5, []), (35, 3, .invokevirtual 222, [209, 7037]), (38, 1, .lload_n 3, []), (39, 1, .land, []), (40, 1, .lor, []), (41, 2, .lstore 7, []), (43, 3, .goto (-25), []), (46, 2, .lload 5, []), (48, 1, .lreturn, [])]
def sT224 : List sEt := [(0, 1, .iconst 0, []), (1, 1, .istore_n 3, []), (2, 1, .lload_n 1, []), (3, 2, .lstore 4, []), (5, 2, .lload 4, []), (7, 1, .lconst 0, []), (8, 1, .lcmp, []), (9, 3, .ifCond .eq 30, []), (12, 2, .lload 4, []), (14, 1, .aload_n 0, []), (15, 2, .lload 4, []), (17, 2, .lload 4, []), (19, 1, .lneg, []), (20, 1, .land, []), (21, 2, .lload 4, []), (23, 3, .invokevirtual 223, [213, 7034]), (26, 3, .ldc2_w 18446744073709551615, [87, 6201]), (29, 1, .lxor, []), (30, 1, .land, []), (31, 2, .lstore 4, []), (33, 3, .iinc 3 1, []), (36, 3, .goto (-31), []), (39, 1, .iload_n 3, []), (40, 1, .ireturn, [])]
def sT225 : List sEt := [(0, 1, .aload_n 0, []), (1, 1, .lload_n 1, []), (2, 3, .invokevirtual 175, [192, 6195]), (5, 3, .ifCond .eq 11, []), (8, 1, .aload_n 0, []), (9, 1, .lload_n 1, []), (10, 3, .invokevirtual 224, [217, 7031]), (13, 3, .goto 4, []), (16, 1, .iconst 0, []), (17, 1, .ireturn, [])]
def sT226 : List sEt := [(0, 1, .lconst 0, []), (1, 1, .lstore_n 1, []), (2, 1, .iconst 0, []), (3, 1, .istore_n 3, []), (4, 1, .iload_n 3, []), (5, 1, .aload_n 0, []), (6, 3, .getfield 768, [7, 5179, 12, 0]), (9, 1, .aload_n 0, []), (10, 3, .getfield 769, [13, 5180, 12, 0]), (13, 1, .imul, []), (14, 3, .if_icmp .ge 124, []), (17, 1, .aload_n 0, []), (18, 3, .getfield 770, [158, 5181, 12, 0]), (21, 3, .ifCond .ne 19, []), (24, 1, .iload_n 3, []), (25, 1, .aload_n 0, []), (26, 3, .getfield 768, [7, 5179, 12, 0]), (29, 3, .if_icmp .ge 7, []), (32, 1, .iconst 1, []), (33, 3, .goto 86, []), (36, 1, .iconst 0, []), (37, 3, .goto 82, []), (40, 1, .aload_n 0, []), (41, 3, .getfield 770, [158, 5181, 12, 0]), (44, 1, .iconst 1, []), (45, 3, .if_icmp .ne 26, []), (48, 1, .iload_n 3, []), (49, 1, .aload_n 0, []), (50, 3, .getfield 768, [7, 5179, 12, 0]), (53, 1, .irem, []), (54, 1, .aload_n 0, []), (55, 3, .getfield 768, [7, 5179, 12, 0]), (58, 1, .iconst 1, []), (59, 1, .isub, []), (60, 3, .if_icmp .ne 7, []), (63, 1, .iconst 1, []), (64, 3, .goto 55, []), (67, 1, .iconst 0, []), (68, 3, .goto 51, []), (71, 1, .aload_n 0, []), (72, 3, .getfield 770, [158, 5181, 12, 0]), (75, 1, .iconst 2, []), (76, 3, .if_icmp .ne 29, []), (79, 1, .iload_n 3, []), (80, 1, .aload_n 0, []), (81, 3, .getfield 768, [7, 5179, 12, 0]), (84, 1, .aload_n 0, []), (85, 3, .getfield 769, [13, 5180, 12, 0]), (88, 1, .imul, []), (89, 1, .aload_n 0, []), (90, 3, .getfield 768, [7, 5179, 12, 0]), (93, 1, .isub, []), (94, 3, .if_icmp .lt 7, []), (97, 1, .iconst 1, []), (98, 3, .goto 21, []), (101, 1, .iconst 0, []), (102, 3, .goto 17, []), (105, 1, .iload_n 3, []), (106, 1, .aload_n 0, []), (107, 3, .getfield 768, [7, 5179, 12, 0]), (110, 1, .irem, []), (111, 3, .ifCond .ne 7, []), (114, 1, .iconst 1, []), (115, 3, .goto 4, []), (118, 1, .iconst 0, []), (119, 2, .istore 4, []), (121, 2, .iload 4, []), (123, 3, .ifCond .eq 9, []), (126, 1, .lload_n 1, []), (127, 1, .lconst 1, []), (128, 1, .iload_n 3, []), (129, 1, .lshl, []), (130, 1, .lor, []), (131, 1, .lstore_n 1, []), (132, 3, .iinc 3 1, []), (135, 3, .goto (-131), []), (138, 1, .lload_n 1, []), (139, 1, .lreturn, [])]
def sT227 : List sEt := [(0, 1, .aload_n 0, []), (1, 1, .iconst (-1), []), (2, 3, .putfield 796, [220, 5207, 12, 0]), (5, 1, .aload_n 0, []), (6, 1, .iconst (-1), []), (7, 3, .invokevirtual 213, [184, 6188]), (10, 1, .lstore_n 1, []), (11, 1, .lload_n 1, []), (12, 1, .lconst 0, []), (13, 1, .lcmp, []), (14, 3, .ifCond .eq 35, []), (17, 1, .aload_n 0, []), (18, 1, .iconst 0, []), (19, 3, .putfield 796, [220, 5207, 12, 0]), (22, 1, .aload_n 0, []), (23, 1, .lload_n 1, []), (24, 1, .aload_n 0, []), (25, 3, .getfield 796, [220, 5207, 12, 0]), (28, 3, .invokevirtual 177, [188, 6205]), (31, 3, .ifCond .ne 16, []), (34, 1, .aload_n 0, []), (35, 1, .dup, []), (36, 3, .getfield 796, [220, 5207, 12, 0]), (39, 1, .iconst 1, []), (40, 1, .iadd, []), (41, 3, .putfield 796, [220, 5207, 12, 0]), (44, 3, .goto (-22), []), (47, 1, .iconst 1, []), (48, 1, .ireturn, []), (49, 1, .iconst 0, []), (50, 1, .istore_n 3, []), (51, 1, .iload_n 3, []), (52, 1, .aload_n 0, []), (53, 3, .getfield 774, [84, 5185, 12, 0]), (56, 3, .if_icmp .ge 49, []), (59, 1, .aload_n 0, []), (60, 1, .iload_n 3, []), (61, 3, .invokevirtual 213, [184, 6188]), (64, 2, .lstore 4, []), (66, 1, .aload_n 0, []), (67, 2, .lload 4, []), (69, 3, .invokevirtual 224, [217, 7031]), (72, 1, .iconst 2, []), (73, 3, .if_icmp .ge 19, []), (76, 1, .aload_n 0, []), (77, 2, .lload 4, []), (79, 3, .invokevirtual 176, [109, 6101]), (82, 1, .aload_n 0, []), (83, 3, .getfield 773, [22, 5184, 12, 0]), (86, 3, .if_icmp .lt 6, []), (89, 3, .goto 10, []), (92, 1, .aload_n 0, []), (93, 1, .iload_n 3, []), (94, 3, .putfield 796, [220, 5207, 12, 0]), (97, 1, .iconst 2, []), (98, 1, .ireturn, []), (99, 3, .iinc 3 1, []), (102, 3, .goto (-51), []), (105, 1, .aload_n 0, []), (106, 2, .bipush 9, []), (108, 3, .invokevirtual 213, [184, 6188]), (111, 1, .lstore_n 3, []), (112, 1, .aload_n 0, []), (113, 3, .invokevirtual 226, [223, 7047]), (116, 1, .aload_n 0, []), (117, 1, .aload_n 0, []), (118, 1, .aload_n 0, []), (119, 3, .invokevirtual 226, [223, 7047]), (122, 1, .lload_n 3, []), (123, 1, .land, []), (124, 1, .lload_n 3, []), (125, 3, .invokevirtual 223, [213, 7034]), (128, 3, .invokevirtual 222, [209, 7037]), (131, 1, .lor, []), (132, 2, .lstore 5, []), (134, 1, .iconst 0, []), (135, 2, .istore 7, []), (137, 2, .iload 7, []), (139, 1, .aload_n 0, []), (140, 3, .getfield 774, [84, 5185, 12, 0]), (143, 3, .if_icmp .ge 34, []), (146, 1, .aload_n 0, []), (147, 2, .iload 7, []), (149, 3, .invokevirtual 213, [184, 6188]), (152, 2, .lload 5, []), (154, 1, .land, []), (155, 1, .lconst 0, []), (156, 1, .lcmp, []), (157, 3, .ifCond .eq 6, []), (160, 3, .goto 11, []), (163, 1, .aload_n 0, []), (164, 2, .iload 7, []), (166, 3, .putfield 796, [220, 5207, 12, 0]), (169, 1, .iconst 3, []), (170, 1, .ireturn, []), (171, 3, .iinc 7 1, []), (174, 3, .goto (-37), []), (177, 1, .aload_n 0, []), (178, 3, .getfield 771, [16, 5182, 12, 0]), (181, 1, .iconst (-1), []), (182, 3, .if_icmp .eq 79, []), (185, 1, .aload_n 0, []), (186, 3, .getfield 778, [35, 5189, 12, 0]), (189, 1, .aload_n 0, []), (190, 3, .getfield 771, [16, 5182, 12, 0]), (193, 1, .iaload, []), (194, 2, .bipush 9, []), (196, 3, .if_icmp .eq 65, []), (199, 1, .aload_n 0, []), (200, 1, .lconst 1, []), (201, 1, .aload_n 0, []), (202, 3, .getfield 771, [16, 5182, 12, 0]), (205, 1, .lshl, []), (206, 3, .invokevirtual 222, [209, 7037]), (209, 1, .lconst 1, []), (210, 1, .aload_n 0, []), (211, 3, .getfield 771, [16, 5182, 12, 0]), (214, 1, .lshl, []), (215, 1, .lor, []), (216, 2, .lstore 7, []), (218, 1, .iconst 0, []), (219, 2, .istore 9, []), (221, 2, .iload 9, []), (223, 1, .aload_n 0, []), (224, 3, .getfield 774, [84, 5185, 12, 0]), (227, 3, .if_icmp .ge 34, []), (230, 1, .aload_n 0, []), (231, 2, .iload 9, []), (233, 3, .invokevirtual 213, [184, 6188]), (236, 2, .lload 7, []), (238, 1, .land, []), (239, 1, .lconst 0, []), (240, 1, .lcmp, []), (241, 3, .ifCond .eq 6, []), (244, 3, .goto 11, []), (247, 1, .aload_n 0, []), (248, 2, .iload 9, []), (250, 3, .putfield 796, [220, 5207, 12, 0]), (253, 1, .iconst 4, []), (254, 1, .ireturn, []), (255, 3, .iinc 9 1, []), (258, 3, .goto (-37), []), (261, 1, .iconst 0, []), (262, 2, .istore 7, []), (264, 2, .iload 7, []), (266, 1, .aload_n 0, []), (267, 3, .getfield 774, [84, 5185, 12, 0]), (270, 3, .if_icmp .ge 58, []), (273, 1, .aload_n 0, []), (274, 2, .iload 7, []), (276, 1, .aload_n 0, []), (277, 2, .iload 7, []), (279, 3, .invokevirtual 213, [184, 6188]), (282, 3, .invokevirtual 211, [196, 6202]), (285, 1, .aload_n 0, []), (286, 3, .invokevirtual 228, [226, 7050]), (289, 1, .imul, []), (290, 1, .aload_n 0, []), (291, 3, .getfield 779, [38, 5190, 12, 0]), (294, 2, .iload 7, []), (296, 1, .iaload, []), (297, 1, .aload_n 0, []), (298, 2, .iload 7, []), (300, 1, .aload_n 0, []), (301, 3, .invokevirtual 174, [89, 6198]), (304, 3, .invokevirtual 211, [196, 6202]), (307, 1, .imul, []), (308, 3, .if_icmp .lt 6, []), (311, 3, .goto 11, []), (314, 1, .aload_n 0, []), (315, 2, .iload 7, []), (317, 3, .putfield 796, [220, 5207, 12, 0]), (320, 1, .iconst 5, []), (321, 1, .ireturn, []), (322, 3, .iinc 7 1, []), (325, 3, .goto (-61), []), (328, 1, .iconst 0, []), (329, 1, .ireturn, [])]
def sT228 : List sEt := [(0, 1, .iconst 0, []), (1, 1, .istore_n 1, []), (2, 1, .iconst 0, []), (3, 1, .istore_n 2, []), (4, 1, .iload_n 2, []), (5, 1, .aload_n 0, []), (6, 3, .getfield 774, [84, 5185, 12, 0]), (9, 3, .if_icmp .ge 18, []), (12, 1, .iload_n 1, []), (13, 1, .aload_n 0, []), (14, 3, .getfield 779, [38, 5190, 12, 0]), (17, 1, .iload_n 2, []), (18, 1, .iaload, []), (19, 1, .iadd, []), (20, 1, .istore_n 1, []), (21, 3, .iinc 2 1, []), (24, 3, .goto (-20), []), (27, 1, .iload_n 1, []), (28, 1, .ireturn, [])]
def sT229 : List sEt := [(0, 1, .aload_n 0, []), (1, 3, .invokevirtual 227, [229, 7044]), (4, 1, .ireturn, [])]
def sT230 : List sEt := [(0, 1, .aload_n 0, []), (1, 3, .invokevirtual 227, [229, 7044]), (4, 1, .pop, []), (5, 1, .aload_n 0, []), (6, 3, .getfield 796, [220, 5207, 12, 0]), (9, 1, .ireturn, [])]
def sT231 : List sEt := [(0, 1, .iload_n 2, []), (1, 3, .ifCond .eq 20, []), (4, 1, .aload_n 0, []), (5, 3, .getfield 797, [75, 5208, 12, 0]), (8, 1, .aload_n 0, []), (9, 1, .dup, []), (10, 3, .getfield 799, [232, 5210, 12, 0]), (13, 1, .dup_x1, []), (14, 1, .iconst 1, []), (15, 1, .iadd, []), (16, 3, .putfield 799, [232, 5210, 12, 0]), (19, 1, .iload_n 1, []), (20, 1, .iastore, []), (21, 1, .return_, [])]
def sT232 : List sEt := [(0, 1, .aload_n 0, []), (1, 1, .iconst 0, []), (2, 3, .putfield 799, [232, 5210, 12, 0]), (5, 1, .iconst 1, []), (6, 1, .istore_n 2, []), (7, 1, .iload_n 2, []), (8, 1, .aload_n 0, []), (9, 3, .getfield 768, [7, 5179, 12, 0]), (12, 3, .if_icmp .ge 32, []), (15, 1, .aload_n 0, []), (16, 3, .sipush 1000, []), (19, 2, .bipush 100, []), (21, 1, .iload_n 2, []), (22, 1, .imul, []), (23, 1, .iadd, []), (24, 1, .iload_n 1, []), (25, 1, .iconst 2, []), (26, 1, .iand, []), (27, 3, .ifCond .eq 7, []), (30, 1, .iconst 1, []), (31, 3, .goto 4, []), (34, 1, .iconst 0, []), (35, 3, .invokevirtual 231, [235, 7067]), (38, 3, .iinc 2 1, []), (41, 3, .goto (-34), []), (44, 1, .iconst 0, []), (45, 1, .istore_n 2, []), (46, 1, .iload_n 2, []), (47, 1, .aload_n 0, []), (48, 3, .getfield 768, [7, 5179, 12, 0]), (51, 3, .if_icmp .gt 74, []), (54, 1, .iconst 1, []), (55, 1, .istore_n 3, []), (56, 1, .iload_n 3, []), (57, 1, .aload_n 0, []), (58, 3, .getfield 769, [13, 5180, 12, 0]), (61, 3, .if_icmp .ge 58, []), (64, 1, .iconst 0, []), (65, 2, .istore 4, []), (67, 2, .iload 4, []), (69, 1, .aload_n 0, []), (70, 3, .getfield 768, [7, 5179, 12, 0]), (73, 3, .if_icmp .gt 40, []), (76, 1, .aload_n 0, []), (77, 3, .sipush 2000, []), (80, 2, .bipush 100, []), (82, 1, .iload_n 2, []), (83, 1, .imul, []), (84, 1, .iadd, []), (85, 2, .bipush 10, []), (87, 1, .iload_n 3, []), (88, 1, .imul, []), (89, 1, .iadd, []), (90, 2, .iload 4, []), (92, 1, .iadd, []), (93, 1, .iload_n 1, []), (94, 1, .iconst 4, []), (95, 1, .iand, []), (96, 3, .ifCond .eq 7, []), (99, 1, .iconst 1, []), (100, 3, .goto 4, []), (103, 1, .iconst 0, []), (104, 3, .invokevirtual 231, [235, 7067]), (107, 3, .iinc 4 1, []), (110, 3, .goto (-43), []), (113, 3, .iinc 3 1, []), (116, 3, .goto (-60), []), (119, 3, .iinc 2 1, []), (122, 3, .goto (-76), []), (125, 1, .iconst 1, []), (126, 1, .istore_n 2, []), (127, 1, .iload_n 2, []), (128, 1, .aload_n 0, []), (129, 3, .getfield 769, [13, 5180, 12, 0]), (132, 3, .if_icmp .ge 33, []), (135, 1, .aload_n 0, []), (136, 3, .sipush 4000, []), (139, 2, .bipush 100, []), (141, 1, .iload_n 2, []), (142, 1, .imul, []), (143, 1, .iadd, []), (144, 1, .iload_n 1, []), (145, 2, .bipush 16, []), (147, 1, .iand, []), (148, 3, .ifCond .eq 7, []), (151, 1, .iconst 1, []), (152, 3, .goto 4, []), (155, 1, .iconst 0, []), (156, 3, .invokevirtual 231, [235, 7067]), (159, 3, .iinc 2 1, []), (162, 3, .goto (-35), []), (165, 1, .iconst 1, []), (166, 1, .istore_n 2, []), (167, 1, .iload_n 2, []), (168, 1, .aload_n 0, []), (169, 3, .getfield 768, [7, 5179, 12, 0]), (172, 3, .if_icmp .gt 70, []), (175, 1, .iconst 1, []), (176, 1, .istore_n 3, []), (177, 1, .iload_n 3, []), (178, 1, .aload_n 0, []), (179, 3, .getfield 769, [13, 5180, 12, 0]), (182, 3, .if_icmp .gt 54, []), (185, 1, .aload_n 0, []), (186, 3, .sipush 5000, []), (189, 2, .bipush 100, []), (191, 1, .iload_n 2, []), (192, 1, .imul, []), (193, 1, .iadd, []), (194, 2, .bipush 10, []), (196, 1, .iload_n 3, []), (197, 1, .imul, []), (198, 1, .iadd, []), (199, 1, .iload_n 1, []), (200, 2, .bipush 32, []), (202, 1, .iand, []), (203, 3, .ifCond .eq 23, []), (206, 1, .iload_n 2, []), (207, 1, .aload_n 0, []), (208, 3, .getfield 768, [7, 5179, 12, 0]), (211, 3, .if_icmp .lt 11, []), (214, 1, .iload_n 3, []), (215, 1, .aload_n 0, []), (216, 3, .getfield 769, [13, 5180, 12, 0]), (219, 3, .if_icmp .ge 7, []), (222, 1, .iconst 1, []), (223, 3, .goto 4, []), (226, 1, .iconst 0, []), (227, 3, .invokevirtual 231, [235, 7067]), (230, 3, .iinc 3 1, []), (233, 3, .goto (-56), []), (236, 3, .iinc 2 1, []), (239, 3, .goto (-72), []), (242, 1, .return_, [])]
def sT233 : List sEt := [(0, 1, .iconst 0, []), (1, 1, .istore_n 2, []), (2, 1, .iload_n 2, []), (3, 2, .bipush 64, []), (5, 3, .if_icmp .ge 40, []), (8, 1, .iload_n 1, []), (9, 3, .ifCond .eq 18, []), (12, 1, .aload_n 0, []), (13, 3, .getfield 778, [35, 5189, 12, 0]), (16, 1, .iload_n 2, []), (17, 1, .aload_n 0, []), (18, 3, .getfield 798, [78, 5209, 12, 0]), (21, 1, .iload_n 2, []), (22, 1, .iaload, []), (23, 1, .iastore, []), (24, 3, .goto 15, []), (27, 1, .aload_n 0, []), (28, 3, .getfield 798, [78, 5209, 12, 0]), (31, 1, .iload_n 2, []), (32, 1, .aload_n 0, []), (33, 3, .getfield 778, [35, 5189, 12, 0]), (36, 1, .iload_n 2, []), (37, 1, .iaload, []), (38, 1, .iastore, []), (39, 3, .iinc 2 1, []), (42, 3, .goto (-40), []), (45, 1, .return_, [])]
def sT234 : List sEt := [(0, 1, .aload_n 0, []), (1, 3, .invokevirtual 220, [206, 7024]), (4, 1, .istore_n 3, []), (5, 1, .aload_n 0, []), (6, 3, .getfield 802, [239, 5213, 12, 0]), (9, 1, .iconst (-1), []), (10, 3, .if_icmp .eq 11, []), (13, 1, .iload_n 3, []), (14, 1, .aload_n 0, []), (15, 3, .getfield 802, [239, 5213, 12, 0]), (18, 3, .if_icmp .ge 10, []), (21, 1, .aload_n 0, []), (22, 3, .invokevirtual 227, [229, 7044]), (25, 3, .ifCond .eq 4, []), (28, 1, .return_, []), (29, 1, .aload_n 0, []), (30, 1, .iload_n 3, []), (31, 3, .putfield 802, [239, 5213, 12, 0]), (34, 1, .aload_n 0, []), (35, 1, .iload_n 1, []), (36, 3, .putfield 800, [242, 5211, 12, 0]), (39, 1, .aload_n 0, []), (40, 1, .iload_n 2, []), (41, 3, .putfield 801, [245, 5212, 12, 0]), (44, 1, .return_, [])]
def sT235 : List sEt := [(0, 1, .aload_n 0, []), (1, 3, .getfield 774, [84, 5185, 12, 0]), (4, 1, .iconst 2, []), (5, 3, .if_icmp .ne 12, []), (8, 1, .iload_n 1, []), (9, 3, .ifCond .lt 8, []), (12, 1, .iload_n 1, []), (13, 1, .iconst 2, []), (14, 3, .if_icmp .le 10, []), (17, 1, .aload_n 0, []), (18, 2, .bipush (-5), []), (20, 3, .invokevirtual 169, [97, 6064]), (23, 1, .ireturn, []), (24, 1, .aload_n 0, []), (25, 1, .iconst 0, []), (26, 3, .invokevirtual 233, [248, 7061]), (29, 1, .aload_n 0, []), (30, 2, .bipush 22, []), (32, 3, .invokevirtual 232, [252, 7064]), (35, 1, .aload_n 0, []), (36, 1, .iconst (-1), []), (37, 3, .putfield 802, [239, 5213, 12, 0]), (40, 1, .iconst 0, []), (41, 1, .istore_n 2, []), (42, 1, .iload_n 2, []), (43, 1, .aload_n 0, []), (44, 3, .getfield 799, [232, 5210, 12, 0]), (47, 3, .if_icmp .ge 85, []), (50, 1, .iconst 0, []), (51, 1, .istore_n 3, []), (52, 1, .iload_n 3, []), (53, 1, .iconst 2, []), (54, 3, .if_icmp .ge 72, []), (57, 1, .iconst 0, []), (58, 2, .istore 4, []), (60, 2, .iload 4, []), (62, 1, .aload_n 0, []), (63, 3, .getfield 768, [7, 5179, 12, 0]), (66, 1, .aload_n 0, []), (67, 3, .getfield 769, [13, 5180, 12, 0]), (70, 1, .imul, []), (71, 3, .if_icmp .ge 38, []), (74, 1, .aload_n 0, []), (75, 3, .getfield 778, [35, 5189, 12, 0]), (78, 2, .iload 4, []), (80, 1, .aload_n 0, []), (81, 1, .aload_n 0, []), (82, 3, .getfield 797, [75, 5208, 12, 0]), (85, 1, .iload_n 2, []), (86, 1, .iaload, []), (87, 2, .iload 4, []), (89, 3, .invokevirtual 186, [101, 6094]), (92, 3, .ifCond .eq 7, []), (95, 1, .iload_n 3, []), (96, 3, .goto 6, []), (99, 1, .iconst 1, []), (100, 1, .iload_n 3, []), (101, 1, .isub, []), (102, 1, .iastore, []), (103, 3, .iinc 4 1, []), (106, 3, .goto (-46), []), (109, 1, .aload_n 0, []), (110, 1, .aload_n 0, []), (111, 3, .getfield 797, [75, 5208, 12, 0]), (114, 1, .iload_n 2, []), (115, 1, .iaload, []), (116, 1, .iload_n 3, []), (117, 3, .invokevirtual 234, [255, 7070]), (120, 3, .iinc 3 1, []), (123, 3, .goto (-71), []), (126, 3, .iinc 2 1, []), (129, 3, .goto (-87), []), (132, 1, .aload_n 0, []), (133, 1, .iconst 1, []), (134, 3, .invokevirtual 233, [248, 7061]), (137, 1, .aload_n 0, []), (138, 3, .getfield 802, [239, 5213, 12, 0]), (141, 1, .iconst (-1), []), (142, 3, .if_icmp .ne 10, []), (145, 1, .aload_n 0, []), (146, 2, .bipush (-5), []), (148, 3, .invokevirtual 169, [97, 6064]), (151, 1, .ireturn, []), (152, 1, .iload_n 1, []), (153, 3, .ifCond .ne 10, []), (156, 1, .aload_n 0, []), (157, 3, .getfield 800, [242, 5211, 12, 0]), (160, 3, .goto 19, []), (163, 1, .iload_n 1, []), (164, 1, .iconst 1, []), (165, 3, .if_icmp .ne 10, []), (168, 1, .aload_n 0, []), (169, 3, .getfield 801, [245, 5212, 12, 0]), (172, 3, .goto 7, []), (175, 1, .aload_n 0, []), (176, 3, .getfield 802, [239, 5213, 12, 0]), (179, 1, .ireturn, [])]
def sT236 : List sEt := [(0, 1, .aload_n 0, []), (1, 3, .getfield 774, [84, 5185, 12, 0]), (4, 1, .iconst 3, []), (5, 3, .if_icmp .ne 12, []), (8, 1, .iload_n 1, []), (9, 3, .ifCond .lt 8, []), (12, 1, .iload_n 1, []), (13, 1, .iconst 2, []), (14, 3, .if_icmp .le 10, []), (17, 1, .aload_n 0, []), (18, 2, .bipush (-5), []), (20, 3, .invokevirtual 169, [97, 6064]), (23, 1, .ireturn, []), (24, 1, .aload_n 0, []), (25, 1, .iconst 0, []), (26, 3, .invokevirtual 233, [248, 7061]), (29, 1, .aload_n 0, []), (30, 2, .bipush 50, []), (32, 3, .invokevirtual 232, [252, 7064]), (35, 1, .aload_n 0, []), (36, 1, .iconst (-1), []), (37, 3, .putfield 802, [239, 5213, 12, 0]), (40, 1, .iconst 0, []), (41, 1, .istore_n 2, []), (42, 1, .iload_n 2, []), (43, 1, .aload_n 0, []), (44, 3, .getfield 799, [232, 5210, 12, 0]), (47, 3, .if_icmp .ge 110, []), (50, 1, .iconst 0, []), (51, 1, .istore_n 3, []), (52, 1, .iload_n 3, []), (53, 1, .aload_n 0, []), (54, 3, .getfield 799, [232, 5210, 12, 0]), (57, 3, .if_icmp .ge 94, []), (60, 1, .iconst 0, []), (61, 2, .istore 4, []), (63, 2, .iload 4, []), (65, 1, .aload_n 0, []), (66, 3, .getfield 768, [7, 5179, 12, 0]), (69, 1, .aload_n 0, []), (70, 3, .getfield 769, [13, 5180, 12, 0]), (73, 1, .imul, []), (74, 3, .if_icmp .ge 55, []), (77, 1, .aload_n 0, []), (78, 3, .getfield 778, [35, 5189, 12, 0]), (81, 2, .iload 4, []), (83, 1, .aload_n 0, []), (84, 1, .aload_n 0, []), (85, 3, .getfield 797, [75, 5208, 12, 0]), (88, 1, .iload_n 2, []), (89, 1, .iaload, []), (90, 2, .iload 4, []), (92, 3, .invokevirtual 186, [101, 6094]), (95, 3, .ifCond .eq 7, []), (98, 1, .iconst 0, []), (99, 3, .goto 23, []), (102, 1, .aload_n 0, []), (103, 1, .aload_n 0, []), (104, 3, .getfield 797, [75, 5208, 12, 0]), (107, 1, .iload_n 3, []), (108, 1, .iaload, []), (109, 2, .iload 4, []), (111, 3, .invokevirtual 186, [101, 6094]), (114, 3, .ifCond .eq 7, []), (117, 1, .iconst 1, []), (118, 3, .goto 4, []), (121, 1, .iconst 2, []), (122, 1, .iastore, []), (123, 3, .iinc 4 1, []), (126, 3, .goto (-63), []), (129, 1, .aload_n 0, []), (130, 1, .aload_n 0, []), (131, 3, .getfield 797, [75, 5208, 12, 0]), (134, 1, .iload_n 2, []), (135, 1, .iaload, []), (136, 1, .aload_n 0, []), (137, 3, .getfield 797, [75, 5208, 12, 0]), (140, 1, .iload_n 3, []), (141, 1, .iaload, []), (142, 3, .invokevirtual 234, [255, 7070]), (145, 3, .iinc 3 1, []), (148, 3, .goto (-96), []), (151, 3, .iinc 2 1, []), (154, 3, .goto (-112), []), (157, 1, .aload_n 0, []), (158, 1, .iconst 1, []), (159, 3, .invokevirtual 233, [248, 7061]), (162, 1, .aload_n 0, []), (163, 3, .getfield 802, [239, 5213, 12, 0]), (166, 1, .iconst (-1), []), (167, 3, .if_icmp .ne 10, []), (170, 1, .aload_n 0, []), (171, 2, .bipush (-5), []), (173, 3, .invokevirtual 169, [97, 6064]), (176, 1, .ireturn, []), (177, 1, .iload_n 1, []), (178, 3, .ifCond .ne 10, []), (181, 1, .aload_n 0, []), (182, 3, .getfield 800, [242, 5211, 12, 0]), (185, 3, .goto 19, []), (188, 1, .iload_n 1, []), (189, 1, .iconst 1, []), (190, 3, .if_icmp .ne 10, []), (193, 1, .aload_n 0, []), (194, 3, .getfield 801, [245, 5212, 12, 0]), (197, 3, .goto 7, []), (200, 1, .aload_n 0, []), (201, 3, .getfield 802, [239, 5213, 12, 0]), (204, 1, .ireturn, [])]
def sT237 : List sEt := [(0, 1, .aload_n 0, []), (1, 1, .iload_n 1, []), (2, 3, .invokevirtual 173, [181, 6177]), (5, 3, .ifCond .eq 11, []), (8, 1, .aload_n 0, []), (9, 1, .iload_n 2, []), (10, 3, .invokevirtual 173, [181, 6177]), (13, 3, .ifCond .ne 9, []), (16, 1, .aload_n 0, []), (17, 1, .iconst (-1), []), (18, 3, .invokevirtual 169, [97, 6064]), (21, 1, .ireturn, []), (22, 1, .iload_n 3, []), (23, 3, .ifCond .lt 8, []), (26, 1, .iload_n 3, []), (27, 1, .iconst 3, []), (28, 3, .if_icmp .le 10, []), (31, 1, .aload_n 0, []), (32, 2, .bipush (-5), []), (34, 3, .invokevirtual 169, [97, 6064]), (37, 1, .ireturn, []), (38, 1, .iload_n 1, []), (39, 1, .iload_n 2, []), (40, 3, .if_icmp .ne 10, []), (43, 1, .aload_n 0, []), (44, 2, .bipush (-6), []), (46, 3, .invokevirtual 169, [97, 6064]), (49, 1, .ireturn, []), (50, 1, .aload_n 0, []), (51, 2, .bipush 22, []), (53, 3, .invokevirtual 232, [252, 7064]), (56, 1, .iconst (-1), []), (57, 2, .istore 4, []), (59, 1, .iconst 0, []), (60, 2, .istore 5, []), (62, 1, .iconst 0, []), (63, 2, .istore 6, []), (65, 2, .iload 6, []), (67, 1, .aload_n 0, []), (68, 3, .getfield 799, [232, 5210, 12, 0]), (71, 3, .if_icmp .ge 90, []), (74, 1, .aload_n 0, []), (75, 1, .iload_n 1, []), (76, 1, .aload_n 0, []), (77, 1, .aload_n 0, []), (78, 3, .getfield 797, [75, 5208, 12, 0]), (81, 2, .iload 6, []), (83, 1, .iaload, []), (84, 1, .iconst 0, []), (85, 3, .invokevirtual 187, [105, 6091]), (88, 3, .invokevirtual 211, [196, 6202]), (91, 1, .aload_n 0, []), (92, 1, .iload_n 1, []), (93, 1, .aload_n 0, []), (94, 1, .aload_n 0, []), (95, 3, .getfield 797, [75, 5208, 12, 0]), (98, 2, .iload 6, []), (100, 1, .iaload, []), (101, 1, .iconst 1, []), (102, 3, .invokevirtual 187, [105, 6091]), (105, 3, .invokevirtual 211, [196, 6202]), (108, 1, .isub, []), (109, 2, .istore 7, []), (111, 2, .iload 7, []), (113, 3, .ifCond .ge 9, []), (116, 2, .iload 7, []), (118, 1, .ineg, []), (119, 3, .goto 5, []), (122, 2, .iload 7, []), (124, 2, .istore 7, []), (126, 2, .iload 4, []), (128, 1, .iconst (-1), []), (129, 3, .if_icmp .eq 13, []), (132, 2, .iload 7, []), (134, 2, .iload 5, []), (136, 3, .if_icmp .lt 6, []), (139, 3, .goto 16, []), (142, 1, .aload_n 0, []), (143, 3, .getfield 797, [75, 5208, 12, 0]), (146, 2, .iload 6, []), (148, 1, .iaload, []), (149, 2, .istore 4, []), (151, 2, .iload 7, []), (153, 2, .istore 5, []), (155, 3, .iinc 6 1, []), (158, 3, .goto (-93), []), (161, 1, .aload_n 0, []), (162, 1, .iload_n 2, []), (163, 1, .aload_n 0, []), (164, 2, .iload 4, []), (166, 1, .iconst 1, []), (167, 3, .invokevirtual 187, [105, 6091]), (170, 3, .invokevirtual 211, [196, 6202]), (173, 1, .aload_n 0, []), (174, 1, .iload_n 2, []), (175, 1, .aload_n 0, []), (176, 2, .iload 4, []), (178, 1, .iconst 0, []), (179, 3, .invokevirtual 187, [105, 6091]), (182, 3, .invokevirtual 211, [196, 6202]), (185, 3, .if_icmp .le 7, []), (188, 1, .iconst 1, []), (189, 3, .goto 4, []), (192, 1, .iconst 0, []), (193, 2, .istore 6, []), (195, 1, .iload_n 3, []), (196, 3, .ifCond .ne 8, []), (199, 2, .iload 4, []), (201, 3, .goto 49, []), (204, 1, .iload_n 3, []), (205, 1, .iconst 1, []), (206, 3, .if_icmp .ne 8, []), (209, 2, .iload 6, []), (211, 3, .goto 39, []), (214, 1, .iload_n 3, []), (215, 1, .iconst 2, []), (216, 3, .if_icmp .ne 19, []), (219, 1, .aload_n 0, []), (220, 1, .iload_n 2, []), (221, 1, .aload_n 0, []), (222, 2, .iload 4, []), (224, 2, .iload 6, []), (226, 3, .invokevirtual 187, [105, 6091]), (229, 3, .invokevirtual 211, [196, 6202]), (232, 3, .goto 18, []), (235, 1, .aload_n 0, []), (236, 1, .iload_n 1, []), (237, 1, .aload_n 0, []), (238, 2, .iload 4, []), (240, 1, .iconst 1, []), (241, 2, .iload 6, []), (243, 1, .isub, []), (244, 3, .invokevirtual 187, [105, 6091]), (247, 3, .invokevirtual 211, [196, 6202]), (250, 1, .ireturn, [])]
def sT238 : List sEt := [(0, 1, .aload_n 0, []), (1, 1, .iload_n 1, []), (2, 3, .invokevirtual 173, [181, 6177]), (5, 3, .ifCond .ne 9, []), (8, 1, .aload_n 0, []), (9, 1, .iconst (-1), []), (10, 3, .invokevirtual 169, [97, 6064]), (13, 1, .ireturn, []), (14, 1, .aload_n 0, []), (15, 1, .iload_n 1, []), (16, 1, .aload_n 0, []), (17, 1, .iload_n 1, []), (18, 3, .invokevirtual 213, [184, 6188]), (21, 3, .invokevirtual 211, [196, 6202]), (24, 1, .istore_n 2, []), (25, 1, .iconst 0, []), (26, 1, .istore_n 3, []), (27, 1, .iconst 0, []), (28, 2, .istore 4, []), (30, 2, .iload 4, []), (32, 1, .aload_n 0, []), (33, 3, .getfield 774, [84, 5185, 12, 0]), (36, 3, .if_icmp .ge 31, []), (39, 1, .aload_n 0, []), (40, 1, .iload_n 1, []), (41, 1, .aload_n 0, []), (42, 2, .iload 4, []), (44, 3, .invokevirtual 213, [184, 6188]), (47, 3, .invokevirtual 211, [196, 6202]), (50, 1, .iload_n 2, []), (51, 3, .if_icmp .le 10, []), (54, 1, .iload_n 3, []), (55, 1, .iconst 1, []), (56, 2, .iload 4, []), (58, 1, .ishl, []), (59, 1, .ior, []), (60, 1, .istore_n 3, []), (61, 3, .iinc 4 1, []), (64, 3, .goto (-34), []), (67, 1, .iload_n 3, []), (68, 1, .ireturn, [])]
def sT239 : List sEt := [(0, 1, .aload_n 0, []), (1, 1, .iload_n 1, []), (2, 3, .invokevirtual 173, [181, 6177]), (5, 3, .ifCond .ne 13, []), (8, 1, .aload_n 0, []), (9, 1, .iconst (-1), []), (10, 3, .invokevirtual 169, [97, 6064]), (13, 1, .pop, []), (14, 3, .ldc_w 4293967295, [258, 7089]), (17, 1, .ireturn, []), (18, 1, .aload_n 0, []), (19, 3, .getfield 779, [38, 5190, 12, 0]), (22, 1, .iload_n 1, []), (23, 1, .iaload, []), (24, 1, .aload_n 0, []), (25, 1, .iload_n 1, []), (26, 1, .aload_n 0, []), (27, 3, .invokevirtual 174, [89, 6198]), (30, 3, .invokevirtual 211, [196, 6202]), (33, 1, .imul, []), (34, 1, .aload_n 0, []), (35, 1, .iload_n 1, []), (36, 1, .aload_n 0, []), (37, 1, .iload_n 1, []), (38, 3, .invokevirtual 213, [184, 6188]), (41, 3, .invokevirtual 211, [196, 6202]), (44, 1, .aload_n 0, []), (45, 3, .invokevirtual 228, [226, 7050]), (48, 1, .imul, []), (49, 1, .isub, []), (50, 1, .aload_n 0, []), (51, 3, .invokevirtual 228, [226, 7050]), (54, 1, .idiv, []), (55, 1, .ireturn, [])]
def sT240 : List sEt := [(0, 1, .aload_n 0, []), (1, 3, .invokevirtual 220, [206, 7024]), (4, 1, .istore_n 1, []), (5, 1, .iconst (-1), []), (6, 1, .istore_n 2, []), (7, 1, .iload_n 1, []), (8, 1, .istore_n 3, []), (9, 1, .iconst 0, []), (10, 2, .istore 4, []), (12, 2, .iload 4, []), (14, 1, .aload_n 0, []), (15, 3, .getfield 768, [7, 5179, 12, 0]), (18, 1, .aload_n 0, []), (19, 3, .getfield 769, [13, 5180, 12, 0]), (22, 1, .imul, []), (23, 3, .if_icmp .ge 131, []), (26, 1, .aload_n 0, []), (27, 3, .getfield 778, [35, 5189, 12, 0]), (30, 2, .iload 4, []), (32, 1, .iaload, []), (33, 2, .istore 5, []), (35, 1, .aload_n 0, []), (36, 2, .iload 5, []), (38, 3, .invokevirtual 173, [181, 6177]), (41, 3, .ifCond .ne 6, []), (44, 3, .goto 104, []), (47, 1, .aload_n 0, []), (48, 1, .lconst 1, []), (49, 2, .iload 4, []), (51, 1, .lshl, []), (52, 3, .invokevirtual 222, [209, 7037]), (55, 2, .lstore 6, []), (57, 1, .iconst 0, []), (58, 2, .istore 8, []), (60, 2, .iload 8, []), (62, 1, .aload_n 0, []), (63, 3, .getfield 774, [84, 5185, 12, 0]), (66, 3, .if_icmp .ge 82, []), (69, 2, .iload 8, []), (71, 2, .iload 5, []), (73, 3, .if_icmp .eq 69, []), (76, 1, .aload_n 0, []), (77, 2, .iload 8, []), (79, 3, .invokevirtual 213, [184, 6188]), (82, 2, .lload 6, []), (84, 1, .land, []), (85, 1, .lconst 0, []), (86, 1, .lcmp, []), (87, 3, .ifCond .ne 6, []), (90, 3, .goto 52, []), (93, 1, .aload_n 0, []), (94, 3, .getfield 778, [35, 5189, 12, 0]), (97, 2, .iload 4, []), (99, 2, .iload 8, []), (101, 1, .iastore, []), (102, 1, .aload_n 0, []), (103, 3, .invokevirtual 220, [206, 7024]), (106, 2, .istore 9, []), (108, 2, .iload 9, []), (110, 1, .iload_n 3, []), (111, 3, .if_icmp .ge 22, []), (114, 1, .aload_n 0, []), (115, 3, .invokevirtual 227, [229, 7044]), (118, 3, .ifCond .ne 15, []), (121, 2, .iload 9, []), (123, 1, .istore_n 3, []), (124, 2, .bipush 10, []), (126, 2, .iload 4, []), (128, 1, .imul, []), (129, 2, .iload 8, []), (131, 1, .iadd, []), (132, 1, .istore_n 2, []), (133, 1, .aload_n 0, []), (134, 3, .getfield 778, [35, 5189, 12, 0]), (137, 2, .iload 4, []), (139, 2, .iload 5, []), (141, 1, .iastore, []), (142, 3, .iinc 8 1, []), (145, 3, .goto (-85), []), (148, 3, .iinc 4 1, []), (151, 3, .goto (-139), []), (154, 1, .iload_n 2, []), (155, 1, .ireturn, [])]
def sT241 : List sEt := [(0, 1, .aload_n 0, []), (1, 3, .invokevirtual 240, [259, 7094]), (4, 1, .istore_n 1, []), (5, 1, .iload_n 1, []), (6, 1, .iconst (-1), []), (7, 3, .if_icmp .ne 12, []), (10, 1, .aload_n 0, []), (11, 2, .bipush (-5), []), (13, 3, .invokevirtual 169, [97, 6064]), (16, 3, .goto 4, []), (19, 1, .iload_n 1, []), (20, 1, .ireturn, [])]
def sT242 : List sEt := [(0, 1, .iload_n 1, []), (1, 1, .iconst 1, []), (2, 3, .if_icmp .lt 9, []), (5, 1, .iload_n 1, []), (6, 2, .bipush 20, []), (8, 3, .if_icmp .le 10, []), (11, 1, .aload_n 0, []), (12, 2, .bipush (-6), []), (14, 3, .invokevirtual 169, [97, 6064]), (17, 1, .ireturn, []), (18, 1, .iconst 0, []), (19, 1, .istore_n 2, []), (20, 1, .iload_n 2, []), (21, 1, .iload_n 1, []), (22, 3, .if_icmp .ge 34, []), (25, 1, .aload_n 0, []), (26, 3, .invokevirtual 240, [259, 7094]), (29, 1, .istore_n 3, []), (30, 1, .iload_n 3, []), (31, 1, .iconst (-1), []), (32, 3, .if_icmp .ne 5, []), (35, 1, .iload_n 2, []), (36, 1, .ireturn, []), (37, 1, .aload_n 0, []), (38, 3, .getfield 778, [35, 5189, 12, 0]), (41, 1, .iload_n 3, []), (42, 2, .bipush 10, []), (44, 1, .idiv, []), (45, 1, .iload_n 3, []), (46, 2, .bipush 10, []), (48, 1, .irem, []), (49, 1, .iastore, []), (50, 3, .iinc 2 1, []), (53, 3, .goto (-33), []), (56, 1, .iload_n 1, []), (57, 1, .ireturn, [])]
def sT243 : List sEt := [(0, 1, .iconst 0, []), (1, 1, .istore_n 3, []), (2, 1, .iload_n 3, []), (3, 1, .aload_n 0, []), (4, 3, .getfield 768, [7, 5179, 12, 0]), (7, 1, .aload_n 0, []), (8, 3, .getfield 769, [13, 5180, 12, 0]), (11, 1, .imul, []), (12, 3, .if_icmp .ge 87, []), (15, 1, .iload_n 3, []), (16, 1, .aload_n 0, []), (17, 3, .getfield 784, [53, 5195, 12, 0]), (20, 1, .iload_n 2, []), (21, 1, .iaload, []), (22, 3, .if_icmp .ge 77, []), (25, 1, .aload_n 0, []), (26, 1, .iload_n 2, []), (27, 1, .iload_n 3, []), (28, 3, .invokevirtual 185, [203, 7013]), (31, 2, .istore 4, []), (33, 2, .iload 4, []), (35, 3, .ifCond .eq 12, []), (38, 2, .iload 4, []), (40, 1, .iconst 1, []), (41, 3, .if_icmp .eq 6, []), (44, 3, .goto 49, []), (47, 1, .iload_n 1, []), (48, 3, .sipush 1000, []), (51, 1, .idiv, []), (52, 1, .iconst 3, []), (53, 3, .if_icmp .ne 19, []), (56, 1, .iload_n 3, []), (57, 1, .aload_n 0, []), (58, 3, .getfield 768, [7, 5179, 12, 0]), (61, 1, .irem, []), (62, 1, .iload_n 1, []), (63, 2, .bipush 100, []), (65, 1, .idiv, []), (66, 2, .bipush 10, []), (68, 1, .irem, []), (69, 3, .if_icmp .eq 22, []), (72, 1, .aload_n 0, []), (73, 1, .iload_n 1, []), (74, 1, .iload_n 3, []), (75, 3, .invokevirtual 186, [101, 6094]), (78, 2, .iload 4, []), (80, 3, .ifCond .ne 7, []), (83, 1, .iconst 1, []), (84, 3, .goto 4, []), (87, 1, .iconst 0, []), (88, 3, .if_icmp .eq 5, []), (91, 1, .iconst 0, []), (92, 1, .ireturn, []), (93, 3, .iinc 3 1, []), (96, 3, .goto (-94), []), (99, 1, .iconst 1, []), (100, 1, .ireturn, [])]
def sT244 : List sEt := [(0, 1, .aload_n 0, []), (1, 1, .iload_n 1, []), (2, 3, .invokevirtual 171, [93, 6061]), (5, 3, .ifCond .eq 11, []), (8, 1, .aload_n 0, []), (9, 1, .iload_n 2, []), (10, 3, .invokevirtual 171, [93, 6061]), (13, 3, .ifCond .ne 9, []), (16, 1, .aload_n 0, []), (17, 1, .iconst (-1), []), (18, 3, .invokevirtual 169, [97, 6064]), (21, 1, .ireturn, []), (22, 1, .aload_n 0, []), (23, 3, .getfield 782, [47, 5193, 12, 0]), (26, 1, .iload_n 1, []), (27, 1, .iaload, []), (28, 1, .iconst 1, []), (29, 3, .if_icmp .eq 13, []), (32, 1, .aload_n 0, []), (33, 3, .getfield 782, [47, 5193, 12, 0]), (36, 1, .iload_n 2, []), (37, 1, .iaload, []), (38, 1, .iconst 2, []), (39, 3, .if_icmp .ne 10, []), (42, 1, .aload_n 0, []), (43, 2, .bipush (-2), []), (45, 3, .invokevirtual 169, [97, 6064]), (48, 1, .ireturn, []), (49, 1, .aload_n 0, []), (50, 3, .getfield 782, [47, 5193, 12, 0]), (53, 1, .iload_n 1, []), (54, 1, .iaload, []), (55, 3, .ifCond .eq 12, []), (58, 1, .aload_n 0, []), (59, 3, .getfield 782, [47, 5193, 12, 0]), (62, 1, .iload_n 2, []), (63, 1, .iaload, []), (64, 3, .ifCond .ne 10, []), (67, 1, .aload_n 0, []), (68, 2, .bipush (-3), []), (70, 3, .invokevirtual 169, [97, 6064]), (73, 1, .ireturn, []), (74, 1, .aload_n 0, []), (75, 1, .aload_n 0, []), (76, 3, .getfield 785, [56, 5196, 12, 0]), (79, 1, .iload_n 1, []), (80, 1, .iaload, []), (81, 1, .iload_n 2, []), (82, 3, .invokevirtual 243, [262, 7105]), (85, 3, .ifCond .eq 7, []), (88, 1, .iconst 1, []), (89, 3, .goto 4, []), (92, 1, .iconst 0, []), (93, 1, .ireturn, [])]
def sT245 : List sEt := [(0, 1, .aload_n 0, []), (1, 1, .iload_n 1, []), (2, 1, .iconst 1, []), (3, 3, .invokevirtual 184, [165, 6108]), (6, 1, .istore_n 2, []), (7, 1, .iconst 0, []), (8, 1, .istore_n 3, []), (9, 1, .iload_n 2, []), (10, 3, .ifCond .eq 9, []), (13, 1, .aload_n 0, []), (14, 1, .iload_n 2, []), (15, 3, .invokevirtual 169, [97, 6064]), (18, 1, .ireturn, []), (19, 1, .aload_n 0, []), (20, 2, .bipush 54, []), (22, 3, .invokevirtual 232, [252, 7064]), (25, 1, .iconst 0, []), (26, 2, .istore 4, []), (28, 2, .iload 4, []), (30, 1, .aload_n 0, []), (31, 3, .getfield 799, [232, 5210, 12, 0]), (34, 3, .if_icmp .ge 27, []), (37, 1, .aload_n 0, []), (38, 1, .aload_n 0, []), (39, 3, .getfield 797, [75, 5208, 12, 0]), (42, 2, .iload 4, []), (44, 1, .iaload, []), (45, 1, .iload_n 1, []), (46, 3, .invokevirtual 243, [262, 7105]), (49, 3, .ifCond .eq 6, []), (52, 3, .iinc 3 1, []), (55, 3, .iinc 4 1, []), (58, 3, .goto (-30), []), (61, 1, .iload_n 3, []), (62, 1, .ireturn, [])]
def sT246 : List sEt := [(0, 1, .aload_n 0, []), (1, 1, .iload_n 1, []), (2, 1, .iconst 1, []), (3, 3, .invokevirtual 184, [165, 6108]), (6, 1, .istore_n 3, []), (7, 1, .iload_n 3, []), (8, 3, .ifCond .eq 10, []), (11, 1, .aload_n 0, []), (12, 1, .iload_n 3, []), (13, 3, .invokevirtual 169, [97, 6064]), (16, 1, .i2l, []), (17, 1, .lreturn, []), (18, 1, .iload_n 2, []), (19, 3, .ifCond .lt 8, []), (22, 1, .iload_n 2, []), (23, 1, .iconst 1, []), (24, 3, .if_icmp .le 11, []), (27, 1, .aload_n 0, []), (28, 2, .bipush (-5), []), (30, 3, .invokevirtual 169, [97, 6064]), (33, 1, .i2l, []), (34, 1, .lreturn, []), (35, 1, .aload_n 0, []), (36, 2, .bipush 54, []), (38, 3, .invokevirtual 232, [252, 7064]), (41, 1, .aload_n 0, []), (42, 3, .invokevirtual 174, [89, 6198]), (45, 2, .lstore 4, []), (47, 1, .iconst 0, []), (48, 2, .istore 6, []), (50, 1, .iconst 0, []), (51, 2, .istore 7, []), (53, 2, .iload 7, []), (55, 1, .aload_n 0, []), (56, 3, .getfield 799, [232, 5210, 12, 0]), (59, 3, .if_icmp .ge 47, []), (62, 1, .aload_n 0, []), (63, 1, .aload_n 0, []), (64, 3, .getfield 797, [75, 5208, 12, 0]), (67, 2, .iload 7, []), (69, 1, .iaload, []), (70, 1, .iload_n 1, []), (71, 3, .invokevirtual 243, [262, 7105]), (74, 3, .ifCond .ne 6, []), (77, 3, .goto 23, []), (80, 1, .iconst 1, []), (81, 2, .istore 6, []), (83, 2, .lload 4, []), (85, 1, .aload_n 0, []), (86, 1, .aload_n 0, []), (87, 3, .getfield 797, [75, 5208, 12, 0]), (90, 2, .iload 7, []), (92, 1, .iaload, []), (93, 1, .iload_n 2, []), (94, 3, .invokevirtual 187, [105, 6091]), (97, 1, .land, []), (98, 2, .lstore 4, []), (100, 3, .iinc 7 1, []), (103, 3, .goto (-50), []), (106, 2, .iload 6, []), (108, 3, .ifCond .eq 8, []), (111, 2, .lload 4, []), (113, 3, .goto 4, []), (116, 1, .lconst 0, []), (117, 1, .lreturn, [])]
def sT247 : List sEt := [(0, 1, .aload_n 0, []), (1, 1, .iload_n 1, []), (2, 1, .iconst 1, []), (3, 3, .invokevirtual 184, [165, 6108]), (6, 1, .istore_n 2, []), (7, 1, .iload_n 2, []), (8, 3, .ifCond .eq 9, []), (11, 1, .aload_n 0, []), (12, 1, .iload_n 2, []), (13, 3, .invokevirtual 170, [178, 6166]), (16, 1, .ireturn, []), (17, 1, .iconst 0, []), (18, 1, .istore_n 3, []), (19, 1, .iload_n 3, []), (20, 1, .aload_n 0, []), (21, 3, .getfield 774, [84, 5185, 12, 0]), (24, 3, .if_icmp .ge 48, []), (27, 1, .iload_n 3, []), (28, 1, .aload_n 0, []), (29, 3, .getfield 784, [53, 5195, 12, 0]), (32, 1, .iload_n 1, []), (33, 1, .iaload, []), (34, 3, .if_icmp .ge 12, []), (37, 1, .aload_n 0, []), (38, 1, .iload_n 1, []), (39, 1, .iload_n 3, []), (40, 3, .invokevirtual 185, [203, 7013]), (43, 3, .goto 4, []), (46, 1, .iconst 0, []), (47, 2, .istore 4, []), (49, 2, .iload 4, []), (51, 1, .aload_n 0, []), (52, 1, .iload_n 3, []), (53, 1, .aload_n 0, []), (54, 1, .iload_n 3, []), (55, 3, .invokevirtual 213, [184, 6188]), (58, 3, .invokevirtual 211, [196, 6202]), (61, 3, .if_icmp .eq 5, []), (64, 1, .iload_n 3, []), (65, 1, .ireturn, []), (66, 3, .iinc 3 1, []), (69, 3, .goto (-50), []), (72, 1, .iconst (-1), []), (73, 1, .ireturn, [])]
def sT248 : List sEt := [(0, 1, .aload_n 0, []), (1, 3, .getfield 804, [265, 5215, 12, 0]), (4, 2, .bipush 20, []), (6, 3, .if_icmp .ge 13, []), (9, 1, .aload_n 0, []), (10, 3, .getfield 803, [81, 5214, 12, 0]), (13, 1, .aload_n 0, []), (14, 3, .getfield 804, [265, 5215, 12, 0]), (17, 1, .iload_n 1, []), (18, 1, .iastore, []), (19, 1, .aload_n 0, []), (20, 1, .dup, []), (21, 3, .getfield 804, [265, 5215, 12, 0]), (24, 1, .iconst 1, []), (25, 1, .iadd, []), (26, 3, .putfield 804, [265, 5215, 12, 0]), (29, 1, .return_, [])]
def sT249 : List sEt := [(0, 1, .aload_n 0, []), (1, 3, .getfield 785, [56, 5196, 12, 0]), (4, 1, .iload_n 1, []), (5, 1, .iaload, []), (6, 3, .sipush 1000, []), (9, 1, .idiv, []), (10, 1, .istore_n 3, []), (11, 1, .iload_n 3, []), (12, 1, .iconst 1, []), (13, 3, .if_icmp .eq 13, []), (16, 1, .iload_n 3, []), (17, 1, .iconst 4, []), (18, 3, .if_icmp .eq 8, []), (21, 1, .iload_n 3, []), (22, 1, .iconst 5, []), (23, 3, .if_icmp .ne 7, []), (26, 1, .iconst 1, []), (27, 3, .goto 4, []), (30, 1, .iconst 0, []), (31, 2, .istore 4, []), (33, 1, .iload_n 3, []), (34, 1, .iconst 4, []), (35, 3, .if_icmp .ne 9, []), (38, 1, .aload_n 0, []), (39, 2, .bipush 51, []), (41, 3, .invokevirtual 248, [268, 7127]), (44, 2, .iload 4, []), (46, 3, .ifCond .eq 9, []), (49, 1, .aload_n 0, []), (50, 2, .bipush 20, []), (52, 3, .invokevirtual 248, [268, 7127]), (55, 1, .iload_n 3, []), (56, 2, .bipush 6, []), (58, 3, .if_icmp .ne 9, []), (61, 1, .aload_n 0, []), (62, 2, .bipush 70, []), (64, 3, .invokevirtual 248, [268, 7127]), (67, 1, .aload_n 0, []), (68, 2, .bipush 10, []), (70, 3, .invokevirtual 248, [268, 7127]), (73, 1, .iload_n 2, []), (74, 1, .iload_n 1, []), (75, 1, .iadd, []), (76, 2, .istore 5, []), (78, 2, .iload 4, []), (80, 3, .ifCond .eq 20, []), (83, 2, .iload 5, []), (85, 1, .aload_n 0, []), (86, 3, .getfield 785, [56, 5196, 12, 0]), (89, 1, .iload_n 1, []), (90, 1, .iaload, []), (91, 2, .bipush 100, []), (93, 1, .idiv, []), (94, 2, .bipush 10, []), (96, 1, .irem, []), (97, 1, .iadd, []), (98, 2, .istore 5, []), (100, 1, .iload_n 3, []), (101, 1, .iconst 4, []), (102, 3, .if_icmp .ne 9, []), (105, 2, .iload 5, []), (107, 1, .ineg, []), (108, 3, .goto 18, []), (111, 1, .iload_n 3, []), (112, 2, .bipush 6, []), (114, 3, .if_icmp .ne 10, []), (117, 2, .iload 5, []), (119, 1, .iconst 2, []), (120, 1, .imul, []), (121, 3, .goto 5, []), (124, 2, .iload 5, []), (126, 1, .ireturn, [])]
def sT250 : List sEt := [(0, 1, .aload_n 0, []), (1, 3, .getfield 785, [56, 5196, 12, 0]), (4, 1, .iload_n 1, []), (5, 1, .iaload, []), (6, 3, .sipush 1000, []), (9, 1, .idiv, []), (10, 1, .istore_n 3, []), (11, 1, .iload_n 2, []), (12, 2, .istore 4, []), (14, 1, .iload_n 3, []), (15, 1, .iconst 4, []), (16, 3, .if_icmp .ne 14, []), (19, 1, .aload_n 0, []), (20, 2, .bipush 50, []), (22, 3, .invokevirtual 248, [268, 7127]), (25, 1, .iload_n 2, []), (26, 1, .iconst 1, []), (27, 1, .iadd, []), (28, 2, .istore 4, []), (30, 1, .iload_n 3, []), (31, 2, .bipush 6, []), (33, 3, .if_icmp .ne 25, []), (36, 1, .aload_n 0, []), (37, 2, .bipush 71, []), (39, 3, .invokevirtual 248, [268, 7127]), (42, 1, .iload_n 2, []), (43, 1, .aload_n 0, []), (44, 3, .getfield 785, [56, 5196, 12, 0]), (47, 1, .iload_n 1, []), (48, 1, .iaload, []), (49, 2, .bipush 100, []), (51, 1, .idiv, []), (52, 2, .bipush 10, []), (54, 1, .irem, []), (55, 1, .isub, []), (56, 2, .istore 4, []), (58, 1, .iload_n 3, []), (59, 1, .iconst 2, []), (60, 3, .if_icmp .eq 9, []), (63, 1, .iload_n 3, []), (64, 2, .bipush 6, []), (66, 3, .if_icmp .ne 9, []), (69, 1, .aload_n 0, []), (70, 2, .bipush 30, []), (72, 3, .invokevirtual 248, [268, 7127]), (75, 1, .aload_n 0, []), (76, 2, .bipush 11, []), (78, 3, .invokevirtual 248, [268, 7127]), (81, 1, .aload_n 0, []), (82, 1, .iload_n 1, []), (83, 2, .iload 4, []), (85, 3, .invokevirtual 249, [271, 7124]), (88, 1, .iconst 2, []), (89, 1, .imul, []), (90, 2, .istore 5, []), (92, 1, .iload_n 3, []), (93, 1, .iconst 2, []), (94, 3, .if_icmp .eq 9, []), (97, 1, .iload_n 3, []), (98, 2, .bipush 6, []), (100, 3, .if_icmp .ne 10, []), (103, 2, .iload 5, []), (105, 1, .iconst 3, []), (106, 1, .imul, []), (107, 3, .goto 5, []), (110, 2, .iload 5, []), (112, 1, .ireturn, [])]
def sT251 : List sEt := [(0, 1, .aload_n 0, []), (1, 3, .getfield 785, [56, 5196, 12, 0]), (4, 1, .iload_n 1, []), (5, 1, .iaload, []), (6, 3, .sipush 1000, []), (9, 1, .idiv, []), (10, 1, .istore_n 3, []), (11, 1, .iload_n 3, []), (12, 1, .iconst 3, []), (13, 3, .if_icmp .ne 9, []), (16, 1, .aload_n 0, []), (17, 2, .bipush 40, []), (19, 3, .invokevirtual 248, [268, 7127]), (22, 1, .iload_n 3, []), (23, 1, .iconst 5, []), (24, 3, .if_icmp .ne 9, []), (27, 1, .aload_n 0, []), (28, 2, .bipush 60, []), (30, 3, .invokevirtual 248, [268, 7127]), (33, 1, .aload_n 0, []), (34, 2, .bipush 12, []), (36, 3, .invokevirtual 248, [268, 7127]), (39, 1, .aload_n 0, []), (40, 1, .iload_n 1, []), (41, 1, .iload_n 2, []), (42, 3, .invokevirtual 250, [274, 7130]), (45, 2, .istore 4, []), (47, 2, .iload 4, []), (49, 1, .aload_n 0, []), (50, 1, .iload_n 1, []), (51, 1, .iload_n 2, []), (52, 1, .aload_n 0, []), (53, 3, .getfield 785, [56, 5196, 12, 0]), (56, 1, .iload_n 1, []), (57, 1, .iaload, []), (58, 2, .bipush 100, []), (60, 1, .idiv, []), (61, 2, .bipush 10, []), (63, 1, .irem, []), (64, 1, .isub, []), (65, 3, .invokevirtual 249, [271, 7124]), (68, 1, .ixor, []), (69, 2, .istore 4, []), (71, 1, .iload_n 3, []), (72, 1, .iconst 3, []), (73, 3, .if_icmp .ne 10, []), (76, 2, .iload 4, []), (78, 1, .iload_n 1, []), (79, 1, .isub, []), (80, 3, .goto 17, []), (83, 1, .iload_n 3, []), (84, 1, .iconst 5, []), (85, 3, .if_icmp .ne 10, []), (88, 2, .iload 4, []), (90, 1, .iconst 5, []), (91, 1, .ixor, []), (92, 3, .goto 5, []), (95, 2, .iload 4, []), (97, 1, .ireturn, [])]
def sT252 : List sEt := [(0, 1, .aload_n 0, []), (1, 1, .iconst 0, []), (2, 3, .putfield 804, [265, 5215, 12, 0]), (5, 1, .aload_n 0, []), (6, 1, .iload_n 1, []), (7, 3, .invokevirtual 171, [93, 6061]), (10, 3, .ifCond .eq 22, []), (13, 1, .aload_n 0, []), (14, 3, .getfield 782, [47, 5193, 12, 0]), (17, 1, .iload_n 1, []), (18, 1, .iaload, []), (19, 1, .iconst 2, []), (20, 3, .if_icmp .ne 12, []), (23, 1, .iload_n 2, []), (24, 3, .ifCond .lt 8, []), (27, 1, .iload_n 2, []), (28, 1, .iconst 2, []), (29, 3, .if_icmp .le 5, []), (32, 1, .iconst 0, []), (33, 1, .ireturn, []), (34, 1, .iload_n 2, []), (35, 3, .ifCond .ne 12, []), (38, 1, .aload_n 0, []), (39, 1, .iload_n 1, []), (40, 1, .iload_n 3, []), (41, 3, .invokevirtual 249, [271, 7124]), (44, 3, .goto 23, []), (47, 1, .iload_n 2, []), (48, 1, .iconst 1, []), (49, 3, .if_icmp .ne 12, []), (52, 1, .aload_n 0, []), (53, 1, .iload_n 1, []), (54, 1, .iload_n 3, []), (55, 3, .invokevirtual 250, [274, 7130]), (58, 3, .goto 9, []), (61, 1, .aload_n 0, []), (62, 1, .iload_n 1, []), (63, 1, .iload_n 3, []), (64, 3, .invokevirtual 251, [277, 7133]), (67, 1, .ireturn, [])]
def sT253 : List sEt := [(0, 1, .iload_n 1, []), (1, 3, .ifCond .lt 26, []), (4, 1, .iload_n 1, []), (5, 2, .bipush 20, []), (7, 3, .if_icmp .ge 20, []), (10, 1, .iload_n 1, []), (11, 1, .aload_n 0, []), (12, 3, .getfield 804, [265, 5215, 12, 0]), (15, 3, .if_icmp .ge 12, []), (18, 1, .aload_n 0, []), (19, 3, .getfield 803, [81, 5214, 12, 0]), (22, 1, .iload_n 1, []), (23, 1, .iaload, []), (24, 3, .goto 4, []), (27, 1, .iconst (-1), []), (28, 1, .ireturn, [])]
def sT254 : List sEt := [(0, 1, .aload_n 0, []), (1, 1, .iconst 1, []), (2, 3, .putfield 805, [280, 5216, 12, 0]), (5, 1, .aload_n 0, []), (6, 1, .aload_n 0, []), (7, 3, .getfield 795, [72, 5206, 12, 0]), (10, 1, .iconst 0, []), (11, 3, .invokevirtual 201, [169, 6111]), (14, 1, .aload_n 0, []), (15, 3, .getfield 774, [84, 5185, 12, 0]), (18, 1, .ireturn, [])]
def sT255 : List sEt := [(0, 1, .aload_n 0, []), (1, 3, .getfield 805, [280, 5216, 12, 0]), (4, 3, .ifCond .ne 10, []), (7, 1, .aload_n 0, []), (8, 2, .bipush (-6), []), (10, 3, .invokevirtual 169, [97, 6064]), (13, 1, .ireturn, []), (14, 1, .aload_n 0, []), (15, 1, .aload_n 0, []), (16, 3, .getfield 795, [72, 5206, 12, 0]), (19, 1, .iconst 1, []), (20, 3, .invokevirtual 201, [169, 6111]), (23, 1, .aload_n 0, []), (24, 3, .getfield 774, [84, 5185, 12, 0]), (27, 1, .ireturn, [])]
def sT256 : List sEt := [(0, 1, .iload_n 1, []), (1, 2, .bipush 11, []), (3, 3, .if_icmp .lt 19, []), (6, 1, .iload_n 1, []), (7, 2, .bipush 17, []), (9, 3, .if_icmp .gt 13, []), (12, 1, .aload_n 0, []), (13, 3, .getfield 776, [28, 5187, 12, 0]), (16, 1, .iload_n 1, []), (17, 2, .bipush 10, []), (19, 1, .isub, []), (20, 1, .iaload, []), (21, 1, .ireturn, []), (22, 1, .iconst 0, []), (23, 1, .istore_n 2, []), (24, 1, .iload_n 1, []), (25, 51, .tableswitch 135 0 8 #[51, 56, 61, 66, 71, 76, 81, 86, 130], []), (76, 1, .aload_n 0, []), (77, 3, .getfield 768, [7, 5179, 12, 0]), (80, 1, .ireturn, []), (81, 1, .aload_n 0, []), (82, 3, .getfield 769, [13, 5180, 12, 0]), (85, 1, .ireturn, []), (86, 1, .aload_n 0, []), (87, 3, .getfield 774, [84, 5185, 12, 0]), (90, 1, .ireturn, []), (91, 1, .aload_n 0, []), (92, 3, .getfield 770, [158, 5181, 12, 0]), (95, 1, .ireturn, []), (96, 1, .aload_n 0, []), (97, 3, .getfield 771, [16, 5182, 12, 0]), (100, 1, .ireturn, []), (101, 1, .aload_n 0, []), (102, 3, .getfield 772, [19, 5183, 12, 0]), (105, 1, .ireturn, []), (106, 1, .aload_n 0, []), (107, 3, .getfield 773, [22, 5184, 12, 0]), (110, 1, .ireturn, []), (111, 1, .iconst 0, []), (112, 1, .istore_n 3, []), (113, 1, .iload_n 3, []), (114, 1, .aload_n 0, []), (115, 3, .getfield 768, [7, 5179, 12, 0]), (118, 1, .aload_n 0, []), (119, 3, .getfield 769, [13, 5180, 12, 0]), (122, 1, .imul, []), (123, 3, .if_icmp .ge 30, []), (126, 1, .iload_n 2, []), (127, 1, .aload_n 0, []), (128, 1, .aload_n 0, []), (129, 3, .getfield 778, [35, 5189, 12, 0]), (132, 1, .iload_n 3, []), (133, 1, .iaload, []), (134, 3, .invokevirtual 173, [181, 6177]), (137, 3, .ifCond .eq 7, []), (140, 1, .iconst 1, []), (141, 3, .goto 4, []), (144, 1, .iconst 0, []), (145, 1, .iadd, []), (146, 1, .istore_n 2, []), (147, 3, .iinc 3 1, []), (150, 3, .goto (-37), []), (153, 1, .iload_n 2, []), (154, 1, .ireturn, []), (155, 1, .aload_n 0, []), (156, 3, .getfield 804, [265, 5215, 12, 0]), (159, 1, .ireturn, []), (160, 1, .iconst (-1), []), (161, 1, .ireturn, [])]
def sT257 : List sEt := [(0, 1, .lload_n 0, []), (1, 1, .lload_n 0, []), (2, 1, .iconst 1, []), (3, 1, .lushr, []), (4, 3, .ldc2_w 6148914691236517205, [314, 3080]), (7, 1, .land, []), (8, 1, .lsub, []), (9, 1, .lstore_n 0, []), (10, 1, .lload_n 0, []), (11, 3, .ldc2_w 3689348814741910323, [316, 3081]), (14, 1, .land, []), (15, 1, .lload_n 0, []), (16, 1, .iconst 2, []), (17, 1, .lushr, []), (18, 3, .ldc2_w 3689348814741910323, [316, 3081]), (21, 1, .land, []), (22, 1, .ladd, []), (23, 1, .lstore_n 0, []), (24, 1, .lload_n 0, []), (25, 1, .lload_n 0, []), (26, 1, .iconst 4, []), (27, 1, .lushr, []), (28, 1, .ladd, []), (29, 3, .ldc2_w 1085102592571150095, [318, 3082]), (32, 1, .land, []), (33, 1, .lstore_n 0, []), (34, 1, .lload_n 0, []), (35, 1, .lload_n 0, []), (36, 2, .bipush 8, []), (38, 1, .lushr, []), (39, 1, .ladd, []), (40, 1, .lstore_n 0, []), (41, 1, .lload_n 0, []), (42, 1, .lload_n 0, []), (43, 2, .bipush 16, []), (45, 1, .lushr, []), (46, 1, .ladd, []), (47, 1, .lstore_n 0, []), (48, 1, .lload_n 0, []), (49, 1, .lload_n 0, []), (50, 2, .bipush 32, []), (52, 1, .lushr, []), (53, 1, .ladd, []), (54, 1, .lstore_n 0, []), (55, 1, .lload_n 0, []), (56, 1, .l2i, []), (57, 2, .bipush 127, []), (59, 1, .iand, []), (60, 1, .ireturn, [])]
def sT258 : List sEt := [(0, 3, .new 11, [7, 1021, 1022, 1001]), (3, 1, .dup, []), (4, 3, .invokespecial 113, [9, 1023]), (7, 1, .astore_n 1, []), (8, 3, .new 12, [10, 5173, 5174, 1005]), (11, 1, .dup, []), (12, 3, .invokespecial 168, [12, 5175]), (15, 1, .astore_n 2, []), (16, 1, .iconst 0, []), (17, 1, .istore_n 3, []), (18, 1, .iload_n 3, []), (19, 1, .aload_n 0, []), (20, 1, .arraylength, []), (21, 2, .bipush 6, []), (23, 1, .isub, []), (24, 3, .if_icmp .gt 1547, []), (27, 1, .aload_n 0, []), (28, 1, .iload_n 3, []), (29, 1, .iaload, []), (30, 2, .bipush 63, []), (32, 1, .iand, []), (33, 187, .tableswitch 1532 0 42 #[187, 230, 303, 366, 399, 432, 455, 488, 521, 544, 557, 590, 623, 656, 679, 722, 771, 804, 867, 890, 953, 996, 1019, 1042, 1055, 1068, 1081, 1134, 1157, 1180, 1223, 1246, 1269, 1282, 1305, 1338, 1361, 1394, 1417, 1460, 1483, 1496, 1509], []), (220, 1, .aload_n 1, []), (221, 1, .aload_n 0, []), (222, 1, .iload_n 3, []), (223, 1, .iconst 1, []), (224, 1, .iadd, []), (225, 1, .iaload, []), (226, 1, .aload_n 0, []), (227, 1, .iload_n 3, []), (228, 1, .iconst 2, []), (229, 1, .iadd, []), (230, 1, .iaload, []), (231, 1, .aload_n 0, []), (232, 1, .iload_n 3, []), (233, 1, .iconst 3, []), (234, 1, .iadd, []), (235, 1, .iaload, []), (236, 3, .invokevirtual 114, [13, 1213]), (239, 1, .pop, []), (240, 1, .aload_n 2, []), (241, 1, .aload_n 0, []), (242, 1, .iload_n 3, []), (243, 1, .iconst 1, []), (244, 1, .iadd, []), (245, 1, .iaload, []), (246, 1, .aload_n 0, []), (247, 1, .iload_n 3, []), (248, 1, .iconst 2, []), (249, 1, .iadd, []), (250, 1, .iaload, []), (251, 1, .aload_n 0, []), (252, 1, .iload_n 3, []), (253, 1, .iconst 3, []), (254, 1, .iadd, []), (255, 1, .iaload, []), (256, 3, .invokevirtual 178, [17, 6057]), (259, 1, .pop, []), (260, 3, .goto 1305, []), (263, 1, .aload_n 1, []), (264, 1, .aload_n 0, []), (265, 1, .iload_n 3, []), (266, 1, .iconst 1, []), (267, 1, .iadd, []), (268, 1, .iaload, []), (269, 1, .aload_n 0, []), (270, 1, .iload_n 3, []), (271, 1, .iconst 2, []), (272, 1, .iadd, []), (273, 1, .iaload, []), (274, 1, .aload_n 0, []), (275, 1, .iload_n 3, []), (276, 1, .iconst 3, []), (277, 1, .iadd, []), (278, 1, .iaload, []), (279, 1, .i2l, []), (280, 2, .bipush 32, []), (282, 1, .lshl, []), (283, 1, .aload_n 0, []), (284, 1, .iload_n 3, []), (285, 1, .iconst 4, []), (286, 1, .iadd, []), (287, 1, .iaload, []), (288, 1, .i2l, []), (289, 3, .ldc2_w 4294967295, [18, 7152]), (292, 1, .land, []), (293, 1, .lor, []), (294, 3, .invokevirtual 115, [20, 2003]), (297, 1, .pop, []), (298, 1, .aload_n 2, []), (299, 1, .aload_n 0, []), (300, 1, .iload_n 3, []), (301, 1, .iconst 1, []), (302, 1, .iadd, []), (303, 1, .iaload, []), (304, 1, .aload_n 0, []), (305, 1, .iload_n 3, []), (306, 1, .iconst 2, []), (307, 1, .iadd, []), (308, 1, .iaload, []), (309, 1, .aload_n 0, []), (310, 1, .iload_n 3, []), (311, 1, .iconst 3, []), (312, 1, .iadd, []), (313, 1, .iaload, []), (314, 1, .i2l, []), (315, 2, .bipush 32, []), (317, 1, .lshl, []), (318, 1, .aload_n 0, []), (319, 1, .iload_n 3, []), (320, 1, .iconst 4, []), (321, 1, .iadd, []), (322, 1, .iaload, []), (323, 1, .i2l, []), (324, 3, .ldc2_w 4294967295, [18, 7152]), (327, 1, .land, []), (328, 1, .lor, []), (329, 3, .invokevirtual 179, [24, 6067]), (332, 1, .pop, []), (333, 3, .goto 1232, []), (336, 1, .aload_n 1, []), (337, 1, .aload_n 0, []), (338, 1, .iload_n 3, []), (339, 1, .iconst 1, []), (340, 1, .iadd, []), (341, 1, .iaload, []), (342, 1, .aload_n 0, []), (343, 1, .iload_n 3, []), (344, 1, .iconst 2, []), (345, 1, .iadd, []), (346, 1, .iaload, []), (347, 1, .aload_n 0, []), (348, 1, .iload_n 3, []), (349, 1, .iconst 3, []), (350, 1, .iadd, []), (351, 1, .iaload, []), (352, 1, .aload_n 0, []), (353, 1, .iload_n 3, []), (354, 1, .iconst 4, []), (355, 1, .iadd, []), (356, 1, .iaload, []), (357, 1, .aload_n 0, []), (358, 1, .iload_n 3, []), (359, 1, .iconst 5, []), (360, 1, .iadd, []), (361, 1, .iaload, []), (362, 3, .invokevirtual 116, [25, 2027]), (365, 1, .pop, []), (366, 1, .aload_n 2, []), (367, 1, .aload_n 0, []), (368, 1, .iload_n 3, []), (369, 1, .iconst 1, []), (370, 1, .iadd, []), (371, 1, .iaload, []), (372, 1, .aload_n 0, []), (373, 1, .iload_n 3, []), (374, 1, .iconst 2, []), (375, 1, .iadd, []), (376, 1, .iaload, []), (377, 1, .aload_n 0, []), (378, 1, .iload_n 3, []), (379, 1, .iconst 3, []), (380, 1, .iadd, []), (381, 1, .iaload, []), (382, 1, .aload_n 0, []), (383, 1, .iload_n 3, []), (384, 1, .iconst 4, []), (385, 1, .iadd, []), (386, 1, .iaload, []), (387, 1, .aload_n 0, []), (388, 1, .iload_n 3, []), (389, 1, .iconst 5, []), (390, 1, .iadd, []), (391, 1, .iaload, []), (392, 3, .invokevirtual 180, [29, 6071]), (395, 1, .pop, []), (396, 3, .goto 1169, []), (399, 1, .aload_n 1, []), (400, 1, .aload_n 0, []), (401, 1, .iload_n 3, []), (402, 1, .iconst 1, []), (403, 1, .iadd, []), (404, 1, .iaload, []), (405, 1, .aload_n 0, []), (406, 1, .iload_n 3, []), (407, 1, .iconst 2, []), (408, 1, .iadd, []), (409, 1, .iaload, []), (410, 3, .invokevirtual 117, [30, 2042]), (413, 1, .pop2, []), (414, 1, .aload_n 2, []), (415, 1, .aload_n 0, []), (416, 1, .iload_n 3, []), (417, 1, .iconst 1, []), (418, 1, .iadd, []), (419, 1, .iaload, []), (420, 1, .aload_n 0, []), (421, 1, .iload_n 3, []), (422, 1, .iconst 2, []), (423, 1, .iadd, []), (424, 1, .iaload, []), (425, 3, .invokevirtual 181, [34, 6075]), (428, 1, .pop2, []), (429, 3, .goto 1136, []), (432, 1, .aload_n 1, []), (433, 1, .aload_n 0, []), (434, 1, .iload_n 3, []), (435, 1, .iconst 1, []), (436, 1, .iadd, []), (437, 1, .iaload, []), (438, 1, .aload_n 0, []), (439, 1, .iload_n 3, []), (440, 1, .iconst 2, []), (441, 1, .iadd, []), (442, 1, .iaload, []), (443, 3, .invokevirtual 118, [35, 2050]), (446, 1, .pop, []), (447, 1, .aload_n 2, []), (448, 1, .aload_n 0, []), (449, 1, .iload_n 3, []), (450, 1, .iconst 1, []), (451, 1, .iadd, []), (452, 1, .iaload, []), (453, 1, .aload_n 0, []), (454, 1, .iload_n 3, []), (455, 1, .iconst 2, []), (456, 1, .iadd, []), (457, 1, .iaload, []), (458, 3, .invokevirtual 182, [39, 6079]), (461, 1, .pop, []), (462, 3, .goto 1103, []), (465, 1, .aload_n 1, []), (466, 1, .aload_n 0, []), (467, 1, .iload_n 3, []), (468, 1, .iconst 1, []), (469, 1, .iadd, []), (470, 1, .iaload, []), (471, 3, .invokevirtual 119, [40, 2205]), (474, 1, .pop, []), (475, 1, .aload_n 2, []), (476, 1, .aload_n 0, []), (477, 1, .iload_n 3, []), (478, 1, .iconst 1, []), (479, 1, .iadd, []), (480, 1, .iaload, []), (481, 3, .invokevirtual 183, [44, 6083]), (484, 1, .pop, []), (485, 3, .goto 1080, []), (488, 1, .aload_n 1, []), (489, 1, .aload_n 0, []), (490, 1, .iload_n 3, []), (491, 1, .iconst 1, []), (492, 1, .iadd, []), (493, 1, .iaload, []), (494, 1, .aload_n 0, []), (495, 1, .iload_n 3, []), (496, 1, .iconst 2, []), (497, 1, .iadd, []), (498, 1, .iaload, []), (499, 3, .invokevirtual 120, [45, 2209]), (502, 1, .pop, []), (503, 1, .aload_n 2, []), (504, 1, .aload_n 0, []), (505, 1, .iload_n 3, []), (506, 1, .iconst 1, []), (507, 1, .iadd, []), (508, 1, .iaload, []), (509, 1, .aload_n 0, []), (510, 1, .iload_n 3, []), (511, 1, .iconst 2, []), (512, 1, .iadd, []), (513, 1, .iaload, []), (514, 3, .invokevirtual 189, [48, 6097]), (517, 1, .pop, []), (518, 3, .goto 1047, []), (521, 1, .aload_n 1, []), (522, 1, .aload_n 0, []), (523, 1, .iload_n 3, []), (524, 1, .iconst 1, []), (525, 1, .iadd, []), (526, 1, .iaload, []), (527, 1, .aload_n 0, []), (528, 1, .iload_n 3, []), (529, 1, .iconst 2, []), (530, 1, .iadd, []), (531, 1, .iaload, []), (532, 3, .invokevirtual 121, [49, 3083]), (535, 1, .pop2, []), (536, 1, .aload_n 2, []), (537, 1, .aload_n 0, []), (538, 1, .iload_n 3, []), (539, 1, .iconst 1, []), (540, 1, .iadd, []), (541, 1, .iaload, []), (542, 1, .aload_n 0, []), (543, 1, .iload_n 3, []), (544, 1, .iconst 2, []), (545, 1, .iadd, []), (546, 1, .iaload, []), (547, 3, .invokevirtual 188, [52, 6087]), (550, 1, .pop2, []), (551, 3, .goto 1014, []), (554, 1, .aload_n 1, []), (555, 1, .aload_n 0, []), (556, 1, .iload_n 3, []), (557, 1, .iconst 1, []), (558, 1, .iadd, []), (559, 1, .iaload, []), (560, 3, .invokevirtual 122, [53, 3087]), (563, 1, .pop, []), (564, 1, .aload_n 2, []), (565, 1, .aload_n 0, []), (566, 1, .iload_n 3, []), (567, 1, .iconst 1, []), (568, 1, .iadd, []), (569, 1, .iaload, []), (570, 3, .invokevirtual 202, [56, 6104]), (573, 1, .pop, []), (574, 3, .goto 991, []), (577, 1, .aload_n 1, []), (578, 3, .invokevirtual 123, [57, 4015]), (581, 1, .pop, []), (582, 1, .aload_n 2, []), (583, 3, .invokevirtual 203, [61, 6147]), (586, 1, .pop, []), (587, 3, .goto 978, []), (590, 1, .aload_n 1, []), (591, 1, .aload_n 0, []), (592, 1, .iload_n 3, []), (593, 1, .iconst 1, []), (594, 1, .iadd, []), (595, 1, .iaload, []), (596, 1, .aload_n 0, []), (597, 1, .iload_n 3, []), (598, 1, .iconst 2, []), (599, 1, .iadd, []), (600, 1, .iaload, []), (601, 3, .invokevirtual 124, [62, 4019]), (604, 1, .pop, []), (605, 1, .aload_n 2, []), (606, 1, .aload_n 0, []), (607, 1, .iload_n 3, []), (608, 1, .iconst 1, []), (609, 1, .iadd, []), (610, 1, .iaload, []), (611, 1, .aload_n 0, []), (612, 1, .iload_n 3, []), (613, 1, .iconst 2, []), (614, 1, .iadd, []), (615, 1, .iaload, []), (616, 3, .invokevirtual 204, [65, 6151]), (619, 1, .pop, []), (620, 3, .goto 945, []), (623, 1, .aload_n 1, []), (624, 1, .aload_n 0, []), (625, 1, .iload_n 3, []), (626, 1, .iconst 1, []), (627, 1, .iadd, []), (628, 1, .iaload, []), (629, 1, .aload_n 0, []), (630, 1, .iload_n 3, []), (631, 1, .iconst 2, []), (632, 1, .iadd, []), (633, 1, .iaload, []), (634, 3, .invokevirtual 125, [66, 4024]), (637, 1, .pop, []), (638, 1, .aload_n 2, []), (639, 1, .aload_n 0, []), (640, 1, .iload_n 3, []), (641, 1, .iconst 1, []), (642, 1, .iadd, []), (643, 1, .iaload, []), (644, 1, .aload_n 0, []), (645, 1, .iload_n 3, []), (646, 1, .iconst 2, []), (647, 1, .iadd, []), (648, 1, .iaload, []), (649, 3, .invokevirtual 205, [69, 6155]), (652, 1, .pop, []), (653, 3, .goto 912, []), (656, 1, .aload_n 1, []), (657, 1, .aload_n 0, []), (658, 1, .iload_n 3, []), (659, 1, .iconst 1, []), (660, 1, .iadd, []), (661, 1, .iaload, []), (662, 1, .aload_n 0, []), (663, 1, .iload_n 3, []), (664, 1, .iconst 2, []), (665, 1, .iadd, []), (666, 1, .iaload, []), (667, 3, .invokevirtual 126, [70, 4043]), (670, 1, .pop, []), (671, 1, .aload_n 2, []), (672, 1, .aload_n 0, []), (673, 1, .iload_n 3, []), (674, 1, .iconst 1, []), (675, 1, .iadd, []), (676, 1, .iaload, []), (677, 1, .aload_n 0, []), (678, 1, .iload_n 3, []), (679, 1, .iconst 2, []), (680, 1, .iadd, []), (681, 1, .iaload, []), (682, 3, .invokevirtual 206, [73, 6162]), (685, 1, .pop, []), (686, 3, .goto 879, []), (689, 1, .aload_n 1, []), (690, 1, .aload_n 0, []), (691, 1, .iload_n 3, []), (692, 1, .iconst 1, []), (693, 1, .iadd, []), (694, 1, .iaload, []), (695, 3, .invokevirtual 127, [74, 4055]), (698, 1, .pop, []), (699, 1, .aload_n 2, []), (700, 1, .aload_n 0, []), (701, 1, .iload_n 3, []), (702, 1, .iconst 1, []), (703, 1, .iadd, []), (704, 1, .iaload, []), (705, 3, .invokevirtual 207, [77, 6169]), (708, 1, .pop, []), (709, 3, .goto 856, []), (712, 1, .aload_n 1, []), (713, 1, .aload_n 0, []), (714, 1, .iload_n 3, []), (715, 1, .iconst 1, []), (716, 1, .iadd, []), (717, 1, .iaload, []), (718, 1, .aload_n 0, []), (719, 1, .iload_n 3, []), (720, 1, .iconst 2, []), (721, 1, .iadd, []), (722, 1, .iaload, []), (723, 1, .aload_n 0, []), (724, 1, .iload_n 3, []), (725, 1, .iconst 3, []), (726, 1, .iadd, []), (727, 1, .iaload, []), (728, 3, .invokevirtual 128, [78, 4060]), (731, 1, .pop, []), (732, 1, .aload_n 2, []), (733, 1, .aload_n 0, []), (734, 1, .iload_n 3, []), (735, 1, .iconst 1, []), (736, 1, .iadd, []), (737, 1, .iaload, []), (738, 1, .aload_n 0, []), (739, 1, .iload_n 3, []), (740, 1, .iconst 2, []), (741, 1, .iadd, []), (742, 1, .iaload, []), (743, 1, .aload_n 0, []), (744, 1, .iload_n 3, []), (745, 1, .iconst 3, []), (746, 1, .iadd, []), (747, 1, .iaload, []), (748, 3, .invokevirtual 208, [81, 6173]), (751, 1, .pop, []), (752, 3, .goto 813, []), (755, 1, .aload_n 1, []), (756, 1, .aload_n 0, []), (757, 1, .iload_n 3, []), (758, 1, .iconst 1, []), (759, 1, .iadd, []), (760, 1, .iaload, []), (761, 1, .aload_n 0, []), (762, 1, .iload_n 3, []), (763, 1, .iconst 2, []), (764, 1, .iadd, []), (765, 1, .iaload, []), (766, 3, .ifCond .eq 7, []), (769, 1, .iconst 1, []), (770, 3, .goto 4, []), (773, 1, .iconst 0, []), (774, 3, .invokevirtual 129, [82, 4065]), (777, 1, .pop, []), (778, 1, .aload_n 2, []), (779, 1, .aload_n 0, []), (780, 1, .iload_n 3, []), (781, 1, .iconst 1, []), (782, 1, .iadd, []), (783, 1, .iaload, []), (784, 1, .aload_n 0, []), (785, 1, .iload_n 3, []), (786, 1, .iconst 2, []), (787, 1, .iadd, []), (788, 1, .iaload, []), (789, 3, .ifCond .eq 7, []), (792, 1, .iconst 1, []), (793, 3, .goto 4, []), (796, 1, .iconst 0, []), (797, 3, .invokevirtual 209, [86, 6180]), (800, 1, .pop, []), (801, 3, .goto 764, []), (804, 1, .aload_n 1, []), (805, 1, .aload_n 0, []), (806, 1, .iload_n 3, []), (807, 1, .iconst 1, []), (808, 1, .iadd, []), (809, 1, .iaload, []), (810, 1, .aload_n 0, []), (811, 1, .iload_n 3, []), (812, 1, .iconst 2, []), (813, 1, .iadd, []), (814, 1, .iaload, []), (815, 3, .invokevirtual 130, [87, 4069]), (818, 1, .pop, []), (819, 1, .aload_n 2, []), (820, 1, .aload_n 0, []), (821, 1, .iload_n 3, []), (822, 1, .iconst 1, []), (823, 1, .iadd, []), (824, 1, .iaload, []), (825, 1, .aload_n 0, []), (826, 1, .iload_n 3, []), (827, 1, .iconst 2, []), (828, 1, .iadd, []), (829, 1, .iaload, []), (830, 3, .invokevirtual 210, [90, 6184]), (833, 1, .pop, []), (834, 3, .goto 731, []), (837, 1, .aload_n 1, []), (838, 1, .aload_n 0, []), (839, 1, .iload_n 3, []), (840, 1, .iconst 1, []), (841, 1, .iadd, []), (842, 1, .iaload, []), (843, 1, .aload_n 0, []), (844, 1, .iload_n 3, []), (845, 1, .iconst 2, []), (846, 1, .iadd, []), (847, 1, .iaload, []), (848, 1, .i2l, []), (849, 2, .bipush 32, []), (851, 1, .lshl, []), (852, 1, .aload_n 0, []), (853, 1, .iload_n 3, []), (854, 1, .iconst 3, []), (855, 1, .iadd, []), (856, 1, .iaload, []), (857, 1, .i2l, []), (858, 3, .ldc2_w 4294967295, [18, 7152]), (861, 1, .land, []), (862, 1, .lor, []), (863, 3, .invokevirtual 131, [91, 4073]), (866, 1, .pop, []), (867, 1, .aload_n 2, []), (868, 1, .aload_n 0, []), (869, 1, .iload_n 3, []), (870, 1, .iconst 1, []), (871, 1, .iadd, []), (872, 1, .iaload, []), (873, 1, .aload_n 0, []), (874, 1, .iload_n 3, []), (875, 1, .iconst 2, []), (876, 1, .iadd, []), (877, 1, .iaload, []), (878, 1, .i2l, []), (879, 2, .bipush 32, []), (881, 1, .lshl, []), (882, 1, .aload_n 0, []), (883, 1, .iload_n 3, []), (884, 1, .iconst 3, []), (885, 1, .iadd, []), (886, 1, .iaload, []), (887, 1, .i2l, []), (888, 3, .ldc2_w 4294967295, [18, 7152]), (891, 1, .land, []), (892, 1, .lor, []), (893, 3, .invokevirtual 212, [95, 6191]), (896, 1, .pop, []), (897, 3, .goto 668, []), (900, 1, .aload_n 1, []), (901, 1, .aload_n 0, []), (902, 1, .iload_n 3, []), (903, 1, .iconst 1, []), (904, 1, .iadd, []), (905, 1, .iaload, []), (906, 3, .invokevirtual 132, [96, 4087]), (909, 1, .pop, []), (910, 1, .aload_n 2, []), (911, 1, .aload_n 0, []), (912, 1, .iload_n 3, []), (913, 1, .iconst 1, []), (914, 1, .iadd, []), (915, 1, .iaload, []), (916, 3, .invokevirtual 215, [99, 6208]), (919, 1, .pop, []), (920, 3, .goto 645, []), (923, 1, .aload_n 1, []), (924, 1, .aload_n 0, []), (925, 1, .iload_n 3, []), (926, 1, .iconst 1, []), (927, 1, .iadd, []), (928, 1, .iaload, []), (929, 1, .i2l, []), (930, 2, .bipush 32, []), (932, 1, .lshl, []), (933, 1, .aload_n 0, []), (934, 1, .iload_n 3, []), (935, 1, .iconst 2, []), (936, 1, .iadd, []), (937, 1, .iaload, []), (938, 1, .i2l, []), (939, 3, .ldc2_w 4294967295, [18, 7152]), (942, 1, .land, []), (943, 1, .lor, []), (944, 1, .aload_n 0, []), (945, 1, .iload_n 3, []), (946, 1, .iconst 3, []), (947, 1, .iadd, []), (948, 1, .iaload, []), (949, 3, .invokevirtual 133, [100, 4095]), (952, 1, .pop, []), (953, 1, .aload_n 2, []), (954, 1, .aload_n 0, []), (955, 1, .iload_n 3, []), (956, 1, .iconst 1, []), (957, 1, .iadd, []), (958, 1, .iaload, []), (959, 1, .i2l, []), (960, 2, .bipush 32, []), (962, 1, .lshl, []), (963, 1, .aload_n 0, []), (964, 1, .iload_n 3, []), (965, 1, .iconst 2, []), (966, 1, .iadd, []), (967, 1, .iaload, []), (968, 1, .i2l, []), (969, 3, .ldc2_w 4294967295, [18, 7152]), (972, 1, .land, []), (973, 1, .lor, []), (974, 1, .aload_n 0, []), (975, 1, .iload_n 3, []), (976, 1, .iconst 3, []), (977, 1, .iadd, []), (978, 1, .iaload, []), (979, 3, .invokevirtual 216, [104, 6212]), (982, 1, .pop, []), (983, 3, .goto 582, []), (986, 1, .aload_n 1, []), (987, 1, .aload_n 0, []), (988, 1, .iload_n 3, []), (989, 1, .iconst 1, []), (990, 1, .iadd, []), (991, 1, .iaload, []), (992, 1, .aload_n 0, []), (993, 1, .iload_n 3, []), (994, 1, .iconst 2, []), (995, 1, .iadd, []), (996, 1, .iaload, []), (997, 1, .aload_n 0, []), (998, 1, .iload_n 3, []), (999, 1, .iconst 3, []), (1000, 1, .iadd, []), (1001, 1, .iaload, []), (1002, 3, .invokevirtual 134, [105, 4104]), (1005, 1, .pop, []), (1006, 1, .aload_n 2, []), (1007, 1, .aload_n 0, []), (1008, 1, .iload_n 3, []), (1009, 1, .iconst 1, []), (1010, 1, .iadd, []), (1011, 1, .iaload, []), (1012, 1, .aload_n 0, []), (1013, 1, .iload_n 3, []), (1014, 1, .iconst 2, []), (1015, 1, .iadd, []), (1016, 1, .iaload, []), (1017, 1, .aload_n 0, []), (1018, 1, .iload_n 3, []), (1019, 1, .iconst 3, []), (1020, 1, .iadd, []), (1021, 1, .iaload, []), (1022, 3, .invokevirtual 217, [108, 7005]), (1025, 1, .pop, []), (1026, 3, .goto 539, []), (1029, 1, .aload_n 1, []), (1030, 1, .aload_n 0, []), (1031, 1, .iload_n 3, []), (1032, 1, .iconst 1, []), (1033, 1, .iadd, []), (1034, 1, .iaload, []), (1035, 3, .invokevirtual 135, [109, 4113]), (1038, 1, .pop, []), (1039, 1, .aload_n 2, []), (1040, 1, .aload_n 0, []), (1041, 1, .iload_n 3, []), (1042, 1, .iconst 1, []), (1043, 1, .iadd, []), (1044, 1, .iaload, []), (1045, 3, .invokevirtual 218, [112, 7009]), (1048, 1, .pop, []), (1049, 3, .goto 516, []), (1052, 1, .aload_n 1, []), (1053, 1, .aload_n 0, []), (1054, 1, .iload_n 3, []), (1055, 1, .iconst 1, []), (1056, 1, .iadd, []), (1057, 1, .iaload, []), (1058, 3, .invokevirtual 136, [113, 4123]), (1061, 1, .pop2, []), (1062, 1, .aload_n 2, []), (1063, 1, .aload_n 0, []), (1064, 1, .iload_n 3, []), (1065, 1, .iconst 1, []), (1066, 1, .iadd, []), (1067, 1, .iaload, []), (1068, 3, .invokevirtual 219, [117, 7016]), (1071, 1, .pop2, []), (1072, 3, .goto 493, []), (1075, 1, .aload_n 1, []), (1076, 3, .invokevirtual 137, [118, 4127]), (1079, 1, .pop, []), (1080, 1, .aload_n 2, []), (1081, 3, .invokevirtual 221, [121, 7020]), (1084, 1, .pop, []), (1085, 3, .goto 480, []), (1088, 1, .aload_n 1, []), (1089, 3, .invokevirtual 138, [122, 4135]), (1092, 1, .pop, []), (1093, 1, .aload_n 2, []), (1094, 3, .invokevirtual 229, [125, 7040]), (1097, 1, .pop, []), (1098, 3, .goto 467, []), (1101, 1, .aload_n 1, []), (1102, 3, .invokevirtual 139, [126, 4176]), (1105, 1, .pop, []), (1106, 1, .aload_n 2, []), (1107, 3, .invokevirtual 230, [129, 7053]), (1110, 1, .pop, []), (1111, 3, .goto 454, []), (1114, 1, .aload_n 1, []), (1115, 1, .aload_n 0, []), (1116, 1, .iload_n 3, []), (1117, 1, .iconst 1, []), (1118, 1, .iadd, []), (1119, 1, .iaload, []), (1120, 1, .i2l, []), (1121, 2, .bipush 32, []), (1123, 1, .lshl, []), (1124, 1, .aload_n 0, []), (1125, 1, .iload_n 3, []), (1126, 1, .iconst 2, []), (1127, 1, .iadd, []), (1128, 1, .iaload, []), (1129, 1, .i2l, []), (1130, 3, .ldc2_w 4294967295, [18, 7152]), (1133, 1, .land, []), (1134, 1, .lor, []), (1135, 3, .invokevirtual 140, [130, 4180]), (1138, 1, .pop, []), (1139, 1, .aload_n 2, []), (1140, 1, .aload_n 0, []), (1141, 1, .iload_n 3, []), (1142, 1, .iconst 1, []), (1143, 1, .iadd, []), (1144, 1, .iaload, []), (1145, 1, .i2l, []), (1146, 2, .bipush 32, []), (1148, 1, .lshl, []), (1149, 1, .aload_n 0, []), (1150, 1, .iload_n 3, []), (1151, 1, .iconst 2, []), (1152, 1, .iadd, []), (1153, 1, .iaload, []), (1154, 1, .i2l, []), (1155, 3, .ldc2_w 4294967295, [18, 7152]), (1158, 1, .land, []), (1159, 1, .lor, []), (1160, 3, .invokevirtual 225, [134, 7027]), (1163, 1, .pop, []), (1164, 3, .goto 401, []), (1167, 1, .aload_n 1, []), (1168, 1, .aload_n 0, []), (1169, 1, .iload_n 3, []), (1170, 1, .iconst 1, []), (1171, 1, .iadd, []), (1172, 1, .iaload, []), (1173, 3, .invokevirtual 141, [135, 4188]), (1176, 1, .pop, []), (1177, 1, .aload_n 2, []), (1178, 1, .aload_n 0, []), (1179, 1, .iload_n 3, []), (1180, 1, .iconst 1, []), (1181, 1, .iadd, []), (1182, 1, .iaload, []), (1183, 3, .invokevirtual 235, [138, 7057]), (1186, 1, .pop, []), (1187, 3, .goto 378, []), (1190, 1, .aload_n 1, []), (1191, 1, .aload_n 0, []), (1192, 1, .iload_n 3, []), (1193, 1, .iconst 1, []), (1194, 1, .iadd, []), (1195, 1, .iaload, []), (1196, 3, .invokevirtual 142, [139, 4232]), (1199, 1, .pop, []), (1200, 1, .aload_n 2, []), (1201, 1, .aload_n 0, []), (1202, 1, .iload_n 3, []), (1203, 1, .iconst 1, []), (1204, 1, .iadd, []), (1205, 1, .iaload, []), (1206, 3, .invokevirtual 236, [142, 7073]), (1209, 1, .pop, []), (1210, 3, .goto 355, []), (1213, 1, .aload_n 1, []), (1214, 1, .aload_n 0, []), (1215, 1, .iload_n 3, []), (1216, 1, .iconst 1, []), (1217, 1, .iadd, []), (1218, 1, .iaload, []), (1219, 1, .aload_n 0, []), (1220, 1, .iload_n 3, []), (1221, 1, .iconst 2, []), (1222, 1, .iadd, []), (1223, 1, .iaload, []), (1224, 1, .aload_n 0, []), (1225, 1, .iload_n 3, []), (1226, 1, .iconst 3, []), (1227, 1, .iadd, []), (1228, 1, .iaload, []), (1229, 3, .invokevirtual 143, [143, 5005]), (1232, 1, .pop, []), (1233, 1, .aload_n 2, []), (1234, 1, .aload_n 0, []), (1235, 1, .iload_n 3, []), (1236, 1, .iconst 1, []), (1237, 1, .iadd, []), (1238, 1, .iaload, []), (1239, 1, .aload_n 0, []), (1240, 1, .iload_n 3, []), (1241, 1, .iconst 2, []), (1242, 1, .iadd, []), (1243, 1, .iaload, []), (1244, 1, .aload_n 0, []), (1245, 1, .iload_n 3, []), (1246, 1, .iconst 3, []), (1247, 1, .iadd, []), (1248, 1, .iaload, []), (1249, 3, .invokevirtual 237, [146, 7077]), (1252, 1, .pop, []), (1253, 3, .goto 312, []), (1256, 1, .aload_n 1, []), (1257, 1, .aload_n 0, []), (1258, 1, .iload_n 3, []), (1259, 1, .iconst 1, []), (1260, 1, .iadd, []), (1261, 1, .iaload, []), (1262, 3, .invokevirtual 144, [147, 5018]), (1265, 1, .pop, []), (1266, 1, .aload_n 2, []), (1267, 1, .aload_n 0, []), (1268, 1, .iload_n 3, []), (1269, 1, .iconst 1, []), (1270, 1, .iadd, []), (1271, 1, .iaload, []), (1272, 3, .invokevirtual 238, [150, 7081]), (1275, 1, .pop, []), (1276, 3, .goto 289, []), (1279, 1, .aload_n 1, []), (1280, 1, .aload_n 0, []), (1281, 1, .iload_n 3, []), (1282, 1, .iconst 1, []), (1283, 1, .iadd, []), (1284, 1, .iaload, []), (1285, 3, .invokevirtual 145, [151, 5022]), (1288, 1, .pop, []), (1289, 1, .aload_n 2, []), (1290, 1, .aload_n 0, []), (1291, 1, .iload_n 3, []), (1292, 1, .iconst 1, []), (1293, 1, .iadd, []), (1294, 1, .iaload, []), (1295, 3, .invokevirtual 239, [154, 7085]), (1298, 1, .pop, []), (1299, 3, .goto 266, []), (1302, 1, .aload_n 1, []), (1303, 3, .invokevirtual 146, [155, 5029]), (1306, 1, .pop, []), (1307, 1, .aload_n 2, []), (1308, 3, .invokevirtual 241, [158, 7090]), (1311, 1, .pop, []), (1312, 3, .goto 253, []), (1315, 1, .aload_n 1, []), (1316, 1, .aload_n 0, []), (1317, 1, .iload_n 3, []), (1318, 1, .iconst 1, []), (1319, 1, .iadd, []), (1320, 1, .iaload, []), (1321, 3, .invokevirtual 147, [159, 5050]), (1324, 1, .pop, []), (1325, 1, .aload_n 2, []), (1326, 1, .aload_n 0, []), (1327, 1, .iload_n 3, []), (1328, 1, .iconst 1, []), (1329, 1, .iadd, []), (1330, 1, .iaload, []), (1331, 3, .invokevirtual 242, [162, 7097]), (1334, 1, .pop, []), (1335, 3, .goto 230, []), (1338, 1, .aload_n 1, []), (1339, 1, .aload_n 0, []), (1340, 1, .iload_n 3, []), (1341, 1, .iconst 1, []), (1342, 1, .iadd, []), (1343, 1, .iaload, []), (1344, 1, .aload_n 0, []), (1345, 1, .iload_n 3, []), (1346, 1, .iconst 2, []), (1347, 1, .iadd, []), (1348, 1, .iaload, []), (1349, 3, .invokevirtual 148, [163, 5054]), (1352, 1, .pop, []), (1353, 1, .aload_n 2, []), (1354, 1, .aload_n 0, []), (1355, 1, .iload_n 3, []), (1356, 1, .iconst 1, []), (1357, 1, .iadd, []), (1358, 1, .iaload, []), (1359, 1, .aload_n 0, []), (1360, 1, .iload_n 3, []), (1361, 1, .iconst 2, []), (1362, 1, .iadd, []), (1363, 1, .iaload, []), (1364, 3, .invokevirtual 244, [166, 7101]), (1367, 1, .pop, []), (1368, 3, .goto 197, []), (1371, 1, .aload_n 1, []), (1372, 1, .aload_n 0, []), (1373, 1, .iload_n 3, []), (1374, 1, .iconst 1, []), (1375, 1, .iadd, []), (1376, 1, .iaload, []), (1377, 3, .invokevirtual 149, [167, 5064]), (1380, 1, .pop, []), (1381, 1, .aload_n 2, []), (1382, 1, .aload_n 0, []), (1383, 1, .iload_n 3, []), (1384, 1, .iconst 1, []), (1385, 1, .iadd, []), (1386, 1, .iaload, []), (1387, 3, .invokevirtual 245, [170, 7108]), (1390, 1, .pop, []), (1391, 3, .goto 174, []), (1394, 1, .aload_n 1, []), (1395, 1, .aload_n 0, []), (1396, 1, .iload_n 3, []), (1397, 1, .iconst 1, []), (1398, 1, .iadd, []), (1399, 1, .iaload, []), (1400, 1, .aload_n 0, []), (1401, 1, .iload_n 3, []), (1402, 1, .iconst 2, []), (1403, 1, .iadd, []), (1404, 1, .iaload, []), (1405, 3, .invokevirtual 150, [171, 5073]), (1408, 1, .pop2, []), (1409, 1, .aload_n 2, []), (1410, 1, .aload_n 0, []), (1411, 1, .iload_n 3, []), (1412, 1, .iconst 1, []), (1413, 1, .iadd, []), (1414, 1, .iaload, []), (1415, 1, .aload_n 0, []), (1416, 1, .iload_n 3, []), (1417, 1, .iconst 2, []), (1418, 1, .iadd, []), (1419, 1, .iaload, []), (1420, 3, .invokevirtual 246, [174, 7112]), (1423, 1, .pop2, []), (1424, 3, .goto 141, []), (1427, 1, .aload_n 1, []), (1428, 1, .aload_n 0, []), (1429, 1, .iload_n 3, []), (1430, 1, .iconst 1, []), (1431, 1, .iadd, []), (1432, 1, .iaload, []), (1433, 3, .invokevirtual 151, [175, 5077]), (1436, 1, .pop, []), (1437, 1, .aload_n 2, []), (1438, 1, .aload_n 0, []), (1439, 1, .iload_n 3, []), (1440, 1, .iconst 1, []), (1441, 1, .iadd, []), (1442, 1, .iaload, []), (1443, 3, .invokevirtual 247, [178, 7116]), (1446, 1, .pop, []), (1447, 3, .goto 118, []), (1450, 1, .aload_n 1, []), (1451, 1, .aload_n 0, []), (1452, 1, .iload_n 3, []), (1453, 1, .iconst 1, []), (1454, 1, .iadd, []), (1455, 1, .iaload, []), (1456, 1, .aload_n 0, []), (1457, 1, .iload_n 3, []), (1458, 1, .iconst 2, []), (1459, 1, .iadd, []), (1460, 1, .iaload, []), (1461, 1, .aload_n 0, []), (1462, 1, .iload_n 3, []), (1463, 1, .iconst 3, []), (1464, 1, .iadd, []), (1465, 1, .iaload, []), (1466, 3, .invokevirtual 152, [179, 5081]), (1469, 1, .pop, []), (1470, 1, .aload_n 2, []), (1471, 1, .aload_n 0, []), (1472, 1, .iload_n 3, []), (1473, 1, .iconst 1, []), (1474, 1, .iadd, []), (1475, 1, .iaload, []), (1476, 1, .aload_n 0, []), (1477, 1, .iload_n 3, []), (1478, 1, .iconst 2, []), (1479, 1, .iadd, []), (1480, 1, .iaload, []), (1481, 1, .aload_n 0, []), (1482, 1, .iload_n 3, []), (1483, 1, .iconst 3, []), (1484, 1, .iadd, []), (1485, 1, .iaload, []), (1486, 3, .invokevirtual 252, [182, 7120]), (1489, 1, .pop, []), (1490, 3, .goto 75, []), (1493, 1, .aload_n 1, []), (1494, 1, .aload_n 0, []), (1495, 1, .iload_n 3, []), (1496, 1, .iconst 1, []), (1497, 1, .iadd, []), (1498, 1, .iaload, []), (1499, 3, .invokevirtual 153, [183, 5157]), (1502, 1, .pop, []), (1503, 1, .aload_n 2, []), (1504, 1, .aload_n 0, []), (1505, 1, .iload_n 3, []), (1506, 1, .iconst 1, []), (1507, 1, .iadd, []), (1508, 1, .iaload, []), (1509, 3, .invokevirtual 253, [186, 7136]), (1512, 1, .pop, []), (1513, 3, .goto 52, []), (1516, 1, .aload_n 1, []), (1517, 3, .invokevirtual 154, [187, 5161]), (1520, 1, .aload_n 2, []), (1521, 3, .invokevirtual 254, [190, 7140]), (1524, 3, .if_icmp .eq 41, []), (1527, 1, .iconst 0, []), (1528, 1, .ireturn, []), (1529, 1, .aload_n 1, []), (1530, 3, .invokevirtual 155, [191, 5165]), (1533, 1, .pop, []), (1534, 1, .aload_n 2, []), (1535, 3, .invokevirtual 255, [194, 7144]), (1538, 1, .pop, []), (1539, 3, .goto 26, []), (1542, 1, .aload_n 1, []), (1543, 1, .aload_n 0, []), (1544, 1, .iload_n 3, []), (1545, 1, .iconst 1, []), (1546, 1, .iadd, []), (1547, 1, .iaload, []), (1548, 3, .invokevirtual 156, [195, 5169]), (1551, 1, .pop, []), (1552, 1, .aload_n 2, []), (1553, 1, .aload_n 0, []), (1554, 1, .iload_n 3, []), (1555, 1, .iconst 1, []), (1556, 1, .iadd, []), (1557, 1, .iaload, []), (1558, 3, .invokevirtual 256, [198, 7148]), (1561, 1, .pop, []), (1562, 3, .goto 3, []), (1565, 3, .iinc 3 6, []), (1568, 3, .goto (-1550), []), (1571, 1, .iconst 1, []), (1572, 1, .ireturn, [])]
abbrev sMt : Type := MethodName × ByteArray × Nat × Option FieldType × Nat × Nat × Nat × List Nat × List sEt
def sMs0 : List sMt := [(yX0_init, cX0_init, 4, none, 2, 0, 3, [2161, 2160, 1012], sT0), (yX0_isOf, cX0_isOf, 2, (some .boolean), 1, 0, 1, [2222, 2221, 1012, 9999], sT1), (yX0_firstIn, cX0_firstIn, 2, (some .long), 1, 0, 1, [3020, 3019, 1012, 9999], sT2), (yX0_weighsBody, cX0_weighsBody, 2, (some .int), 1, 0, 1, [5119, 5118, 1012, 9999], sT3), (yX0_partsBody, cX0_partsBody, 2, (some .int), 1, 0, 1, [5091, 5090, 1012, 9999], sT4), (yX1_init, cX1_init, 4, none, 2, 1, 3, [2135, 2134, 1010], sT5), (yX1_isOf, cX1_isOf, 2, (some .boolean), 1, 1, 1, [2229, 2228, 1010, 9999], sT6), (yX1_firstIn, cX1_firstIn, 2, (some .long), 1, 1, 1, [3027, 3026, 1010, 9999], sT7), (yX1_weighsBody, cX1_weighsBody, 2, (some .int), 1, 1, 1, [5124, 5123, 1010, 9999], sT8), (yX2_init, cX2_init, 4, none, 2, 2, 3, [2071, 2070, 1008], sT9), (yX2_isOf, cX2_isOf, 2, (some .boolean), 1, 2, 1, [3007, 2217, 1008, 2218], sT10), (yX2_firstIn, cX2_firstIn, 2, (some .long), 1, 2, 1, [3057, 3015, 1008, 3016], sT11), (yX2_laneIn, cX2_laneIn, 2, (some .long), 1, 2, 1, [3075, 3063, 1008, 3064], sT12), (yX2_partsBody, cX2_partsBody, 2, (some .int), 1, 2, 1, [5111, 5086, 1008, 5087], sT13), (yX2_weighsBody, cX2_weighsBody, 2, (some .int), 1, 2, 1, [5134, 5114, 1008, 5115], sT14), (yX2_hedgesBody, cX2_hedgesBody, 2, (some .int), 1, 2, 1, [5155, 5137, 1008, 5138], sT15), (yX3_init, cX3_init, 1, none, 2, 3, 0, [1055, 1054, 1003], sT16), (yX3_resize, cX3_resize, 4, none, 1, 3, 2, [1061, 1059, 1003, 1060], sT17), (yX3_become, cX3_become, 4, none, 1, 3, 1, [3094, 3092, 1003, 3093], sT18), (yX3_give, cX3_give, 5, none, 0, 3, 3, [3219, 3218, 1003], sT19), (yX3_empty, cX3_empty, 2, none, 0, 3, 1, [1068, 1067, 1003], sT20), (yX3_squares, cX3_squares, 1, (some .int), 1, 3, 0, [3210, 3208, 1003, 3209], sT21), (yX3_isSquare, cX3_isSquare, 2, (some .boolean), 1, 3, 1, [4031, 4029, 1003, 4030], sT22), (yX3_isHeir, cX3_isHeir, 2, (some .boolean), 1, 3, 1, [4013, 4011, 1003, 4012], sT23), (yX3_hasAll, cX3_hasAll, 3, (some .boolean), 1, 3, 1, [4080, 4078, 1003, 4079], sT24), (yX3_only, cX3_only, 2, (some .long), 1, 3, 1, [4039, 4037, 1003, 4038], sT25), (yX3_lowest, cX3_lowest, 1, (some .long), 0, 3, 1, [1064, 1063, 1003], sT26), (yX3_below, cX3_below, 2, (some .long), 1, 3, 1, [3061, 3059, 1003, 3060], sT27), (yX3_rowsBelow, cX3_rowsBelow, 2, (some .long), 1, 3, 1, [3024, 3022, 1003, 3023], sT28), (yX3_columns, cX3_columns, 5, (some .long), 1, 3, 1, [3036, 3034, 1003, 3035], sT29), (yX3_corner, cX3_corner, 3, (some .long), 1, 3, 2, [3043, 3041, 1003, 3042], sT30), (yX3_bent, cX3_bent, 6, (some .long), 1, 3, 3, [3031, 3029, 1003, 3030], sT31), (yX3_soilAt, cX3_soilAt, 3, (some .int), 1, 3, 1, [4035, 4033, 1003, 4034], sT32), (yX3_laySoil, cX3_laySoil, 4, none, 1, 3, 2, [3216, 3214, 1003, 3215], sT33), (yX3_placeOf, cX3_placeOf, 2, (some .int), 1, 3, 1, [4053, 4051, 1003, 4052], sT34), (yX3_setPlace, cX3_setPlace, 3, none, 1, 3, 2, [4001, 3225, 1003, 4000], sT35), (yX3_addHeir, cX3_addHeir, 3, (some .int), 1, 3, 1, [4009, 4007, 1003, 4008], sT36), (yX3_worthOf, cX3_worthOf, 6, (some .int), 1, 3, 2, [4084, 4082, 1003, 4083], sT37), (yX3_allShares, cX3_allShares, 3, (some .int), 1, 3, 0, [4175, 4173, 1003, 4174], sT38), (yX3_surplusOf, cX3_surplusOf, 4, (some .int), 1, 3, 2, [4170, 4168, 1003, 4169], sT39)]
def sMs1 : List sMt := [(yX3_slotOf, cX3_slotOf, 2, (some .int), 1, 3, 1, [4102, 4100, 1003, 4101], sT40), (yX3_ownerAt, cX3_ownerAt, 5, (some .int), 1, 3, 1, [4094, 4092, 1003, 4093], sT41), (yX3_ownedByHeirs, cX3_ownedByHeirs, 1, (some .int), 1, 3, 0, [4122, 4120, 1003, 4121], sT42), (yX3_takeOwners, cX3_takeOwners, 4, (some .int), 1, 3, 1, [4112, 4110, 1003, 4111], sT43), (yX3_withBeside, cX3_withBeside, 5, (some .long), 1, 3, 1, [4154, 4152, 1003, 4153], sT44), (yX3_grown, cX3_grown, 10, (some .long), 1, 3, 2, [4150, 4148, 1003, 4149], sT45), (yX3_piecesOf, cX3_piecesOf, 6, (some .int), 1, 3, 1, [4187, 4185, 1003, 4186], sT46), (yX3_hedgeOf, cX3_hedgeOf, 6, (some .int), 1, 3, 1, [4134, 4132, 1003, 4133], sT47), (yX3_verdictOn, cX3_verdictOn, 6, (some .int), 1, 3, 1, [4142, 4140, 1003, 4141], sT48), (yX3_hasFault, cX3_hasFault, 7, (some .boolean), 1, 3, 4, [4146, 4144, 1003, 4145], sT49), (yX3_isContent, cX3_isContent, 5, (some .boolean), 1, 3, 2, [5004, 5002, 1003, 5003], sT50), (yX3_reachOfRoad, cX3_reachOfRoad, 5, (some .long), 1, 3, 1, [4158, 4156, 1003, 4157], sT51), (yX3_roadSide, cX3_roadSide, 1, (some .long), 1, 3, 0, [4162, 4160, 1003, 4161], sT52), (yX3_wellMatters, cX3_wellMatters, 3, (some .boolean), 1, 3, 1, [4166, 4164, 1003, 4165], sT53), (yX3_toldBy, cX3_toldBy, 6, (some .long), 1, 3, 2, [5061, 5059, 1003, 5060], sT54), (yX4_init, cX4_init, 4, none, 2, 4, 3, [2174, 2173, 1013], sT55), (yX4_isOf, cX4_isOf, 2, (some .boolean), 1, 4, 1, [2233, 2232, 1013, 9999], sT56), (yX4_firstIn, cX4_firstIn, 2, (some .long), 1, 4, 1, [3039, 3038, 1013, 9999], sT57), (yX4_hedgesBody, cX4_hedgesBody, 2, (some .int), 1, 4, 1, [5144, 5143, 1013, 9999], sT58), (yX5_init, cX5_init, 4, none, 2, 5, 3, [2148, 2147, 1011], sT59), (yX5_isOf, cX5_isOf, 2, (some .boolean), 1, 5, 1, [3000, 2236, 1011, 9999], sT60), (yX5_firstIn, cX5_firstIn, 2, (some .long), 1, 5, 1, [3046, 3045, 1011, 9999], sT61), (yX5_laneIn, cX5_laneIn, 2, (some .long), 1, 5, 1, [3071, 3070, 1011, 9999], sT62), (yX5_hedgesBody, cX5_hedgesBody, 2, (some .int), 1, 5, 1, [5150, 5149, 1011, 9999], sT63), (yX6_init, cX6_init, 3, none, 2, 6, 2, [3099, 3098, 1016], sT64), (yX6_readItems, cX6_readItems, 2, (some .int), 1, 6, 0, [3118, 3116, 1016, 3117], sT65), (yX6_fails, cX6_fails, 2, (some .boolean), 1, 6, 1, [3185, 3183, 1016, 3184], sT66), (yX6_passes, cX6_passes, 2, (some .boolean), 1, 6, 1, [3197, 3195, 1016, 3196], sT67), (yX6_readItem, cX6_readItem, 1, (some .boolean), 1, 6, 0, [3122, 3120, 1016, 3121], sT68), (yX6_wordOf, cX6_wordOf, 1, (some (.object "java/lang/String")), 0, 6, 1, [3129, 3128, 1016], sT69), (yX6_readWord, cX6_readWord, 6, (some .int), 1, 6, 0, [3126, 3124, 1016, 3125], sT70), (yX6_lettersAlike, cX6_lettersAlike, 3, (some .int), 1, 6, 1, [3133, 3131, 1016, 3132], sT71), (yX6_readNumber, cX6_readNumber, 6, (some .int), 1, 6, 2, [3193, 3191, 1016, 3192], sT72), (yX6_digitAt, cX6_digitAt, 3, (some .int), 1, 6, 1, [3201, 3199, 1016, 3200], sT73), (yX6_readSize, cX6_readSize, 3, (some .boolean), 1, 6, 0, [3189, 3187, 1016, 3188], sT74), (yX6_readSoil, cX6_readSoil, 4, (some .boolean), 1, 6, 0, [3206, 3204, 1016, 3205], sT75), (yX6_readPlace, cX6_readPlace, 5, (some .boolean), 1, 6, 3, [3223, 3221, 1016, 3222], sT76), (yX6_readHeir, cX6_readHeir, 5, (some .boolean), 1, 6, 0, [4005, 4003, 1016, 4004], sT77), (yX7_init, cX7_init, 1, none, 2, 7, 0, [1033, 1032, 1002], sT78), (yX7_renew, cX7_renew, 4, none, 1, 7, 2, [1229, 1227, 1002, 1228], sT79)]
def sMs2 : List sMt := [(yX7_drop, cX7_drop, 1, none, 1, 7, 0, [2060, 2058, 1002, 2059], sT80), (yX7_isHeld, cX7_isHeld, 1, (some .boolean), 1, 7, 0, [2013, 2011, 1002, 2012], sT81), (yX7_has, cX7_has, 2, (some .boolean), 1, 7, 1, [2017, 2015, 1002, 2016], sT82), (yX7_hasRange, cX7_hasRange, 3, (some .boolean), 1, 7, 2, [2038, 2036, 1002, 2037], sT83), (yX7_at, cX7_at, 2, (some .long), 1, 7, 1, [2049, 2047, 1002, 2048], sT84), (yX7_intAt, cX7_intAt, 2, (some .int), 1, 7, 1, [3146, 3144, 1002, 3145], sT85), (yX7_put, cX7_put, 4, none, 1, 7, 2, [2021, 2019, 1002, 2020], sT86), (yX7_append, cX7_append, 2, none, 1, 7, 1, [5095, 5093, 1002, 5094], sT87), (yX7_narrowed, cX7_narrowed, 3, (some .long), 1, 7, 1, [2026, 2024, 1002, 2025], sT88), (yX8_init, cX8_init, 1, none, 2, 8, 0, [1142, 1141, 1004], sT89), (yX8_best, cX8_best, 2, (some .int), 1, 8, 1, [4231, 4229, 1004, 4230], sT90), (yX8_addCut, cX8_addCut, 4, none, 1, 8, 2, [4208, 4206, 1004, 4207], sT91), (yX8_listCuts, cX8_listCuts, 5, none, 1, 8, 3, [4203, 4201, 1004, 4202], sT92), (yX8_addBent, cX8_addBent, 5, none, 1, 8, 1, [4212, 4210, 1004, 4211], sT93), (yX8_addFrom, cX8_addFrom, 4, none, 1, 8, 1, [4218, 4216, 1004, 4217], sT94), (yX8_forget, cX8_forget, 2, none, 1, 8, 1, [4199, 4197, 1004, 4198], sT95), (yX8_tryTrial, cX8_tryTrial, 5, none, 1, 8, 3, [4225, 4223, 1004, 4224], sT96), (yX8_findTwo, cX8_findTwo, 4, (some .boolean), 1, 8, 1, [4195, 4193, 1004, 4194], sT97), (yX8_findThree, cX8_findThree, 4, (some .boolean), 1, 8, 1, [5000, 4237, 1004, 4238], sT98), (yX8_findFairest, cX8_findFairest, 10, (some .long), 1, 8, 2, [5012, 5010, 1004, 5011], sT99), (yX8_findChange, cX8_findChange, 4, (some .int), 1, 8, 1, [5036, 5034, 1004, 5035], sT100), (yX8_mayChange, cX8_mayChange, 6, (some .boolean), 0, 8, 3, [5040, 5039, 1004], sT101), (yX8_startFrom, cX8_startFrom, 3, none, 1, 8, 1, [5048, 5046, 1004, 5047], sT102), (yX8_findFitting, cX8_findFitting, 8, none, 1, 8, 2, [5071, 5069, 1004, 5070], sT103), (yX9_init, cX9_init, 4, none, 2, 9, 3, [2068, 2067, 1009], sT104), (yX9_isOf, cX9_isOf, 2, (some .boolean), 1, 9, 1, [2225, 2224, 1009, 9999], sT105), (yX9_firstIn, cX9_firstIn, 2, (some .long), 1, 9, 1, [3050, 3049, 1009, 9999], sT106), (yX9_partsBody, cX9_partsBody, 2, (some .int), 1, 9, 1, [5098, 5097, 1009, 9999], sT107), (yX10_init, cX10_init, 4, none, 2, 10, 3, [2187, 2186, 1014], sT108), (yX10_isOf, cX10_isOf, 2, (some .boolean), 1, 10, 1, [3005, 3004, 1014, 9999], sT109), (yX10_firstIn, cX10_firstIn, 2, (some .long), 1, 10, 1, [3054, 3053, 1014, 9999], sT110), (yX10_partsBody, cX10_partsBody, 2, (some .int), 1, 10, 1, [5107, 5106, 1014, 9999], sT111), (yX10_weighsBody, cX10_weighsBody, 2, (some .int), 1, 10, 1, [5132, 5131, 1014, 9999], sT112), (yX11_init, cX11_init, 2, none, 2, 11, 0, [1025, 1024, 1001], sT113), (yX11_row, cX11_row, 4, (some .int), 1, 11, 3, [1216, 1214, 1001, 1215], sT114), (yX11_set, cX11_set, 6, (some .int), 1, 11, 3, [2006, 2004, 1001, 2005], sT115), (yX11_copy, cX11_copy, 7, (some .int), 1, 11, 5, [2030, 2028, 1001, 2029], sT116), (yX11_element, cX11_element, 3, (some .long), 1, 11, 2, [2045, 2043, 1001, 2044], sT117), (yX11_cut, cX11_cut, 3, (some .int), 1, 11, 2, [2053, 2051, 1001, 2052], sT118), (yX11_holds, cX11_holds, 2, (some .int), 1, 11, 1, [2208, 2206, 1001, 2207], sT119)]
def sMs3 : List sMt := [(yX11_says, cX11_says, 4, (some .int), 1, 11, 2, [2212, 2210, 1001, 2211], sT120), (yX11_side, cX11_side, 3, (some .long), 1, 11, 2, [3086, 3084, 1001, 3085], sT121), (yX11_field, cX11_field, 5, (some .int), 1, 11, 1, [3090, 3088, 1001, 3089], sT122), (yX11_fault, cX11_fault, 1, (some .int), 1, 11, 0, [4018, 4016, 1001, 4017], sT123), (yX11_size, cX11_size, 3, (some .int), 1, 11, 2, [4022, 4020, 1001, 4021], sT124), (yX11_soil, cX11_soil, 4, (some .int), 1, 11, 2, [4027, 4025, 1001, 4026], sT125), (yX11_place, cX11_place, 4, (some .int), 1, 11, 2, [4046, 4044, 1001, 4045], sT126), (yX11_heir, cX11_heir, 2, (some .int), 1, 11, 1, [4058, 4056, 1001, 4057], sT127), (yX11_worths, cX11_worths, 5, (some .int), 1, 11, 3, [4063, 4061, 1001, 4062], sT128), (yX11_fond, cX11_fond, 4, (some .int), 1, 11, 2, [4068, 4066, 1001, 4067], sT129), (yX11_heirOf, cX11_heirOf, 3, (some .int), 1, 11, 2, [4072, 4070, 1001, 4071], sT130), (yX11_worth, cX11_worth, 4, (some .int), 1, 11, 2, [4076, 4074, 1001, 4075], sT131), (yX11_owner, cX11_owner, 2, (some .int), 1, 11, 1, [4090, 4088, 1001, 4089], sT132), (yX11_own, cX11_own, 5, (some .int), 1, 11, 2, [4098, 4096, 1001, 4097], sT133), (yX11_lay, cX11_lay, 7, (some .int), 1, 11, 3, [4107, 4105, 1001, 4106], sT134), (yX11_owners, cX11_owners, 5, (some .int), 1, 11, 1, [4116, 4114, 1001, 4115], sT135), (yX11_piece, cX11_piece, 3, (some .long), 1, 11, 1, [4126, 4124, 1001, 4125], sT136), (yX11_hedge, cX11_hedge, 1, (some .int), 1, 11, 0, [4130, 4128, 1001, 4129], sT137), (yX11_faulty, cX11_faulty, 1, (some .int), 1, 11, 0, [4138, 4136, 1001, 4137], sT138), (yX11_whose, cX11_whose, 2, (some .int), 1, 11, 0, [4179, 4177, 1001, 4178], sT139), (yX11_parts, cX11_parts, 3, (some .int), 1, 11, 1, [4183, 4181, 1001, 4182], sT140), (yX11_two, cX11_two, 2, (some .int), 1, 11, 1, [4191, 4189, 1001, 4190], sT141), (yX11_three, cX11_three, 2, (some .int), 1, 11, 1, [4235, 4233, 1001, 4234], sT142), (yX11_choose, cX11_choose, 9, (some .int), 1, 11, 3, [5008, 5006, 1001, 5007], sT143), (yX11_envies, cX11_envies, 5, (some .int), 1, 11, 1, [5021, 5019, 1001, 5020], sT144), (yX11_evens, cX11_evens, 3, (some .int), 1, 11, 1, [5025, 5023, 1001, 5024], sT145), (yX11_better, cX11_better, 2, (some .int), 1, 11, 0, [5032, 5030, 1001, 5031], sT146), (yX11_mend, cX11_mend, 4, (some .int), 1, 11, 1, [5053, 5051, 1001, 5052], sT147), (yX11_fits, cX11_fits, 8, (some .int), 1, 11, 2, [5057, 5055, 1001, 5056], sT148), (yX11_old, cX11_old, 3, (some .int), 1, 11, 1, [5067, 5065, 1001, 5066], sT149), (yX11_sure, cX11_sure, 4, (some .long), 1, 11, 2, [5076, 5074, 1001, 5075], sT150), (yX11_judge, cX11_judge, 4, (some .int), 1, 11, 1, [5080, 5078, 1001, 5079], sT151), (yX11_act, cX11_act, 4, (some .int), 1, 11, 3, [5084, 5082, 1001, 5083], sT152), (yX11_trace, cX11_trace, 2, (some .int), 1, 11, 1, [5160, 5158, 1001, 5159], sT153), (yX11_image, cX11_image, 1, (some .int), 1, 11, 0, [5164, 5162, 1001, 5163], sT154), (yX11_restore, cX11_restore, 1, (some .int), 1, 11, 0, [5168, 5166, 1001, 5167], sT155), (yX11_status, cX11_status, 2, (some .int), 1, 11, 1, [5172, 5170, 1001, 5171], sT156), (yX11_refuse, cX11_refuse, 2, (some .int), 1, 11, 1, [1222, 1221, 1001, 0], sT157), (yX11_refuseAs, cX11_refuseAs, 3, (some .int), 1, 11, 2, [1225, 1224, 1001, 1], sT158), (yX11_earlier, cX11_earlier, 2, (some .int), 0, 11, 2, [2033, 2032, 1001], sT159)]
def sMs4 : List sMt := [(yX11_isShelf, cX11_isShelf, 1, (some .boolean), 0, 11, 1, [1219, 1218, 1001], sT160), (yX11_noRow, cX11_noRow, 2, (some .int), 1, 11, 1, [2009, 2008, 1001, 2], sT161), (yX11_noCut, cX11_noCut, 2, (some .int), 1, 11, 1, [2215, 2214, 1001, 4], sT162), (yX11_hasCutNumbers, cX11_hasCutNumbers, 1, (some .boolean), 0, 11, 1, [2056, 2055, 1001], sT163), (yX11_newCut, cX11_newCut, 3, (some (.object "BrothersField$Cut")), 1, 11, 2, [2063, 2062, 1001, 3], sT164), (yX11_sideOf, cX11_sideOf, 7, (some .long), 1, 11, 2, [3013, 3012, 1001, 6], sT165), (yX11_toldAs, cX11_toldAs, 3, (some .int), 1, 11, 2, [3010, 3009, 1001, 5], sT166), (yX11_mayStand, cX11_mayStand, 3, (some .boolean), 1, 11, 2, [4049, 4048, 1001, 7], sT167), (yX12_init, cX12_init, 2, none, 2, 12, 0, [5177, 5176, 1005], sT168), (yX12_no, cX12_no, 2, (some .int), 1, 12, 1, [6066, 6065, 1005, 9], sT169), (yX12_noTen, cX12_noTen, 2, (some .int), 1, 12, 1, [6168, 6167, 1005, 27], sT170), (yX12_isShelf, cX12_isShelf, 2, (some .boolean), 1, 12, 1, [6063, 6062, 1005, 8], sT171), (yX12_isSquare, cX12_isSquare, 2, (some .boolean), 1, 12, 1, [6161, 6160, 1005, 26], sT172), (yX12_isHeir, cX12_isHeir, 2, (some .boolean), 1, 12, 1, [6179, 6178, 1005, 28], sT173), (yX12_all, cX12_all, 1, (some .long), 1, 12, 0, [6200, 6199, 1005, 31], sT174), (yX12_isSet, cX12_isSet, 3, (some .boolean), 1, 12, 1, [6197, 6196, 1005, 30], sT175), (yX12_many, cX12_many, 6, (some .int), 1, 12, 1, [6103, 6102, 1005, 12], sT176), (yX12_has, cX12_has, 4, (some .boolean), 1, 12, 2, [6207, 6206, 1005, 33], sT177), (yX12_row, cX12_row, 5, (some .int), 1, 12, 3, [6060, 6058, 1005, 6059], sT178), (yX12_set, cX12_set, 5, (some .int), 1, 12, 3, [6070, 6068, 1005, 6069], sT179), (yX12_copy, cX12_copy, 7, (some .int), 1, 12, 5, [6074, 6072, 1005, 6073], sT180), (yX12_element, cX12_element, 3, (some .long), 1, 12, 2, [6078, 6076, 1005, 6077], sT181), (yX12_cut, cX12_cut, 3, (some .int), 1, 12, 2, [6082, 6080, 1005, 6081], sT182), (yX12_holds, cX12_holds, 2, (some .int), 1, 12, 1, [6086, 6084, 1005, 6085], sT183), (yX12_wants, cX12_wants, 3, (some .int), 1, 12, 2, [6110, 6109, 1005, 13], sT184), (yX12_intAt, cX12_intAt, 3, (some .int), 1, 12, 2, [7015, 7014, 1005, 35], sT185), (yX12_isFirst, cX12_isFirst, 9, (some .boolean), 1, 12, 2, [6096, 6095, 1005, 11], sT186), (yX12_sideOf, cX12_sideOf, 7, (some .long), 1, 12, 2, [6093, 6092, 1005, 10], sT187), (yX12_side, cX12_side, 3, (some .long), 1, 12, 2, [6090, 6088, 1005, 6089], sT188), (yX12_says, cX12_says, 5, (some .int), 1, 12, 2, [6100, 6098, 1005, 6099], sT189), (yX12_sizes, cX12_sizes, 4, none, 1, 12, 2, [6143, 6142, 1005, 24], sT190), (yX12_comes, cX12_comes, 3, (some .int), 1, 12, 1, [6146, 6145, 1005, 25], sT191), (yX12_wrong, cX12_wrong, 2, (some .boolean), 1, 12, 1, [6128, 6127, 1005, 19], sT192), (yX12_word, cX12_word, 6, (some .int), 1, 12, 0, [6131, 6130, 1005, 20], sT193), (yX12_isDigit, cX12_isDigit, 1, (some .boolean), 1, 12, 0, [6137, 6136, 1005, 22], sT194), (yX12_number, cX12_number, 4, (some .boolean), 1, 12, 2, [6134, 6133, 1005, 21], sT195), (yX12_next, cX12_next, 3, (some .boolean), 1, 12, 2, [6140, 6139, 1005, 23], sT196), (yX12_isWordFull, cX12_isWordFull, 2, (some .boolean), 1, 12, 1, [6125, 6124, 1005, 18], sT197), (yX12_isWordAt, cX12_isWordAt, 4, (some .boolean), 1, 12, 1, [6122, 6121, 1005, 17], sT198), (yX12_item, cX12_item, 7, (some .boolean), 1, 12, 0, [6119, 6118, 1005, 16], sT199)]
def sMs5 : List sMt := [(yX12_keeps, cX12_keeps, 7, (some .int), 1, 12, 5, [6116, 6115, 1005, 15], sT200), (yX12_all_, cX12_all_, 4, none, 1, 12, 2, [6113, 6112, 1005, 14], sT201), (yX12_field, cX12_field, 5, (some .int), 1, 12, 1, [6107, 6105, 1005, 6106], sT202), (yX12_fault, cX12_fault, 1, (some .int), 1, 12, 0, [6150, 6148, 1005, 6149], sT203), (yX12_size, cX12_size, 3, (some .int), 1, 12, 2, [6154, 6152, 1005, 6153], sT204), (yX12_soil, cX12_soil, 4, (some .int), 1, 12, 2, [6158, 6156, 1005, 6157], sT205), (yX12_place, cX12_place, 4, (some .int), 1, 12, 2, [6165, 6163, 1005, 6164], sT206), (yX12_heir, cX12_heir, 2, (some .int), 1, 12, 1, [6172, 6170, 1005, 6171], sT207), (yX12_worths, cX12_worths, 5, (some .int), 1, 12, 3, [6176, 6174, 1005, 6175], sT208), (yX12_fond, cX12_fond, 4, (some .int), 1, 12, 2, [6183, 6181, 1005, 6182], sT209), (yX12_heirOf, cX12_heirOf, 3, (some .int), 1, 12, 2, [6187, 6185, 1005, 6186], sT210), (yX12_worthOf, cX12_worthOf, 6, (some .int), 1, 12, 2, [6204, 6203, 1005, 32], sT211), (yX12_worth, cX12_worth, 4, (some .int), 1, 12, 2, [6194, 6192, 1005, 6193], sT212), (yX12_pieceOf, cX12_pieceOf, 5, (some .long), 1, 12, 1, [6190, 6189, 1005, 29], sT213), (yX12_isOwner, cX12_isOwner, 2, (some .boolean), 1, 12, 1, [7004, 7003, 1005, 34], sT214), (yX12_owner, cX12_owner, 2, (some .int), 1, 12, 1, [6211, 6209, 1005, 6210], sT215), (yX12_own, cX12_own, 5, (some .int), 1, 12, 2, [7001, 6213, 1005, 7000], sT216), (yX12_lay, cX12_lay, 12, (some .int), 1, 12, 3, [7008, 7006, 1005, 7007], sT217), (yX12_owners, cX12_owners, 6, (some .int), 1, 12, 1, [7012, 7010, 1005, 7011], sT218), (yX12_piece, cX12_piece, 2, (some .long), 1, 12, 1, [7019, 7017, 1005, 7018], sT219), (yX12_hedgeOf, cX12_hedgeOf, 3, (some .int), 1, 12, 0, [7026, 7025, 1005, 36], sT220), (yX12_hedge, cX12_hedge, 1, (some .int), 1, 12, 0, [7023, 7021, 1005, 7022], sT221), (yX12_beside, cX12_beside, 6, (some .long), 1, 12, 1, [7039, 7038, 1005, 39], sT222), (yX12_grown, cX12_grown, 9, (some .long), 1, 12, 2, [7036, 7035, 1005, 38], sT223), (yX12_partsOf, cX12_partsOf, 6, (some .int), 1, 12, 1, [7033, 7032, 1005, 37], sT224), (yX12_parts, cX12_parts, 3, (some .int), 1, 12, 1, [7030, 7028, 1005, 7029], sT225), (yX12_atRoad, cX12_atRoad, 5, (some .long), 1, 12, 0, [7049, 7048, 1005, 41], sT226), (yX12_faultyNow, cX12_faultyNow, 10, (some .int), 1, 12, 0, [7046, 7045, 1005, 40], sT227), (yX12_shares, cX12_shares, 3, (some .int), 1, 12, 0, [7052, 7051, 1005, 42], sT228), (yX12_faulty, cX12_faulty, 1, (some .int), 1, 12, 0, [7043, 7041, 1005, 7042], sT229), (yX12_whose, cX12_whose, 1, (some .int), 1, 12, 0, [7056, 7054, 1005, 7055], sT230), (yX12_lists, cX12_lists, 3, none, 1, 12, 2, [7069, 7068, 1005, 45], sT231), (yX12_lists_, cX12_lists_, 5, none, 1, 12, 1, [7066, 7065, 1005, 44], sT232), (yX12_spares, cX12_spares, 3, none, 1, 12, 1, [7063, 7062, 1005, 43], sT233), (yX12_tries, cX12_tries, 4, none, 1, 12, 2, [7072, 7071, 1005, 46], sT234), (yX12_two, cX12_two, 5, (some .int), 1, 12, 1, [7060, 7058, 1005, 7059], sT235), (yX12_three, cX12_three, 5, (some .int), 1, 12, 1, [7076, 7074, 1005, 7075], sT236), (yX12_choose, cX12_choose, 8, (some .int), 1, 12, 3, [7080, 7078, 1005, 7079], sT237), (yX12_envies, cX12_envies, 5, (some .int), 1, 12, 1, [7084, 7082, 1005, 7083], sT238), (yX12_evens, cX12_evens, 2, (some .int), 1, 12, 1, [7088, 7086, 1005, 7087], sT239)]
def sMs6 : List sMt := [(yX12_bettered, cX12_bettered, 10, (some .int), 1, 12, 0, [7096, 7095, 1005, 47], sT240), (yX12_better, cX12_better, 2, (some .int), 1, 12, 0, [7093, 7091, 1005, 7092], sT241), (yX12_mend, cX12_mend, 4, (some .int), 1, 12, 1, [7100, 7098, 1005, 7099], sT242), (yX12_isFit, cX12_isFit, 5, (some .boolean), 1, 12, 2, [7107, 7106, 1005, 48], sT243), (yX12_fits, cX12_fits, 3, (some .int), 1, 12, 2, [7104, 7102, 1005, 7103], sT244), (yX12_old, cX12_old, 5, (some .int), 1, 12, 1, [7111, 7109, 1005, 7110], sT245), (yX12_sure, cX12_sure, 8, (some .long), 1, 12, 2, [7115, 7113, 1005, 7114], sT246), (yX12_judge, cX12_judge, 5, (some .int), 1, 12, 1, [7119, 7117, 1005, 7118], sT247), (yX12_body, cX12_body, 2, none, 1, 12, 1, [7129, 7128, 1005, 50], sT248), (yX12_parting, cX12_parting, 6, (some .int), 1, 12, 2, [7126, 7125, 1005, 49], sT249), (yX12_weighing, cX12_weighing, 6, (some .int), 1, 12, 2, [7132, 7131, 1005, 51], sT250), (yX12_hedging, cX12_hedging, 5, (some .int), 1, 12, 2, [7135, 7134, 1005, 52], sT251), (yX12_act, cX12_act, 4, (some .int), 1, 12, 3, [7123, 7121, 1005, 7122], sT252), (yX12_trace, cX12_trace, 2, (some .int), 1, 12, 1, [7139, 7137, 1005, 7138], sT253), (yX12_image, cX12_image, 1, (some .int), 1, 12, 0, [7143, 7141, 1005, 7142], sT254), (yX12_restore, cX12_restore, 1, (some .int), 1, 12, 0, [7147, 7145, 1005, 7146], sT255), (yX12_status, cX12_status, 4, (some .int), 1, 12, 1, [7151, 7149, 1005, 7150], sT256), (yJ13_bitCount_95d88, cJ13_bitCount_95d88, 2, (some .int), 0, 99, 1, [3079, 3078, 1015], sT257), (yL_law, cL_law, 4, (some .boolean), 0, 99, 1, [], sT258)]
def sMs : List sMt := sMs0 ++ (sMs1 ++ (sMs2 ++ (sMs3 ++ (sMs4 ++ (sMs5 ++ (sMs6))))))
def sVtL : List (List Nat) := [[1, 6, 10, 0, 56, 60, 0, 0, 0, 105, 109], [2, 7, 11, 0, 57, 61, 0, 0, 0, 106, 110], [12, 12, 12, 0, 12, 62, 0, 0, 0, 12, 12], [4, 13, 13, 0, 107, 13, 0, 0, 0, 107, 111], [3, 8, 14, 0, 14, 14, 0, 0, 0, 14, 112], [15, 15, 15, 0, 58, 63, 0, 0, 0, 15, 15]]
def sVt (k ci : Nat) : Nat := if ci = 100 then 1 else ((sVtL[k - 1000]?).bind (fun r => r[ci]?)).getD 0
end
section
/-! ===== THE SIMPLE MACHINE: a run of the bytecode over cells that are known by their places ===== -/
abbrev sHp : Type := List va_E
abbrev sLo : Type := List (Option Value)
def sLen : Instr → Nat
  | .aload _ => 2
  | .iload _ => 2
  | .lload _ => 2
  | .istore _ => 2
  | .lstore _ => 2
  | .astore _ => 2
  | .bipush _ => 2
  | .ldc _ => 2
  | .newarray _ => 2
  | .sipush _ => 3
  | .getfield _ => 3
  | .putfield _ => 3
  | .goto _ => 3
  | .if_icmp _ _ => 3
  | .ifCond _ _ => 3
  | .iinc _ _ => 3
  | .invokevirtual _ => 3
  | .invokestatic _ => 3
  | .invokespecial _ => 3
  | .ldc2_w _ => 3
  | .ldc_w _ => 3
  | .new _ => 3
  | .anewarray _ => 3
  | .ifnull _ => 3
  | .ifnonnull _ => 3
  | .getstatic _ => 3
  | .invokeinterface _ _ => 3
  | .multianewarray _ _ => 4
  | _ => 1
/-- stack shapes -/
def s2i (f : Int32 → Int32 → Option Value) (st : List Value) : Option (List Value) := match st with
  | .int y :: .int x :: r => (f x y).map (fun v => v :: r)
  | _ => none
def s2l (f : Int64 → Int64 → Option Value) (st : List Value) : Option (List Value) := match st with
  | .long y :: .long x :: r => (f x y).map (fun v => v :: r)
  | _ => none
def sil (f : Int64 → Int32 → Option Value) (st : List Value) : Option (List Value) := match st with
  | .int y :: .long x :: r => (f x y).map (fun v => v :: r)
  | _ => none
def s1i (f : Int32 → Value) (st : List Value) : Option (List Value) := match st with
  | .int x :: r => some (f x :: r)
  | _ => none
def s1l (f : Int64 → Value) (st : List Value) : Option (List Value) := match st with
  | .long x :: r => some (f x :: r)
  | _ => none
def sPure (ins : Instr) (st : List Value) : Option (List Value) := match ins with
  | .iconst n => some (.int (Int32.ofInt n) :: st)
  | .bipush n => some (.int (Int8.ofInt n).toInt32 :: st)
  | .sipush n => some (.int (Int16.ofInt n).toInt32 :: st)
  | .lconst n => some (.long (Int64.ofNat (n : Nat)) :: st)
  | .aconst_null => some (.null :: st)
  | .iadd => s2i (fun x y => some (.int (x + y))) st
  | .isub => s2i (fun x y => some (.int (x - y))) st
  | .imul => s2i (fun x y => some (.int (x * y))) st
  | .iand => s2i (fun x y => some (.int (x &&& y))) st
  | .ior => s2i (fun x y => some (.int (x ||| y))) st
  | .ixor => s2i (fun x y => some (.int (x ^^^ y))) st
  | .idiv => s2i (fun x y => if y = 0 then none else some (.int (x / y))) st
  | .irem => s2i (fun x y => if y = 0 then none else some (.int (x - x / y * y))) st
  | .ineg => s1i (fun x => .int (-x)) st
  | .ishl => s2i (fun x y => some (.int (x <<< (y &&& 31)))) st
  | .ishr => s2i (fun x y => some (.int (x >>> (y &&& 31)))) st
  | .ladd => s2l (fun x y => some (.long (x + y))) st
  | .lsub => s2l (fun x y => some (.long (x - y))) st
  | .land => s2l (fun x y => some (.long (x &&& y))) st
  | .lor => s2l (fun x y => some (.long (x ||| y))) st
  | .lxor => s2l (fun x y => some (.long (x ^^^ y))) st
  | .lneg => s1l (fun x => .long (-x)) st
  | .lshl => sil (fun x y => some (.long (x <<< (y.toInt64 &&& 63)))) st
  | .lshr => sil (fun x y => some (.long (x >>> (y.toInt64 &&& 63)))) st
  | .lushr => sil (fun x y => some (.long (x.toUInt64 >>> (y.toInt64.toUInt64 &&& Int64.toUInt64 63)).toInt64)) st
  | .lcmp => s2l (fun x y => some (.int (lg_cmp x y))) st
  | .i2l => s1i (fun x => .long x.toInt64) st
  | .l2i => s1l (fun x => .int x.toInt32) st
  | .i2b => s1i (fun x => .int x.toInt8.toInt32) st
  | .i2s => s1i (fun x => .int x.toInt16.toInt32) st
  | .i2c => s1i (fun x => .int (x.toUInt32 % 65536).toInt32) st
  | .dup => (match st with
    | a :: r => if a.category = 1 then some (a :: a :: r) else none
    | _ => none)
  | .dup_x1 => (match st with
    | a :: b :: r => if a.category = 1 ∧ b.category = 1 then some (a :: b :: a :: r) else none
    | _ => none)
  | .dup2 => (match st with
    | a :: b :: r => if a.category = 1 ∧ b.category = 1 then some (a :: b :: a :: b :: r) else none
    | _ => none)
  | .pop => (match st with
    | a :: r => if a.category = 1 then some r else none
    | _ => none)
  | .pop2 => (match st with
    | a :: r => if a.category = 2 then some r else none
    | _ => none)
  | _ => none
/-- locals -/
def sLdI (L : sLo) (i : Nat) (st : List Value) : Option (sLo × List Value) := match L[i]? with
  | some (some (.int x)) => some (L, .int x :: st)
  | _ => none
def sLdL (L : sLo) (i : Nat) (st : List Value) : Option (sLo × List Value) := match L[i]? with
  | some (some (.long x)) => some (L, .long x :: st)
  | _ => none
def sLdA (L : sLo) (i : Nat) (st : List Value) : Option (sLo × List Value) := match L[i]? with
  | some (some (.ref x)) => some (L, .ref x :: st)
  | some (some .null) => some (L, .null :: st)
  | _ => none
def sIsL : Option (Option Value) → Bool
  | some (some (.long _)) => true
  | _ => false
/-- the slot i takes a value; a long whose second half it was is gone -/
def sKill (L : sLo) (i : Nat) : sLo := match i with
  | 0 => L
  | j + 1 => if sIsL L[j]? then L.set j none else L
def sPut (L : sLo) (i : Nat) (v : Value) : sLo := (sKill L i).set i (some v)
def sPutL (L : sLo) (i : Nat) (v : Value) : sLo := (sPut L i v).set (i + 1) none
def sStI (L : sLo) (i : Nat) (st : List Value) : Option (sLo × List Value) := match st with
  | .int x :: r => if i < L.length then some (sPut L i (.int x), r) else none
  | _ => none
def sStL (L : sLo) (i : Nat) (st : List Value) : Option (sLo × List Value) := match st with
  | .long x :: r => if i + 1 < L.length then some (sPutL L i (.long x), r) else none
  | _ => none
def sStA (L : sLo) (i : Nat) (st : List Value) : Option (sLo × List Value) := match st with
  | .ref x :: r => if i < L.length then some (sPut L i (.ref x), r) else none
  | .null :: r => if i < L.length then some (sPut L i .null, r) else none
  | _ => none
def sInc (L : sLo) (i : Nat) (n : Int) (st : List Value) : Option (sLo × List Value) := match L[i]? with
  | some (some (.int x)) => some (sPut L i (.int (x + Int32.ofInt n)), st)
  | _ => none
def sLoc (ins : Instr) (L : sLo) (st : List Value) : Option (sLo × List Value) := match ins with
  | .iload i => sLdI L i st
  | .iload_n i => sLdI L i st
  | .lload i => sLdL L i st
  | .lload_n i => sLdL L i st
  | .aload i => sLdA L i st
  | .aload_n i => sLdA L i st
  | .istore i => sStI L i st
  | .istore_n i => sStI L i st
  | .lstore i => sStL L i st
  | .lstore_n i => sStL L i st
  | .astore i => sStA L i st
  | .astore_n i => sStA L i st
  | .iinc i n => sInc L i n st
  | _ => none
/-- cells: which group a class is of (its fields' places); an object's first fields; a field's type -/
def sGrp (ci : Nat) : Nat := if ci = 3 ∨ ci = 6 ∨ ci = 7 ∨ ci = 8 ∨ ci = 11 ∨ ci = 12 then ci else 2
def sTy (ci : Nat) : Nat → FieldType := match ci with
  | 0 => tyX0
  | 1 => tyX1
  | 2 => tyX2
  | 3 => tyX3
  | 4 => tyX4
  | 5 => tyX5
  | 6 => tyX6
  | 7 => tyX7
  | 8 => tyX8
  | 9 => tyX9
  | 10 => tyX10
  | 11 => tyX11
  | _ => tyX12
def sNF (ci : Nat) : Nat := match vwCl[ci]? with
  | some q => q.2.2
  | none => 0
def sDef (ci : Nat) : List Value := (List.range (sNF ci)).map (fun k => defaultValue (sTy ci k))
/-- the array types by their tags -/
def sAT : List FieldType := [.int, .long, .boolean, .object RX7, .object RX2, .array .int]
def sFit (ty : FieldType) (v : Value) : Bool := match ty, v with
  | .int, .int _ => true
  | .long, .long _ => true
  | .boolean, .int x => decide (x = 0 ∨ x = 1)
  | .object _, .ref _ => true
  | .object _, .null => true
  | .array _, .ref _ => true
  | .array _, .null => true
  | _, _ => false
def sGetF (k : Nat) (st : List Value) (h : sHp) : Option (List Value × sHp) := match st with
  | .ref a :: r => (match h[a]? with
    | some (.inr (ci, fs)) => if sGrp ci = k / 64 then (match fs[k % 64]? with
      | some v => some (v :: r, h)
      | none => none) else none
    | _ => none)
  | _ => none
def sPutF (k : Nat) (st : List Value) (h : sHp) : Option (List Value × sHp) := match st with
  | v :: .ref a :: r => (match h[a]? with
    | some (.inr (ci, fs)) => if sGrp ci = k / 64 ∧ k % 64 < fs.length ∧ sFit (sTy ci (k % 64)) v = true then some (r, h.set a (.inr (ci, fs.set (k % 64) v))) else none
    | _ => none)
  | _ => none
def sIn (i : Int32) (n : Nat) : Prop := ¬ (i < 0 ∨ n ≤ i.toNatClampNeg)
def sLdAI (tag : Nat) (st : List Value) (h : sHp) : Option (List Value × sHp) := match st with
  | .int i :: .ref a :: r => (match h[a]? with
    | some (.inl (t, n, .inl f)) => if t = tag ∧ ¬ (i < 0 ∨ n ≤ i.toNatClampNeg) then some (.int (f i.toNatClampNeg) :: r, h) else none
    | _ => none)
  | _ => none
def sLdAL (st : List Value) (h : sHp) : Option (List Value × sHp) := match st with
  | .int i :: .ref a :: r => (match h[a]? with
    | some (.inl (t, n, .inr (.inl f))) => if t = 1 ∧ ¬ (i < 0 ∨ n ≤ i.toNatClampNeg) then some (.long (f i.toNatClampNeg) :: r, h) else none
    | _ => none)
  | _ => none
def sLdAA (st : List Value) (h : sHp) : Option (List Value × sHp) := match st with
  | .int i :: .ref a :: r => (match h[a]? with
    | some (.inl (t, n, .inr (.inr (.inr (.inr f))))) => if (t = 3 ∨ t = 4 ∨ t = 5) ∧ ¬ (i < 0 ∨ n ≤ i.toNatClampNeg) then some (va_rf (f i.toNatClampNeg) :: r, h) else none
    | _ => none)
  | _ => none
def sStAI (st : List Value) (h : sHp) : Option (List Value × sHp) := match st with
  | .int x :: .int i :: .ref a :: r => (match h[a]? with
    | some (.inl (t, n, .inl f)) => if t = 0 ∧ ¬ (i < 0 ∨ n ≤ i.toNatClampNeg) then some (r, h.set a (.inl (t, n, .inl (upd f i.toNatClampNeg x)))) else none
    | _ => none)
  | _ => none
def sStAZ (st : List Value) (h : sHp) : Option (List Value × sHp) := match st with
  | .int x :: .int i :: .ref a :: r => (match h[a]? with
    | some (.inl (t, n, .inl f)) => if t = 2 ∧ (x = 0 ∨ x = 1) ∧ ¬ (i < 0 ∨ n ≤ i.toNatClampNeg) then some (r, h.set a (.inl (t, n, .inl (upd f i.toNatClampNeg x)))) else none
    | _ => none)
  | _ => none
def sStAL (st : List Value) (h : sHp) : Option (List Value × sHp) := match st with
  | .long x :: .int i :: .ref a :: r => (match h[a]? with
    | some (.inl (t, n, .inr (.inl f))) => if t = 1 ∧ ¬ (i < 0 ∨ n ≤ i.toNatClampNeg) then some (r, h.set a (.inl (t, n, .inr (.inl (vp_updL f i.toNatClampNeg x))))) else none
    | _ => none)
  | _ => none
def sIsObj (t : Nat) (c : Option va_E) : Bool := match c with
  | some (.inr (ci, _)) => (t == 3 && ci == 7) || (t == 4 && (sGrp ci == 2 && decide (ci < 11)))
  | _ => false
def sStAA (st : List Value) (h : sHp) : Option (List Value × sHp) := match st with
  | .ref q :: .int i :: .ref a :: r => (match h[a]? with
    | some (.inl (t, n, .inr (.inr (.inr (.inr f))))) => if sIsObj t h[q]? = true ∧ ¬ (i < 0 ∨ n ≤ i.toNatClampNeg) then some (r, h.set a (.inl (t, n, .inr (.inr (.inr (.inr (va_up f i.toNatClampNeg (some q)))))))) else none
    | _ => none)
  | .null :: .int i :: .ref a :: r => (match h[a]? with
    | some (.inl (t, n, .inr (.inr (.inr (.inr f))))) => if (t = 3 ∨ t = 4) ∧ ¬ (i < 0 ∨ n ≤ i.toNatClampNeg) then some (r, h.set a (.inl (t, n, .inr (.inr (.inr (.inr (va_up f i.toNatClampNeg none))))))) else none
    | _ => none)
  | _ => none
def sALen (st : List Value) (h : sHp) : Option (List Value × sHp) := match st with
  | .ref a :: r => (match h[a]? with
    | some (.inl (t, n, d)) => if t < 6 then some (.int (Int32.ofNat n) :: r, h) else none
    | _ => none)
  | _ => none
def sNew (k : Nat) (st : List Value) (h : sHp) : Option (List Value × sHp) := if k < 13 then some (.ref h.length :: st, h ++ [.inr (k, sDef k)]) else none
def sNewA (ty : ArrayType) (st : List Value) (h : sHp) : Option (List Value × sHp) := match st with
  | .int n :: r => if n < 0 ∨ 100000 < n.toNatClampNeg then none else (match ty with
    | .int => some (.ref h.length :: r, h ++ [.inl (0, n.toNatClampNeg, .inl (fun _ => 0))])
    | .long => some (.ref h.length :: r, h ++ [.inl (1, n.toNatClampNeg, .inr (.inl (fun _ => 0)))])
    | .boolean => some (.ref h.length :: r, h ++ [.inl (2, n.toNatClampNeg, .inl (fun _ => 0))])
    | _ => none)
  | _ => none
def sNewQ (k : Nat) (st : List Value) (h : sHp) : Option (List Value × sHp) := match st with
  | .int n :: r => if n < 0 ∨ 100000 < n.toNatClampNeg ∨ ¬ (k = 3 ∨ k = 4) then none else some (.ref h.length :: r, h ++ [.inl (k, n.toNatClampNeg, .inr (.inr (.inr (.inr (fun _ => none)))))])
  | _ => none
def sNewM (st : List Value) (h : sHp) : Option (List Value × sHp) := match st with
  | .int k :: .int n :: r => if n = 5 ∧ k = 6 then some (.ref h.length :: r, h ++ (.inl (5, 5, .inr (.inr (.inr (.inr (fun j => if j < 5 then some (h.length + 1 + j) else none))))) :: List.replicate 5 (.inl (0, 6, .inl (fun _ => 0))))) else none
  | _ => none
/-- the law's script: the row that no cell is; its place is 1000000 -/
abbrev sX : Type := Option (Nat × (Nat → Int32))
def sScr (X : sX) (ins : Instr) (st : List Value) : Option (List Value) := match X with
  | some (L, xs) => (match ins with
    | .arraylength => (match st with
      | .ref a :: r => if a = 1000000 then some (.int (Int32.ofNat L) :: r) else none
      | _ => none)
    | .iaload => (match st with
      | .int i :: .ref a :: r => if a = 1000000 ∧ ¬ (i < 0 ∨ L ≤ i.toNatClampNeg) then some (.int (xs i.toNatClampNeg) :: r) else none
      | _ => none)
    | _ => none)
  | none => none
/-- the words of the text reader: their places in the pool, their letters; the place of the i-th is 2000000 + i -/
def sTxI : List Nat := [69, 70, 72, 74, 76, 78, 80]
def sTxT : List String := ["size", "soil", "road", "well", "oak", "small", "heir"]
def sTxL : List Nat := [4, 4, 4, 4, 3, 5, 4]
def sTxB : List (List Int32) := [[115, 105, 122, 101], [115, 111, 105, 108], [114, 111, 97, 100], [119, 101, 108, 108], [111, 97, 107], [115, 109, 97, 108, 108], [104, 101, 105, 114]]
def sTxC (i j : Nat) : Int32 := (sTxB.getD i []).getD j 0
/-- System.arraycopy of longs -/
def sCpy (st : List Value) (h : sHp) : Option (List Value × sHp) := match st with
  | [.int n, .int dp, .ref a, .int sp, .ref a0] => (match h[a0]?, h[a]? with
    | some (.inl (1, n0, .inr (.inl f))), some (.inl (1, n1, .inr (.inl g))) => if ¬ sp < 0 ∧ ¬ dp < 0 ∧ ¬ n < 0 ∧ sp.toNatClampNeg + n.toNatClampNeg ≤ n0 ∧ dp.toNatClampNeg + n.toNatClampNeg ≤ n1 then some ([], h.set a (.inl (1, n1, .inr (.inl (va_cpy f g sp.toNatClampNeg dp.toNatClampNeg n.toNatClampNeg))))) else none
    | _, _ => none)
  | _ => none
def sHeap (ins : Instr) (st : List Value) (h : sHp) : Option (List Value × sHp) := match ins with
  | .getfield k => sGetF k st h
  | .putfield k => sPutF k st h
  | .iaload => sLdAI 0 st h
  | .baload => sLdAI 2 st h
  | .laload => sLdAL st h
  | .aaload => sLdAA st h
  | .iastore => sStAI st h
  | .bastore => sStAZ st h
  | .lastore => sStAL st h
  | .aastore => sStAA st h
  | .arraylength => sALen st h
  | .new k => sNew k st h
  | .newarray ty => sNewA ty st h
  | .anewarray k => sNewQ k st h
  | .multianewarray _ _ => sNewM st h
  | .ldc2_w k => some (.long (Int64.ofNat k) :: st, h)
  | .ldc k => if k < 4294967296 then some (.int (Int32.ofNat k) :: st, h) else if k < 4294967303 then some (.ref (2000000 + (k - 4294967296)) :: st, h) else none
  | .ldc_w k => some (.int (Int32.ofNat k) :: st, h)
  | .invokestatic k => if k = 1003 then sCpy st h else none
  | _ => none
/-- jumps -/
def sTgt (pc : Nat) (off : Int) : Option Nat := match (pc : Int) + off with
  | .ofNat t => some t
  | _ => none
def sIf (pc : Nat) (off : Int) (b : Bool) (st : List Value) : Option (Nat × List Value) := match sTgt pc off with
  | some t => some (bif b then t else pc + 3, st)
  | none => none
def sC2 (c : Jvm.ClassFile.Cond) (x y : Int32) : Bool := match c with
  | .eq => decide (x = y)
  | .ne => !decide (x = y)
  | .lt => decide (x < y)
  | .ge => decide (y ≤ x)
  | .gt => decide (y < x)
  | .le => decide (x ≤ y)
def sJmp (ins : Instr) (pc : Nat) (st : List Value) : Option (Nat × List Value) := match ins with
  | .goto off => (sTgt pc off).map (fun t => (t, st))
  | .if_icmp c off => (match st with
    | .int y :: .int x :: r => sIf pc off (sC2 c x y) r
    | _ => none)
  | .ifCond c off => (match st with
    | .int x :: r => sIf pc off (sC2 c x 0) r
    | _ => none)
  | .ifnull off => (match st with
    | .null :: r => sIf pc off true r
    | .ref _ :: r => sIf pc off false r
    | _ => none)
  | .ifnonnull off => (match st with
    | .null :: r => sIf pc off false r
    | .ref _ :: r => sIf pc off true r
    | _ => none)
  | .tableswitch dflt lo hi offs => (match st with
    | .int x :: r => if x.toInt < lo ∨ hi < x.toInt then (sTgt pc dflt).map (fun t => (t, r)) else (match offs[(x.toInt - lo).toNat]? with
      | some off => (sTgt pc off).map (fun t => (t, r))
      | none => none)
    | _ => none)
  | .lookupswitch dflt ps => (match st with
    | .int x :: r => (sTgt pc (Op.lookupswitch.offset ps.toList dflt x.toInt)).map (fun t => (t, r))
    | _ => none)
  | _ => none
def sRet (rt : Option FieldType) (ins : Instr) (st : List Value) : Option (Option Value) := match ins with
  | .ireturn => (match st, rt with
    | [.int v], some ty => if narrow ty (.int v) = .int v then some (some (.int v)) else none
    | _, _ => none)
  | .lreturn => (match st, rt with
    | [.long v], some .long => some (some (.long v))
    | _, _ => none)
  | .areturn => (match st, rt with
    | [.ref v], some (.object _) => some (some (.ref v))
    | [.null], some (.object _) => some (some .null)
    | _, _ => none)
  | .return_ => (match st, rt with
    | [], none => some none
    | _, _ => none)
  | _ => none
/-- calls of the library's, with no frame of ours -/
def sSpec (ins : Instr) (st : List Value) : Option (List Value) := match ins with
  | .invokestatic k => if k = 1000 then s2i (fun x y => some (.int (if x < y then y else x))) st else if k = 1001 then s2i (fun x y => some (.int (if y < x then y else x))) st else if k = 1002 then s1i (fun x => .int (if 0 ≤ x then x else 0 - x)) st else none
  | .invokespecial k => if k = 2000 then (match st with
    | .ref _ :: r => some r
    | _ => none) else none
  | _ => none
/-- how many arguments, whose class: of the methods by number -/
def sPop (n : Nat) (st : List Value) : Option (List Value × List Value) := if n ≤ st.length then some ((st.take n).reverse, st.drop n) else none
def sCal (nA ow : Nat → Nat) (vt : Nat → Nat → Nat) (ins : Instr) (st : List Value) (h : sHp) : Option (Nat × List Value × List Value) := match ins with
  | .invokestatic k => (sPop (nA k) st).map (fun q => (k, q.1, q.2))
  | .invokespecial k => (sPop (nA k) st).bind (fun q => match q.2 with
    | .ref b :: r => (match h[b]? with
      | some (.inr _) => some (k, .ref b :: q.1, r)
      | _ => none)
    | _ => none)
  | .invokevirtual k => if k < 1000 then (sPop (nA k) st).bind (fun q => match q.2 with
    | .ref b :: r => (match h[b]? with
      | some (.inr (ci, _)) => if ci = ow k then some (k, .ref b :: q.1, r) else none
      | _ => none)
    | _ => none) else (sPop (vt k 100) st).bind (fun q => match q.2 with
    | .ref b :: r => (match h[b]? with
      | some (.inr (ci, _)) => if sGrp ci = 2 ∧ ci < 11 then some (vt k ci, .ref b :: q.1, r) else none
      | _ => none)
    | _ => none)
  | .invokeinterface k _ => (sPop (k - 3000) st).bind (fun q => match q.2 with
    | .ref a :: r => if 2000000 ≤ a ∧ a < 2000007 then some (k - 2700, .ref a :: q.1, r) else none
    | _ => none)
  | _ => none
def sKnd (ins : Instr) : Nat := match ins with
  | .iload _ => 1
  | .iload_n _ => 1
  | .lload _ => 1
  | .lload_n _ => 1
  | .aload _ => 1
  | .aload_n _ => 1
  | .istore _ => 1
  | .istore_n _ => 1
  | .lstore _ => 1
  | .lstore_n _ => 1
  | .astore _ => 1
  | .astore_n _ => 1
  | .iinc _ _ => 1
  | .getfield _ => 2
  | .putfield _ => 2
  | .iaload => 2
  | .baload => 2
  | .laload => 2
  | .aaload => 2
  | .iastore => 2
  | .bastore => 2
  | .lastore => 2
  | .aastore => 2
  | .arraylength => 2
  | .new _ => 2
  | .newarray _ => 2
  | .anewarray _ => 2
  | .multianewarray _ _ => 2
  | .ldc2_w _ => 2
  | .ldc _ => 2
  | .ldc_w _ => 2
  | .goto _ => 3
  | .if_icmp _ _ => 3
  | .ifCond _ _ => 3
  | .ifnull _ => 3
  | .ifnonnull _ => 3
  | .tableswitch _ _ _ _ => 3
  | .lookupswitch _ _ => 3
  | .ireturn => 4
  | .lreturn => 4
  | .areturn => 4
  | .return_ => 4
  | .invokestatic k => if k < 1000 then 5 else if k = 1003 then 2 else 6
  | .invokeinterface _ _ => 5
  | .invokespecial k => if k < 1000 then 5 else 6
  | .invokevirtual _ => 5
  | _ => 0
abbrev sOr : Type := Option (Option Value × sHp)
def sRun (X : sX) (F : Nat → Option Instr) (rt : Option FieldType) (cal : Instr → List Value → sHp → Option (Nat × List Value × List Value)) (call : Nat → List Value → sHp → sOr) : Nat → Nat → sLo → List Value → sHp → sOr
  | 0, _, _, _, _ => none
  | n + 1, pc, L, st, h => (match F pc with
    | none => none
    | some ins => (match sKnd ins with
      | 0 => (sPure ins st).bind fun st1 => sRun X F rt cal call n (pc + sLen ins) L st1 h
      | 1 => (sLoc ins L st).bind fun q => sRun X F rt cal call n (pc + sLen ins) q.1 q.2 h
      | 2 => (match sScr X ins st with
        | some st1 => sRun X F rt cal call n (pc + sLen ins) L st1 h
        | none => (sHeap ins st h).bind fun q => sRun X F rt cal call n (pc + sLen ins) L q.1 q.2)
      | 3 => (sJmp ins pc st).bind fun q => sRun X F rt cal call n q.1 L q.2 h
      | 4 => (sRet rt ins st).map fun v => (v, h)
      | 5 => (cal ins st h).bind fun q => if (q.2.2.map (fun v => v.category)).sum ≤ 8 then (call q.1 q.2.1 h).bind fun z => sRun X F rt cal call n (pc + 3) L (z.1.toList ++ q.2.2) z.2 else none
      | _ => if (st.map (fun v => v.category)).sum ≤ 10 then (sSpec ins st).bind fun st1 => sRun X F rt cal call n (pc + 3) L st1 h else none))
/-- the locals with which a method begins -/
def sIniA : List Value → sLo
  | [] => []
  | v :: vs => if v.category = 2 then some v :: none :: sIniA vs else some v :: sIniA vs
def sNd (v : Value) : Bool := match v with
  | .double _ => false
  | _ => true
def sIni (nL : Nat) (as : List Value) : Option sLo := if as.all sNd = true ∧ (sIniA as).length ≤ nL then some (sIniA as ++ List.replicate (nL - (sIniA as).length) none) else none
end
section
/-! ===== the words of the tables, by list and place ===== -/
def sTk (i : Nat) : List Jvm.Cond := match i with
  | 0 => k2_sels lw_privs
  | 1 => tables_1_1.filter goodWord
  | 2 => tables_1_2.filter goodWord
  | 3 => tables_1_3.filter goodWord
  | 4 => tables_1_4.filter goodWord
  | 5 => tables_1_5.filter goodWord
  | 6 => tables_1_6.filter goodWord
  | 7 => tables_1_7.filter goodWord
  | _ => []
def sTB : List Jvm.Cond := sTk 0 ++ (sTk 1 ++ (sTk 2 ++ (sTk 3 ++ (sTk 4 ++ (sTk 5 ++ (sTk 6 ++ sTk 7))))))
def sW (p : Nat) : Option Jvm.Cond := (sTk (p / 1000))[p % 1000]?
theorem sTk_in (i : Nat) (w : Jvm.Cond) (hw : w ∈ sTk i) : w ∈ sTB := by
  unfold sTB
  simp only [List.mem_append]
  match i, hw with
  | 0, hw => exact Or.inl hw
  | 1, hw => exact Or.inr (Or.inl hw)
  | 2, hw => exact Or.inr (Or.inr (Or.inl hw))
  | 3, hw => exact Or.inr (Or.inr (Or.inr (Or.inl hw)))
  | 4, hw => exact Or.inr (Or.inr (Or.inr (Or.inr (Or.inl hw))))
  | 5, hw => exact Or.inr (Or.inr (Or.inr (Or.inr (Or.inr (Or.inl hw)))))
  | 6, hw => exact Or.inr (Or.inr (Or.inr (Or.inr (Or.inr (Or.inr (Or.inl hw))))))
  | 7, hw => exact Or.inr (Or.inr (Or.inr (Or.inr (Or.inr (Or.inr (Or.inr hw))))))
  | n + 8, hw => cases hw
theorem sW_in {p : Nat} {w : Jvm.Cond} (h : sW p = some w) : w ∈ sTB := sTk_in _ w (List.mem_of_getElem? h)
theorem sTB_cases {P : Jvm.Cond → Prop} (h0 : ∀ w ∈ k2_sels lw_privs, P w) (h1 : ∀ w ∈ tables_1, goodWord w = true → P w) : ∀ w ∈ sTB, P w := by
  intro w hw
  have hh : w ∈ k2_sels lw_privs ∨ (w ∈ tables_1 ∧ goodWord w = true) := by
    unfold sTB at hw
    simp only [List.mem_append] at hw
    unfold tables_1
    simp only [List.mem_append]
    rcases hw with hw | hw | hw | hw | hw | hw | hw | hw
    · exact Or.inl hw
    all_goals
      have h2 := List.mem_filter.mp hw
      exact Or.inr ⟨by simp [h2.1], h2.2⟩
  rcases hh with h | h
  · exact h0 w h
  · exact h1 w h.1 h.2
theorem sTB_good : ∀ w ∈ sTB, goodWord w = true := sTB_cases (fun w hw => by
  obtain ⟨q, -, rfl⟩ := List.mem_map.mp hw
  rfl) (fun w _ h => h)
theorem sTB_lw : ∀ w ∈ sTB, w ∈ lw_tbl := sTB_cases (fun w hw => List.mem_append_left _ hw) (fun w hw _ => List.mem_append_right _ hw)
theorem sTB_in {ws : List Jvm.Cond} (h : ∀ w ∈ ws, w ∈ sTB) : GoodIn sTB ws := fun w hw => ⟨h w hw, good_of_word (sTB_good w (h w hw))⟩
/-! ===== what the places stand for ===== -/
def sAd (base : Nat) (b : Nat → Nat) (k : Nat) : Nat := if 1000000 ≤ k then b k else base + k
def rV (σ : Nat → Nat) : Value → Value
  | .ref k => .ref (σ k)
  | v => v
def rA (σ : Nat → Nat) (a : vp_A) : vp_A := match a with
  | (n, .inr (.inr (.inr (.inr f)))) => (n, .inr (.inr (.inr (.inr (fun j => (f j).map σ)))))
  | (n, x) => (n, x)
def rC (σ : Nat → Nat) (dA : Nat → ClassId) (c : va_E) : va_E := match c with
  | .inl (t, a) => .inl (dA t, rA σ a)
  | .inr (ci, fs) => .inr (ci, fs.map (rV σ))
def rW (σ : Nat → Nat) (dA : Nat → ClassId) (h : sHp) : va_W := h.mapIdx (fun k c => (σ k, rC σ dA c))
abbrev rS (σ : Nat → Nat) (st : List Value) : List Value := st.map (rV σ)
theorem rV_cat (σ : Nat → Nat) (v : Value) : (rV σ v).category = v.category := by cases v <;> rfl
theorem rV_rf (σ : Nat → Nat) (r : Option Nat) : rV σ (va_rf r) = va_rf (r.map σ) := by cases r <;> rfl
theorem rW_get (σ : Nat → Nat) (dA : Nat → ClassId) (h : sHp) (k : Nat) : (rW σ dA h)[k]? = (h[k]?).map (fun c => (σ k, rC σ dA c)) := by
  unfold rW
  rw [List.getElem?_mapIdx]
theorem rW_at {σ : Nat → Nat} {dA : Nat → ClassId} {h : sHp} {k : Nat} {c : va_E} (hk : h[k]? = some c) : (rW σ dA h)[k]? = some (σ k, rC σ dA c) := by rw [rW_get, hk]; rfl
theorem rW_len (σ : Nat → Nat) (dA : Nat → ClassId) (h : sHp) : (rW σ dA h).length = h.length := by unfold rW; rw [List.length_mapIdx]
theorem rW_set (σ : Nat → Nat) (dA : Nat → ClassId) (h : sHp) (k : Nat) (c : va_E) : (rW σ dA h).set k (σ k, rC σ dA c) = rW σ dA (h.set k c) := by
  apply List.ext_getElem?
  intro i
  rw [rW_get, List.getElem?_set, List.getElem?_set, rW_len]
  by_cases e : k = i
  · subst e
    by_cases hl : k < h.length
    · simp [hl]
    · simp [hl]
  · simp [e, rW_get]
theorem rW_app (σ : Nat → Nat) (dA : Nat → ClassId) (h : sHp) (c : va_E) : rW σ dA (h ++ [c]) = rW σ dA h ++ [(σ h.length, rC σ dA c)] := by
  unfold rW
  rw [List.mapIdx_concat]
theorem rW_apart {base : Nat} {b : Nat → Nat} {dA : Nat → ClassId} {h : sHp} (hl : h.length ≤ 1000000) : va_D (fun q => base ≤ q) (rW (sAd base b) dA h) := by
  have key : ∀ (i : Nat) (p : Nat × va_E), (rW (sAd base b) dA h)[i]? = some p → p.1 = base + i := by
    intro i p hi
    rw [rW_get] at hi
    cases hc : h[i]? with
    | none => rw [hc] at hi; cases hi
    | some c =>
      rw [hc] at hi
      cases hi
      have hlt := (List.getElem?_eq_some_iff.mp hc).1
      show sAd base b i = base + i
      unfold sAd
      rw [if_neg (by omega)]
  refine ⟨fun i j p q hi hj hpq => ?_, fun k q hk => ?_⟩
  · have h1 := key i p hi
    have h2 := key j q hj
    omega
  · have h1 := key k q hk
    show base ≤ q.1
    omega
theorem sAd_in {base : Nat} {b : Nat → Nat} {k : Nat} (h : k < 1000000) : sAd base b k = base + k := by unfold sAd; rw [if_neg (by omega)]
/-- sizes -/
def sSz (c : va_E) : Nat := match c with
  | .inl (_, a) => a.1
  | .inr (_, fs) => fs.length
def sSl : sHp → Nat
  | [] => 0
  | c :: t => sSz c + sSl t
theorem sSl_app (h g : sHp) : sSl (h ++ g) = sSl h + sSl g := by
  induction h with
  | nil => simp [sSl]
  | cons c t ih => rw [List.cons_append, sSl, ih, sSl]; omega
theorem sSl_set {h : sHp} {k : Nat} {c c0 : va_E} (hk : h[k]? = some c0) (hs : sSz c = sSz c0) : sSl (h.set k c) = sSl h := by
  induction h generalizing k with
  | nil => cases hk
  | cons a t ih =>
    cases k with
    | zero =>
      rw [List.getElem?_cons_zero] at hk
      have e := Option.some.inj hk
      show sSz c + sSl t = sSz a + sSl t
      rw [hs, e]
    | succ k =>
      rw [List.getElem?_cons_succ] at hk
      show sSz a + sSl (t.set k c) = sSz a + sSl t
      rw [ih hk]
/-! ===== locals ===== -/
def sEnt (σ : Nat → Nat) (L : sLo) : List (Nat × Value) := (List.range L.length).filterMap (fun i => match L[i]? with
  | some (some v) => some (i, rV σ v)
  | _ => none)
theorem sEnt_mem {σ : Nat → Nat} {L : sLo} {q : Nat × Value} : q ∈ sEnt σ L ↔ ∃ v, L[q.1]? = some (some v) ∧ q.2 = rV σ v := by
  unfold sEnt
  rw [List.mem_filterMap]
  constructor
  · rintro ⟨i, hi, h⟩
    cases hL : L[i]? with
    | none => rw [hL] at h; cases h
    | some o =>
      cases o with
      | none => rw [hL] at h; cases h
      | some v =>
        rw [hL] at h
        cases h
        exact ⟨v, hL, rfl⟩
  · rintro ⟨v, h1, h2⟩
    refine ⟨q.1, List.mem_range.mpr (List.getElem?_eq_some_iff.mp h1).1, ?_⟩
    rw [h1]
    show some (q.1, rV σ v) = some q
    rw [← h2]
theorem lv_mono {ls : Array Slot} {n : Nat} {l l' : List (Nat × Value)} (h : lv_has ls n l) (hs : ∀ q ∈ l', q ∈ l) : lv_has ls n l' := ⟨h.1, h.2.1, fun q hq => h.2.2 q (hs q hq)⟩
theorem sEnt_at {σ : Nat → Nat} {L : sLo} {ls : Array Slot} {n i : Nat} {v : Value} (h : lv_has ls n (sEnt σ L)) (hv : L[i]? = some (some v)) : ls[i]? = some (.val (rV σ v)) := h.2.2 (i, rV σ v) (sEnt_mem.mpr ⟨v, hv, rfl⟩)
theorem sKill_get (L : sLo) (i j : Nat) : (sKill L i)[j]? = if j + 1 = i ∧ sIsL L[j]? = true then some none else L[j]? := by
  unfold sKill
  cases i with
  | zero => simp
  | succ k =>
    show (if sIsL L[k]? = true then L.set k none else L)[j]? = _
    by_cases e : j = k
    · subst e
      by_cases hL : sIsL L[j]? = true
      · rw [if_pos hL, if_pos ⟨rfl, hL⟩, List.getElem?_set_self]
        cases hj : L[j]? with
        | none => rw [hj] at hL; cases hL
        | some o => exact (List.getElem?_eq_some_iff.mp hj).1
      · rw [if_neg hL, if_neg (fun q => hL q.2)]
    · rw [if_neg (show ¬ (j + 1 = k + 1 ∧ _) from fun q => e (by omega))]
      split
      · rw [List.getElem?_set_ne (fun q => e q.symm)]
      · rfl
theorem sKill_len (L : sLo) (i : Nat) : (sKill L i).length = L.length := by
  unfold sKill
  cases i with
  | zero => rfl
  | succ k => show (if _ then L.set k none else L).length = _; split <;> simp
theorem sPut_len (L : sLo) (i : Nat) (v : Value) : (sPut L i v).length = L.length := by unfold sPut; rw [List.length_set, sKill_len]
theorem sPutL_len (L : sLo) (i : Nat) (v : Value) : (sPutL L i v).length = L.length := by unfold sPutL; rw [List.length_set, sPut_len]
theorem sIsL_cat {o : Option (Option Value)} {v : Value} (σ : Nat → Nat) (h : o = some (some v)) (hL : ¬ sIsL o = true) (hd : ∀ x, v ≠ .double x) : ¬ (rV σ v).category = 2 := by
  subst h
  cases v <;> first | (exact fun q => hL rfl) | (exact fun q => hd _ rfl) | (intro q; cases q)
def sNoD (L : sLo) : Prop := ∀ (i : Nat) (x : UInt64), L[i]? ≠ some (some (.double x))
theorem sNoD_put {L : sLo} (h : sNoD L) (i : Nat) {v : Value} (hv : ∀ x, v ≠ .double x) : sNoD (sPut L i v) := by
  intro j x hj
  unfold sPut at hj
  rw [List.getElem?_set] at hj
  split at hj
  · split at hj
    · cases hj; exact hv _ rfl
    · cases hj
  · rw [sKill_get] at hj
    split at hj
    · cases hj
    · exact h j x hj
theorem sNoD_putL {L : sLo} (h : sNoD L) (i : Nat) {v : Value} (hv : ∀ x, v ≠ .double x) : sNoD (sPutL L i v) := by
  intro j x hj
  unfold sPutL at hj
  rw [List.getElem?_set] at hj
  split at hj
  · split at hj
    · cases hj
    · cases hj
  · exact sNoD_put h i hv j x hj
theorem sPut_has {σ : Nat → Nat} {L : sLo} {ls : Array Slot} {n i : Nat} {v : Value} (hd : sNoD L) (h : lv_has ls n ((i, rV σ v) :: (sEnt σ L).filter (fun q => !(q.1 == i) && !(q.1 + 1 == i && q.2.category == 2)))) : lv_has ls n (sEnt σ (sPut L i v)) := by
  refine lv_mono h fun q hq => ?_
  obtain ⟨w, h1, h2⟩ := sEnt_mem.mp hq
  unfold sPut at h1
  rw [List.getElem?_set] at h1
  split at h1
  · rename_i e
    split at h1
    · cases h1
      have : q = (i, rV σ v) := by rw [← h2, e]
      rw [this]
      exact List.mem_cons_self
    · cases h1
  · rename_i e
    rw [sKill_get] at h1
    split at h1
    · cases h1
    · rename_i hk
      refine List.mem_cons_of_mem _ (List.mem_filter.mpr ⟨sEnt_mem.mpr ⟨w, h1, h2⟩, ?_⟩)
      have e1 : (q.1 == i) = false := by rw [beq_eq_false_iff_ne]; exact fun z => e z.symm
      rw [e1]
      by_cases e2 : q.1 + 1 = i
      · have hL : ¬ sIsL L[q.1]? = true := fun z => hk ⟨e2, z⟩
        have hc := sIsL_cat σ h1 hL (fun x z => hd q.1 x (by rw [h1, z]))
        rw [← h2] at hc
        have e3 : (q.2.category == 2) = false := by rw [beq_eq_false_iff_ne]; exact hc
        rw [e3]
        simp
      · have e3 : (q.1 + 1 == i) = false := by rw [beq_eq_false_iff_ne]; exact e2
        rw [e3]
        simp
theorem sPutL_has {σ : Nat → Nat} {L : sLo} {ls : Array Slot} {n i : Nat} {v : Value} (hd : sNoD L) (h : lv_has ls n ((i, rV σ v) :: (sEnt σ L).filter (fun q => !(q.1 == i) && (!(q.1 == i + 1) && !(q.1 + 1 == i && q.2.category == 2))))) : lv_has ls n (sEnt σ (sPutL L i v)) := by
  refine lv_mono h fun q hq => ?_
  obtain ⟨w, h1, h2⟩ := sEnt_mem.mp hq
  unfold sPutL at h1
  rw [List.getElem?_set] at h1
  split at h1
  · split at h1
    · cases h1
    · cases h1
  · rename_i e0
    unfold sPut at h1
    rw [List.getElem?_set] at h1
    split at h1
    · rename_i e
      split at h1
      · cases h1
        have : q = (i, rV σ v) := by rw [← h2, e]
        rw [this]
        exact List.mem_cons_self
      · cases h1
    · rename_i e
      rw [sKill_get] at h1
      split at h1
      · cases h1
      · rename_i hk
        refine List.mem_cons_of_mem _ (List.mem_filter.mpr ⟨sEnt_mem.mpr ⟨w, h1, h2⟩, ?_⟩)
        have e1 : (q.1 == i) = false := by rw [beq_eq_false_iff_ne]; exact fun z => e z.symm
        have e4 : (q.1 == i + 1) = false := by rw [beq_eq_false_iff_ne]; exact fun z => e0 z.symm
        rw [e1, e4]
        by_cases e2 : q.1 + 1 = i
        · have hL : ¬ sIsL L[q.1]? = true := fun z => hk ⟨e2, z⟩
          have hc := sIsL_cat σ h1 hL (fun x z => hd q.1 x (by rw [h1, z]))
          rw [← h2] at hc
          have e3 : (q.2.category == 2) = false := by rw [beq_eq_false_iff_ne]; exact hc
          rw [e3]
          simp
        · have e3 : (q.1 + 1 == i) = false := by rw [beq_eq_false_iff_ne]; exact e2
          rw [e3]
          simp
end
section
/-! ===== the machine does what the simple one does: stack and locals ===== -/
section SND
variable {p : Program} {l : Launch} {e : Env} {R : Room} {s : State} {m : MethodId} {args : Array Value} {below : List Frame} {meth : Method} {c : Code} {H : Heap} {locs : List Loc} {cells slots : Nat} {Q : State → Prop} {cc : ByteArray} {pc : Nat} {ls : Array Slot} {σ : Nat → Nat}
theorem s2i_of {f : Int32 → Int32 → Option Value} {st st' : List Value} (h : s2i f st = some st') : ∃ x y v r, st = .int y :: .int x :: r ∧ f x y = some v ∧ st' = v :: r := by
  unfold s2i at h
  split at h
  · obtain ⟨v, h1, h2⟩ := Option.map_eq_some_iff.mp h
    exact ⟨_, _, v, _, rfl, h1, h2.symm⟩
  · cases h
theorem s2l_of {f : Int64 → Int64 → Option Value} {st st' : List Value} (h : s2l f st = some st') : ∃ x y v r, st = .long y :: .long x :: r ∧ f x y = some v ∧ st' = v :: r := by
  unfold s2l at h
  split at h
  · obtain ⟨v, h1, h2⟩ := Option.map_eq_some_iff.mp h
    exact ⟨_, _, v, _, rfl, h1, h2.symm⟩
  · cases h
theorem sil_of {f : Int64 → Int32 → Option Value} {st st' : List Value} (h : sil f st = some st') : ∃ x y v r, st = .int y :: .long x :: r ∧ f x y = some v ∧ st' = v :: r := by
  unfold sil at h
  split at h
  · obtain ⟨v, h1, h2⟩ := Option.map_eq_some_iff.mp h
    exact ⟨_, _, v, _, rfl, h1, h2.symm⟩
  · cases h
theorem s1i_of {f : Int32 → Value} {st st' : List Value} (h : s1i f st = some st') : ∃ x r, st = .int x :: r ∧ st' = f x :: r := by
  unfold s1i at h
  split at h
  · cases h; exact ⟨_, _, rfl, rfl⟩
  · cases h
theorem s1l_of {f : Int64 → Value} {st st' : List Value} (h : s1l f st = some st') : ∃ x r, st = .long x :: r ∧ st' = f x :: r := by
  unfold s1l at h
  split at h
  · cases h; exact ⟨_, _, rfl, rfl⟩
  · cases h
set_option maxHeartbeats 4000000 in
theorem s_pure (hx : p.tables.exec = Jvm.exec) (hb : c.code = cc) {ins : Instr} {st st' : List Value} (h : sPure ins st = some st') (hdg : decode cc pc = .ok (ins, sLen ins))
    (kk : W p l e R s m args below meth c H locs cells slots Q (F0 m (pc + sLen ins) ls (rS σ st'))) : W p l e R s m args below meth c H locs cells slots Q (F0 m pc ls (rS σ st)) := by
  unfold sPure at h
  split at h
  case h_1 n => cases h; exact lv_iconst hx hb hdg rfl kk
  case h_2 n => cases h; exact lv_bipush hx hb hdg rfl kk
  case h_3 n => cases h; exact lv_sipush hx hb hdg rfl kk
  case h_4 n => cases h; exact lv_lconst hx hb hdg rfl kk
  case h_5 => cases h; exact lv_null hx hb hdg kk
  case h_6 => obtain ⟨x, y, v, r, rfl, h1, rfl⟩ := s2i_of h; cases h1; exact lv_iadd hx hb hdg kk
  case h_7 => obtain ⟨x, y, v, r, rfl, h1, rfl⟩ := s2i_of h; cases h1; exact lv_isub hx hb hdg kk
  case h_8 => obtain ⟨x, y, v, r, rfl, h1, rfl⟩ := s2i_of h; cases h1; exact lv_imul hx hb hdg kk
  case h_9 => obtain ⟨x, y, v, r, rfl, h1, rfl⟩ := s2i_of h; cases h1; exact lv_iand hx hb hdg kk
  case h_10 => obtain ⟨x, y, v, r, rfl, h1, rfl⟩ := s2i_of h; cases h1; exact lv_ior hx hb hdg kk
  case h_11 => obtain ⟨x, y, v, r, rfl, h1, rfl⟩ := s2i_of h; cases h1; exact lv_ixor hx hb hdg kk
  case h_12 =>
    obtain ⟨x, y, v, r, rfl, h1, rfl⟩ := s2i_of h
    by_cases h0 : y = 0
    · rw [if_pos h0] at h1; cases h1
    · rw [if_neg h0] at h1; cases h1; exact lv_idiv hx hb hdg h0 kk
  case h_13 =>
    obtain ⟨x, y, v, r, rfl, h1, rfl⟩ := s2i_of h
    by_cases h0 : y = 0
    · rw [if_pos h0] at h1; cases h1
    · rw [if_neg h0] at h1; cases h1; exact lv_irem hx hb hdg h0 kk
  case h_14 => obtain ⟨x, r, rfl, rfl⟩ := s1i_of h; exact lv_ineg hx hb hdg kk
  case h_15 => obtain ⟨x, y, v, r, rfl, h1, rfl⟩ := s2i_of h; cases h1; exact lv_ishl hx hb hdg kk
  case h_16 => obtain ⟨x, y, v, r, rfl, h1, rfl⟩ := s2i_of h; cases h1; exact lv_ishr hx hb hdg kk
  case h_17 => obtain ⟨x, y, v, r, rfl, h1, rfl⟩ := s2l_of h; cases h1; exact lv_ladd hx hb hdg kk
  case h_18 => obtain ⟨x, y, v, r, rfl, h1, rfl⟩ := s2l_of h; cases h1; exact lv_lsub hx hb hdg kk
  case h_19 => obtain ⟨x, y, v, r, rfl, h1, rfl⟩ := s2l_of h; cases h1; exact lv_land hx hb hdg kk
  case h_20 => obtain ⟨x, y, v, r, rfl, h1, rfl⟩ := s2l_of h; cases h1; exact lv_lor hx hb hdg kk
  case h_21 => obtain ⟨x, y, v, r, rfl, h1, rfl⟩ := s2l_of h; cases h1; exact lv_lxor hx hb hdg kk
  case h_22 => obtain ⟨x, r, rfl, rfl⟩ := s1l_of h; exact lv_lneg hx hb hdg kk
  case h_23 => obtain ⟨x, y, v, r, rfl, h1, rfl⟩ := sil_of h; cases h1; exact lv_lshl hx hb hdg rfl kk
  case h_24 => obtain ⟨x, y, v, r, rfl, h1, rfl⟩ := sil_of h; cases h1; exact lv_lshr hx hb hdg rfl kk
  case h_25 => obtain ⟨x, y, v, r, rfl, h1, rfl⟩ := sil_of h; cases h1; exact lv_lushr hx hb hdg rfl kk
  case h_26 => obtain ⟨x, y, v, r, rfl, h1, rfl⟩ := s2l_of h; cases h1; exact W.lcmp hx hb hdg kk
  case h_27 => obtain ⟨x, r, rfl, rfl⟩ := s1i_of h; exact lv_i2l hx hb hdg rfl kk
  case h_28 => obtain ⟨x, r, rfl, rfl⟩ := s1l_of h; exact lv_l2i hx hb hdg rfl kk
  case h_29 => obtain ⟨x, r, rfl, rfl⟩ := s1i_of h; exact lv_i2b hx hb hdg rfl kk
  case h_30 => obtain ⟨x, r, rfl, rfl⟩ := s1i_of h; exact lv_i2s hx hb hdg rfl kk
  case h_31 => obtain ⟨x, r, rfl, rfl⟩ := s1i_of h; exact lv_i2c hx hb hdg rfl kk
  case h_32 =>
    split at h
    · split at h
      · rename_i hc
        cases h
        exact lv_dup hx hb hdg ((rV_cat σ _).trans hc) kk
      · cases h
    · cases h
  case h_33 =>
    split at h
    · split at h
      · rename_i hc
        cases h
        exact lv_dup_x1 hx hb hdg ((rV_cat σ _).trans hc.1) ((rV_cat σ _).trans hc.2) kk
      · cases h
    · cases h
  case h_34 =>
    split at h
    · split at h
      · rename_i hc
        cases h
        exact lv_dup2_11 hx hb hdg ((rV_cat σ _).trans hc.1) ((rV_cat σ _).trans hc.2) kk
      · cases h
    · cases h
  case h_35 =>
    split at h
    · split at h
      · rename_i hc
        cases h
        exact lv_pop hx hb hdg ((rV_cat σ _).trans hc) kk
      · cases h
    · cases h
  case h_36 =>
    split at h
    · split at h
      · rename_i hc
        cases h
        exact lv_pop2_2 hx hb hdg ((rV_cat σ _).trans hc) kk
      · cases h
    · cases h
  case h_37 => cases h
theorem sLdI_of {L L' : sLo} {i : Nat} {st st' : List Value} (h : sLdI L i st = some (L', st')) : ∃ x, L[i]? = some (some (.int x)) ∧ L' = L ∧ st' = .int x :: st := by
  unfold sLdI at h
  split at h
  · rename_i x hx; cases h; exact ⟨x, hx, rfl, rfl⟩
  · cases h
theorem sLdL_of {L L' : sLo} {i : Nat} {st st' : List Value} (h : sLdL L i st = some (L', st')) : ∃ x, L[i]? = some (some (.long x)) ∧ L' = L ∧ st' = .long x :: st := by
  unfold sLdL at h
  split at h
  · rename_i x hx; cases h; exact ⟨x, hx, rfl, rfl⟩
  · cases h
theorem sLdA_of {L L' : sLo} {i : Nat} {st st' : List Value} (h : sLdA L i st = some (L', st')) : (∃ x, L[i]? = some (some (.ref x)) ∧ L' = L ∧ st' = .ref x :: st) ∨ (L[i]? = some (some .null) ∧ L' = L ∧ st' = .null :: st) := by
  unfold sLdA at h
  split at h
  · rename_i x hx; cases h; exact Or.inl ⟨x, hx, rfl, rfl⟩
  · rename_i hx; cases h; exact Or.inr ⟨hx, rfl, rfl⟩
  · cases h
/-- the locals hold what the simple ones say -/
def sLs (σ : Nat → Nat) (nL : Nat) (L : sLo) (ls : Array Slot) : Prop := L.length = nL ∧ sNoD L ∧ lv_has ls nL (sEnt σ L)
set_option maxHeartbeats 4000000 in
theorem s_loc (hx : p.tables.exec = Jvm.exec) (hb : c.code = cc) {ins : Instr} {nL : Nat} {L L' : sLo} {st st' : List Value} (hl : sLs σ nL L ls) (h : sLoc ins L st = some (L', st')) (hdg : decode cc pc = .ok (ins, sLen ins))
    (kk : ∀ ls' : Array Slot, sLs σ nL L' ls' → W p l e R s m args below meth c H locs cells slots Q (F0 m (pc + sLen ins) ls' (rS σ st'))) : W p l e R s m args below meth c H locs cells slots Q (F0 m pc ls (rS σ st)) := by
  obtain ⟨hn, hd, hv⟩ := hl
  unfold sLoc at h
  split at h
  case h_1 i => obtain ⟨x, h1, rfl, rfl⟩ := sLdI_of h; exact lv_iload hx hb hdg (sEnt_at hv h1) (kk _ ⟨hn, hd, hv⟩)
  case h_2 i => obtain ⟨x, h1, rfl, rfl⟩ := sLdI_of h; exact lv_iload_n hx hb hdg rfl (sEnt_at hv h1) (kk _ ⟨hn, hd, hv⟩)
  case h_3 i => obtain ⟨x, h1, rfl, rfl⟩ := sLdL_of h; exact lv_lload hx hb hdg (sEnt_at hv h1) (kk _ ⟨hn, hd, hv⟩)
  case h_4 i => obtain ⟨x, h1, rfl, rfl⟩ := sLdL_of h; exact lv_lload_n hx hb hdg rfl (sEnt_at hv h1) (kk _ ⟨hn, hd, hv⟩)
  case h_5 i =>
    rcases sLdA_of h with ⟨x, h1, rfl, rfl⟩ | ⟨h1, rfl, rfl⟩
    · exact lv_aload hx hb hdg (sEnt_at hv h1) (kk _ ⟨hn, hd, hv⟩)
    · exact lv_aloadN hx hb hdg (sEnt_at hv h1) (kk _ ⟨hn, hd, hv⟩)
  case h_6 i =>
    rcases sLdA_of h with ⟨x, h1, rfl, rfl⟩ | ⟨h1, rfl, rfl⟩
    · exact lv_aload_n hx hb hdg rfl (sEnt_at hv h1) (kk _ ⟨hn, hd, hv⟩)
    · exact lv_aload_nN hx hb hdg rfl (sEnt_at hv h1) (kk _ ⟨hn, hd, hv⟩)
  case h_7 i =>
    unfold sStI at h
    split at h
    · split at h
      · rename_i hi
        cases h
        exact lv_istore hx hb hdg hv (hn ▸ hi) rfl fun ls' h' => kk ls' ⟨(sPut_len _ _ _).trans hn, sNoD_put hd _ (fun _ q => by cases q), sPut_has hd h'⟩
      · cases h
    · cases h
  case h_8 i =>
    unfold sStI at h
    split at h
    · split at h
      · rename_i hi
        cases h
        exact lv_istore_n hx hb hdg rfl hv (hn ▸ hi) rfl fun ls' h' => kk ls' ⟨(sPut_len _ _ _).trans hn, sNoD_put hd _ (fun _ q => by cases q), sPut_has hd h'⟩
      · cases h
    · cases h
  case h_9 i =>
    unfold sStL at h
    split at h
    · split at h
      · rename_i hi
        cases h
        exact lv_lstore hx hb hdg hv (hn ▸ hi) rfl fun ls' h' => kk ls' ⟨(sPutL_len _ _ _).trans hn, sNoD_putL hd _ (fun _ q => by cases q), sPutL_has hd h'⟩
      · cases h
    · cases h
  case h_10 i =>
    unfold sStL at h
    split at h
    · split at h
      · rename_i hi
        cases h
        exact lv_lstore_n hx hb hdg rfl hv (hn ▸ hi) rfl fun ls' h' => kk ls' ⟨(sPutL_len _ _ _).trans hn, sNoD_putL hd _ (fun _ q => by cases q), sPutL_has hd h'⟩
      · cases h
    · cases h
  case h_11 i =>
    unfold sStA at h
    split at h
    · split at h
      · rename_i hi
        cases h
        exact lv_astore hx hb hdg hv (hn ▸ hi) rfl fun ls' h' => kk ls' ⟨(sPut_len _ _ _).trans hn, sNoD_put hd _ (fun _ q => by cases q), sPut_has (v := .ref _) hd h'⟩
      · cases h
    · split at h
      · rename_i hi
        cases h
        exact lv_astoreN hx hb hdg hv (hn ▸ hi) rfl fun ls' h' => kk ls' ⟨(sPut_len _ _ _).trans hn, sNoD_put hd _ (fun _ q => by cases q), sPut_has (v := .null) hd h'⟩
      · cases h
    · cases h
  case h_12 i =>
    unfold sStA at h
    split at h
    · split at h
      · rename_i hi
        cases h
        exact lv_astore_n hx hb hdg rfl hv (hn ▸ hi) rfl fun ls' h' => kk ls' ⟨(sPut_len _ _ _).trans hn, sNoD_put hd _ (fun _ q => by cases q), sPut_has (v := .ref _) hd h'⟩
      · cases h
    · split at h
      · rename_i hi
        cases h
        exact lv_astore_nN hx hb hdg rfl hv (hn ▸ hi) rfl fun ls' h' => kk ls' ⟨(sPut_len _ _ _).trans hn, sNoD_put hd _ (fun _ q => by cases q), sPut_has (v := .null) hd h'⟩
      · cases h
    · cases h
  case h_13 i n =>
    unfold sInc at h
    split at h
    · rename_i x h1
      cases h
      have hi : i < nL := by rw [← hn]; exact (List.getElem?_eq_some_iff.mp h1).1
      obtain ⟨k, hk⟩ := List.getElem?_of_mem (sEnt_mem (σ := σ) (L := L) (q := (i, .int x)) |>.mpr ⟨_, h1, rfl⟩)
      exact lv_iinc hx hb hdg hv hk rfl hi rfl fun ls' h' => kk ls' ⟨(sPut_len _ _ _).trans hn, sNoD_put hd _ (fun _ q => by cases q), sPut_has (v := .int _) hd h'⟩
    · cases h
  case h_14 => cases h
end SND
end
section
/-! ===== each row of cells: its fields are among the words, their types, their names ===== -/
theorem sU0 : u_ws RX0 TX0 6 = ([2163, 2164, 2165, 2166, 2167, 2168] : List Nat).filterMap sW := by decide +kernel
theorem sU1 : u_ws RX1 TX1 6 = ([2137, 2138, 2139, 2140, 2141, 2142] : List Nat).filterMap sW := by decide +kernel
theorem sU2 : u_ws RX2 TX2 6 = ([2198, 2199, 2200, 2201, 2202, 2203] : List Nat).filterMap sW := by decide +kernel
theorem sU3 : u_ws RX3 TX3 17 = ([1102, 1104, 1106, 1108, 1110, 1112, 1114, 1116, 1118, 1120, 1122, 1124, 1126, 1128, 1130, 1132, 1134] : List Nat).filterMap sW := by decide +kernel
theorem sU4 : u_ws RX4 TX4 6 = ([2176, 2177, 2178, 2179, 2180, 2181] : List Nat).filterMap sW := by decide +kernel
theorem sU5 : u_ws RX5 TX5 6 = ([2150, 2151, 2152, 2153, 2154, 2155] : List Nat).filterMap sW := by decide +kernel
theorem sU6 : u_ws RX6 TX6 4 = ([3106, 3108, 3110, 3112] : List Nat).filterMap sW := by decide +kernel
theorem sU7 : u_ws RX7 TX7 3 = ([1043, 1045, 1047] : List Nat).filterMap sW := by decide +kernel
theorem sU8 : u_ws RX8 TX8 10 = ([1158, 1160, 1162, 1164, 1166, 1168, 1170, 1172, 1174, 1176] : List Nat).filterMap sW := by decide +kernel
theorem sU9 : u_ws RX9 TX9 6 = ([2118, 2120, 2122, 2124, 2126, 2128] : List Nat).filterMap sW := by decide +kernel
theorem sU10 : u_ws RX10 TX10 6 = ([2189, 2190, 2191, 2192, 2193, 2194] : List Nat).filterMap sW := by decide +kernel
theorem sU11 : u_ws RX11 TX11 11 = ([1190, 1192, 1194, 1196, 1198, 1200, 1202, 1204, 1206, 1208, 1210] : List Nat).filterMap sW := by decide +kernel
theorem sU12 : u_ws RX12 TX12 38 = ([5217, 5219, 5221, 5223, 5225, 5227, 5229, 5231, 5233, 5235, 6000, 6002, 6004, 6006, 6008, 6010, 6012, 6014, 6016, 6018, 6020, 6022, 6024, 6026, 6028, 6030, 6032, 6034, 6036, 6038, 6040, 6042, 6044, 6046, 6048, 6050, 6052, 6054] : List Nat).filterMap sW := by decide +kernel
theorem sU_in {ws : List Jvm.Cond} {ps : List Nat} (h : ws = ps.filterMap sW) : ∀ w ∈ ws, w ∈ sTB := by
  intro w hw
  rw [h] at hw
  obtain ⟨p, -, hp⟩ := List.mem_filterMap.mp hw
  exact sW_in hp
def sCF (ci : Nat) (q : vw_C) : Prop := (∀ w ∈ u_ws q.1 q.2.1 q.2.2, w ∈ sTB) ∧ (∀ k, k < q.2.2 → parseFieldDescriptor (q.2.1 k).2.2.1 = some (sTy ci k)) ∧ (∀ a, a < q.2.2 → ∀ b, b < q.2.2 → a ≠ b → (q.2.1 a).2.1 ≠ (q.2.1 b).2.1)
theorem sCF_all : ∀ (ci : Nat) (q : vw_C), vwCl[ci]? = some q → sCF ci q := by
  intro ci q h
  match ci, h with
  | 0, h => cases h; exact ⟨sU_in sU0, tyX0_ok, nmX0⟩
  | 1, h => cases h; exact ⟨sU_in sU1, tyX1_ok, nmX1⟩
  | 2, h => cases h; exact ⟨sU_in sU2, tyX2_ok, nmX2⟩
  | 3, h => cases h; exact ⟨sU_in sU3, tyX3_ok, nmX3⟩
  | 4, h => cases h; exact ⟨sU_in sU4, tyX4_ok, nmX4⟩
  | 5, h => cases h; exact ⟨sU_in sU5, tyX5_ok, nmX5⟩
  | 6, h => cases h; exact ⟨sU_in sU6, tyX6_ok, nmX6⟩
  | 7, h => cases h; exact ⟨sU_in sU7, tyX7_ok, nmX7⟩
  | 8, h => cases h; exact ⟨sU_in sU8, tyX8_ok, nmX8⟩
  | 9, h => cases h; exact ⟨sU_in sU9, tyX9_ok, nmX9⟩
  | 10, h => cases h; exact ⟨sU_in sU10, tyX10_ok, nmX10⟩
  | 11, h => cases h; exact ⟨sU_in sU11, tyX11_ok, nmX11⟩
  | 12, h => cases h; exact ⟨sU_in sU12, tyX12_ok, nmX12⟩
  | k + 13, h => simp [vwCl] at h
end
section
/-! ===== cells ===== -/
def sTys (dA : Nat → ClassId) : List (ClassId × FieldType) := [(dA 0, .int), (dA 1, .long), (dA 2, .boolean), (dA 3, .object RX7), (dA 4, .object RX2), (dA 5, .array .int)]
/-- words that are not carried by the tables alone -/
def sNwl : List Jvm.Cond := [.arrayOver (.object RX7), .arrayOver (.object RX2), .arrayOver (.array .int), .castable RX9 RX2, .castable RX1 RX2, .castable RX5 RX2, .castable RX0 RX2, .castable RX4 RX2, .castable RX10 RX2, .methodLinkNest RX11 21 yX7_init RX11, .methodLinkNest RX11 41 yX8_init RX11]
/-- an object's field; an object of just this kind -/
def sFd (o n d : String) (v : Value) (a : Nat) (A : Nat → Prop) (U : State) (H : Heap) : Prop := ∃ (cf : ClassId) (k : Class) (i : Nat) (f : Field) (cell : Cell), U.fieldFound? o n d = some (cf, k, i, f) ∧ f.isStatic = false ∧ H[a]? = some cell ∧ cell.vm ≠ .unknown ∧ cell.vm.isStatics = false ∧ U.vm.assignable cell.cls cf = true ∧ cell.slots[f.slot]? = some v ∧ ¬ A a
theorem sFd_moved {o n d : String} {v : Value} {a : Nat} {A : Nat → Prop} {u U : State} {H : Heap} (hvm : u.vm.Alike U.vm) (h : sFd o n d v a A u H) : sFd o n d v a A U H := by
  obtain ⟨cf, k, i, f, cell, h1, h2, h3, h4, h5, h6, h7⟩ := h
  obtain ⟨k', hk', -⟩ := State.fieldFound?_setVm hvm h1
  exact ⟨cf, k', i, f, cell, hk', h2, h3, h4, h5, by rw [hvm.assignable]; exact h6, h7⟩
theorem sFd_kept {o n d : String} {v : Value} {a : Nat} {A : Nat → Prop} {U : State} {H H1 : Heap} (h : sFd o n d v a A U H) (hq : ∀ a : Nat, a < H.size → ¬ A a → H1[a]? = H[a]?) : sFd o n d v a A U H1 := by
  obtain ⟨cf, k, i, f, cell, h1, h2, h3, h4, h5, h6, h7, h8⟩ := h
  exact ⟨cf, k, i, f, cell, h1, h2, by rw [hq a (Array.getElem?_eq_some_iff.mp h3).1 h8]; exact h3, h4, h5, h6, h7, h8⟩
theorem sFd_ev {o n d : String} {v : Value} {a : Nat} {A : Nat → Prop} {s : State} {args : Array Value} {oc : Option Outcome} {idx : List Nat} {t : Term} (ht : t.eval args s oc idx s = some (.ref a)) (h : sFd o n d v a A s s.heap) : (Term.field t o n d).eval args s oc idx s = some v := by
  obtain ⟨cf, k, i, f, cell, h1, h2, h3, h4, h5, h6, h7, -⟩ := h
  rw [va_fe ht]
  simp [State.fieldOf?, State.fieldNamed?, h1, h2, h3, h4, h5, h6, h7]
def sEx (C : String) (a : Nat) (A : Nat → Prop) (U : State) (H : Heap) : Prop := ∃ (c : ClassId) (k : Class) (cell : Cell), U.vm.findClass C = some c ∧ H[a]? = some cell ∧ U.vm.classes[c]? = some k ∧ cell.vm.isStatics = false ∧ cell.cls = c ∧ (k.kind = .ordinary → cell.slots.size = k.instanceTypes.size) ∧ ¬ A a
theorem sEx_moved {C : String} {a : Nat} {A : Nat → Prop} {u U : State} {H : Heap} (hvm : u.vm.Alike U.vm) (h : sEx C a A u H) : sEx C a A U H := by
  obtain ⟨c, k, cell, h1, h2, h3, h4, h5, h6, h7⟩ := h
  obtain ⟨k', hk', he⟩ := hvm.2.2 _ _ h3
  exact ⟨c, k', cell, by rw [hvm.findClass]; exact h1, h2, hk', h4, h5, by rw [he]; exact h6, h7⟩
theorem sEx_kept {C : String} {a : Nat} {A : Nat → Prop} {U : State} {H H1 : Heap} (h : sEx C a A U H) (hq : ∀ a : Nat, a < H.size → ¬ A a → H1[a]? = H[a]?) : sEx C a A U H1 := by
  obtain ⟨c, k, cell, h1, h2, h3, h4, h5, h6, h7⟩ := h
  exact ⟨c, k, cell, h1, by rw [hq a (Array.getElem?_eq_some_iff.mp h2).1 h7]; exact h2, h3, h4, h5, h6, h7⟩
theorem sEx_ex {C : String} {a : Nat} {A : Nat → Prop} {s : State} {args : Array Value} {t : Term} (ht : t.eval args s none [] s = some (.ref a)) (h : sEx C a A s s.heap) : (Jvm.Cond.exactly t C).before args s = true := by
  obtain ⟨c, k, cell, h1, h2, h3, h4, h5, h6, h7⟩ := h
  simp only [Cond.before, Cond.holds, Cond.value, ht, h1, h2, h3, h4, h5]
  cases hk : k.kind <;> simp_all
/-- what the text reader's words are, and where -/
def sOuw (base : Nat) (b : Nat → Nat) (U : State) (H : Heap) : Prop := (∀ (i k : Nat) (tx : String), sTxI[i]? = some k → sTxT[i]? = some tx → vk_R RX6 k tx (b (2000000 + i)) U) ∧ (∃ adV : Nat → Nat, ∀ i : Nat, i < 7 → sEx "java/lang/String" (b (2000000 + i)) (fun q => base ≤ q) U H ∧ sFd "java/lang/String" "coder" "B" (.int 0) (b (2000000 + i)) (fun q => base ≤ q) U H ∧ sFd "java/lang/String" "value" "[B" (.ref (adV i)) (b (2000000 + i)) (fun q => base ≤ q) U H ∧ va_T .byte (adV i) (sTxL.getD i 0) (fun j => .int (sTxC i j)) (fun q => base ≤ q) U H) ∧ va_Z "java/lang/String" "COMPACT_STRINGS" "Z" (.int 1) (fun q => base ≤ q) U H ∧ ∃ fmt : Value, fmt.isRef = true ∧ va_Z "jdk/internal/util/Preconditions" "SIOOBE_FORMATTER" "Ljava/util/function/BiFunction;" fmt (fun q => base ≤ q) U H
theorem sOuw_kept {base : Nat} {b : Nat → Nat} {U : State} {H H1 : Heap} (hq : ∀ a : Nat, a < H.size → ¬ base ≤ a → H1[a]? = H[a]?) (h : sOuw base b U H) : sOuw base b U H1 := by
  obtain ⟨h1, ⟨adV, h2⟩, h3, fmt, h5, h4⟩ := h
  exact ⟨h1, ⟨adV, fun i hi => ⟨sEx_kept (h2 i hi).1 hq, sFd_kept (h2 i hi).2.1 hq, sFd_kept (h2 i hi).2.2.1 hq, (h2 i hi).2.2.2.kept hq⟩⟩, h3.kept hq, fmt, h5, h4.kept hq⟩
theorem sOuw_warm {base : Nat} {b : Nat → Nat} {s U : State} {H : Heap} (hW : s.WarmedH U.vm) (h : sOuw base b s H) : sOuw base b U H := by
  obtain ⟨h1, ⟨adV, h2⟩, h3, fmt, h5, h4⟩ := h
  exact ⟨fun i k tx e1 e2 => (h1 i k tx e1 e2).warm hW, ⟨adV, fun i hi => ⟨sEx_moved hW.alike (h2 i hi).1, sFd_moved hW.alike (h2 i hi).2.1, sFd_moved hW.alike (h2 i hi).2.2.1, (h2 i hi).2.2.2.moved hW.alike⟩⟩, h3.moved hW.alike, fmt, h5, h4.moved hW.alike⟩
theorem sOuw_same {base : Nat} {b : Nat → Nat} {s U : State} {H : Heap} (e : s.vm = U.vm) (h : sOuw base b s H) : sOuw base b U H := by
  obtain ⟨h1, ⟨adV, h2⟩, h3, fmt, h5, h4⟩ := h
  have ha : s.vm.Alike U.vm := by rw [e]; exact Vm.Alike.refl _
  exact ⟨fun i k tx e1 e2 => (h1 i k tx e1 e2).same e.symm, ⟨adV, fun i hi => ⟨sEx_moved ha (h2 i hi).1, sFd_moved ha (h2 i hi).2.1, sFd_moved ha (h2 i hi).2.2.1, (h2 i hi).2.2.2.moved ha⟩⟩, h3.moved ha, fmt, h5, h4.moved ha⟩
def sNw (U : State) : Prop := ∀ w ∈ sNwl, w.before #[] U = true
def sEnv (p : Program) (s : State) (m : MethodId) (c : Code) (args : Array Value) (cc : ByteArray) (nL base : Nat) (b : Nat → Nat) (D : va_G) (dA : Nat → ClassId) (own : String) : Prop :=
  p.tables.exec = Jvm.exec ∧ c.code = cc ∧ c.maxLocals = nL ∧ s.vm.findClass own = some m.cls ∧ (∀ w ∈ sTB, w.before args s = true) ∧ va_K D vwCl (sTys dA) s ∧ base ≤ s.heap.size ∧ sNw s ∧ sOuw base b s s.heap
def sSt (base : Nat) (b : Nat → Nat) (D : va_G) (dA : Nat → ClassId) (s : State) (h : sHp) (H : Heap) (locs : List Loc) : Prop := va_P D vwCl (rW (sAd base b) dA h) H ∧ va_S (fun q => base ≤ q) s.heap H locs ∧ h.length ≤ 1000000
section HEAP
variable {p : Program} {l : Launch} {e : Env} {R : Room} {s : State} {m : MethodId} {args : Array Value} {below : List Frame} {meth : Method} {c : Code} {H : Heap} {locs : List Loc} {cells slots : Nat} {Q : State → Prop} {cc : ByteArray} {pc : Nat} {ls : Array Slot} {nL base : Nat} {b : Nat → Nat} {D : va_G} {dA : Nat → ClassId} {own : String}
theorem sFit_ok {σ : Nat → Nat} {ty : FieldType} {v : Value} (h : sFit ty v = true) : narrow ty (rV σ v) = rV σ v ∧ fits ty (rV σ v) = true := by
  unfold sFit at h
  split at h
  · exact ⟨rfl, rfl⟩
  · exact ⟨rfl, rfl⟩
  · rcases of_decide_eq_true h with rfl | rfl
    · exact ⟨show narrow .boolean (.int 0) = .int 0 by decide, show fits .boolean (.int 0) = true by decide⟩
    · exact ⟨show narrow .boolean (.int 1) = .int 1 by decide, show fits .boolean (.int 1) = true by decide⟩
  · exact ⟨rfl, rfl⟩
  · exact ⟨rfl, rfl⟩
  · exact ⟨rfl, rfl⟩
  · exact ⟨rfl, rfl⟩
  · cases h
theorem s_cls {h : sHp} (S : sSt base b D dA s h H locs) {a ci : Nat} {fs : List Value} (ha : h[a]? = some (.inr (ci, fs))) : ∃ q, vwCl[ci]? = some q := by
  have h1 := S.1 a _ (rW_at ha)
  obtain ⟨q, hq, -⟩ := h1
  exact ⟨q, hq⟩
def sSame (ref : String) (q : vw_C) (j : Nat) : Prop := ref = (q.2.1 j).1 ∨ Jvm.Cond.sameField ref (q.2.1 j).1 (q.2.1 j).2.1 (q.2.1 j).2.2.1 ∈ sTB
theorem s_same (hts : ∀ w ∈ sTB, w.before args s = true) {ref : String} {q : vw_C} {j : Nat} (h : sSame ref q j) : ∀ x, s.fieldFound? (q.2.1 j).1 (q.2.1 j).2.1 (q.2.1 j).2.2.1 = some x → s.fieldFound? ref (q.2.1 j).2.1 (q.2.1 j).2.2.1 = some x := by
  intro x hx
  rcases h with e | e
  · rw [e]; exact hx
  · exact u_same (hts _ e) x hx
def sGetOk (own : String) (idx k : Nat) : Prop := ∃ ref : String, ∀ (ci : Nat) (q : vw_C), vwCl[ci]? = some q → sGrp ci = k / 64 → k % 64 < q.2.2 ∧ Jvm.Cond.fieldLink own idx ref (q.2.1 (k % 64)).2.1 (q.2.1 (k % 64)).2.2.1 ∈ sTB ∧ sSame ref q (k % 64)
theorem s_get (E : sEnv p s m c args cc nL base b D dA own) {h h' : sHp} (S : sSt base b D dA s h H locs) {k idx : Nat} (hdg : decode cc pc = .ok (.getfield idx, 3)) (hf : sGetOk own idx k) {st st' : List Value} (hh : sGetF k st h = some (st', h'))
    (kk : h' = h → W p l e R s m args below meth c H locs cells slots Q (F0 m (pc + 3) ls (rS (sAd base b) st'))) : W p l e R s m args below meth c H locs cells slots Q (F0 m pc ls (rS (sAd base b) st)) := by
  obtain ⟨hx, hb, hml, hown, hts, hK, hbs, hnw, hou⟩ := E
  obtain ⟨ref, hf⟩ := hf
  unfold sGetF at hh
  split at hh
  · split at hh
    · rename_i ci fs ha
      split at hh
      · rename_i hg
        split at hh
        · rename_i v hv
          cases hh
          obtain ⟨q, hq⟩ := s_cls S ha
          obtain ⟨f1, f2, f3⟩ := hf ci q hq hg
          obtain ⟨C, T, N⟩ := q
          exact va_get hx hb hts (sCF_all ci _ hq).1 hown hK S.1 _ (rW_at ha) hq (k % 64) f1 (hts _ f2) (s_same hts f3) (v := rV (sAd base b) v) (by rw [List.getElem?_map, hv]; rfl) hdg (kk rfl)
        · cases hh
      · cases hh
    · cases hh
  · cases hh
def sPutOk (own : String) (ini : Prop) (idx k : Nat) : Prop := ∃ ref : String, ∀ (ci : Nat) (q : vw_C), vwCl[ci]? = some q → sGrp ci = k / 64 → k % 64 < q.2.2 ∧ Jvm.Cond.fieldLink own idx ref (q.2.1 (k % 64)).2.1 (q.2.1 (k % 64)).2.2.1 ∈ sTB ∧ sSame ref q (k % 64) ∧ ((q.2.1 (k % 64)).2.2.2 = true → ini ∧ (q.2.1 (k % 64)).1 = own)
theorem s_put (E : sEnv p s m c args cc nL base b D dA own) {h h' : sHp} (S : sSt base b D dA s h H locs) {k idx : Nat} (hdg : decode cc pc = .ok (.putfield idx, 3)) {ini : Prop} (hini : ini → meth.name = "<init>") (hf : sPutOk own ini idx k) {st st' : List Value} (hh : sPutF k st h = some (st', h'))
    (kk : ∀ (H1 : Heap) (locs1 : List Loc), sSt base b D dA s h' H1 locs1 → h'.length = h.length → sSl h' = sSl h → W p l e R s m args below meth c H1 locs1 cells slots Q (F0 m (pc + 3) ls (rS (sAd base b) st'))) : W p l e R s m args below meth c H locs cells slots Q (F0 m pc ls (rS (sAd base b) st)) := by
  obtain ⟨hx, hb, hml, hown, hts, hK, hbs, hnw, hou⟩ := E
  obtain ⟨ref, hf⟩ := hf
  unfold sPutF at hh
  split at hh
  · rename_i v a r
    split at hh
    · rename_i ci fs ha
      split at hh
      · rename_i hg
        cases hh
        obtain ⟨hg, hl, hfit⟩ := hg
        obtain ⟨q, hq⟩ := s_cls S ha
        obtain ⟨f1, f2, f3, f4⟩ := hf ci q hq hg
        obtain ⟨C, T, N⟩ := q
        obtain ⟨c1, c2, c3⟩ := sCF_all ci _ hq
        obtain ⟨n1, n2⟩ := sFit_ok (σ := sAd base b) hfit
        have fin : ∀ (H1 : Heap) (locs1 : List Loc), va_P D vwCl ((rW (sAd base b) dA h).set a (sAd base b a, .inr (ci, (fs.map (rV (sAd base b))).set (k % 64) (rV (sAd base b) v)))) H1 → va_D (fun q => base ≤ q) ((rW (sAd base b) dA h).set a (sAd base b a, .inr (ci, (fs.map (rV (sAd base b))).set (k % 64) (rV (sAd base b) v)))) → va_S (fun q => base ≤ q) s.heap H1 locs1 → W p l e R s m args below meth c H1 locs1 cells slots Q (F0 m (pc + 3) ls (rS (sAd base b) st')) := by
          intro H1 l1 P1 _ S1
          refine kk H1 l1 ⟨?_, S1, by rw [List.length_set]; exact S.2.2⟩ (by rw [List.length_set]) (sSl_set ha (by show (fs.set _ _).length = fs.length; rw [List.length_set]))
          rw [← rW_set]
          show va_P D vwCl ((rW (sAd base b) dA h).set a (sAd base b a, .inr (ci, (fs.set (k % 64) v).map (rV (sAd base b))))) H1
          rw [List.map_set]
          exact P1
        cases hfl : (T (k % 64)).2.2.2 with
        | false => exact va_put hx hb hts c1 (sTy ci) c2 c3 hown hK S.1 (rW_apart S.2.2) S.2.1 a (rW_at ha) hq (k % 64) f1 (hts _ f2) (s_same hts f3) hfl (c2 _ f1) n1 n2 (by rw [List.length_map]; exact hl) hdg fin
        | true =>
          obtain ⟨g1, g2⟩ := f4 hfl
          exact va_putF hx hb hts c1 (sTy ci) c2 c3 hown hK S.1 (rW_apart S.2.2) S.2.1 a (rW_at ha) hq (k % 64) f1 (hts _ f2) (s_same hts f3) hfl (hini g1) g2 (c2 _ f1) n1 n2 (by rw [List.length_map]; exact hl) hdg fin
      · cases hh
    · cases hh
  · cases hh
theorem sUpd_map (σ : Nat → Nat) (f : Nat → Option Nat) (i : Nat) (r : Option Nat) : (fun j => (va_up f i r j).map σ) = va_up (fun j => (f j).map σ) i (r.map σ) := by
  funext j
  unfold va_up
  by_cases e : j = i <;> simp [e]
theorem s_ldAI (E : sEnv p s m c args cc nL base b D dA own) {h h' : sHp} (S : sSt base b D dA s h H locs) (hdg : decode cc pc = .ok (.iaload, 1)) {st st' : List Value} (hh : sLdAI 0 st h = some (st', h'))
    (kk : h' = h → W p l e R s m args below meth c H locs cells slots Q (F0 m (pc + 1) ls (rS (sAd base b) st'))) : W p l e R s m args below meth c H locs cells slots Q (F0 m pc ls (rS (sAd base b) st)) := by
  obtain ⟨hx, hb, hml, hown, hts, hK, hbs, hnw, hou⟩ := E
  unfold sLdAI at hh
  split at hh
  · split at hh
    · rename_i t n f ha
      split at hh
      · rename_i hg
        cases hh
        obtain ⟨rfl, hin⟩ := hg
        exact va_iald hx hb hK S.1 _ 0 (rW_at ha) rfl hin hdg (kk rfl)
      · cases hh
    · cases hh
  · cases hh
theorem s_ldAZ (E : sEnv p s m c args cc nL base b D dA own) {h h' : sHp} (S : sSt base b D dA s h H locs) (hdg : decode cc pc = .ok (.baload, 1)) {st st' : List Value} (hh : sLdAI 2 st h = some (st', h'))
    (kk : h' = h → W p l e R s m args below meth c H locs cells slots Q (F0 m (pc + 1) ls (rS (sAd base b) st'))) : W p l e R s m args below meth c H locs cells slots Q (F0 m pc ls (rS (sAd base b) st)) := by
  obtain ⟨hx, hb, hml, hown, hts, hK, hbs, hnw, hou⟩ := E
  unfold sLdAI at hh
  split at hh
  · split at hh
    · rename_i t n f ha
      split at hh
      · rename_i hg
        cases hh
        obtain ⟨rfl, hin⟩ := hg
        exact va_zald hx hb hK S.1 _ 2 (rW_at ha) rfl hin hdg (kk rfl)
      · cases hh
    · cases hh
  · cases hh
theorem s_ldAL (E : sEnv p s m c args cc nL base b D dA own) {h h' : sHp} (S : sSt base b D dA s h H locs) (hdg : decode cc pc = .ok (.laload, 1)) {st st' : List Value} (hh : sLdAL st h = some (st', h'))
    (kk : h' = h → W p l e R s m args below meth c H locs cells slots Q (F0 m (pc + 1) ls (rS (sAd base b) st'))) : W p l e R s m args below meth c H locs cells slots Q (F0 m pc ls (rS (sAd base b) st)) := by
  obtain ⟨hx, hb, hml, hown, hts, hK, hbs, hnw, hou⟩ := E
  unfold sLdAL at hh
  split at hh
  · split at hh
    · rename_i t n f ha
      split at hh
      · rename_i hg
        cases hh
        obtain ⟨rfl, hin⟩ := hg
        exact va_lald hx hb hK S.1 _ 1 (rW_at ha) rfl hin hdg (kk rfl)
      · cases hh
    · cases hh
  · cases hh
theorem s_ldAA (E : sEnv p s m c args cc nL base b D dA own) {h h' : sHp} (S : sSt base b D dA s h H locs) (hdg : decode cc pc = .ok (.aaload, 1)) {st st' : List Value} (hh : sLdAA st h = some (st', h'))
    (kk : h' = h → W p l e R s m args below meth c H locs cells slots Q (F0 m (pc + 1) ls (rS (sAd base b) st'))) : W p l e R s m args below meth c H locs cells slots Q (F0 m pc ls (rS (sAd base b) st)) := by
  obtain ⟨hx, hb, hml, hown, hts, hK, hbs, hnw, hou⟩ := E
  unfold sLdAA at hh
  split at hh
  · rename_i i a r
    split at hh
    · rename_i t n f ha
      split at hh
      · rename_i hg
        cases hh
        obtain ⟨ht, hin⟩ := hg
        have hlt : i.toNatClampNeg < n := Nat.not_le.mp fun q => hin (Or.inr q)
        have key : ∀ (t0 : Nat) (ty : FieldType), (sTys dA)[t0]? = some (dA t, ty) → ty.isReference = true → W p l e R s m args below meth c H locs cells slots Q (F0 m pc ls (rS (sAd base b) (.int i :: .ref a :: r))) := by
          intro t0 ty h1 h2
          have hPa : H[sAd base b a]? = some (vp_cell (dA t) (n, .inr (.inr (.inr (.inr (fun j => (f j).map (sAd base b))))))) := S.1 _ _ (rW_at ha)
          rw [vp_cell_q] at hPa
          refine W.aald (v := va_rf ((f i.toNatClampNeg).map (sAd base b))) (ty := ty) hx hb hPa ((hK.2 t0 _ h1).1 n (fun j => va_rf ((f j).map (sAd base b)))) h2 (fun q => by cases q) (by rw [arrV_size]; exact hin) (by rw [arrV_read _ _ hlt]) rfl rfl hdg ?_
          have k2 := kk rfl
          rw [rS, List.map_cons, rV_rf] at k2
          exact k2
        rcases ht with rfl | rfl | rfl
        · exact key 3 (.object RX7) rfl rfl
        · exact key 4 (.object RX2) rfl rfl
        · exact key 5 (.array .int) rfl rfl
      · cases hh
    · cases hh
  · cases hh
theorem s_stAI (E : sEnv p s m c args cc nL base b D dA own) {h h' : sHp} (S : sSt base b D dA s h H locs) (hdg : decode cc pc = .ok (.iastore, 1)) {st st' : List Value} (hh : sStAI st h = some (st', h'))
    (kk : ∀ (H1 : Heap) (locs1 : List Loc), sSt base b D dA s h' H1 locs1 → h'.length = h.length → sSl h' = sSl h → W p l e R s m args below meth c H1 locs1 cells slots Q (F0 m (pc + 1) ls (rS (sAd base b) st'))) : W p l e R s m args below meth c H locs cells slots Q (F0 m pc ls (rS (sAd base b) st)) := by
  obtain ⟨hx, hb, hml, hown, hts, hK, hbs, hnw, hou⟩ := E
  unfold sStAI at hh
  split at hh
  · split at hh
    · rename_i t n f ha
      split at hh
      · rename_i hg
        cases hh
        obtain ⟨rfl, hin⟩ := hg
        refine va_iast hx hb hK S.1 (rW_apart S.2.2) S.2.1 _ 0 (rW_at ha) rfl hin hdg fun H1 l1 P1 _ S1 => kk H1 l1 ⟨?_, S1, by rw [List.length_set]; exact S.2.2⟩ (by rw [List.length_set]) (sSl_set ha rfl)
        rw [← rW_set]
        exact P1
      · cases hh
    · cases hh
  · cases hh
theorem s_stAZ (E : sEnv p s m c args cc nL base b D dA own) {h h' : sHp} (S : sSt base b D dA s h H locs) (hdg : decode cc pc = .ok (.bastore, 1)) {st st' : List Value} (hh : sStAZ st h = some (st', h'))
    (kk : ∀ (H1 : Heap) (locs1 : List Loc), sSt base b D dA s h' H1 locs1 → h'.length = h.length → sSl h' = sSl h → W p l e R s m args below meth c H1 locs1 cells slots Q (F0 m (pc + 1) ls (rS (sAd base b) st'))) : W p l e R s m args below meth c H locs cells slots Q (F0 m pc ls (rS (sAd base b) st)) := by
  obtain ⟨hx, hb, hml, hown, hts, hK, hbs, hnw, hou⟩ := E
  unfold sStAZ at hh
  split at hh
  · rename_i x i a r
    split at hh
    · rename_i t n f ha
      split at hh
      · rename_i hg
        cases hh
        obtain ⟨rfl, hx01, hin⟩ := hg
        refine va_zast hx hb hK S.1 (rW_apart S.2.2) S.2.1 _ 2 (rW_at ha) rfl hin hdg fun H1 l1 P1 _ S1 => kk H1 l1 ⟨?_, S1, by rw [List.length_set]; exact S.2.2⟩ (by rw [List.length_set]) (sSl_set ha rfl)
        have hz : vp_nar .boolean x = x := by rcases hx01 with rfl | rfl <;> decide
        rw [hz] at P1
        rw [← rW_set]
        exact P1
      · cases hh
    · cases hh
  · cases hh
theorem s_stAL (E : sEnv p s m c args cc nL base b D dA own) {h h' : sHp} (S : sSt base b D dA s h H locs) (hdg : decode cc pc = .ok (.lastore, 1)) {st st' : List Value} (hh : sStAL st h = some (st', h'))
    (kk : ∀ (H1 : Heap) (locs1 : List Loc), sSt base b D dA s h' H1 locs1 → h'.length = h.length → sSl h' = sSl h → W p l e R s m args below meth c H1 locs1 cells slots Q (F0 m (pc + 1) ls (rS (sAd base b) st'))) : W p l e R s m args below meth c H locs cells slots Q (F0 m pc ls (rS (sAd base b) st)) := by
  obtain ⟨hx, hb, hml, hown, hts, hK, hbs, hnw, hou⟩ := E
  unfold sStAL at hh
  split at hh
  · split at hh
    · rename_i t n f ha
      split at hh
      · rename_i hg
        cases hh
        obtain ⟨rfl, hin⟩ := hg
        refine va_last hx hb hK S.1 (rW_apart S.2.2) S.2.1 _ 1 (rW_at ha) rfl hin hdg fun H1 l1 P1 _ S1 => kk H1 l1 ⟨?_, S1, by rw [List.length_set]; exact S.2.2⟩ (by rw [List.length_set]) (sSl_set ha rfl)
        rw [← rW_set]
        exact P1
      · cases hh
    · cases hh
  · cases hh
theorem s_cpy (E : sEnv p s m c args cc nL base b D dA own) (hsl : ls.size = nL) {h h' : sHp} (S : sSt base b D dA s h H locs) {idx : Nat} (hdg : decode cc pc = .ok (.invokestatic idx, 3)) (w1 : Jvm.Cond.methodLink own idx arraycopyName ∈ sTB) (w2 : Jvm.Cond.native arraycopyName ∈ sTB) (w3 : Jvm.Cond.static arraycopyName ∈ sTB) (w4 : Jvm.Cond.initialized "java/lang/System" ∈ sTB) (hRf : 1 ≤ R.frames) (hRl : 39 ≤ R.locals) {st st' : List Value} (hh : sCpy st h = some (st', h'))
    (kk : ∀ (H1 : Heap) (locs1 : List Loc), sSt base b D dA s h' H1 locs1 → h'.length = h.length → sSl h' = sSl h → W p l e R s m args below meth c H1 locs1 cells slots Q (F0 m (pc + 3) ls (rS (sAd base b) st'))) : W p l e R s m args below meth c H locs cells slots Q (F0 m pc ls (rS (sAd base b) st)) := by
  obtain ⟨hx, hb, hml, hown, hts, hK, hbs, hnw, hou⟩ := E
  unfold sCpy at hh
  split at hh
  · rename_i n dp a sp a0
    split at hh
    · rename_i n0 f n1 g ha0 ha
      split at hh
      · rename_i hg
        cases hh
        obtain ⟨h1, h2, h3, h4, h5⟩ := hg
        refine va_copyl (a := sAd base b a) (rest := []) hx hb (hml.trans hsl.symm) hown (hts _ w1) (hts _ w2) (hts _ w3) (hts _ w4) hK S.1 (rW_apart S.2.2) S.2.1 a0 a 1 1 (rW_at ha0) (rW_at ha) rfl rfl rfl h1 h2 h3 h4 h5 (fun _ _ => rfl) hRf (Nat.le_trans (by decide) hRl) hdg fun H1 l1 P1 _ S1 => kk H1 l1 ⟨?_, S1, by rw [List.length_set]; exact S.2.2⟩ (by rw [List.length_set]) (sSl_set ha rfl)
        rw [← rW_set]
        exact P1
      · cases hh
    · cases hh
  · cases hh
theorem s_ldcS (E : sEnv p s m c args cc nL base b D dA RX6) {i idx : Nat} (hi : i < 7) (hk : sTxI[i]? = some idx) (hdg : decode cc pc = .ok (.ldc idx, 2)) {st : List Value}
    (kk : W p l e R s m args below meth c H locs cells slots Q (F0 m (pc + 2) ls (rS (sAd base b) (.ref (2000000 + i) :: st)))) : W p l e R s m args below meth c H locs cells slots Q (F0 m pc ls (rS (sAd base b) st)) := by
  obtain ⟨hx, hb, hml, hown, hts, hK, hbs, hnw, hou⟩ := E
  obtain ⟨tx, htx⟩ : ∃ tx, sTxT[i]? = some tx := ⟨sTxT[i]'hi, List.getElem?_eq_getElem hi⟩
  refine va_ldcS hx hb hown (hou.1 i idx tx hk htx) hdg ?_
  have e : rS (sAd base b) (.ref (2000000 + i) :: st) = .ref (b (2000000 + i)) :: rS (sAd base b) st := by
    show Value.ref (sAd base b (2000000 + i)) :: _ = _
    unfold sAd
    rw [if_pos (by omega)]
  rw [e] at kk
  exact kk
theorem s_castOk (hnw : sNw s) {ci : Nat} {q : vw_C} (hq : vwCl[ci]? = some q) (hg : sGrp ci = 2) (hl : ci < 11) : ci = 2 ∨ (Jvm.Cond.castable q.1 RX2).before #[] s = true := by
  match ci, hq, hg, hl with
  | 0, hq, _, _ => cases hq; exact Or.inr (hnw _ (by simp [sNwl]))
  | 1, hq, _, _ => cases hq; exact Or.inr (hnw _ (by simp [sNwl]))
  | 2, hq, _, _ => exact Or.inl rfl
  | 3, hq, hg, _ => exact absurd hg (by decide)
  | 4, hq, _, _ => cases hq; exact Or.inr (hnw _ (by simp [sNwl]))
  | 5, hq, _, _ => cases hq; exact Or.inr (hnw _ (by simp [sNwl]))
  | 6, hq, hg, _ => exact absurd hg (by decide)
  | 7, hq, hg, _ => exact absurd hg (by decide)
  | 8, hq, hg, _ => exact absurd hg (by decide)
  | 9, hq, _, _ => cases hq; exact Or.inr (hnw _ (by simp [sNwl]))
  | 10, hq, _, _ => cases hq; exact Or.inr (hnw _ (by simp [sNwl]))
  | k + 11, _, _, hl => omega
theorem s_stAA (E : sEnv p s m c args cc nL base b D dA own) {h h' : sHp} (S : sSt base b D dA s h H locs) (hdg : decode cc pc = .ok (.aastore, 1)) {st st' : List Value} (hh : sStAA st h = some (st', h'))
    (kk : ∀ (H1 : Heap) (locs1 : List Loc), sSt base b D dA s h' H1 locs1 → h'.length = h.length → sSl h' = sSl h → W p l e R s m args below meth c H1 locs1 cells slots Q (F0 m (pc + 1) ls (rS (sAd base b) st'))) : W p l e R s m args below meth c H locs cells slots Q (F0 m pc ls (rS (sAd base b) st)) := by
  obtain ⟨hx, hb, hml, hown, hts, hK, hbs, hnw, hou⟩ := E
  unfold sStAA at hh
  split at hh
  · rename_i q i a r
    split at hh
    · rename_i t n f ha
      split at hh
      · rename_i hg
        cases hh
        obtain ⟨hob, hin⟩ := hg
        have fin : ∀ (H1 : Heap) (l1 : List Loc), va_P D vwCl ((rW (sAd base b) dA h).set a (sAd base b a, .inl (dA t, n, .inr (.inr (.inr (.inr (va_up (fun j => (f j).map (sAd base b)) i.toNatClampNeg (some (sAd base b q))))))))) H1 → va_D (fun q => base ≤ q) ((rW (sAd base b) dA h).set a (sAd base b a, .inl (dA t, n, .inr (.inr (.inr (.inr (va_up (fun j => (f j).map (sAd base b)) i.toNatClampNeg (some (sAd base b q))))))))) → va_S (fun q => base ≤ q) s.heap H1 l1 → W p l e R s m args below meth c H1 l1 cells slots Q (F0 m (pc + 1) ls (rS (sAd base b) st')) := by
          intro H1 l1 P1 _ S1
          refine kk H1 l1 ⟨?_, S1, by rw [List.length_set]; exact S.2.2⟩ (by rw [List.length_set]) (sSl_set ha rfl)
          rw [← rW_set]
          show va_P D vwCl ((rW (sAd base b) dA h).set a (sAd base b a, .inl (dA t, n, .inr (.inr (.inr (.inr (fun j => (va_up f i.toNatClampNeg (some q) j).map (sAd base b)))))))) H1
          rw [sUpd_map]
          exact P1
        unfold sIsObj at hob
        split at hob
        · rename_i ci fs hq
          simp only [Bool.or_eq_true, Bool.and_eq_true, beq_iff_eq, decide_eq_true_eq] at hob
          obtain ⟨qc, hqc⟩ := s_cls S hq
          rcases hob with ⟨rfl, rfl⟩ | ⟨rfl, hg2, hl⟩
          · cases hqc
            refine va_astqM (E := RX7) hx hb hK S.1 (rW_apart S.2.2) S.2.1 _ 3 (rW_at ha) rfl (va_rAny hK S.1 (rW_at hq) rfl ?_) hin hdg fin
            intro comp c0 h1 h2
            cases h1.symm.trans h2
            have h3 := (hK.1 7 _ rfl).2
            cases h3.1.symm.trans h1
            exact va_assign h3
          · refine va_astqM (E := RX2) hx hb hK S.1 (rW_apart S.2.2) S.2.1 _ 4 (rW_at ha) rfl (va_rAny hK S.1 (rW_at hq) hqc ?_) hin hdg fin
            intro comp c0 h1 h2
            rcases s_castOk hnw hqc hg2 hl with rfl | hc
            · cases hqc
              cases h1.symm.trans h2
              have h3 := (hK.1 2 _ rfl).2
              cases h3.1.symm.trans h1
              exact va_assign h3
            · obtain ⟨c3, c4, e3, e4, hasg⟩ := Cond.castable_spec hc
              cases h2.symm.trans e3
              cases h1.symm.trans e4
              exact hasg
        · cases hob
      · cases hh
    · cases hh
  · rename_i i a r
    split at hh
    · rename_i t n f ha
      split at hh
      · rename_i hg
        cases hh
        obtain ⟨ht, hin⟩ := hg
        have fin : ∀ (H1 : Heap) (l1 : List Loc), va_P D vwCl ((rW (sAd base b) dA h).set a (sAd base b a, .inl (dA t, n, .inr (.inr (.inr (.inr (va_up (fun j => (f j).map (sAd base b)) i.toNatClampNeg none))))))) H1 → va_D (fun q => base ≤ q) ((rW (sAd base b) dA h).set a (sAd base b a, .inl (dA t, n, .inr (.inr (.inr (.inr (va_up (fun j => (f j).map (sAd base b)) i.toNatClampNeg none))))))) → va_S (fun q => base ≤ q) s.heap H1 l1 → W p l e R s m args below meth c H1 l1 cells slots Q (F0 m (pc + 1) ls (rS (sAd base b) st')) := by
          intro H1 l1 P1 _ S1
          refine kk H1 l1 ⟨?_, S1, by rw [List.length_set]; exact S.2.2⟩ (by rw [List.length_set]) (sSl_set ha rfl)
          rw [← rW_set]
          show va_P D vwCl ((rW (sAd base b) dA h).set a (sAd base b a, .inl (dA t, n, .inr (.inr (.inr (.inr (fun j => (va_up f i.toNatClampNeg none j).map (sAd base b)))))))) H1
          rw [sUpd_map]
          exact P1
        rcases ht with rfl | rfl
        · exact va_astqN hx hb hK S.1 (rW_apart S.2.2) S.2.1 _ 3 (rW_at ha) rfl hin hdg fin
        · exact va_astqN hx hb hK S.1 (rW_apart S.2.2) S.2.1 _ 4 (rW_at ha) rfl hin hdg fin
      · cases hh
    · cases hh
  · cases hh
theorem rA_len (σ : Nat → Nat) (a : vp_A) : (rA σ a).1 = a.1 := by
  obtain ⟨n, d⟩ := a
  rcases d with d | d | d | d | d <;> rfl
theorem s_alen (E : sEnv p s m c args cc nL base b D dA own) {h h' : sHp} (S : sSt base b D dA s h H locs) (hdg : decode cc pc = .ok (.arraylength, 1)) {st st' : List Value} (hh : sALen st h = some (st', h'))
    (kk : h' = h → W p l e R s m args below meth c H locs cells slots Q (F0 m (pc + 1) ls (rS (sAd base b) st'))) : W p l e R s m args below meth c H locs cells slots Q (F0 m pc ls (rS (sAd base b) st)) := by
  obtain ⟨hx, hb, hml, hown, hts, hK, hbs, hnw, hou⟩ := E
  unfold sALen at hh
  split at hh
  · split at hh
    · rename_i t n d ha
      split at hh
      · rename_i ht
        cases hh
        have hty : ∃ ty, (sTys dA)[t]? = some (dA t, ty) := by
          match t, ht with
          | 0, _ => exact ⟨_, rfl⟩
          | 1, _ => exact ⟨_, rfl⟩
          | 2, _ => exact ⟨_, rfl⟩
          | 3, _ => exact ⟨_, rfl⟩
          | 4, _ => exact ⟨_, rfl⟩
          | 5, _ => exact ⟨_, rfl⟩
        obtain ⟨ty, hty⟩ := hty
        exact va_alen hx hb hK S.1 _ t (rW_at ha) hty (by rw [rA_len]) hdg (kk rfl)
      · cases hh
    · cases hh
  · cases hh
end HEAP
end
section
/-! ===== new cells, constants, jumps, ends ===== -/
section NEW
variable {p : Program} {l : Launch} {e : Env} {R : Room} {s : State} {m : MethodId} {args : Array Value} {below : List Frame} {meth : Method} {c : Code} {H : Heap} {locs : List Loc} {cells slots : Nat} {Q : State → Prop} {cc : ByteArray} {pc : Nat} {ls : Array Slot} {nL base : Nat} {b : Nat → Nat} {D : va_G} {dA : Nat → ClassId} {own : String}
theorem W_size {g : JFrame} (k : H.size ≤ s.heap.size + cells → W p l e R s m args below meth c H locs cells slots Q g) : W p l e R s m args below meth c H locs cells slots Q g := fun T hT X => k (by rw [← hT]; exact X.heapSize) T hT X
theorem s_size {h : sHp} (S : sSt base b D dA s h H locs) (hb : base ≤ s.heap.size) (ac : s.heap.size + cells = base + h.length) (hz : H.size ≤ s.heap.size + cells) : H.size = base + h.length := by
  cases hl : h.length with
  | zero =>
    have := S.2.1.1
    omega
  | succ n =>
    have hn : n < h.length := by omega
    have h1 := (S.1 n _ (rW_at (List.getElem?_eq_getElem hn))).lt
    have h2 : sAd base b n = base + n := sAd_in (by have := S.2.2; omega)
    have h3 : sAd base b n < H.size := h1
    omega
theorem rV_def (σ : Nat → Nat) (ty : FieldType) : rV σ (defaultValue ty) = defaultValue ty := by cases ty <;> rfl
theorem s_push {h : sHp} (S : sSt base b D dA s h H locs) (hs : H.size = base + h.length) (hl : h.length < 1000000) {x : va_E} {H1 : Heap} (hx : va_at D vwCl (base + h.length, rC (sAd base b) dA x) H1) (ho : ∀ q, q < base + h.length → H1[q]? = H[q]?) (hz : H.size ≤ H1.size) : sSt base b D dA s (h ++ [x]) H1 locs := by
  refine ⟨?_, ⟨Nat.le_trans S.2.1.1 hz, fun q h1 h2 => (ho q (by have := S.2.1.1; omega)).trans (S.2.1.2.1 q h1 h2), S.2.1.2.2⟩, by rw [List.length_append]; exact hl⟩
  rw [rW_app, sAd_in hl]
  refine (S.1.kept fun k y hk => ho y.1 (by have := (S.1 k y hk).lt; omega)).app fun k y hk => ?_
  have h0 : k < 1 := (List.getElem?_eq_some_iff.mp hk).1
  rw [show k = 0 by omega] at hk
  cases hk
  exact hx
def sNewOk (own : String) (idx k : Nat) : Prop := ∃ q, vwCl[k]? = some q ∧ Jvm.Cond.classLink own idx q.1 ∈ sTB ∧ Jvm.Cond.instantiable q.1 q.2.2 ∈ sTB ∧ Jvm.Cond.initialized q.1 ∈ sTB
theorem s_new (E : sEnv p s m c args cc nL base b D dA own) {h h' : sHp} (S : sSt base b D dA s h H locs) (ac : s.heap.size + cells = base + h.length) {k idx : Nat} (hdg : decode cc pc = .ok (.new idx, 3)) (hf : sNewOk own idx k) {st st' : List Value} (hh : sNew k st h = some (st', h')) (hl : h'.length ≤ 1000000)
    (hc : cells + (h'.length - h.length) ≤ R.cells) (hs : slots + (sSl h' - sSl h) ≤ R.slots)
    (kk : ∀ (H1 : Heap), sSt base b D dA s h' H1 locs → W p l e R s m args below meth c H1 locs (cells + (h'.length - h.length)) (slots + (sSl h' - sSl h)) Q (F0 m (pc + 3) ls (rS (sAd base b) st'))) : W p l e R s m args below meth c H locs cells slots Q (F0 m pc ls (rS (sAd base b) st)) := by
  obtain ⟨hx, hb, hml, hown, hts, hK, hbs, hnw, hou⟩ := E
  obtain ⟨q, hq, f1, f2, f3⟩ := hf
  unfold sNew at hh
  split at hh
  · cases hh
    have hsz : sSl (h ++ [.inr (k, sDef k)]) - sSl h = q.2.2 := by
      rw [sSl_app]
      show sSl h + ((sDef k).length + 0) - sSl h = _
      have : (sDef k).length = q.2.2 := by unfold sDef sNF; rw [hq, List.length_map, List.length_range]
      omega
    have hln : (h ++ [(.inr (k, sDef k) : va_E)]).length - h.length = 1 := by rw [List.length_append]; simp
    rw [hln] at hc kk
    rw [hsz] at hs kk
    have hl1 : h.length < 1000000 := by rw [List.length_append] at hl; exact hl
    refine W_size fun hz => ?_
    have hH := s_size S hbs ac hz
    obtain ⟨C, T, N⟩ := q
    obtain ⟨c1, c2, c3⟩ := sCF_all k _ hq
    have hKn := hK.1 k _ hq
    refine W.newcK hx hb hown (hts _ f1) (hts _ f2) (hts _ f3) rfl hdg hc hs hKn.2.1 hH fun H1 kC hkC e1 z1 o1 => ?_
    have h2 := kk H1 (s_push S hH hl1 ⟨_, hq, (u_born (sTy k) hts c1 hKn hkC e1 c2).to fun j hj => ?_⟩ o1 (by omega))
    · rw [rS, List.map_cons] at h2
      have e5 : rV (sAd base b) (.ref h.length) = .ref (base + h.length) := by show Value.ref (sAd base b h.length) = _; rw [sAd_in hl1]
      rw [e5] at h2
      exact h2
    · have hN : sNF k = N := by unfold sNF; rw [hq]
      show defaultValue (sTy k j) = vp_V ((sDef k).map (rV (sAd base b))) j
      unfold vp_V sDef
      rw [hN, List.map_map, List.getD_eq_getElem?_getD, List.getElem?_map, List.getElem?_range hj]
      show _ = rV (sAd base b) (defaultValue (sTy k j))
      rw [rV_def]
  · cases hh
theorem s_newAt (E : sEnv p s m c args cc nL base b D dA own) {h : sHp} (S : sSt base b D dA s h H locs) (ac : s.heap.size + cells = base + h.length) {aty : ArrayType} (hdg : decode cc pc = .ok (.newarray aty, 2)) (hw : Jvm.Cond.arrayClass (newarray.typeOf aty) ∈ sTB) {n : Int32} {r : List Value} (hn : ¬ (n < 0 ∨ 100000 < n.toNatClampNeg)) (hl : h.length < 1000000)
    (hc : cells + 1 ≤ R.cells) (hs : slots + n.toNatClampNeg ≤ R.slots) {t : Nat} {d : vp_A} (ht : s.vm.findClass ("[" ++ (newarray.typeOf aty).toString) = some (dA t)) (hb8 : componentBytes (newarray.typeOf aty) ≤ 8) (hd : ∀ cA, vp_cell cA (rA (sAd base b) d) = arrV cA n.toNatClampNeg (fun _ => defaultValue (newarray.typeOf aty)))
    (kk : ∀ (H1 : Heap), sSt base b D dA s (h ++ [.inl (t, d)]) H1 locs → W p l e R s m args below meth c H1 locs (cells + 1) (slots + n.toNatClampNeg) Q (F0 m (pc + 2) ls (rS (sAd base b) (.ref h.length :: r)))) : W p l e R s m args below meth c H locs cells slots Q (F0 m pc ls (rS (sAd base b) (.int n :: r))) := by
  obtain ⟨hx, hb, hml, hown, hts, hK, hbs, hnw, hou⟩ := E
  refine W_size fun hz => ?_
  have hH := s_size S hbs ac hz
  have hn1 : ¬ n < 0 := fun q => hn (Or.inl q)
  have hn2 : n.toNatClampNeg ≤ 100000 := by
    rcases Nat.lt_or_ge 100000 n.toNatClampNeg with q | q
    · exact absurd (Or.inr q) hn
    · exact q
  refine va_newaK hx hb (hts _ hw) rfl hdg rfl hn1 rfl (Nat.le_trans (Nat.mul_le_mul hn2 hb8) (by decide)) hc hs hH fun H1 cA e1 z1 o1 hAr hNm => ?_
  have e : cA = dA t := Option.some.inj (hNm.symm.trans ht)
  subst e
  have h2 := kk H1 (s_push S hH hl (by
    show H1[base + h.length]? = some (vp_cell (dA t) (rA (sAd base b) d))
    rw [hd]
    exact e1) o1 (by omega))
  rw [rS, List.map_cons] at h2
  have e5 : rV (sAd base b) (.ref h.length) = .ref (base + h.length) := by show Value.ref (sAd base b h.length) = _; rw [sAd_in hl]
  rw [e5] at h2
  exact h2
theorem s_newA (E : sEnv p s m c args cc nL base b D dA own) {h h' : sHp} (S : sSt base b D dA s h H locs) (ac : s.heap.size + cells = base + h.length) {aty : ArrayType} (hdg : decode cc pc = .ok (.newarray aty, 2)) (hw : Jvm.Cond.arrayClass (newarray.typeOf aty) ∈ sTB) {st st' : List Value} (hh : sNewA aty st h = some (st', h')) (hl : h'.length ≤ 1000000)
    (hc : cells + (h'.length - h.length) ≤ R.cells) (hs : slots + (sSl h' - sSl h) ≤ R.slots)
    (kk : ∀ (H1 : Heap), sSt base b D dA s h' H1 locs → W p l e R s m args below meth c H1 locs (cells + (h'.length - h.length)) (slots + (sSl h' - sSl h)) Q (F0 m (pc + 2) ls (rS (sAd base b) st'))) : W p l e R s m args below meth c H locs cells slots Q (F0 m pc ls (rS (sAd base b) st)) := by
  have hK : va_K D vwCl (sTys dA) s := E.2.2.2.2.2.1
  have key : ∀ (x : va_E) (n : Nat), sSz x = n → (h ++ [x]).length - h.length = 1 ∧ sSl (h ++ [x]) - sSl h = n := by
    intro x n hx
    refine ⟨by rw [List.length_append]; simp, ?_⟩
    rw [sSl_app]
    show sSl h + (sSz x + 0) - sSl h = n
    omega
  unfold sNewA at hh
  split at hh
  · rename_i n r
    split at hh
    · cases hh
    · rename_i hn
      split at hh
      · cases hh
        obtain ⟨k1, k2⟩ := key (.inl (0, n.toNatClampNeg, .inl (fun _ => 0))) _ rfl
        rw [k1] at hc kk
        rw [k2] at hs kk
        rw [List.length_append] at hl
        exact s_newAt E S ac hdg hw hn hl hc hs (hK.2 0 _ rfl).2 (by decide) (fun cA => rfl) kk
      · cases hh
        obtain ⟨k1, k2⟩ := key (.inl (1, n.toNatClampNeg, .inr (.inl (fun _ => 0)))) _ rfl
        rw [k1] at hc kk
        rw [k2] at hs kk
        rw [List.length_append] at hl
        exact s_newAt E S ac hdg hw hn hl hc hs (hK.2 1 _ rfl).2 (by decide) (fun cA => rfl) kk
      · cases hh
        obtain ⟨k1, k2⟩ := key (.inl (2, n.toNatClampNeg, .inl (fun _ => 0))) _ rfl
        rw [k1] at hc kk
        rw [k2] at hs kk
        rw [List.length_append] at hl
        exact s_newAt E S ac hdg hw hn hl hc hs (hK.2 2 _ rfl).2 (by decide) (fun cA => rfl) kk
      · cases hh
  · cases hh
def sNewQOk (own : String) (idx k : Nat) : Prop := (k = 3 ∧ Jvm.Cond.classLink own idx RX7 ∈ sTB) ∨ (k = 4 ∧ Jvm.Cond.classLink own idx RX2 ∈ sTB)
theorem s_newQ (E : sEnv p s m c args cc nL base b D dA own) {h h' : sHp} (S : sSt base b D dA s h H locs) (ac : s.heap.size + cells = base + h.length) {k idx : Nat} (hdg : decode cc pc = .ok (.anewarray idx, 3)) (hf : sNewQOk own idx k) {st st' : List Value} (hh : sNewQ k st h = some (st', h')) (hl : h'.length ≤ 1000000)
    (hc : cells + (h'.length - h.length) ≤ R.cells) (hs : slots + (sSl h' - sSl h) ≤ R.slots)
    (kk : ∀ (H1 : Heap), sSt base b D dA s h' H1 locs → W p l e R s m args below meth c H1 locs (cells + (h'.length - h.length)) (slots + (sSl h' - sSl h)) Q (F0 m (pc + 3) ls (rS (sAd base b) st'))) : W p l e R s m args below meth c H locs cells slots Q (F0 m pc ls (rS (sAd base b) st)) := by
  obtain ⟨hx, hb, hml, hown, hts, hK, hbs, hnw, hou⟩ := E
  unfold sNewQ at hh
  split at hh
  · rename_i n r
    split at hh
    · cases hh
    · rename_i hn
      cases hh
      have hn1 : ¬ n < 0 := fun q => hn (Or.inl q)
      have hn2 : n.toNatClampNeg ≤ 100000 := by
        rcases Nat.lt_or_ge 100000 n.toNatClampNeg with q | q
        · exact absurd (Or.inr (Or.inl q)) hn
        · exact q
      have k1 : (h ++ [(.inl (k, n.toNatClampNeg, .inr (.inr (.inr (.inr (fun _ => none))))) : va_E)]).length - h.length = 1 := by rw [List.length_append]; simp
      have k2 : sSl (h ++ [(.inl (k, n.toNatClampNeg, .inr (.inr (.inr (.inr (fun _ => none))))) : va_E)]) - sSl h = n.toNatClampNeg := by
        rw [sSl_app]
        show sSl h + (n.toNatClampNeg + 0) - sSl h = _
        omega
      rw [k1] at hc kk
      rw [k2] at hs kk
      rw [List.length_append] at hl
      have hl1 : h.length < 1000000 := hl
      refine W_size fun hz => ?_
      have hH := s_size S hbs ac hz
      have go : ∀ (C : String), Jvm.Cond.classLink own idx C ∈ sTB → (Jvm.Cond.arrayOver (.object C)).before #[] s = true → s.vm.findClass ("[" ++ (FieldType.object C).toString) = some (dA k) → W p l e R s m args below meth c H locs cells slots Q (F0 m pc ls (rS (sAd base b) (.int n :: r))) := by
        intro C w1 w2 w3
        refine W.anew hx hb hown (hts _ w1) (va_AO.use w2) rfl hdg rfl hn1 (by omega) hc hs fun cA kA comp f1 f2 f3 f4 => ?_
        have e : cA = dA k := Option.some.inj (f1.symm.trans w3)
        subst e
        have h2 := kk _ (s_push (H1 := H.push { cls := dA k, slots := Array.replicate n.toNatClampNeg .null, vm := .none }) S hH hl1 (by
          show (H.push _)[base + h.length]? = some (vp_cell (dA k) (n.toNatClampNeg, .inr (.inr (.inr (.inr (fun _ => none))))))
          rw [vp_cell_q, ← hH, Array.getElem?_push_size, arrV_new]
          rfl) (fun q hq => by rw [Array.getElem?_push, if_neg (by omega)]) (by rw [Array.size_push]; omega))
        rw [rS, List.map_cons] at h2
        have e5 : rV (sAd base b) (.ref h.length) = .ref H.size := by show Value.ref (sAd base b h.length) = _; rw [sAd_in hl1, hH]
        rw [e5] at h2
        exact h2
      rcases hf with ⟨rfl, hf⟩ | ⟨rfl, hf⟩
      · obtain ⟨_, _, _, _, _, w⟩ := (hK.2 3 _ rfl).2
        exact go RX7 hf (hnw _ (by simp [sNwl])) w
      · obtain ⟨_, _, _, _, _, w⟩ := (hK.2 4 _ rfl).2
        exact go RX2 hf (hnw _ (by simp [sNwl])) w
  · cases hh
/-! jumps -/
theorem sTgt_of {off : Int} {t : Nat} (h : sTgt pc off = some t) : (pc : Int) + off = (t : Int) := by
  unfold sTgt at h
  split at h
  · rename_i t' e
    cases h
    exact e
  · cases h
theorem sIf_of {off : Int} {bb : Bool} {r st' : List Value} {pc' : Nat} (h : sIf pc off bb r = some (pc', st'))   : ∃ t : Nat, (pc : Int) + off = (t : Int) ∧ pc' = (bif bb then t else pc + 3) ∧ st' = r := by
  unfold sIf at h
  split at h
  · rename_i t e
    cases h
    exact ⟨t, sTgt_of e, rfl, rfl⟩
  · cases h
set_option maxHeartbeats 4000000 in
theorem s_jmp (hx : p.tables.exec = Jvm.exec) (hb : c.code = cc) {σ : Nat → Nat} {ins : Instr} {pc' len : Nat} {st st' : List Value} (h : sJmp ins pc st = some (pc', st')) (hdg : decode cc pc = .ok (ins, len)) (hlen : (∃ d lo hi o, ins = .tableswitch d lo hi o) ∨ (∃ d ps, ins = .lookupswitch d ps ∧ (ps.toList.zip (ps.toList.drop 1)).all (fun (a, next) => a.1 < next.1) = true) ∨ (len = 3 ∧ ∀ d ps, ins ≠ .lookupswitch d ps))
    (kk : W p l e R s m args below meth c H locs cells slots Q (F0 m pc' ls (rS σ st'))) : W p l e R s m args below meth c H locs cells slots Q (F0 m pc ls (rS σ st)) := by
  unfold sJmp at h
  split at h
  · rename_i off
    rcases hlen with ⟨_, _, _, _, q⟩ | ⟨_, _, q, _⟩ | ⟨rfl, -⟩
    · cases q
    · cases q
    obtain ⟨t, h1, h2⟩ := Option.map_eq_some_iff.mp h
    cases h2
    exact lv_goto hx hb hdg (sTgt_of h1) kk
  · rename_i cnd off
    rcases hlen with ⟨_, _, _, _, q⟩ | ⟨_, _, q, _⟩ | ⟨rfl, -⟩
    · cases q
    · cases q
    split at h
    · rename_i y x r
      obtain ⟨t, ht, h2, rfl⟩ := sIf_of h
      subst h2
      cases cnd
      · exact lv_icmp_eq hx hb hdg ht (fun q => by rw [show sC2 .eq x y = true from decide_eq_true q] at kk; exact kk) (fun q => by rw [show sC2 .eq x y = false from decide_eq_false q] at kk; exact kk)
      · exact lv_icmp_ne hx hb hdg ht (fun q => by rw [show sC2 .ne x y = true from by show (!decide (x = y)) = true; rw [decide_eq_false q]; rfl] at kk; exact kk) (fun q => by rw [show sC2 .ne x y = false from by show (!decide (x = y)) = false; rw [decide_eq_true q]; rfl] at kk; exact kk)
      · exact lv_icmp_lt hx hb hdg ht (fun q => by rw [show sC2 .lt x y = true from decide_eq_true q] at kk; exact kk) (fun q => by rw [show sC2 .lt x y = false from decide_eq_false q] at kk; exact kk)
      · exact lv_icmp_ge hx hb hdg ht (fun q => by rw [show sC2 .ge x y = true from decide_eq_true q] at kk; exact kk) (fun q => by rw [show sC2 .ge x y = false from decide_eq_false q] at kk; exact kk)
      · exact lv_icmp_gt hx hb hdg ht (fun q => by rw [show sC2 .gt x y = true from decide_eq_true q] at kk; exact kk) (fun q => by rw [show sC2 .gt x y = false from decide_eq_false q] at kk; exact kk)
      · exact lv_icmp_le hx hb hdg ht (fun q => by rw [show sC2 .le x y = true from decide_eq_true q] at kk; exact kk) (fun q => by rw [show sC2 .le x y = false from decide_eq_false q] at kk; exact kk)
    · cases h
  · rename_i cnd off
    rcases hlen with ⟨_, _, _, _, q⟩ | ⟨_, _, q, _⟩ | ⟨rfl, -⟩
    · cases q
    · cases q
    split at h
    · rename_i x r
      obtain ⟨t, ht, h2, rfl⟩ := sIf_of h
      subst h2
      cases cnd
      · exact lv_if_eq hx hb hdg ht (fun q => by rw [show sC2 .eq x 0 = true from decide_eq_true q] at kk; exact kk) (fun q => by rw [show sC2 .eq x 0 = false from decide_eq_false q] at kk; exact kk)
      · exact lv_if_ne hx hb hdg ht (fun q => by rw [show sC2 .ne x 0 = true from by show (!decide (x = 0)) = true; rw [decide_eq_false q]; rfl] at kk; exact kk) (fun q => by rw [show sC2 .ne x 0 = false from by show (!decide (x = 0)) = false; rw [decide_eq_true q]; rfl] at kk; exact kk)
      · exact lv_if_lt hx hb hdg ht (fun q => by rw [show sC2 .lt x 0 = true from decide_eq_true q] at kk; exact kk) (fun q => by rw [show sC2 .lt x 0 = false from decide_eq_false q] at kk; exact kk)
      · exact lv_if_ge hx hb hdg ht (fun q => by rw [show sC2 .ge x 0 = true from decide_eq_true q] at kk; exact kk) (fun q => by rw [show sC2 .ge x 0 = false from decide_eq_false q] at kk; exact kk)
      · exact lv_if_gt hx hb hdg ht (fun q => by rw [show sC2 .gt x 0 = true from decide_eq_true q] at kk; exact kk) (fun q => by rw [show sC2 .gt x 0 = false from decide_eq_false q] at kk; exact kk)
      · exact lv_if_le hx hb hdg ht (fun q => by rw [show sC2 .le x 0 = true from decide_eq_true q] at kk; exact kk) (fun q => by rw [show sC2 .le x 0 = false from decide_eq_false q] at kk; exact kk)
    · cases h
  · rename_i off
    rcases hlen with ⟨_, _, _, _, q⟩ | ⟨_, _, q, _⟩ | ⟨rfl, -⟩
    · cases q
    · cases q
    split at h
    · obtain ⟨t, ht, h2, rfl⟩ := sIf_of h
      subst h2
      exact lv_ifnullN hx hb hdg ht kk
    · obtain ⟨t, ht, h2, rfl⟩ := sIf_of h
      subst h2
      exact lv_ifnull hx hb hdg kk
    · cases h
  · rename_i off
    rcases hlen with ⟨_, _, _, _, q⟩ | ⟨_, _, q, _⟩ | ⟨rfl, -⟩
    · cases q
    · cases q
    split at h
    · obtain ⟨t, ht, h2, rfl⟩ := sIf_of h
      subst h2
      exact lv_ifnonnullN hx hb hdg kk
    · obtain ⟨t, ht, h2, rfl⟩ := sIf_of h
      subst h2
      exact lv_ifnonnull hx hb hdg ht kk
    · cases h
  · rename_i dflt lo hi offs
    split at h
    · rename_i x r
      split at h
      · rename_i hc
        obtain ⟨t, h1, h2⟩ := Option.map_eq_some_iff.mp h
        cases h2
        exact lv_tableOut hx hb hdg hc (sTgt_of h1) kk
      · rename_i hc
        split at h
        · rename_i off ho
          obtain ⟨t, h1, h2⟩ := Option.map_eq_some_iff.mp h
          cases h2
          exact lv_tableIn hx hb hdg (fun q => hc (Or.inl q)) (fun q => hc (Or.inr q)) ho (sTgt_of h1) kk
        · cases h
    · cases h
  · rename_i dflt ps
    rcases hlen with ⟨_, _, _, _, q⟩ | ⟨_, _, q, hp⟩ | ⟨-, q⟩
    · cases q
    · cases q
      split at h
      · rename_i x r
        obtain ⟨t, h1, h2⟩ := Option.map_eq_some_iff.mp h
        cases h2
        exact lv_lookup hx hb hdg hp rfl (sTgt_of h1) kk
      · cases h
    · exact absurd rfl (q _ _)
  · cases h
/-! ends -/
theorem s_ret (hx : p.tables.exec = Jvm.exec) (hb : c.code = cc) {σ : Nat → Nat} {Qc : Array Value → State → Outcome → State → Prop} {free : Addr → Prop} {rt : Option FieldType} {ins : Instr} {st : List Value} {v : Option Value} (h : sRet rt ins st = some v) (hr : meth.sig.returnType = rt) (hlocks : meth.locks = false)
    (hq : ∀ t : State, t.heap = H → s.WarmedH t.vm → Qc args s (.returned (v.map (rV σ))) t) (hf : ∀ q ∈ locs, free q.base) (hdg : decode cc pc = .ok (ins, 1)) : W p l e R s m args below meth c H locs cells slots (MQ below Qc args s cells slots free) (F0 m pc ls (rS σ st)) := by
  unfold sRet at h
  split at h
  · split at h
    · split at h
      · rename_i hn
        cases h
        exact W.zret hx hb hr hn hq hf hdg hlocks
      · cases h
    · cases h
  · split at h
    · cases h
      exact W.lret hx hb hr hq hf hdg hlocks
    · cases h
  · split at h
    · cases h
      exact W.aret hx hb hr (Or.inl ⟨_, rfl⟩) (Or.inr ⟨_, rfl⟩) hq hf hdg hlocks
    · cases h
      exact W.aret hx hb hr (Or.inl ⟨_, rfl⟩) (Or.inl rfl) hq hf hdg hlocks
    · cases h
  · split at h
    · cases h
      exact W.vret hx hb hr hq hf hdg hlocks
    · cases h
  · cases h
end NEW
end
section
/-! ===== the rows are what the bytes say, and their words stand in the tables ===== -/
def mY (q : sMt) : MethodName := q.1
def mC (q : sMt) : ByteArray := q.2.1
def mN (q : sMt) : Nat := q.2.2.1
def mR (q : sMt) : Option FieldType := q.2.2.2.1
def mK (q : sMt) : Nat := q.2.2.2.2.1
def mI (q : sMt) : Nat := q.2.2.2.2.2.1
def mA (q : sMt) : Nat := q.2.2.2.2.2.2.1
def mW (q : sMt) : List Nat := q.2.2.2.2.2.2.2.1
def mT (q : sMt) : List sEt := q.2.2.2.2.2.2.2.2
def sM (k : Nat) : Option sMt := sMs[k]?
def sNA (k : Nat) : Nat := match sM k with
  | some q => mA q
  | none => 0
def sOwn (k : Nat) : Nat := match sM k with
  | some q => mI q
  | none => 99
def sFt (q : sMt) (pc : Nat) : Option Instr := match (mT q).find? (fun e => e.1 == pc) with
  | some e => some e.2.2.1
  | none => none
/-- length and charAt of the words -/
def sStC (d k : Nat) (as : List Value) (h : sHp) : sOr := match as with
  | [.ref a] => if k = 300 ∧ 1 ≤ d ∧ 2000000 ≤ a ∧ a < 2000007 then some (some (.int (Int32.ofNat (sTxL.getD (a - 2000000) 0))), h) else none
  | [.ref a, .int i] => if k = 301 ∧ 3 ≤ d ∧ (2000000 ≤ a ∧ a < 2000007) ∧ ¬ (i < 0 ∨ sTxL.getD (a - 2000000) 0 ≤ i.toNatClampNeg) then some (some (.int (sTxC (a - 2000000) i.toNatClampNeg)), h) else none
  | _ => none
def sCall : Nat → Nat → Nat → List Value → sHp → sOr
  | 0, _, _, _, _ => none
  | d + 1, n, k, as, h => if 300 ≤ k then sStC d k as h else (sM k).bind fun q => (sIni (mN q) as).bind fun L => sRun none (sFt q) (mR q) (sCal sNA sOwn sVt) (sCall d n) n 0 L [] h
def sCN (ci : Nat) : String := match vwCl[ci]? with
  | some q => q.1
  | none => ""
def sWi (p : Nat) (w : Jvm.Cond) : Bool := decide (sW p = some w)
theorem sWi_in {p : Nat} {w : Jvm.Cond} (h : sWi p w = true) : w ∈ sTB := sW_in (of_decide_eq_true h)
def sR1 (i : Instr) (r : List Nat) (f : Nat → Instr) : Instr := match r with
  | x :: _ => f x
  | [] => i
def sReal (i : Instr) (r : List Nat) : Instr := match i with
  | .getfield k => sR1 (.getfield k) r (fun x => .getfield x)
  | .putfield k => sR1 (.putfield k) r (fun x => .putfield x)
  | .new k => sR1 (.new k) r (fun x => .new x)
  | .anewarray k => sR1 (.anewarray k) r (fun x => .anewarray x)
  | .multianewarray k d => sR1 (.multianewarray k d) r (fun x => .multianewarray x d)
  | .ldc2_w k => sR1 (.ldc2_w k) r (fun x => .ldc2_w x)
  | .ldc k => sR1 (.ldc k) r (fun x => .ldc x)
  | .ldc_w k => sR1 (.ldc_w k) r (fun x => .ldc_w x)
  | .invokevirtual k => sR1 (.invokevirtual k) r (fun x => .invokevirtual x)
  | .invokestatic k => sR1 (.invokestatic k) r (fun x => .invokestatic x)
  | .invokespecial k => sR1 (.invokespecial k) r (fun x => .invokespecial x)
  | .invokeinterface k c => sR1 (.invokeinterface k c) r (fun x => .invokevirtual x)
  | i => i
def sAllC (P : Nat → vw_C → Bool) : Bool := (List.range 13).all (fun ci => match vwCl[ci]? with
  | some q => P ci q
  | none => true)
theorem sAllC_of {P : Nat → vw_C → Bool} (h : sAllC P = true) (ci : Nat) (q : vw_C) (hq : vwCl[ci]? = some q) : P ci q = true := by
  have hl : ci < 13 := (List.getElem?_eq_some_iff.mp hq).1
  have h1 := List.all_eq_true.mp h ci (List.mem_range.mpr hl)
  rw [hq] at h1
  exact h1
def sChkG (own : String) (k idx p1 rc p2 : Nat) : Bool := sAllC (fun ci q => !(sGrp ci == k / 64) || (decide (k % 64 < q.2.2) && sWi p1 (.fieldLink own idx (sCN rc) (q.2.1 (k % 64)).2.1 (q.2.1 (k % 64)).2.2.1) && (decide (sCN rc = (q.2.1 (k % 64)).1) || sWi p2 (.sameField (sCN rc) (q.2.1 (k % 64)).1 (q.2.1 (k % 64)).2.1 (q.2.1 (k % 64)).2.2.1))))
def sChkF (own nm : String) (k : Nat) : Bool := sAllC (fun ci q => !(sGrp ci == k / 64) || (!(q.2.1 (k % 64)).2.2.2 || (decide (nm = "<init>") && decide ((q.2.1 (k % 64)).1 = own))))
theorem sChkG_ok {own : String} {k idx p1 rc p2 : Nat} (h : sChkG own k idx p1 rc p2 = true) : sGetOk own idx k := by
  refine ⟨sCN rc, fun ci q hq hg => ?_⟩
  have h1 := sAllC_of h ci q hq
  simp only [Bool.or_eq_true, Bool.and_eq_true, Bool.not_eq_true', beq_eq_false_iff_ne, decide_eq_true_eq] at h1
  rcases h1 with h1 | ⟨⟨h1, h2⟩, h3⟩
  · exact absurd hg h1
  · exact ⟨h1, sWi_in h2, h3.imp id sWi_in⟩
theorem sChkF_ok {own nm : String} {k idx p1 rc p2 : Nat} (h : sChkG own k idx p1 rc p2 = true) (h' : sChkF own nm k = true) : sPutOk own (nm = "<init>") idx k := by
  obtain ⟨ref, h0⟩ := sChkG_ok h
  refine ⟨ref, fun ci q hq hg => ?_⟩
  obtain ⟨f1, f2, f3⟩ := h0 ci q hq hg
  refine ⟨f1, f2, f3, fun hf => ?_⟩
  have h1 := sAllC_of h' ci q hq
  simp only [Bool.or_eq_true, Bool.and_eq_true, Bool.not_eq_true', beq_eq_false_iff_ne, decide_eq_true_eq] at h1
  rcases h1 with h1 | h1 | h1
  · exact absurd hg h1
  · rw [hf] at h1; cases h1
  · exact h1
/-- the names under which a cut's calls stand -/
def sFx (k : Nat) : MethodName := match k with
  | 1000 => yX2_isOf
  | 1001 => yX2_firstIn
  | 1002 => yX2_laneIn
  | 1003 => yX2_partsBody
  | 1004 => yX2_weighsBody
  | _ => yX2_hedgesBody
def sFn (k : Nat) : Nat := sVt k 2
def sSup (own : String) (idx p p2 p3 : Nat) (y : MethodName) : Bool := sWi p (.methodLink own idx y) && sWi p2 (.sameMethod y.cls y.cls y.name y.desc) && sWi p3 (.superclass own y.cls)
/-- a method that the superclass itself has from above -/
def sSup2 (own : String) (idx p p2 p3 p4 : Nat) (y : MethodName) : Bool := match sW p with
  | some (.methodLink o i x) => decide (o = own ∧ i = idx ∧ x.name = y.name ∧ x.desc = y.desc) && (sWi p2 (.sameMethod x.cls y.cls y.name y.desc) && (sWi p3 (.superclass own x.cls) && sWi p4 (.superclass x.cls y.cls)))
  | _ => false
theorem sSup2_of {own : String} {idx p p2 p3 p4 : Nat} {y : MethodName} (h : sSup2 own idx p p2 p3 p4 y = true) : ∃ xc : String, Jvm.Cond.methodLink own idx ⟨xc, y.name, y.desc⟩ ∈ sTB ∧ Jvm.Cond.sameMethod xc y.cls y.name y.desc ∈ sTB ∧ Jvm.Cond.superclass own xc ∈ sTB ∧ Jvm.Cond.superclass xc y.cls ∈ sTB := by
  unfold sSup2 at h
  split at h
  · rename_i o i x hw
    simp only [Bool.and_eq_true, decide_eq_true_eq] at h
    obtain ⟨⟨rfl, rfl, e1, e2⟩, h2, h3, h4⟩ := h
    obtain ⟨xc, xn, xd⟩ := x
    dsimp only at e1 e2 h2 h3 h4
    subst e1 e2
    exact ⟨xc, sW_in hw, sWi_in h2, sWi_in h3, sWi_in h4⟩
  · cases h
def sExt (own nm : String) (ins : Instr) (r : List Nat) : Bool := match ins with
  | .getfield k => (match r with
    | [idx, p1, rc, p2] => sChkG own k idx p1 rc p2
    | _ => false)
  | .putfield k => (match r with
    | [idx, p1, rc, p2] => sChkG own k idx p1 rc p2 && sChkF own nm k
    | _ => false)
  | .new k => (match r, vwCl[k]? with
    | [idx, p1, p2, p3], some q => sWi p1 (.classLink own idx q.1) && sWi p2 (.instantiable q.1 q.2.2) && sWi p3 (.initialized q.1)
    | _, _ => false)
  | .newarray t => (match r with
    | [p] => sWi p (.arrayClass (newarray.typeOf t))
    | _ => false)
  | .anewarray k => (match r with
    | [idx, p] => (k == 3 && sWi p (.classLink own idx RX7)) || (k == 4 && sWi p (.classLink own idx RX2))
    | _ => false)
  | .multianewarray k d => (match r with
    | [idx, p, p2] => d == 2 && (sWi p (.classLink own idx ("[" ++ (FieldType.array .int).toString)) && sWi p2 (.arrayClass .int))
    | _ => false)
  | .ldc2_w k => (match r with
    | [idx, p] => sWi p (.constantLong own idx (Int64.ofNat k))
    | _ => false)
  | .ldc k => (match r with
    | [idx, p] => decide (k < 4294967296) && sWi p (.constant own idx (Int32.ofNat k))
    | [idx] => decide (own = RX6 ∧ 4294967296 ≤ k ∧ sTxI[k - 4294967296]? = some idx)
    | _ => false)
  | .ldc_w k => (match r with
    | [idx, p] => sWi p (.constant own idx (Int32.ofNat k))
    | _ => false)
  | .lookupswitch _ ps => (ps.toList.zip (ps.toList.drop 1)).all (fun (a, next) => a.1 < next.1)
  | .invokestatic k => if k < 258 then (match r, sM k with
    | [idx, p], some z => mK z == 0 && sWi p (.methodLink own idx (mY z))
    | _, _ => false) else if k = 1003 then (match r with
    | [idx, p, p1, p2, p3] => sWi p (.methodLink own idx arraycopyName) && (sWi p1 (.native arraycopyName) && (sWi p2 (.static arraycopyName) && sWi p3 (.initialized "java/lang/System")))
    | _ => false) else (match r with
    | [idx, p, p1, p2, p3] => decide (1000 ≤ k) && sWi p2 (.initialized "java/lang/Math") && (if k = 1000 then sWi p (.methodLink own idx Lib.Math.max.name) && sWi p1 (.static Lib.Math.max.name) && sWi p3 (.code Lib.Math.max.name Lib.Math.max.code 2 (some .int)) else if k = 1001 then sWi p (.methodLink own idx Lib.Math.min.name) && sWi p1 (.static Lib.Math.min.name) && sWi p3 (.code Lib.Math.min.name Lib.Math.min.code 2 (some .int)) else sWi p (.methodLink own idx Lib.Math.abs.name) && sWi p1 (.static Lib.Math.abs.name) && sWi p3 (.code Lib.Math.abs.name Lib.Math.abs.code 1 (some .int)))
    | _ => false)
  | .invokespecial k => if k < 258 then (match r, sM k with
    | [idx, p], some z => mK z == 2 && sWi p (.methodLink own idx (mY z))
    | [idx], some z => mK z == 2 && decide (Jvm.Cond.methodLinkNest own idx (mY z) RX11 ∈ sNwl)
    | [idx, p, p2, p3], some z => mK z == 1 && sSup own idx p p2 p3 (mY z)
    | [idx, p, p2, p3, p4], some z => mK z == 1 && sSup2 own idx p p2 p3 p4 (mY z)
    | _, _ => false) else (match r with
    | [idx, p, p2, p3] => decide (1000 ≤ k) && sWi p (.methodLink own idx Lib.objectInit) && sWi p2 (.instanceMethod Lib.objectInit) && sWi p3 (.code Lib.objectInit ⟨#[0xb1]⟩ 1 none)
    | _ => false)
  | .invokevirtual k => if k < 258 then (match r, sM k with
    | [idx, p], some z => mK z == 1 && sWi p (.methodLink own idx (mY z)) && (match mW z with
      | [_, _, _, s] => sWi s (.selects (mY z).cls (mY z) (mY z))
      | _ => false)
    | _, _ => false) else (match r with
    | [idx, p] => decide (1000 ≤ k ∧ k < 1006) && sWi p (.methodLink own idx (sFx k))
    | _ => false)
  | .invokeinterface k _ => (match r with
    | [idx, p] => (k == 3000 && sWi p (.methodLink own idx Jvm.Lib.Str.length.name)) || (k == 3001 && sWi p (.methodLink own idx Jvm.Lib.Str.charAt.name))
    | _ => false)
  | _ => true
def sSw (ins : Instr) : Bool := match ins with
  | .tableswitch _ _ _ _ => true
  | .lookupswitch _ _ => true
  | .nop => true
  | _ => false
def sChkE (q : sMt) (e : sEt) : Bool := (match e.2.2.1 with
  | .nop => true
  | _ => decide (decode (mC q) e.1 = .ok (sReal e.2.2.1 e.2.2.2, e.2.1)) && ((sSw e.2.2.1 || decide (e.2.1 = sLen e.2.2.1)) && sExt (mY q).cls (mY q).name e.2.2.1 e.2.2.2))
def sChkM (q : sMt) : Bool := (match mW q with
  | pc :: pi :: pn :: _ => sWi pc (.code (mY q) (mC q) (mN q) (mR q)) && (sWi pn (.initialized (mY q).cls) && (if mK q = 0 then sWi pi (.static (mY q)) else sWi pi (.instanceMethod (mY q))))
  | _ => false) && (Jvm.plainName (mY q).cls && (decide ((mY q).cls ≠ "java/lang/invoke/MethodHandle" ∧ (mY q).cls ≠ "java/lang/invoke/VarHandle" ∧ (parseMethodDescriptor (mY q).desc).map (fun d => d.parameters.length) = some (mA q)) && (decide (mN q ≤ 16) && (decide (mK q = 2 → (mY q).name = "<init>" ∧ mR q = none) && (decide (mK q = 1 → (mY q).name ≠ "<init>") && decide (mK q ≠ 0 → vwCl[mI q]?.map (fun z => z.1) = some (mY q).cls))))))
end
section
/-! ===== an instruction read off the head of the bytes ===== -/
def sB1 (n : Nat) (bs : List UInt8) : Bool := match bs with
  | a :: _ => a.toNat == n
  | _ => false
def sB2 (n k : Nat) (bs : List UInt8) : Bool := match bs with
  | a :: b :: _ => a.toNat == n && b.toNat == k
  | _ => false
def sB2s (n : Nat) (v : Int) (bs : List UInt8) : Bool := match bs with
  | a :: b :: _ => a.toNat == n && decide (Reader.signed 8 b.toNat = v)
  | _ => false
def sB3 (n k : Nat) (bs : List UInt8) : Bool := match bs with
  | a :: b :: c :: _ => a.toNat == n && b.toNat * 256 + c.toNat == k
  | _ => false
def sB3s (n : Nat) (v : Int) (bs : List UInt8) : Bool := match bs with
  | a :: b :: c :: _ => a.toNat == n && decide (Reader.signed 16 (b.toNat * 256 + c.toNat) = v)
  | _ => false
def sBii (n k : Nat) (v : Int) (bs : List UInt8) : Bool := match bs with
  | a :: b :: c :: _ => a.toNat == n && (b.toNat == k && decide (Reader.signed 8 c.toNat = v))
  | _ => false
theorem sRd1 {code : ByteArray} {pc : Nat} {b : UInt8} {t : List UInt8} (h : code.data.toList.drop pc = b :: t) : (Reader.u1 : Decoder Nat) code pc = .ok (b.toNat, pc + 1) := by
  have h0 : code.data.toList[pc]? = some b := by
    have := congrArg (fun l => l[0]?) h
    simpa [List.getElem?_drop] using this
  obtain ⟨hl, hb⟩ := List.getElem?_eq_some_iff.mp h0
  have hs : pc < code.size := by
    rw [Array.length_toList] at hl
    exact hl
  have e : (Reader.u1 : Decoder Nat) code pc = (if h : pc < code.size then (do set (pc + 1); pure (code[pc]'h).toNat : Decoder Nat) else throw (HasTruncated.truncated pc) : Decoder Nat) code pc := rfl
  rw [e, dif_pos hs]
  have e2 : code[pc]'hs = b := by
    rw [← hb]
    obtain ⟨⟨l⟩⟩ := code
    rfl
  show Except.ok ((code[pc]'hs).toNat, pc + 1) = _
  rw [e2]
theorem sRdT {code : ByteArray} {pc : Nat} {b : UInt8} {t : List UInt8} (h : code.data.toList.drop pc = b :: t) : code.data.toList.drop (pc + 1) = t := by
  rw [← List.drop_drop, h]
  rfl
theorem sRdB {α β : Type} {m : Decoder α} {f : α → Decoder β} {code : ByteArray} {pc p' : Nat} {a : α} (h : m code pc = .ok (a, p')) : (m >>= f) code pc = f a code p' := by
  show Except.bind (m code pc) _ = _
  rw [h]
  rfl
theorem sRdM {α β : Type} {m : Decoder α} {f : α → β} {code : ByteArray} {pc p' : Nat} {a : α} (h : m code pc = .ok (a, p')) : (f <$> m) code pc = .ok (f a, p') := by
  show Except.bind (m code pc) (fun x => Except.ok (f x.1, x.2)) = _
  rw [h]
  rfl
theorem sRd2 {code : ByteArray} {pc : Nat} {b c : UInt8} {t : List UInt8} (h : code.data.toList.drop pc = b :: c :: t) : (Reader.u2 : Decoder Nat) code pc = .ok (b.toNat * 256 + c.toNat, pc + 2) := by
  have e : (Reader.u2 : Decoder Nat) = (Reader.u1 >>= fun hi => Reader.u1 >>= fun lo => pure (hi * 256 + lo)) := rfl
  rw [e, sRdB (sRd1 h), sRdB (sRd1 (sRdT h))]
  rfl
theorem sDc {code : ByteArray} {pc p' : Nat} {i : Instr} (h : Decoder.instr pc code pc = .ok (i, p')) : decode code pc = .ok (i, p' - pc) := by
  unfold decode
  show Except.bind (Decoder.instr pc code pc) _ = _
  rw [h]
  rfl
section DEC
variable {code : ByteArray} {pc n k : Nat} {v : Int} {I : Instr} {g : Nat → Decoder Instr}
theorem sD1 (hg : Decoder.instr pc = (Reader.u1 >>= g : Decoder Instr)) (h : sB1 n (code.data.toList.drop pc) = true) (hn : g n = (Pure.pure I : Decoder Instr)) : decode code pc = .ok (I, 1) := by
  unfold sB1 at h
  split at h
  · rename_i a t hl
    rw [beq_iff_eq] at h
    have hr : Decoder.instr pc code pc = .ok (I, pc + 1) := by
      rw [hg, sRdB (sRd1 hl), h, hn]
      rfl
    rw [sDc hr, show pc + 1 - pc = 1 by omega]
  · cases h
theorem sD2 {f : Nat → Decoder Instr} (hg : Decoder.instr pc = (Reader.u1 >>= g : Decoder Instr)) (h : sB2 n k (code.data.toList.drop pc) = true) (hn : g n = (Reader.u1 >>= f : Decoder Instr)) (hf : f k = (Pure.pure I : Decoder Instr)) : decode code pc = .ok (I, 2) := by
  unfold sB2 at h
  split at h
  · rename_i a b t hl
    rw [Bool.and_eq_true, beq_iff_eq, beq_iff_eq] at h
    have hr : Decoder.instr pc code pc = .ok (I, pc + 2) := by
      rw [hg, sRdB (sRd1 hl), h.1, hn, sRdB (sRd1 (sRdT hl)), h.2, hf]
      rfl
    rw [sDc hr, show pc + 2 - pc = 2 by omega]
  · cases h
theorem sD2s {f : Int → Decoder Instr} (hg : Decoder.instr pc = (Reader.u1 >>= g : Decoder Instr)) (h : sB2s n v (code.data.toList.drop pc) = true) (hn : g n = (Reader.s1 >>= f : Decoder Instr)) (hf : f v = (Pure.pure I : Decoder Instr)) : decode code pc = .ok (I, 2) := by
  unfold sB2s at h
  split at h
  · rename_i a b t hl
    rw [Bool.and_eq_true, beq_iff_eq, decide_eq_true_eq] at h
    have hr : Decoder.instr pc code pc = .ok (I, pc + 2) := by
      rw [hg, sRdB (sRd1 hl), h.1, hn, sRdB (m := Reader.s1) (sRdM (sRd1 (sRdT hl))), h.2, hf]
      rfl
    rw [sDc hr, show pc + 2 - pc = 2 by omega]
  · cases h
theorem sD3 {f : Nat → Decoder Instr} (hg : Decoder.instr pc = (Reader.u1 >>= g : Decoder Instr)) (h : sB3 n k (code.data.toList.drop pc) = true) (hn : g n = (Reader.u2 >>= f : Decoder Instr)) (hf : f k = (Pure.pure I : Decoder Instr)) : decode code pc = .ok (I, 3) := by
  unfold sB3 at h
  split at h
  · rename_i a b c t hl
    rw [Bool.and_eq_true, beq_iff_eq, beq_iff_eq] at h
    have hr : Decoder.instr pc code pc = .ok (I, pc + 3) := by
      rw [hg, sRdB (sRd1 hl), h.1, hn, sRdB (sRd2 (sRdT hl)), h.2, hf]
      rfl
    rw [sDc hr, show pc + 3 - pc = 3 by omega]
  · cases h
theorem sD3s {f : Int → Decoder Instr} (hg : Decoder.instr pc = (Reader.u1 >>= g : Decoder Instr)) (h : sB3s n v (code.data.toList.drop pc) = true) (hn : g n = (Reader.s2 >>= f : Decoder Instr)) (hf : f v = (Pure.pure I : Decoder Instr)) : decode code pc = .ok (I, 3) := by
  unfold sB3s at h
  split at h
  · rename_i a b c t hl
    rw [Bool.and_eq_true, beq_iff_eq, decide_eq_true_eq] at h
    have hr : Decoder.instr pc code pc = .ok (I, pc + 3) := by
      rw [hg, sRdB (sRd1 hl), h.1, hn, sRdB (m := Reader.s2) (sRdM (sRd2 (sRdT hl))), h.2, hf]
      rfl
    rw [sDc hr, show pc + 3 - pc = 3 by omega]
  · cases h
theorem sDii {f : Nat → Int → Decoder Instr} (hg : Decoder.instr pc = (Reader.u1 >>= g : Decoder Instr)) (h : sBii n k v (code.data.toList.drop pc) = true) (hn : g n = (Reader.u1 >>= fun x => Reader.s1 >>= f x : Decoder Instr)) (hf : f k v = (Pure.pure I : Decoder Instr)) : decode code pc = .ok (I, 3) := by
  unfold sBii at h
  split at h
  · rename_i a b c t hl
    simp only [Bool.and_eq_true, beq_iff_eq, decide_eq_true_eq] at h
    have hr : Decoder.instr pc code pc = .ok (I, pc + 3) := by
      rw [hg, sRdB (sRd1 hl), h.1, hn, sRdB (sRd1 (sRdT hl)), sRdB (m := Reader.s1) (sRdM (sRd1 (sRdT (sRdT hl)))), h.2.1, h.2.2, hf]
      rfl
    rw [sDc hr, show pc + 3 - pc = 3 by omega]
  · cases h
end DEC
def sCn (c : Jvm.ClassFile.Cond) : Nat := match c with
  | .eq => 0
  | .ne => 1
  | .lt => 2
  | .ge => 3
  | .gt => 4
  | .le => 5
def sBy (code : ByteArray) (pc : Nat) (i : Instr) (L : Nat) (bs : List UInt8) : Bool := match i with
  | .aconst_null => L == 1 && sB1 1 bs
  | .iaload => L == 1 && sB1 46 bs
  | .laload => L == 1 && sB1 47 bs
  | .aaload => L == 1 && sB1 50 bs
  | .baload => L == 1 && sB1 51 bs
  | .iastore => L == 1 && sB1 79 bs
  | .lastore => L == 1 && sB1 80 bs
  | .aastore => L == 1 && sB1 83 bs
  | .bastore => L == 1 && sB1 84 bs
  | .pop => L == 1 && sB1 87 bs
  | .pop2 => L == 1 && sB1 88 bs
  | .dup => L == 1 && sB1 89 bs
  | .dup_x1 => L == 1 && sB1 90 bs
  | .dup2 => L == 1 && sB1 92 bs
  | .iadd => L == 1 && sB1 96 bs
  | .ladd => L == 1 && sB1 97 bs
  | .isub => L == 1 && sB1 100 bs
  | .lsub => L == 1 && sB1 101 bs
  | .imul => L == 1 && sB1 104 bs
  | .lmul => L == 1 && sB1 105 bs
  | .idiv => L == 1 && sB1 108 bs
  | .ldiv => L == 1 && sB1 109 bs
  | .irem => L == 1 && sB1 112 bs
  | .lrem => L == 1 && sB1 113 bs
  | .ineg => L == 1 && sB1 116 bs
  | .lneg => L == 1 && sB1 117 bs
  | .ishl => L == 1 && sB1 120 bs
  | .lshl => L == 1 && sB1 121 bs
  | .ishr => L == 1 && sB1 122 bs
  | .lshr => L == 1 && sB1 123 bs
  | .iushr => L == 1 && sB1 124 bs
  | .lushr => L == 1 && sB1 125 bs
  | .iand => L == 1 && sB1 126 bs
  | .land => L == 1 && sB1 127 bs
  | .ior => L == 1 && sB1 128 bs
  | .lor => L == 1 && sB1 129 bs
  | .ixor => L == 1 && sB1 130 bs
  | .lxor => L == 1 && sB1 131 bs
  | .i2l => L == 1 && sB1 133 bs
  | .l2i => L == 1 && sB1 136 bs
  | .i2b => L == 1 && sB1 145 bs
  | .i2c => L == 1 && sB1 146 bs
  | .i2s => L == 1 && sB1 147 bs
  | .lcmp => L == 1 && sB1 148 bs
  | .ireturn => L == 1 && sB1 172 bs
  | .lreturn => L == 1 && sB1 173 bs
  | .areturn => L == 1 && sB1 176 bs
  | .return_ => L == 1 && sB1 177 bs
  | .arraylength => L == 1 && sB1 190 bs
  | .iload_n k => L == 1 && sB1 (26 + k.val) bs
  | .lload_n k => L == 1 && sB1 (30 + k.val) bs
  | .aload_n k => L == 1 && sB1 (42 + k.val) bs
  | .istore_n k => L == 1 && sB1 (59 + k.val) bs
  | .lstore_n k => L == 1 && sB1 (63 + k.val) bs
  | .astore_n k => L == 1 && sB1 (75 + k.val) bs
  | .lconst k => L == 1 && sB1 (9 + k.val) bs
  | .ldc k => L == 2 && sB2 18 k bs
  | .iload k => L == 2 && sB2 21 k bs
  | .lload k => L == 2 && sB2 22 k bs
  | .aload k => L == 2 && sB2 25 k bs
  | .istore k => L == 2 && sB2 54 k bs
  | .lstore k => L == 2 && sB2 55 k bs
  | .astore k => L == 2 && sB2 58 k bs
  | .newarray .boolean => L == 2 && sB2 188 4 bs
  | .newarray .byte => L == 2 && sB2 188 8 bs
  | .newarray .int => L == 2 && sB2 188 10 bs
  | .newarray .long => L == 2 && sB2 188 11 bs
  | .bipush v => L == 2 && sB2s 16 v bs
  | .ldc_w k => L == 3 && sB3 19 k bs
  | .ldc2_w k => L == 3 && sB3 20 k bs
  | .getfield k => L == 3 && sB3 180 k bs
  | .putfield k => L == 3 && sB3 181 k bs
  | .invokevirtual k => L == 3 && sB3 182 k bs
  | .invokespecial k => L == 3 && sB3 183 k bs
  | .invokestatic k => L == 3 && sB3 184 k bs
  | .new k => L == 3 && sB3 187 k bs
  | .anewarray k => L == 3 && sB3 189 k bs
  | .sipush v => L == 3 && sB3s 17 v bs
  | .goto v => L == 3 && sB3s 167 v bs
  | .ifnull v => L == 3 && sB3s 198 v bs
  | .ifnonnull v => L == 3 && sB3s 199 v bs
  | .ifCond c v => L == 3 && sB3s (153 + sCn c) v bs
  | .if_icmp c v => L == 3 && sB3s (159 + sCn c) v bs
  | .iinc k v => L == 3 && sBii 132 k v bs
  | .iconst v => L == 1 && (decide (-1 ≤ v) && (decide (v ≤ 5) && sB1 (v + 3).toNat bs))
  | i => decide (decode code pc = .ok (i, L))
theorem sBy_ic {code : ByteArray} {pc : Nat} {v : Int} (h1 : -1 ≤ v) (h2 : v ≤ 5) (h : sB1 (v + 3).toNat (code.data.toList.drop pc) = true) : decode code pc = .ok (.iconst v, 1) := by
  have h3 : v = -1 ∨ v = 0 ∨ v = 1 ∨ v = 2 ∨ v = 3 ∨ v = 4 ∨ v = 5 := by omega
  rcases h3 with e | e | e | e | e | e | e <;> subst e
  · exact sD1 rfl h rfl
  · exact sD1 rfl h rfl
  · exact sD1 rfl h rfl
  · exact sD1 rfl h rfl
  · exact sD1 rfl h rfl
  · exact sD1 rfl h rfl
  · exact sD1 rfl h rfl
theorem sBy_ok {code : ByteArray} {pc : Nat} {i : Instr} {L : Nat} (h : sBy code pc i L (code.data.toList.drop pc) = true) : decode code pc = .ok (i, L) := by
  unfold sBy at h
  split at h
  · rw [Bool.and_eq_true, beq_iff_eq] at h
    rw [h.1]
    exact sD1 rfl h.2 rfl
  · rw [Bool.and_eq_true, beq_iff_eq] at h
    rw [h.1]
    exact sD1 rfl h.2 rfl
  · rw [Bool.and_eq_true, beq_iff_eq] at h
    rw [h.1]
    exact sD1 rfl h.2 rfl
  · rw [Bool.and_eq_true, beq_iff_eq] at h
    rw [h.1]
    exact sD1 rfl h.2 rfl
  · rw [Bool.and_eq_true, beq_iff_eq] at h
    rw [h.1]
    exact sD1 rfl h.2 rfl
  · rw [Bool.and_eq_true, beq_iff_eq] at h
    rw [h.1]
    exact sD1 rfl h.2 rfl
  · rw [Bool.and_eq_true, beq_iff_eq] at h
    rw [h.1]
    exact sD1 rfl h.2 rfl
  · rw [Bool.and_eq_true, beq_iff_eq] at h
    rw [h.1]
    exact sD1 rfl h.2 rfl
  · rw [Bool.and_eq_true, beq_iff_eq] at h
    rw [h.1]
    exact sD1 rfl h.2 rfl
  · rw [Bool.and_eq_true, beq_iff_eq] at h
    rw [h.1]
    exact sD1 rfl h.2 rfl
  · rw [Bool.and_eq_true, beq_iff_eq] at h
    rw [h.1]
    exact sD1 rfl h.2 rfl
  · rw [Bool.and_eq_true, beq_iff_eq] at h
    rw [h.1]
    exact sD1 rfl h.2 rfl
  · rw [Bool.and_eq_true, beq_iff_eq] at h
    rw [h.1]
    exact sD1 rfl h.2 rfl
  · rw [Bool.and_eq_true, beq_iff_eq] at h
    rw [h.1]
    exact sD1 rfl h.2 rfl
  · rw [Bool.and_eq_true, beq_iff_eq] at h
    rw [h.1]
    exact sD1 rfl h.2 rfl
  · rw [Bool.and_eq_true, beq_iff_eq] at h
    rw [h.1]
    exact sD1 rfl h.2 rfl
  · rw [Bool.and_eq_true, beq_iff_eq] at h
    rw [h.1]
    exact sD1 rfl h.2 rfl
  · rw [Bool.and_eq_true, beq_iff_eq] at h
    rw [h.1]
    exact sD1 rfl h.2 rfl
  · rw [Bool.and_eq_true, beq_iff_eq] at h
    rw [h.1]
    exact sD1 rfl h.2 rfl
  · rw [Bool.and_eq_true, beq_iff_eq] at h
    rw [h.1]
    exact sD1 rfl h.2 rfl
  · rw [Bool.and_eq_true, beq_iff_eq] at h
    rw [h.1]
    exact sD1 rfl h.2 rfl
  · rw [Bool.and_eq_true, beq_iff_eq] at h
    rw [h.1]
    exact sD1 rfl h.2 rfl
  · rw [Bool.and_eq_true, beq_iff_eq] at h
    rw [h.1]
    exact sD1 rfl h.2 rfl
  · rw [Bool.and_eq_true, beq_iff_eq] at h
    rw [h.1]
    exact sD1 rfl h.2 rfl
  · rw [Bool.and_eq_true, beq_iff_eq] at h
    rw [h.1]
    exact sD1 rfl h.2 rfl
  · rw [Bool.and_eq_true, beq_iff_eq] at h
    rw [h.1]
    exact sD1 rfl h.2 rfl
  · rw [Bool.and_eq_true, beq_iff_eq] at h
    rw [h.1]
    exact sD1 rfl h.2 rfl
  · rw [Bool.and_eq_true, beq_iff_eq] at h
    rw [h.1]
    exact sD1 rfl h.2 rfl
  · rw [Bool.and_eq_true, beq_iff_eq] at h
    rw [h.1]
    exact sD1 rfl h.2 rfl
  · rw [Bool.and_eq_true, beq_iff_eq] at h
    rw [h.1]
    exact sD1 rfl h.2 rfl
  · rw [Bool.and_eq_true, beq_iff_eq] at h
    rw [h.1]
    exact sD1 rfl h.2 rfl
  · rw [Bool.and_eq_true, beq_iff_eq] at h
    rw [h.1]
    exact sD1 rfl h.2 rfl
  · rw [Bool.and_eq_true, beq_iff_eq] at h
    rw [h.1]
    exact sD1 rfl h.2 rfl
  · rw [Bool.and_eq_true, beq_iff_eq] at h
    rw [h.1]
    exact sD1 rfl h.2 rfl
  · rw [Bool.and_eq_true, beq_iff_eq] at h
    rw [h.1]
    exact sD1 rfl h.2 rfl
  · rw [Bool.and_eq_true, beq_iff_eq] at h
    rw [h.1]
    exact sD1 rfl h.2 rfl
  · rw [Bool.and_eq_true, beq_iff_eq] at h
    rw [h.1]
    exact sD1 rfl h.2 rfl
  · rw [Bool.and_eq_true, beq_iff_eq] at h
    rw [h.1]
    exact sD1 rfl h.2 rfl
  · rw [Bool.and_eq_true, beq_iff_eq] at h
    rw [h.1]
    exact sD1 rfl h.2 rfl
  · rw [Bool.and_eq_true, beq_iff_eq] at h
    rw [h.1]
    exact sD1 rfl h.2 rfl
  · rw [Bool.and_eq_true, beq_iff_eq] at h
    rw [h.1]
    exact sD1 rfl h.2 rfl
  · rw [Bool.and_eq_true, beq_iff_eq] at h
    rw [h.1]
    exact sD1 rfl h.2 rfl
  · rw [Bool.and_eq_true, beq_iff_eq] at h
    rw [h.1]
    exact sD1 rfl h.2 rfl
  · rw [Bool.and_eq_true, beq_iff_eq] at h
    rw [h.1]
    exact sD1 rfl h.2 rfl
  · rw [Bool.and_eq_true, beq_iff_eq] at h
    rw [h.1]
    exact sD1 rfl h.2 rfl
  · rw [Bool.and_eq_true, beq_iff_eq] at h
    rw [h.1]
    exact sD1 rfl h.2 rfl
  · rw [Bool.and_eq_true, beq_iff_eq] at h
    rw [h.1]
    exact sD1 rfl h.2 rfl
  · rw [Bool.and_eq_true, beq_iff_eq] at h
    rw [h.1]
    exact sD1 rfl h.2 rfl
  · rw [Bool.and_eq_true, beq_iff_eq] at h
    rw [h.1]
    exact sD1 rfl h.2 rfl
  · rename_i k
    rw [Bool.and_eq_true, beq_iff_eq] at h
    rw [h.1]
    have h2 := h.2
    clear h
    match k, h2 with
    | 0, h2 => exact sD1 rfl h2 rfl
    | 1, h2 => exact sD1 rfl h2 rfl
    | 2, h2 => exact sD1 rfl h2 rfl
    | 3, h2 => exact sD1 rfl h2 rfl
  · rename_i k
    rw [Bool.and_eq_true, beq_iff_eq] at h
    rw [h.1]
    have h2 := h.2
    clear h
    match k, h2 with
    | 0, h2 => exact sD1 rfl h2 rfl
    | 1, h2 => exact sD1 rfl h2 rfl
    | 2, h2 => exact sD1 rfl h2 rfl
    | 3, h2 => exact sD1 rfl h2 rfl
  · rename_i k
    rw [Bool.and_eq_true, beq_iff_eq] at h
    rw [h.1]
    have h2 := h.2
    clear h
    match k, h2 with
    | 0, h2 => exact sD1 rfl h2 rfl
    | 1, h2 => exact sD1 rfl h2 rfl
    | 2, h2 => exact sD1 rfl h2 rfl
    | 3, h2 => exact sD1 rfl h2 rfl
  · rename_i k
    rw [Bool.and_eq_true, beq_iff_eq] at h
    rw [h.1]
    have h2 := h.2
    clear h
    match k, h2 with
    | 0, h2 => exact sD1 rfl h2 rfl
    | 1, h2 => exact sD1 rfl h2 rfl
    | 2, h2 => exact sD1 rfl h2 rfl
    | 3, h2 => exact sD1 rfl h2 rfl
  · rename_i k
    rw [Bool.and_eq_true, beq_iff_eq] at h
    rw [h.1]
    have h2 := h.2
    clear h
    match k, h2 with
    | 0, h2 => exact sD1 rfl h2 rfl
    | 1, h2 => exact sD1 rfl h2 rfl
    | 2, h2 => exact sD1 rfl h2 rfl
    | 3, h2 => exact sD1 rfl h2 rfl
  · rename_i k
    rw [Bool.and_eq_true, beq_iff_eq] at h
    rw [h.1]
    have h2 := h.2
    clear h
    match k, h2 with
    | 0, h2 => exact sD1 rfl h2 rfl
    | 1, h2 => exact sD1 rfl h2 rfl
    | 2, h2 => exact sD1 rfl h2 rfl
    | 3, h2 => exact sD1 rfl h2 rfl
  · rename_i k
    rw [Bool.and_eq_true, beq_iff_eq] at h
    rw [h.1]
    have h2 := h.2
    clear h
    match k, h2 with
    | 0, h2 => exact sD1 rfl h2 rfl
    | 1, h2 => exact sD1 rfl h2 rfl
  · rw [Bool.and_eq_true, beq_iff_eq] at h
    rw [h.1]
    exact sD2 rfl h.2 rfl rfl
  · rw [Bool.and_eq_true, beq_iff_eq] at h
    rw [h.1]
    exact sD2 rfl h.2 rfl rfl
  · rw [Bool.and_eq_true, beq_iff_eq] at h
    rw [h.1]
    exact sD2 rfl h.2 rfl rfl
  · rw [Bool.and_eq_true, beq_iff_eq] at h
    rw [h.1]
    exact sD2 rfl h.2 rfl rfl
  · rw [Bool.and_eq_true, beq_iff_eq] at h
    rw [h.1]
    exact sD2 rfl h.2 rfl rfl
  · rw [Bool.and_eq_true, beq_iff_eq] at h
    rw [h.1]
    exact sD2 rfl h.2 rfl rfl
  · rw [Bool.and_eq_true, beq_iff_eq] at h
    rw [h.1]
    exact sD2 rfl h.2 rfl rfl
  · rw [Bool.and_eq_true, beq_iff_eq] at h
    rw [h.1]
    exact sD2 rfl h.2 rfl rfl
  · rw [Bool.and_eq_true, beq_iff_eq] at h
    rw [h.1]
    exact sD2 rfl h.2 rfl rfl
  · rw [Bool.and_eq_true, beq_iff_eq] at h
    rw [h.1]
    exact sD2 rfl h.2 rfl rfl
  · rw [Bool.and_eq_true, beq_iff_eq] at h
    rw [h.1]
    exact sD2 rfl h.2 rfl rfl
  · rw [Bool.and_eq_true, beq_iff_eq] at h
    rw [h.1]
    exact sD2s rfl h.2 rfl rfl
  · rw [Bool.and_eq_true, beq_iff_eq] at h
    rw [h.1]
    exact sD3 rfl h.2 rfl rfl
  · rw [Bool.and_eq_true, beq_iff_eq] at h
    rw [h.1]
    exact sD3 rfl h.2 rfl rfl
  · rw [Bool.and_eq_true, beq_iff_eq] at h
    rw [h.1]
    exact sD3 rfl h.2 rfl rfl
  · rw [Bool.and_eq_true, beq_iff_eq] at h
    rw [h.1]
    exact sD3 rfl h.2 rfl rfl
  · rw [Bool.and_eq_true, beq_iff_eq] at h
    rw [h.1]
    exact sD3 rfl h.2 rfl rfl
  · rw [Bool.and_eq_true, beq_iff_eq] at h
    rw [h.1]
    exact sD3 rfl h.2 rfl rfl
  · rw [Bool.and_eq_true, beq_iff_eq] at h
    rw [h.1]
    exact sD3 rfl h.2 rfl rfl
  · rw [Bool.and_eq_true, beq_iff_eq] at h
    rw [h.1]
    exact sD3 rfl h.2 rfl rfl
  · rw [Bool.and_eq_true, beq_iff_eq] at h
    rw [h.1]
    exact sD3 rfl h.2 rfl rfl
  · rw [Bool.and_eq_true, beq_iff_eq] at h
    rw [h.1]
    exact sD3s rfl h.2 rfl rfl
  · rw [Bool.and_eq_true, beq_iff_eq] at h
    rw [h.1]
    exact sD3s rfl h.2 rfl rfl
  · rw [Bool.and_eq_true, beq_iff_eq] at h
    rw [h.1]
    exact sD3s rfl h.2 rfl rfl
  · rw [Bool.and_eq_true, beq_iff_eq] at h
    rw [h.1]
    exact sD3s rfl h.2 rfl rfl
  · rename_i c v
    rw [Bool.and_eq_true, beq_iff_eq] at h
    rw [h.1]
    have h2 := h.2
    clear h
    cases c <;> exact sD3s rfl h2 rfl rfl
  · rename_i c v
    rw [Bool.and_eq_true, beq_iff_eq] at h
    rw [h.1]
    have h2 := h.2
    clear h
    cases c <;> exact sD3s rfl h2 rfl rfl
  · rw [Bool.and_eq_true, beq_iff_eq] at h
    rw [h.1]
    exact sDii rfl h.2 rfl rfl
  · simp only [Bool.and_eq_true, beq_iff_eq, decide_eq_true_eq] at h
    rw [h.1]
    exact sBy_ic h.2.1 h.2.2.1 h.2.2.2
  · exact of_decide_eq_true h
/-! ===== the rows along the bytes ===== -/
def sAdv : Nat → List UInt8 → (List UInt8 → Bool) → Bool
  | 0, bs, k => k bs
  | _ + 1, [], k => k []
  | n + 1, _ :: t, k => sAdv n t k
theorem sAdv_eq (n : Nat) (bs : List UInt8) (k : List UInt8 → Bool) : sAdv n bs k = k (bs.drop n) := by
  induction n generalizing bs with
  | zero => cases bs <;> rfl
  | succ n ih =>
    cases bs with
    | nil => rfl
    | cons a t => exact ih t
def sChkD (own nm : String) (code : ByteArray) (bs : List UInt8) (pc L : Nat) (ins : Instr) (r : List Nat) : Bool := (match ins with
  | .nop => true
  | _ => sBy code pc (sReal ins r) L bs && ((sSw ins || decide (L = sLen ins)) && sExt own nm ins r))
def sWk (own nm : String) (code : ByteArray) (bs : List UInt8) (p : Nat) (es : List sEt) : Bool := match es with
  | [] => true
  | (pc, L, ins, r) :: es => Nat.ble p pc && sAdv (pc - p) bs (fun b => sChkD own nm code b pc L ins r && sWk own nm code b pc es)
theorem sExt_nm {own nm : String} {ins : Instr} {r : List Nat} (h : sExt own "" ins r = true) : sExt own nm ins r = true := by
  cases ins
  case putfield k =>
    unfold sExt at h ⊢
    dsimp only at h ⊢
    split at h
    · rw [Bool.and_eq_true] at h ⊢
      refine ⟨h.1, ?_⟩
      have h9 := h.2
      unfold sChkF at h9 ⊢
      refine List.all_eq_true.mpr fun ci hci => ?_
      have h1 := List.all_eq_true.mp h9 ci hci
      dsimp only at h1 ⊢
      split
      · rename_i q hq
        rw [hq] at h1
        simp only [Bool.or_eq_true, Bool.and_eq_true, decide_eq_true_eq] at h1 ⊢
        rcases h1 with h1 | h1 | h1
        · exact Or.inl h1
        · exact Or.inr (Or.inl h1)
        · exact absurd h1.1 (by decide)
      · rfl
    · cases h
  all_goals exact h
theorem sChkD_ok {q : sMt} {own nm : String} {pc L : Nat} {ins : Instr} {r : List Nat} (h0 : (mY q).cls = own) (h1 : nm = "" ∨ nm = (mY q).name) (h : sChkD own nm (mC q) ((mC q).data.toList.drop pc) pc L ins r = true) : sChkE q (pc, L, ins, r) = true := by
  unfold sChkD at h
  unfold sChkE
  dsimp only
  split at h
  · rfl
  · rename_i e0
    split
    · rfl
    · rw [Bool.and_eq_true, Bool.and_eq_true] at h
      rw [Bool.and_eq_true, Bool.and_eq_true]
      refine ⟨decide_eq_true (sBy_ok h.1), h.2.1, ?_⟩
      rw [h0]
      rcases h1 with h1 | h1
      · rw [h1] at h
        exact sExt_nm h.2.2
      · rw [h1] at h
        exact h.2.2
theorem sWk_ok {q : sMt} {own nm : String} (h0 : (mY q).cls = own) (h1 : nm = "" ∨ nm = (mY q).name) (es : List sEt) (p : Nat) (h : sWk own nm (mC q) ((mC q).data.toList.drop p) p es = true) : es.all (sChkE q) = true := by
  induction es generalizing p with
  | nil => rfl
  | cons e r ih =>
    obtain ⟨pc, L, ins, w⟩ := e
    unfold sWk at h
    rw [Bool.and_eq_true, sAdv_eq, List.drop_drop] at h
    obtain ⟨h1', h2⟩ := h
    have h3 : p + (pc - p) = pc := by have := Nat.le_of_ble_eq_true h1'; omega
    rw [h3, Bool.and_eq_true] at h2
    rw [List.all_cons, Bool.and_eq_true]
    exact ⟨sChkD_ok h0 h1 h2.1, ih pc h2.2⟩
def sOwk (c : Nat) (o : String) (f : String → Bool) : Bool := match c with
  | 0 => f RX0
  | 1 => f RX1
  | 2 => f RX2
  | 3 => f RX3
  | 4 => f RX4
  | 5 => f RX5
  | 6 => f RX6
  | 7 => f RX7
  | 8 => f RX8
  | 9 => f RX9
  | 10 => f RX10
  | 11 => f RX11
  | 12 => f RX12
  | _ => f o
theorem sOwk_ex {c : Nat} {o : String} {f : String → Bool} (h : sOwk c o f = true) : ∃ x, f x = true := by
  unfold sOwk at h
  split at h <;> exact ⟨_, h⟩
def sWq (q : sMt) (es : List sEt) : Bool := sOwk (mI q) (mY q).cls (fun own => decide ((mY q).cls = own) && cond (decide ((mY q).name = "<init>")) (sWk own (mY q).name (mC q) (mC q).data.toList 0 es) (sWk own "" (mC q) (mC q).data.toList 0 es))
theorem sWk_0 {q : sMt} {es : List sEt} (h : sWq q es = true) : es.all (sChkE q) = true := by
  obtain ⟨own, h1⟩ := sOwk_ex h
  rw [Bool.and_eq_true, decide_eq_true_eq] at h1
  obtain ⟨h2, h3⟩ := h1
  cases e : decide ((mY q).name = "<init>") with
  | true =>
    rw [e] at h3
    exact sWk_ok h2 (Or.inr rfl) es 0 h3
  | false =>
    rw [e] at h3
    exact sWk_ok h2 (Or.inl rfl) es 0 h3
/-! ===== a method's own words, its bytes compared in one walk ===== -/
def sLEq : List UInt8 → List UInt8 → Bool
  | [], [] => true
  | a :: l, b :: m => a.toNat == b.toNat && sLEq l m
  | _, _ => false
theorem sLEq_of : ∀ {l m : List UInt8}, sLEq l m = true → l = m
  | [], [], _ => rfl
  | a :: l, b :: m, h => by
    unfold sLEq at h
    rw [Bool.and_eq_true, beq_iff_eq] at h
    rw [UInt8.toNat_inj.mp h.1, sLEq_of h.2]
  | [], _ :: _, h => by cases h
  | _ :: _, [], h => by cases h
def sWc (p : Nat) (x : MethodName) (b : ByteArray) (n : Nat) (r : Option FieldType) : Bool := match sW p with
  | some (.code x' b' n' r') => decide (x' = x) && (sLEq b'.data.toList b.data.toList && (n' == n && decide (r' = r)))
  | _ => false
theorem sWc_of {p : Nat} {x : MethodName} {b : ByteArray} {n : Nat} {r : Option FieldType} (h : sWc p x b n r = true) : sWi p (.code x b n r) = true := by
  unfold sWc at h
  split at h
  · rename_i x' b' n' r' hw
    simp only [Bool.and_eq_true, decide_eq_true_eq, beq_iff_eq] at h
    obtain ⟨h1, h2, h3, h4⟩ := h
    have h5 : b' = b := by
      obtain ⟨⟨l⟩⟩ := b
      obtain ⟨⟨l'⟩⟩ := b'
      have := sLEq_of h2
      dsimp only at this
      rw [this]
    unfold sWi
    rw [hw, h1, h3, h4, h5]
    exact decide_eq_true rfl
  · cases h
def sChkN (q : sMt) : Bool := (match mW q with
  | pc :: pi :: pn :: _ => sWc pc (mY q) (mC q) (mN q) (mR q) && (sWi pn (.initialized (mY q).cls) && (if mK q = 0 then sWi pi (.static (mY q)) else sWi pi (.instanceMethod (mY q))))
  | _ => false) && (Jvm.plainName (mY q).cls && (decide ((mY q).cls ≠ "java/lang/invoke/MethodHandle" ∧ (mY q).cls ≠ "java/lang/invoke/VarHandle" ∧ (parseMethodDescriptor (mY q).desc).map (fun d => d.parameters.length) = some (mA q)) && (decide (mN q ≤ 16) && (decide (mK q = 2 → (mY q).name = "<init>" ∧ mR q = none) && (decide (mK q = 1 → (mY q).name ≠ "<init>") && decide (mK q ≠ 0 → vwCl[mI q]?.map (fun z => z.1) = some (mY q).cls))))))
theorem sChkN_ok {q : sMt} (h : sChkN q = true) : sChkM q = true := by
  unfold sChkN at h
  unfold sChkM
  rw [Bool.and_eq_true] at h ⊢
  refine ⟨?_, h.2⟩
  have h1 := h.1
  split at h1
  · rename_i e
    rw [e]
    dsimp only
    rw [Bool.and_eq_true] at h1
    rw [Bool.and_eq_true]
    exact ⟨sWc_of h1.1, h1.2⟩
  · cases h1
end
section
/-! ===== every row holds ===== -/
def sOkp (j : Nat) : Bool := match sM (j / 3) with
  | some q => (j % 3 != 0 || (sChkN q && decide ((mT q).length ≤ 300))) && sWq q (((mT q).drop (100 * (j % 3))).take 100)
  | none => false
theorem sOkc {a n : Nat} (h : (List.range' a n).all sOkp = true) (j : Nat) (h1 : a ≤ j) (h2 : j < a + n) : sOkp j = true := List.all_eq_true.mp h j (List.mem_range'_1.mpr ⟨h1, h2⟩)
theorem sOk_0 : (List.range' 0 108).all sOkp = true := by decide +kernel
theorem sOk_108 : (List.range' 108 81).all sOkp = true := by decide +kernel
theorem sOk_189 : (List.range' 189 87).all sOkp = true := by decide +kernel
theorem sOk_276 : (List.range' 276 63).all sOkp = true := by decide +kernel
end
section
theorem sOk_339 : (List.range' 339 63).all sOkp = true := by decide +kernel
theorem sOk_402 : (List.range' 402 57).all sOkp = true := by decide +kernel
theorem sOk_459 : (List.range' 459 66).all sOkp = true := by decide +kernel
theorem sOk_525 : (List.range' 525 42).all sOkp = true := by decide +kernel
end
section
theorem sOk_567 : (List.range' 567 36).all sOkp = true := by decide +kernel
theorem sOk_603 : (List.range' 603 48).all sOkp = true := by decide +kernel
theorem sOk_651 : (List.range' 651 45).all sOkp = true := by decide +kernel
theorem sOk_696 : (List.range' 696 30).all sOkp = true := by decide +kernel
end
section
theorem sOk_726 : (List.range' 726 45).all sOkp = true := by decide +kernel
theorem sOk_771 : (List.range' 771 3).all sOkp = true := by decide +kernel
def sOkL (i : Nat) : Bool := match sM 258 with
  | some q => decide ((mT q).length ≤ 1100) && sWq q (((mT q).drop (100 * i)).take 100)
  | none => false
theorem sOkL_0 : sOkL 0 = true := by decide +kernel
theorem sOkL_1 : sOkL 1 = true := by decide +kernel
theorem sOkL_2 : sOkL 2 = true := by decide +kernel
theorem sOkL_3 : sOkL 3 = true := by decide +kernel
theorem sOkL_4 : sOkL 4 = true := by decide +kernel
theorem sOkL_5 : sOkL 5 = true := by decide +kernel
theorem sOkL_6 : sOkL 6 = true := by decide +kernel
theorem sOkL_7 : sOkL 7 = true := by decide +kernel
theorem sOkL_8 : sOkL 8 = true := by decide +kernel
theorem sOkL_9 : sOkL 9 = true := by decide +kernel
theorem sOkL_10 : sOkL 10 = true := by decide +kernel
theorem sOk_all (j : Nat) (h : j < 774) : sOkp j = true := by
  rcases Nat.lt_or_ge j 108 with q | q
  · exact sOkc sOk_0 j (by omega) (by omega)
  rcases Nat.lt_or_ge j 189 with q | q
  · exact sOkc sOk_108 j (by omega) (by omega)
  rcases Nat.lt_or_ge j 276 with q | q
  · exact sOkc sOk_189 j (by omega) (by omega)
  rcases Nat.lt_or_ge j 339 with q | q
  · exact sOkc sOk_276 j (by omega) (by omega)
  rcases Nat.lt_or_ge j 402 with q | q
  · exact sOkc sOk_339 j (by omega) (by omega)
  rcases Nat.lt_or_ge j 459 with q | q
  · exact sOkc sOk_402 j (by omega) (by omega)
  rcases Nat.lt_or_ge j 525 with q | q
  · exact sOkc sOk_459 j (by omega) (by omega)
  rcases Nat.lt_or_ge j 567 with q | q
  · exact sOkc sOk_525 j (by omega) (by omega)
  rcases Nat.lt_or_ge j 603 with q | q
  · exact sOkc sOk_567 j (by omega) (by omega)
  rcases Nat.lt_or_ge j 651 with q | q
  · exact sOkc sOk_603 j (by omega) (by omega)
  rcases Nat.lt_or_ge j 696 with q | q
  · exact sOkc sOk_651 j (by omega) (by omega)
  rcases Nat.lt_or_ge j 726 with q | q
  · exact sOkc sOk_696 j (by omega) (by omega)
  rcases Nat.lt_or_ge j 771 with q | q
  · exact sOkc sOk_726 j (by omega) (by omega)
  exact sOkc sOk_771 j (by omega) (by omega)
theorem sBlk {α : Type} {l : List α} {f : α → Bool} {P : Nat} (h : ∀ i, i < P → ((l.drop (100 * i)).take 100).all f = true) (hl : l.length ≤ 100 * P) : ∀ x ∈ l, f x = true := by
  intro x hx
  obtain ⟨j, hj⟩ := List.getElem?_of_mem hx
  have hlt := (List.getElem?_eq_some_iff.mp hj).1
  have h1 := h (j / 100) (by omega)
  refine List.all_eq_true.mp h1 x (List.mem_of_getElem? (i := j % 100) ?_)
  rw [List.getElem?_take, if_pos (Nat.mod_lt _ (by decide)), List.getElem?_drop, show 100 * (j / 100) + j % 100 = j by omega]
  exact hj
theorem sOk_m (k : Nat) (hk : k < 258) (q : sMt) (hq : sM k = some q) : sChkM q = true ∧ ∀ e ∈ mT q, sChkE q e = true := by
  have h0 := sOk_all (3 * k) (by omega)
  have h1 := sOk_all (3 * k + 1) (by omega)
  have h2 := sOk_all (3 * k + 2) (by omega)
  unfold sOkp at h0 h1 h2
  rw [show 3 * k / 3 = k by omega, show 3 * k % 3 = 0 by omega, hq] at h0
  rw [show (3 * k + 1) / 3 = k by omega, show (3 * k + 1) % 3 = 1 by omega, hq] at h1
  rw [show (3 * k + 2) / 3 = k by omega, show (3 * k + 2) % 3 = 2 by omega, hq] at h2
  simp only [Bool.and_eq_true] at h0 h1 h2
  obtain ⟨h00, h01⟩ := h0
  have h3 : sChkN q = true ∧ (mT q).length ≤ 300 := by
    rw [show ((0 : Nat) != 0) = false from rfl, Bool.false_or, Bool.and_eq_true, decide_eq_true_eq] at h00
    exact h00
  refine ⟨sChkN_ok h3.1, sBlk (P := 3) (fun i hi => ?_) h3.2⟩
  match i, hi with
  | 0, _ => exact sWk_0 h01
  | 1, _ => exact sWk_0 h1.2
  | 2, _ => exact sWk_0 h2.2
theorem sOk_law (q : sMt) (hq : sM 258 = some q) : ∀ e ∈ mT q, sChkE q e = true := by
  have key : ∀ i, i < 11 → sOkL i = true := by
    intro i hi
    match i, hi with
    | 0, _ => exact sOkL_0
    | 1, _ => exact sOkL_1
    | 2, _ => exact sOkL_2
    | 3, _ => exact sOkL_3
    | 4, _ => exact sOkL_4
    | 5, _ => exact sOkL_5
    | 6, _ => exact sOkL_6
    | 7, _ => exact sOkL_7
    | 8, _ => exact sOkL_8
    | 9, _ => exact sOkL_9
    | 10, _ => exact sOkL_10
  refine sBlk (P := 11) (fun i hi => ?_) ?_
  · have h := key i hi
    unfold sOkL at h
    rw [hq] at h
    exact sWk_0 (Bool.and_eq_true _ _ ▸ h).2
  · have h := key 0 (by decide)
    unfold sOkL at h
    rw [hq] at h
    exact of_decide_eq_true (Bool.and_eq_true _ _ ▸ h).1
end
