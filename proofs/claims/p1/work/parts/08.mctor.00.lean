theorem q_1490 : Cond.methodLink RX12 1 objectInit ∈ nm_big := nm_in (List.mem_append_right _ (List.mem_of_getElem? (i := 1490) (by decide +kernel))) (by decide +kernel)
theorem q_1496 : Cond.fieldLink RX12 7 "NameManglerModel" "refused" "[I" ∈ nm_big := nm_in (List.mem_append_right _ (List.mem_of_getElem? (i := 1496) (by decide +kernel))) (by decide +kernel)
theorem q_1498 : Cond.fieldLink RX12 13 "NameManglerModel" "fed" "[B" ∈ nm_big := nm_in (List.mem_append_right _ (List.mem_of_getElem? (i := 1498) (by decide +kernel))) (by decide +kernel)
theorem q_1491 : Cond.classLink RX12 17 "[B" ∈ nm_big := nm_in (List.mem_append_right _ (List.mem_of_getElem? (i := 1491) (by decide +kernel))) (by decide +kernel)
theorem q_1499 : Cond.fieldLink RX12 18 "NameManglerModel" "symbol" "[[B" ∈ nm_big := nm_in (List.mem_append_right _ (List.mem_of_getElem? (i := 1499) (by decide +kernel))) (by decide +kernel)
theorem q_1493 : Cond.classLink RX12 22 "[[[B" ∈ nm_big := nm_in (List.mem_append_right _ (List.mem_of_getElem? (i := 1493) (by decide +kernel))) (by decide +kernel)
theorem q_1500 : Cond.fieldLink RX12 24 "NameManglerModel" "past" "[[[B" ∈ nm_big := nm_in (List.mem_append_right _ (List.mem_of_getElem? (i := 1500) (by decide +kernel))) (by decide +kernel)
theorem q_1501 : Cond.fieldLink RX12 27 "NameManglerModel" "pastMany" "[I" ∈ nm_big := nm_in (List.mem_append_right _ (List.mem_of_getElem? (i := 1501) (by decide +kernel))) (by decide +kernel)
theorem q_1504 : Cond.fieldLink RX12 30 "NameManglerModel" "place" "I" ∈ nm_big := nm_in (List.mem_append_right _ (List.mem_of_getElem? (i := 1504) (by decide +kernel))) (by decide +kernel)
theorem q_1509 : Cond.fieldLink RX12 34 "NameManglerModel" "kind" "[I" ∈ nm_big := nm_in (List.mem_append_right _ (List.mem_of_getElem? (i := 1509) (by decide +kernel))) (by decide +kernel)
theorem q_1510 : Cond.fieldLink RX12 37 "NameManglerModel" "number" "[I" ∈ nm_big := nm_in (List.mem_append_right _ (List.mem_of_getElem? (i := 1510) (by decide +kernel))) (by decide +kernel)
theorem q_1511 : Cond.fieldLink RX12 40 "NameManglerModel" "sub" "[I" ∈ nm_big := nm_in (List.mem_append_right _ (List.mem_of_getElem? (i := 1511) (by decide +kernel))) (by decide +kernel)
theorem q_1512 : Cond.fieldLink RX12 43 "NameManglerModel" "from" "[I" ∈ nm_big := nm_in (List.mem_append_right _ (List.mem_of_getElem? (i := 1512) (by decide +kernel))) (by decide +kernel)
theorem q_1513 : Cond.fieldLink RX12 46 "NameManglerModel" "many" "[I" ∈ nm_big := nm_in (List.mem_append_right _ (List.mem_of_getElem? (i := 1513) (by decide +kernel))) (by decide +kernel)
theorem q_1514 : Cond.fieldLink RX12 49 "NameManglerModel" "next" "[I" ∈ nm_big := nm_in (List.mem_append_right _ (List.mem_of_getElem? (i := 1514) (by decide +kernel))) (by decide +kernel)
theorem q_1515 : Cond.fieldLink RX12 52 "NameManglerModel" "high" "[I" ∈ nm_big := nm_in (List.mem_append_right _ (List.mem_of_getElem? (i := 1515) (by decide +kernel))) (by decide +kernel)
theorem q_1516 : Cond.fieldLink RX12 55 "NameManglerModel" "basics" "[I" ∈ nm_big := nm_in (List.mem_append_right _ (List.mem_of_getElem? (i := 1516) (by decide +kernel))) (by decide +kernel)
theorem q_1517 : Cond.fieldLink RX12 58 "NameManglerModel" "paths" "[I" ∈ nm_big := nm_in (List.mem_append_right _ (List.mem_of_getElem? (i := 1517) (by decide +kernel))) (by decide +kernel)
theorem q_1518 : Cond.fieldLink RX12 61 "NameManglerModel" "told" "[I" ∈ nm_big := nm_in (List.mem_append_right _ (List.mem_of_getElem? (i := 1518) (by decide +kernel))) (by decide +kernel)
theorem q_1682 : Cond.arrayClass .long ∈ nm_big := nm_in (List.mem_append_right _ (List.mem_of_getElem? (i := 1682) (by decide +kernel))) (by decide +kernel)
theorem q_1519 : Cond.fieldLink RX12 64 "NameManglerModel" "first" "[J" ∈ nm_big := nm_in (List.mem_append_right _ (List.mem_of_getElem? (i := 1519) (by decide +kernel))) (by decide +kernel)
theorem q_1520 : Cond.fieldLink RX12 68 "NameManglerModel" "second" "[J" ∈ nm_big := nm_in (List.mem_append_right _ (List.mem_of_getElem? (i := 1520) (by decide +kernel))) (by decide +kernel)
theorem q_1521 : Cond.fieldLink RX12 71 "NameManglerModel" "pool" "[I" ∈ nm_big := nm_in (List.mem_append_right _ (List.mem_of_getElem? (i := 1521) (by decide +kernel))) (by decide +kernel)
theorem q_1522 : Cond.fieldLink RX12 74 "NameManglerModel" "head" "[I" ∈ nm_big := nm_in (List.mem_append_right _ (List.mem_of_getElem? (i := 1522) (by decide +kernel))) (by decide +kernel)
theorem q_1528 : Cond.fieldLink RX12 77 "NameManglerModel" "stack" "[I" ∈ nm_big := nm_in (List.mem_append_right _ (List.mem_of_getElem? (i := 1528) (by decide +kernel))) (by decide +kernel)
theorem q_1533 : Cond.fieldLink RX12 80 "NameManglerModel" "parameter" "[I" ∈ nm_big := nm_in (List.mem_append_right _ (List.mem_of_getElem? (i := 1533) (by decide +kernel))) (by decide +kernel)
theorem q_1534 : Cond.fieldLink RX12 83 "NameManglerModel" "table" "[I" ∈ nm_big := nm_in (List.mem_append_right _ (List.mem_of_getElem? (i := 1534) (by decide +kernel))) (by decide +kernel)
theorem q_1535 : Cond.fieldLink RX12 86 "NameManglerModel" "placeIn" "[I" ∈ nm_big := nm_in (List.mem_append_right _ (List.mem_of_getElem? (i := 1535) (by decide +kernel))) (by decide +kernel)
theorem q_1536 : Cond.fieldLink RX12 89 "NameManglerModel" "tableAt" "[I" ∈ nm_big := nm_in (List.mem_append_right _ (List.mem_of_getElem? (i := 1536) (by decide +kernel))) (by decide +kernel)
theorem q_1537 : Cond.fieldLink RX12 92 "NameManglerModel" "tableRefs" "[I" ∈ nm_big := nm_in (List.mem_append_right _ (List.mem_of_getElem? (i := 1537) (by decide +kernel))) (by decide +kernel)
theorem q_1540 : Cond.fieldLink RX12 95 "NameManglerModel" "out" "[B" ∈ nm_big := nm_in (List.mem_append_right _ (List.mem_of_getElem? (i := 1540) (by decide +kernel))) (by decide +kernel)
theorem q_1543 : Cond.fieldLink RX12 98 "NameManglerModel" "referAt" "[I" ∈ nm_big := nm_in (List.mem_append_right _ (List.mem_of_getElem? (i := 1543) (by decide +kernel))) (by decide +kernel)
theorem q_1544 : Cond.fieldLink RX12 101 "NameManglerModel" "referTo" "[I" ∈ nm_big := nm_in (List.mem_append_right _ (List.mem_of_getElem? (i := 1544) (by decide +kernel))) (by decide +kernel)
theorem q_1545 : Cond.fieldLink RX12 104 "NameManglerModel" "text" "[B" ∈ nm_big := nm_in (List.mem_append_right _ (List.mem_of_getElem? (i := 1545) (by decide +kernel))) (by decide +kernel)
theorem q_1547 : Cond.fieldLink RX12 107 "NameManglerModel" "respelled" "[B" ∈ nm_big := nm_in (List.mem_append_right _ (List.mem_of_getElem? (i := 1547) (by decide +kernel))) (by decide +kernel)
theorem q_1553 : Cond.fieldLink RX12 110 "NameManglerModel" "others" "[[B" ∈ nm_big := nm_in (List.mem_append_right _ (List.mem_of_getElem? (i := 1553) (by decide +kernel))) (by decide +kernel)
theorem q_1554 : Cond.fieldLink RX12 113 "NameManglerModel" "name" "[B" ∈ nm_big := nm_in (List.mem_append_right _ (List.mem_of_getElem? (i := 1554) (by decide +kernel))) (by decide +kernel)
theorem q_1556 : Cond.fieldLink RX12 116 "NameManglerModel" "numberedOnes" "[I" ∈ nm_big := nm_in (List.mem_append_right _ (List.mem_of_getElem? (i := 1556) (by decide +kernel))) (by decide +kernel)
theorem iw_X12 : ∀ w ∈ u_ws RX12 TX12 62, w ∈ nm_big := nm_lay [1557, 1559, 1561, 1563, 1565, 1567, 1569, 1571, 1573, 1575, 1577, 1579, 1581, 1583, 1585, 1587, 1589, 1591, 1593, 1595, 1597, 1599, 1601, 1603, 1605, 1607, 1609, 1611, 1613, 1615, 1617, 1619, 1621, 1623, 1625, 1627, 1629, 1631, 1633, 1635, 1637, 1639, 1641, 1643, 1645, 1647, 1649, 1651, 1653, 1655, 1657, 1659, 1661, 1663, 1665, 1667, 1669, 1671, 1673, 1675, 1677, 1679] (by decide +kernel) (by decide +kernel)
theorem df_X12 : ∀ j, j < 62 → defaultValue (tyX12 j) = vp_V [.int 0, .null, .int 0, .null, .null, .null, .null, .int 0, .int 0, .int 0, .long 0, .long 0, .int 0, .int 0, .null, .null, .null, .null, .null, .null, .null, .null, .null, .null, .null, .null, .null, .null, .null, .int 0, .int 0, .int 0, .int 0, .null, .int 0, .int 0, .int 0, .int 0, .null, .null, .null, .null, .null, .int 0, .int 0, .null, .int 0, .int 0, .null, .null, .null, .int 0, .null, .int 0, .int 0, .int 0, .int 0, .int 0, .null, .null, .int 0, .null] j := by decide +kernel
theorem dX12_init_0 : decode cX12_init 0 = .ok (.aload_n 0, 1) := by decide +kernel
theorem dX12_init_1 : decode cX12_init 1 = .ok (.invokespecial 1, 3) := by decide +kernel
theorem dX12_init_4 : decode cX12_init 4 = .ok (.aload_n 0, 1) := by decide +kernel
theorem dX12_init_5 : decode cX12_init 5 = .ok (.iconst 3, 1) := by decide +kernel
theorem dX12_init_6 : decode cX12_init 6 = .ok (.newarray .int, 2) := by decide +kernel
theorem dX12_init_8 : decode cX12_init 8 = .ok (.putfield 7, 3) := by decide +kernel
theorem dX12_init_11 : decode cX12_init 11 = .ok (.aload_n 0, 1) := by decide +kernel
theorem dX12_init_12 : decode cX12_init 12 = .ok (.sipush 400, 3) := by decide +kernel
theorem dX12_init_15 : decode cX12_init 15 = .ok (.newarray .byte, 2) := by decide +kernel
theorem dX12_init_17 : decode cX12_init 17 = .ok (.putfield 13, 3) := by decide +kernel
theorem dX12_init_20 : decode cX12_init 20 = .ok (.aload_n 0, 1) := by decide +kernel
theorem dX12_init_21 : decode cX12_init 21 = .ok (.bipush 16, 2) := by decide +kernel
theorem dX12_init_23 : decode cX12_init 23 = .ok (.anewarray 17, 3) := by decide +kernel
theorem dX12_init_26 : decode cX12_init 26 = .ok (.putfield 18, 3) := by decide +kernel
theorem dX12_init_29 : decode cX12_init 29 = .ok (.aload_n 0, 1) := by decide +kernel
theorem dX12_init_30 : decode cX12_init 30 = .ok (.bipush 8, 2) := by decide +kernel
theorem dX12_init_32 : decode cX12_init 32 = .ok (.bipush 16, 2) := by decide +kernel
theorem dX12_init_34 : decode cX12_init 34 = .ok (.multianewarray 22 2, 4) := by decide +kernel
theorem dX12_init_38 : decode cX12_init 38 = .ok (.putfield 24, 3) := by decide +kernel
theorem dX12_init_41 : decode cX12_init 41 = .ok (.aload_n 0, 1) := by decide +kernel
theorem dX12_init_42 : decode cX12_init 42 = .ok (.bipush 8, 2) := by decide +kernel
theorem dX12_init_44 : decode cX12_init 44 = .ok (.newarray .int, 2) := by decide +kernel
theorem dX12_init_46 : decode cX12_init 46 = .ok (.putfield 27, 3) := by decide +kernel
theorem dX12_init_49 : decode cX12_init 49 = .ok (.aload_n 0, 1) := by decide +kernel
theorem dX12_init_50 : decode cX12_init 50 = .ok (.iconst (-1), 1) := by decide +kernel
theorem dX12_init_51 : decode cX12_init 51 = .ok (.putfield 30, 3) := by decide +kernel
theorem dX12_init_54 : decode cX12_init 54 = .ok (.aload_n 0, 1) := by decide +kernel
theorem dX12_init_55 : decode cX12_init 55 = .ok (.sipush 5000, 3) := by decide +kernel
theorem dX12_init_58 : decode cX12_init 58 = .ok (.newarray .int, 2) := by decide +kernel
theorem dX12_init_60 : decode cX12_init 60 = .ok (.putfield 34, 3) := by decide +kernel
theorem dX12_init_63 : decode cX12_init 63 = .ok (.aload_n 0, 1) := by decide +kernel
theorem dX12_init_64 : decode cX12_init 64 = .ok (.sipush 5000, 3) := by decide +kernel
theorem dX12_init_67 : decode cX12_init 67 = .ok (.newarray .int, 2) := by decide +kernel
theorem dX12_init_69 : decode cX12_init 69 = .ok (.putfield 37, 3) := by decide +kernel
theorem dX12_init_72 : decode cX12_init 72 = .ok (.aload_n 0, 1) := by decide +kernel
theorem dX12_init_73 : decode cX12_init 73 = .ok (.sipush 5000, 3) := by decide +kernel
theorem dX12_init_76 : decode cX12_init 76 = .ok (.newarray .int, 2) := by decide +kernel
theorem dX12_init_78 : decode cX12_init 78 = .ok (.putfield 40, 3) := by decide +kernel
theorem dX12_init_81 : decode cX12_init 81 = .ok (.aload_n 0, 1) := by decide +kernel
theorem dX12_init_82 : decode cX12_init 82 = .ok (.sipush 5000, 3) := by decide +kernel
theorem dX12_init_85 : decode cX12_init 85 = .ok (.newarray .int, 2) := by decide +kernel
theorem dX12_init_87 : decode cX12_init 87 = .ok (.putfield 43, 3) := by decide +kernel
theorem dX12_init_90 : decode cX12_init 90 = .ok (.aload_n 0, 1) := by decide +kernel
theorem dX12_init_91 : decode cX12_init 91 = .ok (.sipush 5000, 3) := by decide +kernel
theorem dX12_init_94 : decode cX12_init 94 = .ok (.newarray .int, 2) := by decide +kernel
theorem dX12_init_96 : decode cX12_init 96 = .ok (.putfield 46, 3) := by decide +kernel
theorem dX12_init_99 : decode cX12_init 99 = .ok (.aload_n 0, 1) := by decide +kernel
theorem dX12_init_100 : decode cX12_init 100 = .ok (.sipush 5000, 3) := by decide +kernel
theorem dX12_init_103 : decode cX12_init 103 = .ok (.newarray .int, 2) := by decide +kernel
theorem dX12_init_105 : decode cX12_init 105 = .ok (.putfield 49, 3) := by decide +kernel
theorem dX12_init_108 : decode cX12_init 108 = .ok (.aload_n 0, 1) := by decide +kernel
theorem dX12_init_109 : decode cX12_init 109 = .ok (.sipush 5000, 3) := by decide +kernel
theorem dX12_init_112 : decode cX12_init 112 = .ok (.newarray .int, 2) := by decide +kernel
theorem dX12_init_114 : decode cX12_init 114 = .ok (.putfield 52, 3) := by decide +kernel
theorem dX12_init_117 : decode cX12_init 117 = .ok (.aload_n 0, 1) := by decide +kernel
theorem dX12_init_118 : decode cX12_init 118 = .ok (.sipush 5000, 3) := by decide +kernel
theorem dX12_init_121 : decode cX12_init 121 = .ok (.newarray .int, 2) := by decide +kernel
theorem dX12_init_123 : decode cX12_init 123 = .ok (.putfield 55, 3) := by decide +kernel
theorem dX12_init_126 : decode cX12_init 126 = .ok (.aload_n 0, 1) := by decide +kernel
theorem dX12_init_127 : decode cX12_init 127 = .ok (.sipush 5000, 3) := by decide +kernel
theorem dX12_init_130 : decode cX12_init 130 = .ok (.newarray .int, 2) := by decide +kernel
theorem dX12_init_132 : decode cX12_init 132 = .ok (.putfield 58, 3) := by decide +kernel
theorem dX12_init_135 : decode cX12_init 135 = .ok (.aload_n 0, 1) := by decide +kernel
theorem dX12_init_136 : decode cX12_init 136 = .ok (.sipush 5000, 3) := by decide +kernel
theorem dX12_init_139 : decode cX12_init 139 = .ok (.newarray .int, 2) := by decide +kernel
theorem dX12_init_141 : decode cX12_init 141 = .ok (.putfield 61, 3) := by decide +kernel
theorem dX12_init_144 : decode cX12_init 144 = .ok (.aload_n 0, 1) := by decide +kernel
theorem dX12_init_145 : decode cX12_init 145 = .ok (.sipush 5000, 3) := by decide +kernel
theorem dX12_init_148 : decode cX12_init 148 = .ok (.newarray .long, 2) := by decide +kernel
theorem dX12_init_150 : decode cX12_init 150 = .ok (.putfield 64, 3) := by decide +kernel
theorem dX12_init_153 : decode cX12_init 153 = .ok (.aload_n 0, 1) := by decide +kernel
theorem dX12_init_154 : decode cX12_init 154 = .ok (.sipush 5000, 3) := by decide +kernel
theorem dX12_init_157 : decode cX12_init 157 = .ok (.newarray .long, 2) := by decide +kernel
theorem dX12_init_159 : decode cX12_init 159 = .ok (.putfield 68, 3) := by decide +kernel
theorem dX12_init_162 : decode cX12_init 162 = .ok (.aload_n 0, 1) := by decide +kernel
theorem dX12_init_163 : decode cX12_init 163 = .ok (.sipush 12000, 3) := by decide +kernel
theorem dX12_init_166 : decode cX12_init 166 = .ok (.newarray .int, 2) := by decide +kernel
theorem dX12_init_168 : decode cX12_init 168 = .ok (.putfield 71, 3) := by decide +kernel
theorem dX12_init_171 : decode cX12_init 171 = .ok (.aload_n 0, 1) := by decide +kernel
theorem dX12_init_172 : decode cX12_init 172 = .ok (.sipush 4096, 3) := by decide +kernel
theorem dX12_init_175 : decode cX12_init 175 = .ok (.newarray .int, 2) := by decide +kernel
theorem dX12_init_177 : decode cX12_init 177 = .ok (.putfield 74, 3) := by decide +kernel
theorem dX12_init_180 : decode cX12_init 180 = .ok (.aload_n 0, 1) := by decide +kernel
theorem dX12_init_181 : decode cX12_init 181 = .ok (.sipush 12000, 3) := by decide +kernel
theorem dX12_init_184 : decode cX12_init 184 = .ok (.newarray .int, 2) := by decide +kernel
theorem dX12_init_186 : decode cX12_init 186 = .ok (.putfield 77, 3) := by decide +kernel
theorem dX12_init_189 : decode cX12_init 189 = .ok (.aload_n 0, 1) := by decide +kernel
theorem dX12_init_190 : decode cX12_init 190 = .ok (.sipush 2000, 3) := by decide +kernel
theorem dX12_init_193 : decode cX12_init 193 = .ok (.newarray .int, 2) := by decide +kernel
theorem dX12_init_195 : decode cX12_init 195 = .ok (.putfield 80, 3) := by decide +kernel
theorem dX12_init_198 : decode cX12_init 198 = .ok (.aload_n 0, 1) := by decide +kernel
theorem dX12_init_199 : decode cX12_init 199 = .ok (.sipush 5000, 3) := by decide +kernel
theorem dX12_init_202 : decode cX12_init 202 = .ok (.newarray .int, 2) := by decide +kernel
theorem dX12_init_204 : decode cX12_init 204 = .ok (.putfield 83, 3) := by decide +kernel
theorem dX12_init_207 : decode cX12_init 207 = .ok (.aload_n 0, 1) := by decide +kernel
theorem dX12_init_208 : decode cX12_init 208 = .ok (.sipush 5000, 3) := by decide +kernel
theorem dX12_init_211 : decode cX12_init 211 = .ok (.newarray .int, 2) := by decide +kernel
theorem dX12_init_213 : decode cX12_init 213 = .ok (.putfield 86, 3) := by decide +kernel
theorem dX12_init_216 : decode cX12_init 216 = .ok (.aload_n 0, 1) := by decide +kernel
theorem dX12_init_217 : decode cX12_init 217 = .ok (.sipush 5000, 3) := by decide +kernel
theorem dX12_init_220 : decode cX12_init 220 = .ok (.newarray .int, 2) := by decide +kernel
theorem dX12_init_222 : decode cX12_init 222 = .ok (.putfield 89, 3) := by decide +kernel
theorem dX12_init_225 : decode cX12_init 225 = .ok (.aload_n 0, 1) := by decide +kernel
theorem dX12_init_226 : decode cX12_init 226 = .ok (.sipush 5000, 3) := by decide +kernel
theorem dX12_init_229 : decode cX12_init 229 = .ok (.newarray .int, 2) := by decide +kernel
theorem dX12_init_231 : decode cX12_init 231 = .ok (.putfield 92, 3) := by decide +kernel
theorem dX12_init_234 : decode cX12_init 234 = .ok (.aload_n 0, 1) := by decide +kernel
theorem dX12_init_235 : decode cX12_init 235 = .ok (.sipush 6000, 3) := by decide +kernel
theorem dX12_init_238 : decode cX12_init 238 = .ok (.newarray .byte, 2) := by decide +kernel
theorem dX12_init_240 : decode cX12_init 240 = .ok (.putfield 95, 3) := by decide +kernel
theorem dX12_init_243 : decode cX12_init 243 = .ok (.aload_n 0, 1) := by decide +kernel
theorem dX12_init_244 : decode cX12_init 244 = .ok (.sipush 6000, 3) := by decide +kernel
theorem dX12_init_247 : decode cX12_init 247 = .ok (.newarray .int, 2) := by decide +kernel
theorem dX12_init_249 : decode cX12_init 249 = .ok (.putfield 98, 3) := by decide +kernel
theorem dX12_init_252 : decode cX12_init 252 = .ok (.aload_n 0, 1) := by decide +kernel
theorem dX12_init_253 : decode cX12_init 253 = .ok (.sipush 6000, 3) := by decide +kernel
theorem dX12_init_256 : decode cX12_init 256 = .ok (.newarray .int, 2) := by decide +kernel
theorem dX12_init_258 : decode cX12_init 258 = .ok (.putfield 101, 3) := by decide +kernel
theorem dX12_init_261 : decode cX12_init 261 = .ok (.aload_n 0, 1) := by decide +kernel
theorem dX12_init_262 : decode cX12_init 262 = .ok (.sipush 6000, 3) := by decide +kernel
theorem dX12_init_265 : decode cX12_init 265 = .ok (.newarray .byte, 2) := by decide +kernel
theorem dX12_init_267 : decode cX12_init 267 = .ok (.putfield 104, 3) := by decide +kernel
theorem dX12_init_270 : decode cX12_init 270 = .ok (.aload_n 0, 1) := by decide +kernel
theorem dX12_init_271 : decode cX12_init 271 = .ok (.sipush 6000, 3) := by decide +kernel
theorem dX12_init_274 : decode cX12_init 274 = .ok (.newarray .byte, 2) := by decide +kernel
theorem dX12_init_276 : decode cX12_init 276 = .ok (.putfield 107, 3) := by decide +kernel
theorem dX12_init_279 : decode cX12_init 279 = .ok (.aload_n 0, 1) := by decide +kernel
theorem dX12_init_280 : decode cX12_init 280 = .ok (.bipush 16, 2) := by decide +kernel
theorem dX12_init_282 : decode cX12_init 282 = .ok (.anewarray 17, 3) := by decide +kernel
theorem dX12_init_285 : decode cX12_init 285 = .ok (.putfield 110, 3) := by decide +kernel
theorem dX12_init_288 : decode cX12_init 288 = .ok (.aload_n 0, 1) := by decide +kernel
theorem dX12_init_289 : decode cX12_init 289 = .ok (.sipush 6000, 3) := by decide +kernel
theorem dX12_init_292 : decode cX12_init 292 = .ok (.newarray .byte, 2) := by decide +kernel
theorem dX12_init_294 : decode cX12_init 294 = .ok (.putfield 113, 3) := by decide +kernel
theorem dX12_init_297 : decode cX12_init 297 = .ok (.aload_n 0, 1) := by decide +kernel
theorem dX12_init_298 : decode cX12_init 298 = .ok (.sipush 5000, 3) := by decide +kernel
theorem dX12_init_301 : decode cX12_init 301 = .ok (.newarray .int, 2) := by decide +kernel
theorem dX12_init_303 : decode cX12_init 303 = .ok (.putfield 116, 3) := by decide +kernel
theorem dX12_init_306 : decode cX12_init 306 = .ok (.return_, 1) := by decide +kernel
